theorem d_X_mayHave_41 : decode m_X_mayHave.2.1 41 = .ok (.ireturn, 1) := by decide +kernel
theorem d_X_near_0 : decode m_X_near.2.1 0 = .ok (.aload_n 0, 1) := by decide +kernel
theorem d_X_near_1 : decode m_X_near.2.1 1 = .ok (.iload_n 1, 1) := by decide +kernel
theorem d_X_near_2 : decode m_X_near.2.1 2 = .ok (.invokevirtual 83, 3) := by decide +kernel
theorem d_X_near_5 : decode m_X_near.2.1 5 = .ok (.ifCond .eq 10, 3) := by decide +kernel
theorem d_X_near_8 : decode m_X_near.2.1 8 = .ok (.iload_n 2, 1) := by decide +kernel
theorem d_X_near_9 : decode m_X_near.2.1 9 = .ok (.invokestatic 87, 3) := by decide +kernel
theorem d_X_near_12 : decode m_X_near.2.1 12 = .ok (.ifCond .ne 5, 3) := by decide +kernel
theorem d_X_near_15 : decode m_X_near.2.1 15 = .ok (.iconst (-1), 1) := by decide +kernel
theorem d_X_near_16 : decode m_X_near.2.1 16 = .ok (.ireturn, 1) := by decide +kernel
theorem d_X_near_17 : decode m_X_near.2.1 17 = .ok (.aload_n 0, 1) := by decide +kernel
theorem d_X_near_18 : decode m_X_near.2.1 18 = .ok (.iload_n 1, 1) := by decide +kernel
theorem d_X_near_19 : decode m_X_near.2.1 19 = .ok (.iload_n 2, 1) := by decide +kernel
theorem d_X_near_20 : decode m_X_near.2.1 20 = .ok (.invokevirtual 128, 3) := by decide +kernel
theorem d_X_near_23 : decode m_X_near.2.1 23 = .ok (.istore_n 3, 1) := by decide +kernel
theorem d_X_near_24 : decode m_X_near.2.1 24 = .ok (.iload_n 3, 1) := by decide +kernel
theorem d_X_near_25 : decode m_X_near.2.1 25 = .ok (.ldc 93, 2) := by decide +kernel
theorem d_X_near_27 : decode m_X_near.2.1 27 = .ok (.if_icmp .ne 8, 3) := by decide +kernel
theorem d_X_near_30 : decode m_X_near.2.1 30 = .ok (.bipush (-6), 2) := by decide +kernel
theorem d_X_near_32 : decode m_X_near.2.1 32 = .ok (.goto 4, 3) := by decide +kernel
theorem d_X_near_35 : decode m_X_near.2.1 35 = .ok (.iload_n 3, 1) := by decide +kernel
theorem d_X_near_36 : decode m_X_near.2.1 36 = .ok (.ireturn, 1) := by decide +kernel
theorem d_X_nearTo_0 : decode m_X_nearTo.2.1 0 = .ok (.aload_n 0, 1) := by decide +kernel
theorem d_X_nearTo_1 : decode m_X_nearTo.2.1 1 = .ok (.iload_n 1, 1) := by decide +kernel
theorem d_X_nearTo_2 : decode m_X_nearTo.2.1 2 = .ok (.invokevirtual 94, 3) := by decide +kernel
theorem d_X_nearTo_5 : decode m_X_nearTo.2.1 5 = .ok (.ldc 93, 2) := by decide +kernel
theorem d_X_nearTo_7 : decode m_X_nearTo.2.1 7 = .ok (.istore_n 3, 1) := by decide +kernel
theorem d_X_nearTo_8 : decode m_X_nearTo.2.1 8 = .ok (.iconst 0, 1) := by decide +kernel
theorem d_X_nearTo_9 : decode m_X_nearTo.2.1 9 = .ok (.istore 4, 2) := by decide +kernel
theorem d_X_nearTo_11 : decode m_X_nearTo.2.1 11 = .ok (.iload 4, 2) := by decide +kernel
theorem d_X_nearTo_13 : decode m_X_nearTo.2.1 13 = .ok (.iload_n 1, 1) := by decide +kernel
theorem d_X_nearTo_14 : decode m_X_nearTo.2.1 14 = .ok (.if_icmp .gt 48, 3) := by decide +kernel
theorem d_X_nearTo_17 : decode m_X_nearTo.2.1 17 = .ok (.aload_n 0, 1) := by decide +kernel
theorem d_X_nearTo_18 : decode m_X_nearTo.2.1 18 = .ok (.getfield 23, 3) := by decide +kernel
theorem d_X_nearTo_21 : decode m_X_nearTo.2.1 21 = .ok (.iconst 5, 1) := by decide +kernel
theorem d_X_nearTo_22 : decode m_X_nearTo.2.1 22 = .ok (.iload 4, 2) := by decide +kernel
theorem d_X_nearTo_24 : decode m_X_nearTo.2.1 24 = .ok (.imul, 1) := by decide +kernel
theorem d_X_nearTo_25 : decode m_X_nearTo.2.1 25 = .ok (.iaload, 1) := by decide +kernel
theorem d_X_nearTo_26 : decode m_X_nearTo.2.1 26 = .ok (.iload_n 2, 1) := by decide +kernel
theorem d_X_nearTo_27 : decode m_X_nearTo.2.1 27 = .ok (.invokestatic 98, 3) := by decide +kernel
theorem d_X_nearTo_30 : decode m_X_nearTo.2.1 30 = .ok (.ifCond .eq 24, 3) := by decide +kernel
theorem d_X_nearTo_33 : decode m_X_nearTo.2.1 33 = .ok (.aload_n 0, 1) := by decide +kernel
theorem d_X_nearTo_34 : decode m_X_nearTo.2.1 34 = .ok (.getfield 35, 3) := by decide +kernel
theorem d_X_nearTo_37 : decode m_X_nearTo.2.1 37 = .ok (.iload 4, 2) := by decide +kernel
theorem d_X_nearTo_39 : decode m_X_nearTo.2.1 39 = .ok (.iaload, 1) := by decide +kernel
theorem d_X_nearTo_40 : decode m_X_nearTo.2.1 40 = .ok (.iload_n 3, 1) := by decide +kernel
theorem d_X_nearTo_41 : decode m_X_nearTo.2.1 41 = .ok (.if_icmp .ge 13, 3) := by decide +kernel
theorem d_X_nearTo_44 : decode m_X_nearTo.2.1 44 = .ok (.aload_n 0, 1) := by decide +kernel
theorem d_X_nearTo_45 : decode m_X_nearTo.2.1 45 = .ok (.getfield 35, 3) := by decide +kernel
theorem d_X_nearTo_48 : decode m_X_nearTo.2.1 48 = .ok (.iload 4, 2) := by decide +kernel
theorem d_X_nearTo_50 : decode m_X_nearTo.2.1 50 = .ok (.iaload, 1) := by decide +kernel
theorem d_X_nearTo_51 : decode m_X_nearTo.2.1 51 = .ok (.goto 4, 3) := by decide +kernel
theorem d_X_nearTo_54 : decode m_X_nearTo.2.1 54 = .ok (.iload_n 3, 1) := by decide +kernel
theorem d_X_nearTo_55 : decode m_X_nearTo.2.1 55 = .ok (.istore_n 3, 1) := by decide +kernel
theorem d_X_nearTo_56 : decode m_X_nearTo.2.1 56 = .ok (.iinc 4 1, 3) := by decide +kernel
theorem d_X_nearTo_59 : decode m_X_nearTo.2.1 59 = .ok (.goto (-48), 3) := by decide +kernel
theorem d_X_nearTo_62 : decode m_X_nearTo.2.1 62 = .ok (.iload_n 3, 1) := by decide +kernel
theorem d_X_nearTo_63 : decode m_X_nearTo.2.1 63 = .ok (.ireturn, 1) := by decide +kernel
theorem d_X_opens_0 : decode m_X_opens.2.1 0 = .ok (.iconst 0, 1) := by decide +kernel
theorem d_X_opens_1 : decode m_X_opens.2.1 1 = .ok (.istore_n 1, 1) := by decide +kernel
theorem d_X_opens_2 : decode m_X_opens.2.1 2 = .ok (.iconst 0, 1) := by decide +kernel
theorem d_X_opens_3 : decode m_X_opens.2.1 3 = .ok (.istore_n 2, 1) := by decide +kernel
theorem d_X_opens_4 : decode m_X_opens.2.1 4 = .ok (.iload_n 2, 1) := by decide +kernel
theorem d_X_opens_5 : decode m_X_opens.2.1 5 = .ok (.aload_n 0, 1) := by decide +kernel
theorem d_X_opens_6 : decode m_X_opens.2.1 6 = .ok (.getfield 70, 3) := by decide +kernel
theorem d_X_opens_9 : decode m_X_opens.2.1 9 = .ok (.if_icmp .ge 22, 3) := by decide +kernel
theorem d_X_opens_12 : decode m_X_opens.2.1 12 = .ok (.iload_n 1, 1) := by decide +kernel
theorem d_X_opens_13 : decode m_X_opens.2.1 13 = .ok (.aload_n 0, 1) := by decide +kernel
theorem d_X_opens_14 : decode m_X_opens.2.1 14 = .ok (.getfield 23, 3) := by decide +kernel
theorem d_X_opens_17 : decode m_X_opens.2.1 17 = .ok (.iconst 5, 1) := by decide +kernel
theorem d_X_opens_18 : decode m_X_opens.2.1 18 = .ok (.iload_n 2, 1) := by decide +kernel
theorem d_X_opens_19 : decode m_X_opens.2.1 19 = .ok (.imul, 1) := by decide +kernel
theorem d_X_opens_20 : decode m_X_opens.2.1 20 = .ok (.iconst 4, 1) := by decide +kernel
theorem d_X_opens_21 : decode m_X_opens.2.1 21 = .ok (.iadd, 1) := by decide +kernel
theorem d_X_opens_22 : decode m_X_opens.2.1 22 = .ok (.iaload, 1) := by decide +kernel
theorem d_X_opens_23 : decode m_X_opens.2.1 23 = .ok (.iadd, 1) := by decide +kernel
theorem d_X_opens_24 : decode m_X_opens.2.1 24 = .ok (.istore_n 1, 1) := by decide +kernel
theorem d_X_opens_25 : decode m_X_opens.2.1 25 = .ok (.iinc 2 1, 3) := by decide +kernel
theorem d_X_opens_28 : decode m_X_opens.2.1 28 = .ok (.goto (-24), 3) := by decide +kernel
theorem d_X_opens_31 : decode m_X_opens.2.1 31 = .ok (.iload_n 1, 1) := by decide +kernel
theorem d_X_opens_32 : decode m_X_opens.2.1 32 = .ok (.ireturn, 1) := by decide +kernel
theorem d_X_part_0 : decode m_X_part.2.1 0 = .ok (.iload_n 1, 1) := by decide +kernel
theorem d_X_part_1 : decode m_X_part.2.1 1 = .ok (.invokestatic 87, 3) := by decide +kernel
theorem d_X_part_4 : decode m_X_part.2.1 4 = .ok (.ifCond .ne 5, 3) := by decide +kernel
theorem d_X_part_7 : decode m_X_part.2.1 7 = .ok (.iconst (-1), 1) := by decide +kernel
theorem d_X_part_8 : decode m_X_part.2.1 8 = .ok (.ireturn, 1) := by decide +kernel
theorem d_X_part_9 : decode m_X_part.2.1 9 = .ok (.aload_n 0, 1) := by decide +kernel
theorem d_X_part_10 : decode m_X_part.2.1 10 = .ok (.getfield 16, 3) := by decide +kernel
theorem d_X_part_13 : decode m_X_part.2.1 13 = .ok (.iload_n 1, 1) := by decide +kernel
theorem d_X_part_14 : decode m_X_part.2.1 14 = .ok (.iaload, 1) := by decide +kernel
theorem d_X_part_15 : decode m_X_part.2.1 15 = .ok (.istore_n 2, 1) := by decide +kernel
theorem d_X_part_16 : decode m_X_part.2.1 16 = .ok (.iload_n 2, 1) := by decide +kernel
theorem d_X_part_17 : decode m_X_part.2.1 17 = .ok (.ifCond .lt 19, 3) := by decide +kernel
theorem d_X_part_20 : decode m_X_part.2.1 20 = .ok (.aload_n 0, 1) := by decide +kernel
theorem d_X_part_21 : decode m_X_part.2.1 21 = .ok (.getfield 16, 3) := by decide +kernel
theorem d_X_part_24 : decode m_X_part.2.1 24 = .ok (.iload_n 2, 1) := by decide +kernel
theorem d_X_part_25 : decode m_X_part.2.1 25 = .ok (.bipush (-6), 2) := by decide +kernel
theorem d_X_part_27 : decode m_X_part.2.1 27 = .ok (.iastore, 1) := by decide +kernel
theorem d_X_part_28 : decode m_X_part.2.1 28 = .ok (.aload_n 0, 1) := by decide +kernel
theorem d_X_part_29 : decode m_X_part.2.1 29 = .ok (.getfield 16, 3) := by decide +kernel
theorem d_X_part_32 : decode m_X_part.2.1 32 = .ok (.iload_n 1, 1) := by decide +kernel
theorem d_X_part_33 : decode m_X_part.2.1 33 = .ok (.bipush (-6), 2) := by decide +kernel
theorem d_X_part_35 : decode m_X_part.2.1 35 = .ok (.iastore, 1) := by decide +kernel
theorem d_X_part_36 : decode m_X_part.2.1 36 = .ok (.iload_n 2, 1) := by decide +kernel
theorem d_X_part_37 : decode m_X_part.2.1 37 = .ok (.ireturn, 1) := by decide +kernel
theorem d_X_restore_0 : decode m_X_restore.2.1 0 = .ok (.iload_n 1, 1) := by decide +kernel
theorem d_X_restore_1 : decode m_X_restore.2.1 1 = .ok (.iconst 0, 1) := by decide +kernel
theorem d_X_restore_2 : decode m_X_restore.2.1 2 = .ok (.iconst 1, 1) := by decide +kernel
theorem d_X_restore_3 : decode m_X_restore.2.1 3 = .ok (.invokestatic 66, 3) := by decide +kernel
theorem d_X_restore_6 : decode m_X_restore.2.1 6 = .ok (.ifCond .ne 6, 3) := by decide +kernel
theorem d_X_restore_9 : decode m_X_restore.2.1 9 = .ok (.bipush (-2), 2) := by decide +kernel
theorem d_X_restore_11 : decode m_X_restore.2.1 11 = .ok (.ireturn, 1) := by decide +kernel
theorem d_X_restore_12 : decode m_X_restore.2.1 12 = .ok (.aload_n 0, 1) := by decide +kernel
theorem d_X_restore_13 : decode m_X_restore.2.1 13 = .ok (.getfield 62, 3) := by decide +kernel
theorem d_X_restore_16 : decode m_X_restore.2.1 16 = .ok (.iload_n 1, 1) := by decide +kernel
theorem d_X_restore_17 : decode m_X_restore.2.1 17 = .ok (.baload, 1) := by decide +kernel
theorem d_X_restore_18 : decode m_X_restore.2.1 18 = .ok (.ifCond .ne 6, 3) := by decide +kernel
theorem d_X_restore_21 : decode m_X_restore.2.1 21 = .ok (.bipush (-3), 2) := by decide +kernel
theorem d_X_restore_23 : decode m_X_restore.2.1 23 = .ok (.ireturn, 1) := by decide +kernel
theorem d_X_restore_24 : decode m_X_restore.2.1 24 = .ok (.bipush 84, 2) := by decide +kernel
theorem d_X_restore_26 : decode m_X_restore.2.1 26 = .ok (.iload_n 1, 1) := by decide +kernel
theorem d_X_restore_27 : decode m_X_restore.2.1 27 = .ok (.imul, 1) := by decide +kernel
theorem d_X_restore_28 : decode m_X_restore.2.1 28 = .ok (.istore_n 2, 1) := by decide +kernel
theorem d_X_restore_29 : decode m_X_restore.2.1 29 = .ok (.iconst 0, 1) := by decide +kernel
theorem d_X_restore_30 : decode m_X_restore.2.1 30 = .ok (.istore_n 3, 1) := by decide +kernel
theorem d_X_restore_31 : decode m_X_restore.2.1 31 = .ok (.iload_n 3, 1) := by decide +kernel
theorem d_X_restore_32 : decode m_X_restore.2.1 32 = .ok (.bipush 50, 2) := by decide +kernel
theorem d_X_restore_34 : decode m_X_restore.2.1 34 = .ok (.if_icmp .ge 23, 3) := by decide +kernel
theorem d_X_restore_37 : decode m_X_restore.2.1 37 = .ok (.aload_n 0, 1) := by decide +kernel
theorem d_X_restore_38 : decode m_X_restore.2.1 38 = .ok (.getfield 23, 3) := by decide +kernel
theorem d_X_restore_41 : decode m_X_restore.2.1 41 = .ok (.iload_n 3, 1) := by decide +kernel
theorem d_X_restore_42 : decode m_X_restore.2.1 42 = .ok (.aload_n 0, 1) := by decide +kernel
theorem d_X_restore_43 : decode m_X_restore.2.1 43 = .ok (.getfield 59, 3) := by decide +kernel
theorem d_X_restore_46 : decode m_X_restore.2.1 46 = .ok (.iload_n 2, 1) := by decide +kernel
theorem d_X_restore_47 : decode m_X_restore.2.1 47 = .ok (.iload_n 3, 1) := by decide +kernel
theorem d_X_restore_48 : decode m_X_restore.2.1 48 = .ok (.iadd, 1) := by decide +kernel
theorem d_X_restore_49 : decode m_X_restore.2.1 49 = .ok (.iaload, 1) := by decide +kernel
theorem d_X_restore_50 : decode m_X_restore.2.1 50 = .ok (.iastore, 1) := by decide +kernel
theorem d_X_restore_51 : decode m_X_restore.2.1 51 = .ok (.iinc 3 1, 3) := by decide +kernel
theorem d_X_restore_54 : decode m_X_restore.2.1 54 = .ok (.goto (-23), 3) := by decide +kernel
theorem d_X_restore_57 : decode m_X_restore.2.1 57 = .ok (.iconst 0, 1) := by decide +kernel
theorem d_X_restore_58 : decode m_X_restore.2.1 58 = .ok (.istore_n 3, 1) := by decide +kernel
theorem d_X_restore_59 : decode m_X_restore.2.1 59 = .ok (.iload_n 3, 1) := by decide +kernel
theorem d_X_restore_60 : decode m_X_restore.2.1 60 = .ok (.bipush 10, 2) := by decide +kernel
theorem d_X_restore_62 : decode m_X_restore.2.1 62 = .ok (.if_icmp .ge 26, 3) := by decide +kernel
theorem d_X_restore_65 : decode m_X_restore.2.1 65 = .ok (.aload_n 0, 1) := by decide +kernel
theorem d_X_restore_66 : decode m_X_restore.2.1 66 = .ok (.getfield 26, 3) := by decide +kernel
theorem d_X_restore_69 : decode m_X_restore.2.1 69 = .ok (.iload_n 3, 1) := by decide +kernel
theorem d_X_restore_70 : decode m_X_restore.2.1 70 = .ok (.aload_n 0, 1) := by decide +kernel
theorem d_X_restore_71 : decode m_X_restore.2.1 71 = .ok (.getfield 59, 3) := by decide +kernel
theorem d_X_restore_74 : decode m_X_restore.2.1 74 = .ok (.iload_n 2, 1) := by decide +kernel
theorem d_X_restore_75 : decode m_X_restore.2.1 75 = .ok (.bipush 50, 2) := by decide +kernel
theorem d_X_restore_77 : decode m_X_restore.2.1 77 = .ok (.iadd, 1) := by decide +kernel
theorem d_X_restore_78 : decode m_X_restore.2.1 78 = .ok (.iload_n 3, 1) := by decide +kernel
theorem d_X_restore_79 : decode m_X_restore.2.1 79 = .ok (.iadd, 1) := by decide +kernel
theorem d_X_restore_80 : decode m_X_restore.2.1 80 = .ok (.iaload, 1) := by decide +kernel
theorem d_X_restore_81 : decode m_X_restore.2.1 81 = .ok (.iastore, 1) := by decide +kernel
theorem d_X_restore_82 : decode m_X_restore.2.1 82 = .ok (.iinc 3 1, 3) := by decide +kernel
theorem d_X_restore_85 : decode m_X_restore.2.1 85 = .ok (.goto (-26), 3) := by decide +kernel
theorem d_X_restore_88 : decode m_X_restore.2.1 88 = .ok (.iconst 0, 1) := by decide +kernel
theorem d_X_restore_89 : decode m_X_restore.2.1 89 = .ok (.istore_n 3, 1) := by decide +kernel
theorem d_X_restore_90 : decode m_X_restore.2.1 90 = .ok (.iload_n 3, 1) := by decide +kernel
theorem d_X_restore_91 : decode m_X_restore.2.1 91 = .ok (.bipush 12, 2) := by decide +kernel
theorem d_X_restore_93 : decode m_X_restore.2.1 93 = .ok (.if_icmp .ge 26, 3) := by decide +kernel
theorem d_X_restore_96 : decode m_X_restore.2.1 96 = .ok (.aload_n 0, 1) := by decide +kernel
theorem d_X_restore_97 : decode m_X_restore.2.1 97 = .ok (.getfield 29, 3) := by decide +kernel
theorem d_X_restore_100 : decode m_X_restore.2.1 100 = .ok (.iload_n 3, 1) := by decide +kernel
theorem d_X_restore_101 : decode m_X_restore.2.1 101 = .ok (.aload_n 0, 1) := by decide +kernel
theorem d_X_restore_102 : decode m_X_restore.2.1 102 = .ok (.getfield 59, 3) := by decide +kernel
theorem d_X_restore_105 : decode m_X_restore.2.1 105 = .ok (.iload_n 2, 1) := by decide +kernel
theorem d_X_restore_106 : decode m_X_restore.2.1 106 = .ok (.bipush 60, 2) := by decide +kernel
theorem d_X_restore_108 : decode m_X_restore.2.1 108 = .ok (.iadd, 1) := by decide +kernel
theorem d_X_restore_109 : decode m_X_restore.2.1 109 = .ok (.iload_n 3, 1) := by decide +kernel
theorem d_X_restore_110 : decode m_X_restore.2.1 110 = .ok (.iadd, 1) := by decide +kernel
theorem d_X_restore_111 : decode m_X_restore.2.1 111 = .ok (.iaload, 1) := by decide +kernel
theorem d_X_restore_112 : decode m_X_restore.2.1 112 = .ok (.iastore, 1) := by decide +kernel
theorem d_X_restore_113 : decode m_X_restore.2.1 113 = .ok (.iinc 3 1, 3) := by decide +kernel
theorem d_X_restore_116 : decode m_X_restore.2.1 116 = .ok (.goto (-26), 3) := by decide +kernel
theorem d_X_restore_119 : decode m_X_restore.2.1 119 = .ok (.iconst 0, 1) := by decide +kernel
theorem d_X_restore_120 : decode m_X_restore.2.1 120 = .ok (.istore_n 3, 1) := by decide +kernel
theorem d_X_restore_121 : decode m_X_restore.2.1 121 = .ok (.iload_n 3, 1) := by decide +kernel
theorem d_X_restore_122 : decode m_X_restore.2.1 122 = .ok (.bipush 6, 2) := by decide +kernel
theorem d_X_restore_124 : decode m_X_restore.2.1 124 = .ok (.if_icmp .ge 26, 3) := by decide +kernel
theorem d_X_restore_127 : decode m_X_restore.2.1 127 = .ok (.aload_n 0, 1) := by decide +kernel
theorem d_X_restore_128 : decode m_X_restore.2.1 128 = .ok (.getfield 16, 3) := by decide +kernel
theorem d_X_restore_131 : decode m_X_restore.2.1 131 = .ok (.iload_n 3, 1) := by decide +kernel
theorem d_X_restore_132 : decode m_X_restore.2.1 132 = .ok (.aload_n 0, 1) := by decide +kernel
theorem d_X_restore_133 : decode m_X_restore.2.1 133 = .ok (.getfield 59, 3) := by decide +kernel
theorem d_X_restore_136 : decode m_X_restore.2.1 136 = .ok (.iload_n 2, 1) := by decide +kernel
theorem d_X_restore_137 : decode m_X_restore.2.1 137 = .ok (.bipush 72, 2) := by decide +kernel
theorem d_X_restore_139 : decode m_X_restore.2.1 139 = .ok (.iadd, 1) := by decide +kernel
theorem d_X_restore_140 : decode m_X_restore.2.1 140 = .ok (.iload_n 3, 1) := by decide +kernel
theorem d_X_restore_141 : decode m_X_restore.2.1 141 = .ok (.iadd, 1) := by decide +kernel
theorem d_X_restore_142 : decode m_X_restore.2.1 142 = .ok (.iaload, 1) := by decide +kernel
theorem d_X_restore_143 : decode m_X_restore.2.1 143 = .ok (.iastore, 1) := by decide +kernel
theorem d_X_restore_144 : decode m_X_restore.2.1 144 = .ok (.iinc 3 1, 3) := by decide +kernel
theorem d_X_restore_147 : decode m_X_restore.2.1 147 = .ok (.goto (-26), 3) := by decide +kernel
theorem d_X_restore_150 : decode m_X_restore.2.1 150 = .ok (.aload_n 0, 1) := by decide +kernel
theorem d_X_restore_151 : decode m_X_restore.2.1 151 = .ok (.aload_n 0, 1) := by decide +kernel
theorem d_X_restore_152 : decode m_X_restore.2.1 152 = .ok (.getfield 59, 3) := by decide +kernel
theorem d_X_restore_155 : decode m_X_restore.2.1 155 = .ok (.iload_n 2, 1) := by decide +kernel
theorem d_X_restore_156 : decode m_X_restore.2.1 156 = .ok (.bipush 78, 2) := by decide +kernel
theorem d_X_restore_158 : decode m_X_restore.2.1 158 = .ok (.iadd, 1) := by decide +kernel
theorem d_X_restore_159 : decode m_X_restore.2.1 159 = .ok (.iaload, 1) := by decide +kernel
theorem d_X_restore_160 : decode m_X_restore.2.1 160 = .ok (.putfield 70, 3) := by decide +kernel
theorem d_X_restore_163 : decode m_X_restore.2.1 163 = .ok (.aload_n 0, 1) := by decide +kernel
theorem d_X_restore_164 : decode m_X_restore.2.1 164 = .ok (.aload_n 0, 1) := by decide +kernel
theorem d_X_restore_165 : decode m_X_restore.2.1 165 = .ok (.getfield 59, 3) := by decide +kernel
theorem d_X_restore_168 : decode m_X_restore.2.1 168 = .ok (.iload_n 2, 1) := by decide +kernel
theorem d_X_restore_169 : decode m_X_restore.2.1 169 = .ok (.bipush 79, 2) := by decide +kernel
theorem d_X_restore_171 : decode m_X_restore.2.1 171 = .ok (.iadd, 1) := by decide +kernel
theorem d_X_restore_172 : decode m_X_restore.2.1 172 = .ok (.iaload, 1) := by decide +kernel
theorem d_X_restore_173 : decode m_X_restore.2.1 173 = .ok (.putfield 80, 3) := by decide +kernel
theorem d_X_restore_176 : decode m_X_restore.2.1 176 = .ok (.aload_n 0, 1) := by decide +kernel
theorem d_X_restore_177 : decode m_X_restore.2.1 177 = .ok (.aload_n 0, 1) := by decide +kernel
theorem d_X_restore_178 : decode m_X_restore.2.1 178 = .ok (.getfield 59, 3) := by decide +kernel
theorem d_X_restore_181 : decode m_X_restore.2.1 181 = .ok (.iload_n 2, 1) := by decide +kernel
theorem d_X_restore_182 : decode m_X_restore.2.1 182 = .ok (.bipush 80, 2) := by decide +kernel
theorem d_X_restore_184 : decode m_X_restore.2.1 184 = .ok (.iadd, 1) := by decide +kernel
theorem d_X_restore_185 : decode m_X_restore.2.1 185 = .ok (.iaload, 1) := by decide +kernel
theorem d_X_restore_186 : decode m_X_restore.2.1 186 = .ok (.putfield 7, 3) := by decide +kernel
theorem d_X_restore_189 : decode m_X_restore.2.1 189 = .ok (.aload_n 0, 1) := by decide +kernel
theorem d_X_restore_190 : decode m_X_restore.2.1 190 = .ok (.aload_n 0, 1) := by decide +kernel
theorem d_X_restore_191 : decode m_X_restore.2.1 191 = .ok (.getfield 59, 3) := by decide +kernel
theorem d_X_restore_194 : decode m_X_restore.2.1 194 = .ok (.iload_n 2, 1) := by decide +kernel
theorem d_X_restore_195 : decode m_X_restore.2.1 195 = .ok (.bipush 81, 2) := by decide +kernel
theorem d_X_restore_197 : decode m_X_restore.2.1 197 = .ok (.iadd, 1) := by decide +kernel
theorem d_X_restore_198 : decode m_X_restore.2.1 198 = .ok (.iaload, 1) := by decide +kernel
theorem d_X_restore_199 : decode m_X_restore.2.1 199 = .ok (.putfield 90, 3) := by decide +kernel
theorem d_X_restore_202 : decode m_X_restore.2.1 202 = .ok (.aload_n 0, 1) := by decide +kernel
theorem d_X_restore_203 : decode m_X_restore.2.1 203 = .ok (.aload_n 0, 1) := by decide +kernel
theorem d_X_restore_204 : decode m_X_restore.2.1 204 = .ok (.getfield 59, 3) := by decide +kernel
theorem d_X_restore_207 : decode m_X_restore.2.1 207 = .ok (.iload_n 2, 1) := by decide +kernel
theorem d_X_restore_208 : decode m_X_restore.2.1 208 = .ok (.bipush 82, 2) := by decide +kernel
theorem d_X_restore_210 : decode m_X_restore.2.1 210 = .ok (.iadd, 1) := by decide +kernel
theorem d_X_restore_211 : decode m_X_restore.2.1 211 = .ok (.iaload, 1) := by decide +kernel
theorem d_X_restore_212 : decode m_X_restore.2.1 212 = .ok (.putfield 13, 3) := by decide +kernel
theorem d_X_restore_215 : decode m_X_restore.2.1 215 = .ok (.iconst 1, 1) := by decide +kernel
theorem d_X_restore_216 : decode m_X_restore.2.1 216 = .ok (.ireturn, 1) := by decide +kernel
theorem d_X_say_0 : decode m_X_say.2.1 0 = .ok (.iload_n 1, 1) := by decide +kernel
theorem d_X_say_1 : decode m_X_say.2.1 1 = .ok (.bipush 33, 2) := by decide +kernel
theorem d_X_say_3 : decode m_X_say.2.1 3 = .ok (.bipush 126, 2) := by decide +kernel
theorem d_X_say_5 : decode m_X_say.2.1 5 = .ok (.invokestatic 66, 3) := by decide +kernel
theorem d_X_say_8 : decode m_X_say.2.1 8 = .ok (.ifCond .ne 6, 3) := by decide +kernel
theorem d_X_say_11 : decode m_X_say.2.1 11 = .ok (.bipush (-2), 2) := by decide +kernel
theorem d_X_say_13 : decode m_X_say.2.1 13 = .ok (.ireturn, 1) := by decide +kernel
theorem d_X_say_14 : decode m_X_say.2.1 14 = .ok (.aload_n 0, 1) := by decide +kernel
theorem d_X_say_15 : decode m_X_say.2.1 15 = .ok (.getfield 73, 3) := by decide +kernel
theorem d_X_say_18 : decode m_X_say.2.1 18 = .ok (.bipush 60, 2) := by decide +kernel
theorem d_X_say_20 : decode m_X_say.2.1 20 = .ok (.if_icmp .ne 6, 3) := by decide +kernel
theorem d_X_say_23 : decode m_X_say.2.1 23 = .ok (.bipush (-4), 2) := by decide +kernel
theorem d_X_say_25 : decode m_X_say.2.1 25 = .ok (.ireturn, 1) := by decide +kernel
theorem d_X_say_26 : decode m_X_say.2.1 26 = .ok (.aload_n 0, 1) := by decide +kernel
theorem d_X_say_27 : decode m_X_say.2.1 27 = .ok (.getfield 20, 3) := by decide +kernel
theorem d_X_say_30 : decode m_X_say.2.1 30 = .ok (.aload_n 0, 1) := by decide +kernel
theorem d_X_say_31 : decode m_X_say.2.1 31 = .ok (.getfield 73, 3) := by decide +kernel
theorem d_X_say_34 : decode m_X_say.2.1 34 = .ok (.iload_n 1, 1) := by decide +kernel
theorem d_X_say_35 : decode m_X_say.2.1 35 = .ok (.iastore, 1) := by decide +kernel
theorem d_X_say_36 : decode m_X_say.2.1 36 = .ok (.aload_n 0, 1) := by decide +kernel
theorem d_X_say_37 : decode m_X_say.2.1 37 = .ok (.dup, 1) := by decide +kernel
theorem d_X_say_38 : decode m_X_say.2.1 38 = .ok (.getfield 73, 3) := by decide +kernel
theorem d_X_say_41 : decode m_X_say.2.1 41 = .ok (.iconst 1, 1) := by decide +kernel
theorem d_X_say_42 : decode m_X_say.2.1 42 = .ok (.iadd, 1) := by decide +kernel
theorem d_X_say_43 : decode m_X_say.2.1 43 = .ok (.putfield 73, 3) := by decide +kernel
theorem d_X_say_46 : decode m_X_say.2.1 46 = .ok (.aload_n 0, 1) := by decide +kernel
theorem d_X_say_47 : decode m_X_say.2.1 47 = .ok (.getfield 73, 3) := by decide +kernel
theorem d_X_say_50 : decode m_X_say.2.1 50 = .ok (.ireturn, 1) := by decide +kernel
theorem d_X_seen_0 : decode m_X_seen.2.1 0 = .ok (.iload_n 1, 1) := by decide +kernel
theorem d_X_seen_1 : decode m_X_seen.2.1 1 = .ok (.invokestatic 87, 3) := by decide +kernel
theorem d_X_seen_4 : decode m_X_seen.2.1 4 = .ok (.ifCond .eq 11, 3) := by decide +kernel
theorem d_X_seen_7 : decode m_X_seen.2.1 7 = .ok (.aload_n 0, 1) := by decide +kernel
theorem d_X_seen_8 : decode m_X_seen.2.1 8 = .ok (.iload_n 2, 1) := by decide +kernel
theorem d_X_seen_9 : decode m_X_seen.2.1 9 = .ok (.invokevirtual 83, 3) := by decide +kernel
theorem d_X_seen_12 : decode m_X_seen.2.1 12 = .ok (.ifCond .ne 5, 3) := by decide +kernel
theorem d_X_seen_15 : decode m_X_seen.2.1 15 = .ok (.iconst (-1), 1) := by decide +kernel
theorem d_X_seen_16 : decode m_X_seen.2.1 16 = .ok (.ireturn, 1) := by decide +kernel
theorem d_X_seen_17 : decode m_X_seen.2.1 17 = .ok (.aload_n 0, 1) := by decide +kernel
theorem d_X_seen_18 : decode m_X_seen.2.1 18 = .ok (.getfield 80, 3) := by decide +kernel
theorem d_X_seen_21 : decode m_X_seen.2.1 21 = .ok (.bipush 6, 2) := by decide +kernel
theorem d_X_seen_23 : decode m_X_seen.2.1 23 = .ok (.if_icmp .ne 6, 3) := by decide +kernel
theorem d_X_seen_26 : decode m_X_seen.2.1 26 = .ok (.bipush (-4), 2) := by decide +kernel
theorem d_X_seen_28 : decode m_X_seen.2.1 28 = .ok (.ireturn, 1) := by decide +kernel
theorem d_X_seen_29 : decode m_X_seen.2.1 29 = .ok (.aload_n 0, 1) := by decide +kernel
theorem d_X_seen_30 : decode m_X_seen.2.1 30 = .ok (.getfield 29, 3) := by decide +kernel
theorem d_X_seen_33 : decode m_X_seen.2.1 33 = .ok (.iconst 2, 1) := by decide +kernel
theorem d_X_seen_34 : decode m_X_seen.2.1 34 = .ok (.aload_n 0, 1) := by decide +kernel
theorem d_X_seen_35 : decode m_X_seen.2.1 35 = .ok (.getfield 80, 3) := by decide +kernel
theorem d_X_seen_38 : decode m_X_seen.2.1 38 = .ok (.imul, 1) := by decide +kernel
theorem d_X_seen_39 : decode m_X_seen.2.1 39 = .ok (.iload_n 1, 1) := by decide +kernel
theorem d_X_seen_40 : decode m_X_seen.2.1 40 = .ok (.iastore, 1) := by decide +kernel
theorem d_X_seen_41 : decode m_X_seen.2.1 41 = .ok (.aload_n 0, 1) := by decide +kernel
theorem d_X_seen_42 : decode m_X_seen.2.1 42 = .ok (.getfield 29, 3) := by decide +kernel
theorem d_X_seen_45 : decode m_X_seen.2.1 45 = .ok (.iconst 2, 1) := by decide +kernel
theorem d_X_seen_46 : decode m_X_seen.2.1 46 = .ok (.aload_n 0, 1) := by decide +kernel
theorem d_X_seen_47 : decode m_X_seen.2.1 47 = .ok (.getfield 80, 3) := by decide +kernel
theorem d_X_seen_50 : decode m_X_seen.2.1 50 = .ok (.imul, 1) := by decide +kernel
theorem d_X_seen_51 : decode m_X_seen.2.1 51 = .ok (.iconst 1, 1) := by decide +kernel
theorem d_X_seen_52 : decode m_X_seen.2.1 52 = .ok (.iadd, 1) := by decide +kernel
theorem d_X_seen_53 : decode m_X_seen.2.1 53 = .ok (.iload_n 2, 1) := by decide +kernel
theorem d_X_seen_54 : decode m_X_seen.2.1 54 = .ok (.iastore, 1) := by decide +kernel
theorem d_X_seen_55 : decode m_X_seen.2.1 55 = .ok (.aload_n 0, 1) := by decide +kernel
theorem d_X_seen_56 : decode m_X_seen.2.1 56 = .ok (.dup, 1) := by decide +kernel
theorem d_X_seen_57 : decode m_X_seen.2.1 57 = .ok (.getfield 80, 3) := by decide +kernel
theorem d_X_seen_60 : decode m_X_seen.2.1 60 = .ok (.iconst 1, 1) := by decide +kernel
theorem d_X_seen_61 : decode m_X_seen.2.1 61 = .ok (.iadd, 1) := by decide +kernel
theorem d_X_seen_62 : decode m_X_seen.2.1 62 = .ok (.putfield 80, 3) := by decide +kernel
theorem d_X_seen_65 : decode m_X_seen.2.1 65 = .ok (.aload_n 0, 1) := by decide +kernel
theorem d_X_seen_66 : decode m_X_seen.2.1 66 = .ok (.getfield 80, 3) := by decide +kernel
theorem d_X_seen_69 : decode m_X_seen.2.1 69 = .ok (.ireturn, 1) := by decide +kernel
theorem d_X_set_0 : decode m_X_set.2.1 0 = .ok (.iload_n 1, 1) := by decide +kernel
theorem d_X_set_1 : decode m_X_set.2.1 1 = .ok (.iconst 0, 1) := by decide +kernel
theorem d_X_set_2 : decode m_X_set.2.1 2 = .ok (.iconst 2, 1) := by decide +kernel
theorem d_X_set_3 : decode m_X_set.2.1 3 = .ok (.invokestatic 66, 3) := by decide +kernel
theorem d_X_set_6 : decode m_X_set.2.1 6 = .ok (.ifCond .eq 31, 3) := by decide +kernel
theorem d_X_set_9 : decode m_X_set.2.1 9 = .ok (.iload_n 2, 1) := by decide +kernel
theorem d_X_set_10 : decode m_X_set.2.1 10 = .ok (.iconst 0, 1) := by decide +kernel
theorem d_X_set_11 : decode m_X_set.2.1 11 = .ok (.iload_n 1, 1) := by decide +kernel
theorem d_X_set_12 : decode m_X_set.2.1 12 = .ok (.ifCond .ne 8, 3) := by decide +kernel
theorem d_X_set_15 : decode m_X_set.2.1 15 = .ok (.bipush 9, 2) := by decide +kernel
theorem d_X_set_17 : decode m_X_set.2.1 17 = .ok (.goto 14, 3) := by decide +kernel
theorem d_X_set_20 : decode m_X_set.2.1 20 = .ok (.iload_n 1, 1) := by decide +kernel
theorem d_X_set_21 : decode m_X_set.2.1 21 = .ok (.iconst 1, 1) := by decide +kernel
theorem d_X_set_22 : decode m_X_set.2.1 22 = .ok (.if_icmp .ne 7, 3) := by decide +kernel
theorem d_X_set_25 : decode m_X_set.2.1 25 = .ok (.iconst 1, 1) := by decide +kernel
theorem d_X_set_26 : decode m_X_set.2.1 26 = .ok (.goto 5, 3) := by decide +kernel
theorem d_X_set_29 : decode m_X_set.2.1 29 = .ok (.bipush 10, 2) := by decide +kernel
theorem d_X_set_31 : decode m_X_set.2.1 31 = .ok (.invokestatic 66, 3) := by decide +kernel
theorem d_X_set_34 : decode m_X_set.2.1 34 = .ok (.ifCond .ne 6, 3) := by decide +kernel
theorem d_X_set_37 : decode m_X_set.2.1 37 = .ok (.bipush (-2), 2) := by decide +kernel
theorem d_X_set_39 : decode m_X_set.2.1 39 = .ok (.ireturn, 1) := by decide +kernel
theorem d_X_set_40 : decode m_X_set.2.1 40 = .ok (.iload_n 1, 1) := by decide +kernel
theorem d_X_set_41 : decode m_X_set.2.1 41 = .ok (.ifCond .ne 10, 3) := by decide +kernel
theorem d_X_set_44 : decode m_X_set.2.1 44 = .ok (.aload_n 0, 1) := by decide +kernel
theorem d_X_set_45 : decode m_X_set.2.1 45 = .ok (.getfield 7, 3) := by decide +kernel
theorem d_X_set_48 : decode m_X_set.2.1 48 = .ok (.goto 19, 3) := by decide +kernel
theorem d_X_set_51 : decode m_X_set.2.1 51 = .ok (.iload_n 1, 1) := by decide +kernel
theorem d_X_set_52 : decode m_X_set.2.1 52 = .ok (.iconst 1, 1) := by decide +kernel
theorem d_X_set_53 : decode m_X_set.2.1 53 = .ok (.if_icmp .ne 10, 3) := by decide +kernel
theorem d_X_set_56 : decode m_X_set.2.1 56 = .ok (.aload_n 0, 1) := by decide +kernel
theorem d_X_set_57 : decode m_X_set.2.1 57 = .ok (.getfield 90, 3) := by decide +kernel
theorem d_X_set_60 : decode m_X_set.2.1 60 = .ok (.goto 7, 3) := by decide +kernel
theorem d_X_set_63 : decode m_X_set.2.1 63 = .ok (.aload_n 0, 1) := by decide +kernel
theorem d_X_set_64 : decode m_X_set.2.1 64 = .ok (.getfield 13, 3) := by decide +kernel
theorem d_X_set_67 : decode m_X_set.2.1 67 = .ok (.istore_n 3, 1) := by decide +kernel
theorem d_X_set_68 : decode m_X_set.2.1 68 = .ok (.aload_n 0, 1) := by decide +kernel
theorem d_X_set_69 : decode m_X_set.2.1 69 = .ok (.iload_n 1, 1) := by decide +kernel
theorem d_X_set_70 : decode m_X_set.2.1 70 = .ok (.ifCond .ne 7, 3) := by decide +kernel
theorem d_X_set_73 : decode m_X_set.2.1 73 = .ok (.iload_n 2, 1) := by decide +kernel
theorem d_X_set_74 : decode m_X_set.2.1 74 = .ok (.goto 7, 3) := by decide +kernel
theorem d_X_set_77 : decode m_X_set.2.1 77 = .ok (.aload_n 0, 1) := by decide +kernel
theorem d_X_set_78 : decode m_X_set.2.1 78 = .ok (.getfield 7, 3) := by decide +kernel
theorem d_X_set_81 : decode m_X_set.2.1 81 = .ok (.putfield 7, 3) := by decide +kernel
theorem d_X_set_84 : decode m_X_set.2.1 84 = .ok (.aload_n 0, 1) := by decide +kernel
theorem d_X_set_85 : decode m_X_set.2.1 85 = .ok (.iload_n 1, 1) := by decide +kernel
theorem d_X_set_86 : decode m_X_set.2.1 86 = .ok (.iconst 1, 1) := by decide +kernel
theorem d_X_set_87 : decode m_X_set.2.1 87 = .ok (.if_icmp .ne 7, 3) := by decide +kernel
theorem d_X_set_90 : decode m_X_set.2.1 90 = .ok (.iload_n 2, 1) := by decide +kernel
theorem d_X_set_91 : decode m_X_set.2.1 91 = .ok (.goto 7, 3) := by decide +kernel
theorem d_X_set_94 : decode m_X_set.2.1 94 = .ok (.aload_n 0, 1) := by decide +kernel
theorem d_X_set_95 : decode m_X_set.2.1 95 = .ok (.getfield 90, 3) := by decide +kernel
theorem d_X_set_98 : decode m_X_set.2.1 98 = .ok (.putfield 90, 3) := by decide +kernel
theorem d_X_set_101 : decode m_X_set.2.1 101 = .ok (.aload_n 0, 1) := by decide +kernel
theorem d_X_set_102 : decode m_X_set.2.1 102 = .ok (.iload_n 1, 1) := by decide +kernel
theorem d_X_set_103 : decode m_X_set.2.1 103 = .ok (.iconst 2, 1) := by decide +kernel
theorem d_X_set_104 : decode m_X_set.2.1 104 = .ok (.if_icmp .ne 7, 3) := by decide +kernel
theorem d_X_set_107 : decode m_X_set.2.1 107 = .ok (.iload_n 2, 1) := by decide +kernel
theorem d_X_set_108 : decode m_X_set.2.1 108 = .ok (.goto 7, 3) := by decide +kernel
theorem d_X_set_111 : decode m_X_set.2.1 111 = .ok (.aload_n 0, 1) := by decide +kernel
theorem d_X_set_112 : decode m_X_set.2.1 112 = .ok (.getfield 13, 3) := by decide +kernel
theorem d_X_set_115 : decode m_X_set.2.1 115 = .ok (.putfield 13, 3) := by decide +kernel
theorem d_X_set_118 : decode m_X_set.2.1 118 = .ok (.iload_n 3, 1) := by decide +kernel
theorem d_X_set_119 : decode m_X_set.2.1 119 = .ok (.ireturn, 1) := by decide +kernel
theorem d_X_share_0 : decode m_X_share.2.1 0 = .ok (.aload_n 0, 1) := by decide +kernel
theorem d_X_share_1 : decode m_X_share.2.1 1 = .ok (.iload_n 1, 1) := by decide +kernel
theorem d_X_share_2 : decode m_X_share.2.1 2 = .ok (.invokevirtual 83, 3) := by decide +kernel
theorem d_X_share_5 : decode m_X_share.2.1 5 = .ok (.ifCond .eq 10, 3) := by decide +kernel
theorem d_X_share_8 : decode m_X_share.2.1 8 = .ok (.iload_n 2, 1) := by decide +kernel
theorem d_X_share_9 : decode m_X_share.2.1 9 = .ok (.invokestatic 87, 3) := by decide +kernel
theorem d_X_share_12 : decode m_X_share.2.1 12 = .ok (.ifCond .ne 7, 3) := by decide +kernel
theorem d_X_share_15 : decode m_X_share.2.1 15 = .ok (.ldc2_w 131, 3) := by decide +kernel
theorem d_X_share_18 : decode m_X_share.2.1 18 = .ok (.lreturn, 1) := by decide +kernel
theorem d_X_share_19 : decode m_X_share.2.1 19 = .ok (.iload_n 3, 1) := by decide +kernel
theorem d_X_share_20 : decode m_X_share.2.1 20 = .ok (.iconst 0, 1) := by decide +kernel
theorem d_X_share_21 : decode m_X_share.2.1 21 = .ok (.iconst 1, 1) := by decide +kernel
theorem d_X_share_22 : decode m_X_share.2.1 22 = .ok (.invokestatic 66, 3) := by decide +kernel
theorem d_X_share_25 : decode m_X_share.2.1 25 = .ok (.ifCond .ne 7, 3) := by decide +kernel
theorem d_X_share_28 : decode m_X_share.2.1 28 = .ok (.ldc2_w 133, 3) := by decide +kernel
theorem d_X_share_31 : decode m_X_share.2.1 31 = .ok (.lreturn, 1) := by decide +kernel
theorem d_X_share_32 : decode m_X_share.2.1 32 = .ok (.aload_n 0, 1) := by decide +kernel
theorem d_X_share_33 : decode m_X_share.2.1 33 = .ok (.iload_n 1, 1) := by decide +kernel
theorem d_X_share_34 : decode m_X_share.2.1 34 = .ok (.iload_n 2, 1) := by decide +kernel
theorem d_X_share_35 : decode m_X_share.2.1 35 = .ok (.invokevirtual 112, 3) := by decide +kernel
theorem d_X_share_38 : decode m_X_share.2.1 38 = .ok (.istore 4, 2) := by decide +kernel
theorem d_X_share_40 : decode m_X_share.2.1 40 = .ok (.iload 4, 2) := by decide +kernel
theorem d_X_share_42 : decode m_X_share.2.1 42 = .ok (.istore 5, 2) := by decide +kernel
theorem d_X_share_44 : decode m_X_share.2.1 44 = .ok (.sipush 3072, 3) := by decide +kernel
theorem d_X_share_47 : decode m_X_share.2.1 47 = .ok (.istore 6, 2) := by decide +kernel
theorem d_X_share_49 : decode m_X_share.2.1 49 = .ok (.iload 6, 2) := by decide +kernel
theorem d_X_share_51 : decode m_X_share.2.1 51 = .ok (.ifCond .eq 21, 3) := by decide +kernel
theorem d_X_share_54 : decode m_X_share.2.1 54 = .ok (.iload 5, 2) := by decide +kernel
theorem d_X_share_56 : decode m_X_share.2.1 56 = .ok (.iload 6, 2) := by decide +kernel
theorem d_X_share_58 : decode m_X_share.2.1 58 = .ok (.irem, 1) := by decide +kernel
theorem d_X_share_59 : decode m_X_share.2.1 59 = .ok (.istore 7, 2) := by decide +kernel
theorem d_X_share_61 : decode m_X_share.2.1 61 = .ok (.iload 6, 2) := by decide +kernel
theorem d_X_share_63 : decode m_X_share.2.1 63 = .ok (.istore 5, 2) := by decide +kernel
theorem d_X_share_65 : decode m_X_share.2.1 65 = .ok (.iload 7, 2) := by decide +kernel
theorem d_X_share_67 : decode m_X_share.2.1 67 = .ok (.istore 6, 2) := by decide +kernel
theorem d_X_share_69 : decode m_X_share.2.1 69 = .ok (.goto (-20), 3) := by decide +kernel
theorem d_X_share_72 : decode m_X_share.2.1 72 = .ok (.iload_n 3, 1) := by decide +kernel
theorem d_X_share_73 : decode m_X_share.2.1 73 = .ok (.ifCond .ne 12, 3) := by decide +kernel
theorem d_X_share_76 : decode m_X_share.2.1 76 = .ok (.iload 4, 2) := by decide +kernel
theorem d_X_share_78 : decode m_X_share.2.1 78 = .ok (.iload 5, 2) := by decide +kernel
theorem d_X_share_80 : decode m_X_share.2.1 80 = .ok (.idiv, 1) := by decide +kernel
theorem d_X_share_81 : decode m_X_share.2.1 81 = .ok (.i2l, 1) := by decide +kernel
theorem d_X_share_82 : decode m_X_share.2.1 82 = .ok (.goto 10, 3) := by decide +kernel
theorem d_X_share_85 : decode m_X_share.2.1 85 = .ok (.sipush 3072, 3) := by decide +kernel
theorem d_X_share_88 : decode m_X_share.2.1 88 = .ok (.iload 5, 2) := by decide +kernel
theorem d_X_share_90 : decode m_X_share.2.1 90 = .ok (.idiv, 1) := by decide +kernel
theorem d_X_share_91 : decode m_X_share.2.1 91 = .ok (.i2l, 1) := by decide +kernel
theorem d_X_share_92 : decode m_X_share.2.1 92 = .ok (.lreturn, 1) := by decide +kernel
theorem d_X_shareOf_0 : decode m_X_shareOf.2.1 0 = .ok (.iconst 0, 1) := by decide +kernel
theorem d_X_shareOf_1 : decode m_X_shareOf.2.1 1 = .ok (.istore_n 3, 1) := by decide +kernel
theorem d_X_shareOf_2 : decode m_X_shareOf.2.1 2 = .ok (.iload_n 3, 1) := by decide +kernel
theorem d_X_shareOf_3 : decode m_X_shareOf.2.1 3 = .ok (.iload_n 1, 1) := by decide +kernel
theorem d_X_shareOf_4 : decode m_X_shareOf.2.1 4 = .ok (.if_icmp .gt 117, 3) := by decide +kernel
theorem d_X_shareOf_7 : decode m_X_shareOf.2.1 7 = .ok (.aload_n 0, 1) := by decide +kernel
theorem d_X_shareOf_8 : decode m_X_shareOf.2.1 8 = .ok (.getfield 23, 3) := by decide +kernel
theorem d_X_shareOf_11 : decode m_X_shareOf.2.1 11 = .ok (.iconst 5, 1) := by decide +kernel
theorem d_X_shareOf_12 : decode m_X_shareOf.2.1 12 = .ok (.iload_n 3, 1) := by decide +kernel
theorem d_X_shareOf_13 : decode m_X_shareOf.2.1 13 = .ok (.imul, 1) := by decide +kernel
theorem d_X_shareOf_14 : decode m_X_shareOf.2.1 14 = .ok (.iconst 1, 1) := by decide +kernel
theorem d_X_shareOf_15 : decode m_X_shareOf.2.1 15 = .ok (.iadd, 1) := by decide +kernel
theorem d_X_shareOf_16 : decode m_X_shareOf.2.1 16 = .ok (.iaload, 1) := by decide +kernel
theorem d_X_shareOf_17 : decode m_X_shareOf.2.1 17 = .ok (.istore 4, 2) := by decide +kernel
theorem d_X_shareOf_19 : decode m_X_shareOf.2.1 19 = .ok (.aload_n 0, 1) := by decide +kernel
theorem d_X_shareOf_20 : decode m_X_shareOf.2.1 20 = .ok (.getfield 23, 3) := by decide +kernel
theorem d_X_shareOf_23 : decode m_X_shareOf.2.1 23 = .ok (.iconst 5, 1) := by decide +kernel
theorem d_X_shareOf_24 : decode m_X_shareOf.2.1 24 = .ok (.iload_n 3, 1) := by decide +kernel
theorem d_X_shareOf_25 : decode m_X_shareOf.2.1 25 = .ok (.imul, 1) := by decide +kernel
theorem d_X_shareOf_26 : decode m_X_shareOf.2.1 26 = .ok (.iconst 2, 1) := by decide +kernel
theorem d_X_shareOf_27 : decode m_X_shareOf.2.1 27 = .ok (.iadd, 1) := by decide +kernel
theorem d_X_shareOf_28 : decode m_X_shareOf.2.1 28 = .ok (.iaload, 1) := by decide +kernel
theorem d_X_shareOf_29 : decode m_X_shareOf.2.1 29 = .ok (.istore 5, 2) := by decide +kernel
theorem d_X_shareOf_31 : decode m_X_shareOf.2.1 31 = .ok (.aload_n 0, 1) := by decide +kernel
theorem d_X_shareOf_32 : decode m_X_shareOf.2.1 32 = .ok (.getfield 23, 3) := by decide +kernel
theorem d_X_shareOf_35 : decode m_X_shareOf.2.1 35 = .ok (.iconst 5, 1) := by decide +kernel
theorem d_X_shareOf_36 : decode m_X_shareOf.2.1 36 = .ok (.iload_n 3, 1) := by decide +kernel
theorem d_X_shareOf_37 : decode m_X_shareOf.2.1 37 = .ok (.imul, 1) := by decide +kernel
theorem d_X_shareOf_38 : decode m_X_shareOf.2.1 38 = .ok (.iaload, 1) := by decide +kernel
theorem d_X_shareOf_39 : decode m_X_shareOf.2.1 39 = .ok (.iload_n 2, 1) := by decide +kernel
theorem d_X_shareOf_40 : decode m_X_shareOf.2.1 40 = .ok (.invokestatic 98, 3) := by decide +kernel
theorem d_X_shareOf_43 : decode m_X_shareOf.2.1 43 = .ok (.ifCond .eq 21, 3) := by decide +kernel
theorem d_X_shareOf_46 : decode m_X_shareOf.2.1 46 = .ok (.sipush 3072, 3) := by decide +kernel
theorem d_X_shareOf_49 : decode m_X_shareOf.2.1 49 = .ok (.aload_n 0, 1) := by decide +kernel
theorem d_X_shareOf_50 : decode m_X_shareOf.2.1 50 = .ok (.getfield 23, 3) := by decide +kernel
theorem d_X_shareOf_53 : decode m_X_shareOf.2.1 53 = .ok (.iconst 5, 1) := by decide +kernel
theorem d_X_shareOf_54 : decode m_X_shareOf.2.1 54 = .ok (.iload_n 3, 1) := by decide +kernel
theorem d_X_shareOf_55 : decode m_X_shareOf.2.1 55 = .ok (.imul, 1) := by decide +kernel
theorem d_X_shareOf_56 : decode m_X_shareOf.2.1 56 = .ok (.iaload, 1) := by decide +kernel
theorem d_X_shareOf_57 : decode m_X_shareOf.2.1 57 = .ok (.invokestatic 109, 3) := by decide +kernel
theorem d_X_shareOf_60 : decode m_X_shareOf.2.1 60 = .ok (.idiv, 1) := by decide +kernel
theorem d_X_shareOf_61 : decode m_X_shareOf.2.1 61 = .ok (.goto 4, 3) := by decide +kernel
theorem d_X_shareOf_64 : decode m_X_shareOf.2.1 64 = .ok (.iconst 0, 1) := by decide +kernel
theorem d_X_shareOf_65 : decode m_X_shareOf.2.1 65 = .ok (.istore 6, 2) := by decide +kernel
theorem d_X_shareOf_67 : decode m_X_shareOf.2.1 67 = .ok (.aload_n 0, 1) := by decide +kernel
theorem d_X_shareOf_68 : decode m_X_shareOf.2.1 68 = .ok (.getfield 38, 3) := by decide +kernel
theorem d_X_shareOf_71 : decode m_X_shareOf.2.1 71 = .ok (.iload_n 3, 1) := by decide +kernel
theorem d_X_shareOf_72 : decode m_X_shareOf.2.1 72 = .ok (.iload 4, 2) := by decide +kernel
theorem d_X_shareOf_74 : decode m_X_shareOf.2.1 74 = .ok (.ifCond .ge 8, 3) := by decide +kernel
theorem d_X_shareOf_77 : decode m_X_shareOf.2.1 77 = .ok (.iload 6, 2) := by decide +kernel
theorem d_X_shareOf_79 : decode m_X_shareOf.2.1 79 = .ok (.goto 35, 3) := by decide +kernel
theorem d_X_shareOf_82 : decode m_X_shareOf.2.1 82 = .ok (.iload 5, 2) := by decide +kernel
theorem d_X_shareOf_84 : decode m_X_shareOf.2.1 84 = .ok (.ifCond .ge 13, 3) := by decide +kernel
theorem d_X_shareOf_87 : decode m_X_shareOf.2.1 87 = .ok (.aload_n 0, 1) := by decide +kernel
theorem d_X_shareOf_88 : decode m_X_shareOf.2.1 88 = .ok (.getfield 38, 3) := by decide +kernel
theorem d_X_shareOf_91 : decode m_X_shareOf.2.1 91 = .ok (.iload 4, 2) := by decide +kernel
theorem d_X_shareOf_93 : decode m_X_shareOf.2.1 93 = .ok (.iaload, 1) := by decide +kernel
theorem d_X_shareOf_94 : decode m_X_shareOf.2.1 94 = .ok (.goto 20, 3) := by decide +kernel
theorem d_X_shareOf_97 : decode m_X_shareOf.2.1 97 = .ok (.aload_n 0, 1) := by decide +kernel
theorem d_X_shareOf_98 : decode m_X_shareOf.2.1 98 = .ok (.getfield 38, 3) := by decide +kernel
theorem d_X_shareOf_101 : decode m_X_shareOf.2.1 101 = .ok (.iload 4, 2) := by decide +kernel
theorem d_X_shareOf_103 : decode m_X_shareOf.2.1 103 = .ok (.iaload, 1) := by decide +kernel
theorem d_X_shareOf_104 : decode m_X_shareOf.2.1 104 = .ok (.aload_n 0, 1) := by decide +kernel
theorem d_X_shareOf_105 : decode m_X_shareOf.2.1 105 = .ok (.getfield 38, 3) := by decide +kernel
theorem d_X_shareOf_108 : decode m_X_shareOf.2.1 108 = .ok (.iload 5, 2) := by decide +kernel
theorem d_X_shareOf_110 : decode m_X_shareOf.2.1 110 = .ok (.iaload, 1) := by decide +kernel
theorem d_X_shareOf_111 : decode m_X_shareOf.2.1 111 = .ok (.iadd, 1) := by decide +kernel
theorem d_X_shareOf_112 : decode m_X_shareOf.2.1 112 = .ok (.iconst 2, 1) := by decide +kernel
theorem d_X_shareOf_113 : decode m_X_shareOf.2.1 113 = .ok (.idiv, 1) := by decide +kernel
theorem d_X_shareOf_114 : decode m_X_shareOf.2.1 114 = .ok (.iastore, 1) := by decide +kernel
theorem d_X_shareOf_115 : decode m_X_shareOf.2.1 115 = .ok (.iinc 3 1, 3) := by decide +kernel
theorem d_X_shareOf_118 : decode m_X_shareOf.2.1 118 = .ok (.goto (-116), 3) := by decide +kernel
theorem d_X_shareOf_121 : decode m_X_shareOf.2.1 121 = .ok (.aload_n 0, 1) := by decide +kernel
theorem d_X_shareOf_122 : decode m_X_shareOf.2.1 122 = .ok (.getfield 38, 3) := by decide +kernel
theorem d_X_shareOf_125 : decode m_X_shareOf.2.1 125 = .ok (.iload_n 1, 1) := by decide +kernel
theorem d_X_shareOf_126 : decode m_X_shareOf.2.1 126 = .ok (.iaload, 1) := by decide +kernel
theorem d_X_shareOf_127 : decode m_X_shareOf.2.1 127 = .ok (.ireturn, 1) := by decide +kernel
theorem d_X_sure_0 : decode m_X_sure.2.1 0 = .ok (.aload_n 0, 1) := by decide +kernel
theorem d_X_sure_1 : decode m_X_sure.2.1 1 = .ok (.iload_n 1, 1) := by decide +kernel
theorem d_X_sure_2 : decode m_X_sure.2.1 2 = .ok (.invokevirtual 83, 3) := by decide +kernel
theorem d_X_sure_5 : decode m_X_sure.2.1 5 = .ok (.ifCond .ne 5, 3) := by decide +kernel
theorem d_X_sure_8 : decode m_X_sure.2.1 8 = .ok (.iconst (-1), 1) := by decide +kernel
theorem d_X_sure_9 : decode m_X_sure.2.1 9 = .ok (.ireturn, 1) := by decide +kernel
theorem d_X_sure_10 : decode m_X_sure.2.1 10 = .ok (.iload_n 2, 1) := by decide +kernel
theorem d_X_sure_11 : decode m_X_sure.2.1 11 = .ok (.iconst 0, 1) := by decide +kernel
theorem d_X_sure_12 : decode m_X_sure.2.1 12 = .ok (.iconst 1, 1) := by decide +kernel
theorem d_X_sure_13 : decode m_X_sure.2.1 13 = .ok (.invokestatic 66, 3) := by decide +kernel
theorem d_X_sure_16 : decode m_X_sure.2.1 16 = .ok (.ifCond .ne 6, 3) := by decide +kernel
theorem d_X_sure_19 : decode m_X_sure.2.1 19 = .ok (.bipush (-2), 2) := by decide +kernel
theorem d_X_sure_21 : decode m_X_sure.2.1 21 = .ok (.ireturn, 1) := by decide +kernel
theorem d_X_sure_22 : decode m_X_sure.2.1 22 = .ok (.bipush 63, 2) := by decide +kernel
theorem d_X_sure_24 : decode m_X_sure.2.1 24 = .ok (.istore_n 3, 1) := by decide +kernel
theorem d_X_sure_25 : decode m_X_sure.2.1 25 = .ok (.iconst 0, 1) := by decide +kernel
theorem d_X_sure_26 : decode m_X_sure.2.1 26 = .ok (.istore 4, 2) := by decide +kernel
theorem d_X_sure_28 : decode m_X_sure.2.1 28 = .ok (.iconst 0, 1) := by decide +kernel
theorem d_X_sure_29 : decode m_X_sure.2.1 29 = .ok (.istore 5, 2) := by decide +kernel
theorem d_X_sure_31 : decode m_X_sure.2.1 31 = .ok (.iconst 0, 1) := by decide +kernel
theorem d_X_sure_32 : decode m_X_sure.2.1 32 = .ok (.istore 6, 2) := by decide +kernel
theorem d_X_sure_34 : decode m_X_sure.2.1 34 = .ok (.iload 6, 2) := by decide +kernel
theorem d_X_sure_36 : decode m_X_sure.2.1 36 = .ok (.aload_n 0, 1) := by decide +kernel
theorem d_X_sure_37 : decode m_X_sure.2.1 37 = .ok (.invokevirtual 141, 3) := by decide +kernel
theorem d_X_sure_40 : decode m_X_sure.2.1 40 = .ok (.if_icmp .ge 40, 3) := by decide +kernel
theorem d_X_sure_43 : decode m_X_sure.2.1 43 = .ok (.aload_n 0, 1) := by decide +kernel
theorem d_X_sure_44 : decode m_X_sure.2.1 44 = .ok (.iload 6, 2) := by decide +kernel
theorem d_X_sure_46 : decode m_X_sure.2.1 46 = .ok (.invokevirtual 144, 3) := by decide +kernel
theorem d_X_sure_49 : decode m_X_sure.2.1 49 = .ok (.ifCond .eq 25, 3) := by decide +kernel
theorem d_X_sure_52 : decode m_X_sure.2.1 52 = .ok (.aload_n 0, 1) := by decide +kernel
theorem d_X_sure_53 : decode m_X_sure.2.1 53 = .ok (.iload_n 1, 1) := by decide +kernel
theorem d_X_sure_54 : decode m_X_sure.2.1 54 = .ok (.invokevirtual 119, 3) := by decide +kernel
theorem d_X_sure_57 : decode m_X_sure.2.1 57 = .ok (.istore 7, 2) := by decide +kernel
theorem d_X_sure_59 : decode m_X_sure.2.1 59 = .ok (.iload_n 3, 1) := by decide +kernel
theorem d_X_sure_60 : decode m_X_sure.2.1 60 = .ok (.iload 7, 2) := by decide +kernel
theorem d_X_sure_62 : decode m_X_sure.2.1 62 = .ok (.iand, 1) := by decide +kernel
theorem d_X_sure_63 : decode m_X_sure.2.1 63 = .ok (.istore_n 3, 1) := by decide +kernel
theorem d_X_sure_64 : decode m_X_sure.2.1 64 = .ok (.iload 4, 2) := by decide +kernel
theorem d_X_sure_66 : decode m_X_sure.2.1 66 = .ok (.iload 7, 2) := by decide +kernel
theorem d_X_sure_68 : decode m_X_sure.2.1 68 = .ok (.ior, 1) := by decide +kernel
theorem d_X_sure_69 : decode m_X_sure.2.1 69 = .ok (.istore 4, 2) := by decide +kernel
theorem d_X_sure_71 : decode m_X_sure.2.1 71 = .ok (.iconst 1, 1) := by decide +kernel
theorem d_X_sure_72 : decode m_X_sure.2.1 72 = .ok (.istore 5, 2) := by decide +kernel
theorem d_X_sure_74 : decode m_X_sure.2.1 74 = .ok (.iinc 6 1, 3) := by decide +kernel
theorem d_X_sure_77 : decode m_X_sure.2.1 77 = .ok (.goto (-43), 3) := by decide +kernel
theorem d_X_sure_80 : decode m_X_sure.2.1 80 = .ok (.iload 5, 2) := by decide +kernel
theorem d_X_sure_82 : decode m_X_sure.2.1 82 = .ok (.ifCond .ne 8, 3) := by decide +kernel
theorem d_X_sure_85 : decode m_X_sure.2.1 85 = .ok (.bipush (-3), 2) := by decide +kernel
theorem d_X_sure_87 : decode m_X_sure.2.1 87 = .ok (.goto 13, 3) := by decide +kernel
theorem d_X_sure_90 : decode m_X_sure.2.1 90 = .ok (.iload_n 2, 1) := by decide +kernel
theorem d_X_sure_91 : decode m_X_sure.2.1 91 = .ok (.ifCond .ne 7, 3) := by decide +kernel
theorem d_X_sure_94 : decode m_X_sure.2.1 94 = .ok (.iload_n 3, 1) := by decide +kernel
theorem d_X_sure_95 : decode m_X_sure.2.1 95 = .ok (.goto 5, 3) := by decide +kernel
theorem d_X_sure_98 : decode m_X_sure.2.1 98 = .ok (.iload 4, 2) := by decide +kernel
theorem d_X_sure_100 : decode m_X_sure.2.1 100 = .ok (.ireturn, 1) := by decide +kernel
theorem d_X_thing_0 : decode m_X_thing.2.1 0 = .ok (.aload_n 0, 1) := by decide +kernel
theorem d_X_thing_1 : decode m_X_thing.2.1 1 = .ok (.iload_n 1, 1) := by decide +kernel
theorem d_X_thing_2 : decode m_X_thing.2.1 2 = .ok (.invokevirtual 83, 3) := by decide +kernel
theorem d_X_thing_5 : decode m_X_thing.2.1 5 = .ok (.ifCond .ne 5, 3) := by decide +kernel
theorem d_X_thing_8 : decode m_X_thing.2.1 8 = .ok (.iconst (-1), 1) := by decide +kernel
theorem d_X_thing_9 : decode m_X_thing.2.1 9 = .ok (.ireturn, 1) := by decide +kernel
theorem d_X_thing_10 : decode m_X_thing.2.1 10 = .ok (.iload_n 2, 1) := by decide +kernel
theorem d_X_thing_11 : decode m_X_thing.2.1 11 = .ok (.iconst 0, 1) := by decide +kernel
theorem d_X_thing_12 : decode m_X_thing.2.1 12 = .ok (.iconst 4, 1) := by decide +kernel
theorem d_X_thing_13 : decode m_X_thing.2.1 13 = .ok (.invokestatic 66, 3) := by decide +kernel
theorem d_X_thing_16 : decode m_X_thing.2.1 16 = .ok (.ifCond .eq 16, 3) := by decide +kernel
theorem d_X_thing_19 : decode m_X_thing.2.1 19 = .ok (.aload_n 0, 1) := by decide +kernel
theorem d_X_thing_20 : decode m_X_thing.2.1 20 = .ok (.getfield 23, 3) := by decide +kernel
theorem d_X_thing_23 : decode m_X_thing.2.1 23 = .ok (.iconst 5, 1) := by decide +kernel
theorem d_X_thing_24 : decode m_X_thing.2.1 24 = .ok (.iload_n 1, 1) := by decide +kernel
theorem d_X_thing_25 : decode m_X_thing.2.1 25 = .ok (.imul, 1) := by decide +kernel
theorem d_X_thing_26 : decode m_X_thing.2.1 26 = .ok (.iload_n 2, 1) := by decide +kernel
theorem d_X_thing_27 : decode m_X_thing.2.1 27 = .ok (.iadd, 1) := by decide +kernel
theorem d_X_thing_28 : decode m_X_thing.2.1 28 = .ok (.iaload, 1) := by decide +kernel
theorem d_X_thing_29 : decode m_X_thing.2.1 29 = .ok (.goto 5, 3) := by decide +kernel
theorem d_X_thing_32 : decode m_X_thing.2.1 32 = .ok (.bipush (-2), 2) := by decide +kernel
theorem d_X_thing_34 : decode m_X_thing.2.1 34 = .ok (.ireturn, 1) := by decide +kernel
theorem d_X_told_0 : decode m_X_told.2.1 0 = .ok (.iload_n 1, 1) := by decide +kernel
theorem d_X_told_1 : decode m_X_told.2.1 1 = .ok (.bipush 10, 2) := by decide +kernel
theorem d_X_told_3 : decode m_X_told.2.1 3 = .ok (.bipush 15, 2) := by decide +kernel
theorem d_X_told_5 : decode m_X_told.2.1 5 = .ok (.invokestatic 66, 3) := by decide +kernel
theorem d_X_told_8 : decode m_X_told.2.1 8 = .ok (.ifCond .eq 13, 3) := by decide +kernel
theorem d_X_told_11 : decode m_X_told.2.1 11 = .ok (.aload_n 0, 1) := by decide +kernel
theorem d_X_told_12 : decode m_X_told.2.1 12 = .ok (.getfield 16, 3) := by decide +kernel
theorem d_X_told_15 : decode m_X_told.2.1 15 = .ok (.iload_n 1, 1) := by decide +kernel
theorem d_X_told_16 : decode m_X_told.2.1 16 = .ok (.bipush 10, 2) := by decide +kernel
theorem d_X_told_18 : decode m_X_told.2.1 18 = .ok (.isub, 1) := by decide +kernel
theorem d_X_told_19 : decode m_X_told.2.1 19 = .ok (.iaload, 1) := by decide +kernel
theorem d_X_told_20 : decode m_X_told.2.1 20 = .ok (.ireturn, 1) := by decide +kernel
theorem d_X_told_21 : decode m_X_told.2.1 21 = .ok (.iload_n 1, 1) := by decide +kernel
theorem d_X_told_22 : decode m_X_told.2.1 22 = .ok (.bipush 20, 2) := by decide +kernel
theorem d_X_told_24 : decode m_X_told.2.1 24 = .ok (.if_icmp .lt 24, 3) := by decide +kernel
theorem d_X_told_27 : decode m_X_told.2.1 27 = .ok (.aload_n 0, 1) := by decide +kernel
theorem d_X_told_28 : decode m_X_told.2.1 28 = .ok (.iload_n 1, 1) := by decide +kernel
theorem d_X_told_29 : decode m_X_told.2.1 29 = .ok (.bipush 20, 2) := by decide +kernel
theorem d_X_told_31 : decode m_X_told.2.1 31 = .ok (.isub, 1) := by decide +kernel
theorem d_X_told_32 : decode m_X_told.2.1 32 = .ok (.invokevirtual 83, 3) := by decide +kernel
theorem d_X_told_35 : decode m_X_told.2.1 35 = .ok (.ifCond .eq 13, 3) := by decide +kernel
theorem d_X_told_38 : decode m_X_told.2.1 38 = .ok (.aload_n 0, 1) := by decide +kernel
theorem d_X_told_39 : decode m_X_told.2.1 39 = .ok (.getfield 26, 3) := by decide +kernel
theorem d_X_told_42 : decode m_X_told.2.1 42 = .ok (.iload_n 1, 1) := by decide +kernel
theorem d_X_told_43 : decode m_X_told.2.1 43 = .ok (.bipush 20, 2) := by decide +kernel
theorem d_X_told_45 : decode m_X_told.2.1 45 = .ok (.isub, 1) := by decide +kernel
theorem d_X_told_46 : decode m_X_told.2.1 46 = .ok (.iaload, 1) := by decide +kernel
theorem d_X_told_47 : decode m_X_told.2.1 47 = .ok (.ireturn, 1) := by decide +kernel
theorem d_X_told_48 : decode m_X_told.2.1 48 = .ok (.iload_n 1, 1) := by decide +kernel
theorem d_X_told_49 : decode m_X_told.2.1 49 = .ok (.tableswitch 60 0 4 #[35, 40, 45, 50, 55], 35) := by decide +kernel
theorem d_X_told_84 : decode m_X_told.2.1 84 = .ok (.aload_n 0, 1) := by decide +kernel
theorem d_X_told_85 : decode m_X_told.2.1 85 = .ok (.getfield 73, 3) := by decide +kernel
theorem d_X_told_88 : decode m_X_told.2.1 88 = .ok (.ireturn, 1) := by decide +kernel
theorem d_X_told_89 : decode m_X_told.2.1 89 = .ok (.aload_n 0, 1) := by decide +kernel
theorem d_X_told_90 : decode m_X_told.2.1 90 = .ok (.getfield 70, 3) := by decide +kernel
theorem d_X_told_93 : decode m_X_told.2.1 93 = .ok (.ireturn, 1) := by decide +kernel
theorem d_X_told_94 : decode m_X_told.2.1 94 = .ok (.aload_n 0, 1) := by decide +kernel
theorem d_X_told_95 : decode m_X_told.2.1 95 = .ok (.getfield 7, 3) := by decide +kernel
theorem d_X_told_98 : decode m_X_told.2.1 98 = .ok (.ireturn, 1) := by decide +kernel
theorem d_X_told_99 : decode m_X_told.2.1 99 = .ok (.aload_n 0, 1) := by decide +kernel
theorem d_X_told_100 : decode m_X_told.2.1 100 = .ok (.getfield 90, 3) := by decide +kernel
theorem d_X_told_103 : decode m_X_told.2.1 103 = .ok (.ireturn, 1) := by decide +kernel
theorem d_X_told_104 : decode m_X_told.2.1 104 = .ok (.aload_n 0, 1) := by decide +kernel
theorem d_X_told_105 : decode m_X_told.2.1 105 = .ok (.getfield 13, 3) := by decide +kernel
theorem d_X_told_108 : decode m_X_told.2.1 108 = .ok (.ireturn, 1) := by decide +kernel
theorem d_X_told_109 : decode m_X_told.2.1 109 = .ok (.iload_n 1, 1) := by decide +kernel
theorem d_X_told_110 : decode m_X_told.2.1 110 = .ok (.iconst 5, 1) := by decide +kernel
theorem d_X_told_111 : decode m_X_told.2.1 111 = .ok (.if_icmp .ne 10, 3) := by decide +kernel
theorem d_X_told_114 : decode m_X_told.2.1 114 = .ok (.aload_n 0, 1) := by decide +kernel
theorem d_X_told_115 : decode m_X_told.2.1 115 = .ok (.getfield 80, 3) := by decide +kernel
theorem d_X_told_118 : decode m_X_told.2.1 118 = .ok (.goto 5, 3) := by decide +kernel
theorem d_X_told_121 : decode m_X_told.2.1 121 = .ok (.bipush (-2), 2) := by decide +kernel
theorem d_X_told_123 : decode m_X_told.2.1 123 = .ok (.ireturn, 1) := by decide +kernel
theorem d_X_touched_0 : decode m_X_touched.2.1 0 = .ok (.aload_n 0, 1) := by decide +kernel
theorem d_X_touched_1 : decode m_X_touched.2.1 1 = .ok (.iload_n 1, 1) := by decide +kernel
theorem d_X_touched_2 : decode m_X_touched.2.1 2 = .ok (.invokevirtual 83, 3) := by decide +kernel
theorem d_X_touched_5 : decode m_X_touched.2.1 5 = .ok (.ifCond .ne 5, 3) := by decide +kernel
theorem d_X_touched_8 : decode m_X_touched.2.1 8 = .ok (.iconst (-1), 1) := by decide +kernel
theorem d_X_touched_9 : decode m_X_touched.2.1 9 = .ok (.ireturn, 1) := by decide +kernel
theorem d_X_touched_10 : decode m_X_touched.2.1 10 = .ok (.aload_n 0, 1) := by decide +kernel
theorem d_X_touched_11 : decode m_X_touched.2.1 11 = .ok (.invokevirtual 116, 3) := by decide +kernel
theorem d_X_touched_14 : decode m_X_touched.2.1 14 = .ok (.iload_n 2, 1) := by decide +kernel
theorem d_X_touched_15 : decode m_X_touched.2.1 15 = .ok (.ifCond .ne 11, 3) := by decide +kernel
theorem d_X_touched_18 : decode m_X_touched.2.1 18 = .ok (.aload_n 0, 1) := by decide +kernel
theorem d_X_touched_19 : decode m_X_touched.2.1 19 = .ok (.iload_n 1, 1) := by decide +kernel
theorem d_X_touched_20 : decode m_X_touched.2.1 20 = .ok (.invokevirtual 102, 3) := by decide +kernel
theorem d_X_touched_23 : decode m_X_touched.2.1 23 = .ok (.goto 31, 3) := by decide +kernel
theorem d_X_touched_26 : decode m_X_touched.2.1 26 = .ok (.iload_n 2, 1) := by decide +kernel
theorem d_X_touched_27 : decode m_X_touched.2.1 27 = .ok (.iconst 1, 1) := by decide +kernel
theorem d_X_touched_28 : decode m_X_touched.2.1 28 = .ok (.if_icmp .ne 11, 3) := by decide +kernel
theorem d_X_touched_31 : decode m_X_touched.2.1 31 = .ok (.aload_n 0, 1) := by decide +kernel
theorem d_X_touched_32 : decode m_X_touched.2.1 32 = .ok (.iload_n 1, 1) := by decide +kernel
theorem d_X_touched_33 : decode m_X_touched.2.1 33 = .ok (.invokevirtual 119, 3) := by decide +kernel
theorem d_X_touched_36 : decode m_X_touched.2.1 36 = .ok (.goto 18, 3) := by decide +kernel
theorem d_X_touched_39 : decode m_X_touched.2.1 39 = .ok (.iload_n 2, 1) := by decide +kernel
theorem d_X_touched_40 : decode m_X_touched.2.1 40 = .ok (.iconst 2, 1) := by decide +kernel
theorem d_X_touched_41 : decode m_X_touched.2.1 41 = .ok (.if_icmp .ne 11, 3) := by decide +kernel
theorem d_X_touched_44 : decode m_X_touched.2.1 44 = .ok (.aload_n 0, 1) := by decide +kernel
theorem d_X_touched_45 : decode m_X_touched.2.1 45 = .ok (.iload_n 1, 1) := by decide +kernel
theorem d_X_touched_46 : decode m_X_touched.2.1 46 = .ok (.invokevirtual 122, 3) := by decide +kernel
theorem d_X_touched_49 : decode m_X_touched.2.1 49 = .ok (.goto 5, 3) := by decide +kernel
theorem d_X_touched_52 : decode m_X_touched.2.1 52 = .ok (.bipush (-2), 2) := by decide +kernel
theorem d_X_touched_54 : decode m_X_touched.2.1 54 = .ok (.ireturn, 1) := by decide +kernel
theorem d_X_touchers_0 : decode m_X_touchers.2.1 0 = .ok (.aload_n 0, 1) := by decide +kernel
theorem d_X_touchers_1 : decode m_X_touchers.2.1 1 = .ok (.iload_n 1, 1) := by decide +kernel
theorem d_X_touchers_2 : decode m_X_touchers.2.1 2 = .ok (.invokevirtual 94, 3) := by decide +kernel
theorem d_X_touchers_5 : decode m_X_touchers.2.1 5 = .ok (.iconst 0, 1) := by decide +kernel
theorem d_X_touchers_6 : decode m_X_touchers.2.1 6 = .ok (.istore_n 2, 1) := by decide +kernel
theorem d_X_touchers_7 : decode m_X_touchers.2.1 7 = .ok (.iconst 0, 1) := by decide +kernel
theorem d_X_touchers_8 : decode m_X_touchers.2.1 8 = .ok (.istore_n 3, 1) := by decide +kernel
theorem d_X_touchers_9 : decode m_X_touchers.2.1 9 = .ok (.iload_n 3, 1) := by decide +kernel
theorem d_X_touchers_10 : decode m_X_touchers.2.1 10 = .ok (.iload_n 1, 1) := by decide +kernel
theorem d_X_touchers_11 : decode m_X_touchers.2.1 11 = .ok (.if_icmp .gt 35, 3) := by decide +kernel
theorem d_X_touchers_14 : decode m_X_touchers.2.1 14 = .ok (.iload_n 2, 1) := by decide +kernel
theorem d_X_touchers_15 : decode m_X_touchers.2.1 15 = .ok (.aload_n 0, 1) := by decide +kernel
theorem d_X_touchers_16 : decode m_X_touchers.2.1 16 = .ok (.getfield 35, 3) := by decide +kernel
theorem d_X_touchers_19 : decode m_X_touchers.2.1 19 = .ok (.iload_n 3, 1) := by decide +kernel
theorem d_X_touchers_20 : decode m_X_touchers.2.1 20 = .ok (.iaload, 1) := by decide +kernel
theorem d_X_touchers_21 : decode m_X_touchers.2.1 21 = .ok (.aload_n 0, 1) := by decide +kernel
theorem d_X_touchers_22 : decode m_X_touchers.2.1 22 = .ok (.getfield 7, 3) := by decide +kernel
theorem d_X_touchers_25 : decode m_X_touchers.2.1 25 = .ok (.if_icmp .gt 12, 3) := by decide +kernel
theorem d_X_touchers_28 : decode m_X_touchers.2.1 28 = .ok (.aload_n 0, 1) := by decide +kernel
theorem d_X_touchers_29 : decode m_X_touchers.2.1 29 = .ok (.getfield 32, 3) := by decide +kernel
theorem d_X_touchers_32 : decode m_X_touchers.2.1 32 = .ok (.iload_n 3, 1) := by decide +kernel
theorem d_X_touchers_33 : decode m_X_touchers.2.1 33 = .ok (.iaload, 1) := by decide +kernel
theorem d_X_touchers_34 : decode m_X_touchers.2.1 34 = .ok (.goto 4, 3) := by decide +kernel
theorem d_X_touchers_37 : decode m_X_touchers.2.1 37 = .ok (.iconst 0, 1) := by decide +kernel
theorem d_X_touchers_38 : decode m_X_touchers.2.1 38 = .ok (.ior, 1) := by decide +kernel
theorem d_X_touchers_39 : decode m_X_touchers.2.1 39 = .ok (.istore_n 2, 1) := by decide +kernel
theorem d_X_touchers_40 : decode m_X_touchers.2.1 40 = .ok (.iinc 3 1, 3) := by decide +kernel
theorem d_X_touchers_43 : decode m_X_touchers.2.1 43 = .ok (.goto (-34), 3) := by decide +kernel
theorem d_X_touchers_46 : decode m_X_touchers.2.1 46 = .ok (.iload_n 2, 1) := by decide +kernel
theorem d_X_touchers_47 : decode m_X_touchers.2.1 47 = .ok (.ireturn, 1) := by decide +kernel
theorem d_X_walk_0 : decode m_X_walk.2.1 0 = .ok (.iconst 0, 1) := by decide +kernel
theorem d_X_walk_1 : decode m_X_walk.2.1 1 = .ok (.istore_n 2, 1) := by decide +kernel
theorem d_X_walk_2 : decode m_X_walk.2.1 2 = .ok (.iload_n 2, 1) := by decide +kernel
theorem d_X_walk_3 : decode m_X_walk.2.1 3 = .ok (.bipush 10, 2) := by decide +kernel
theorem d_X_walk_5 : decode m_X_walk.2.1 5 = .ok (.if_icmp .ge 17, 3) := by decide +kernel
theorem d_X_walk_8 : decode m_X_walk.2.1 8 = .ok (.aload_n 0, 1) := by decide +kernel
theorem d_X_walk_9 : decode m_X_walk.2.1 9 = .ok (.getfield 35, 3) := by decide +kernel
theorem d_X_walk_12 : decode m_X_walk.2.1 12 = .ok (.iload_n 2, 1) := by decide +kernel
theorem d_X_walk_13 : decode m_X_walk.2.1 13 = .ok (.ldc 93, 2) := by decide +kernel
theorem d_X_walk_15 : decode m_X_walk.2.1 15 = .ok (.iastore, 1) := by decide +kernel
theorem d_X_walk_16 : decode m_X_walk.2.1 16 = .ok (.iinc 2 1, 3) := by decide +kernel
theorem d_X_walk_19 : decode m_X_walk.2.1 19 = .ok (.goto (-17), 3) := by decide +kernel
theorem d_X_walk_22 : decode m_X_walk.2.1 22 = .ok (.aload_n 0, 1) := by decide +kernel
theorem d_X_walk_23 : decode m_X_walk.2.1 23 = .ok (.getfield 35, 3) := by decide +kernel
theorem d_X_walk_26 : decode m_X_walk.2.1 26 = .ok (.iload_n 1, 1) := by decide +kernel
theorem d_X_walk_27 : decode m_X_walk.2.1 27 = .ok (.iconst 0, 1) := by decide +kernel
theorem d_X_walk_28 : decode m_X_walk.2.1 28 = .ok (.iastore, 1) := by decide +kernel
theorem d_X_walk_29 : decode m_X_walk.2.1 29 = .ok (.iload_n 1, 1) := by decide +kernel
theorem d_X_walk_30 : decode m_X_walk.2.1 30 = .ok (.istore_n 2, 1) := by decide +kernel
theorem d_X_walk_31 : decode m_X_walk.2.1 31 = .ok (.iload_n 2, 1) := by decide +kernel
theorem d_X_walk_32 : decode m_X_walk.2.1 32 = .ok (.ifCond .lt 101, 3) := by decide +kernel
theorem d_X_walk_35 : decode m_X_walk.2.1 35 = .ok (.iconst 1, 1) := by decide +kernel
theorem d_X_walk_36 : decode m_X_walk.2.1 36 = .ok (.istore_n 3, 1) := by decide +kernel
theorem d_X_walk_37 : decode m_X_walk.2.1 37 = .ok (.iload_n 3, 1) := by decide +kernel
theorem d_X_walk_38 : decode m_X_walk.2.1 38 = .ok (.iconst 4, 1) := by decide +kernel
theorem d_X_walk_39 : decode m_X_walk.2.1 39 = .ok (.if_icmp .ge 88, 3) := by decide +kernel
theorem d_X_walk_42 : decode m_X_walk.2.1 42 = .ok (.aload_n 0, 1) := by decide +kernel
theorem d_X_walk_43 : decode m_X_walk.2.1 43 = .ok (.getfield 35, 3) := by decide +kernel
theorem d_X_walk_46 : decode m_X_walk.2.1 46 = .ok (.iload_n 2, 1) := by decide +kernel
theorem d_X_walk_47 : decode m_X_walk.2.1 47 = .ok (.iaload, 1) := by decide +kernel
theorem d_X_walk_48 : decode m_X_walk.2.1 48 = .ok (.ldc 93, 2) := by decide +kernel
theorem d_X_walk_50 : decode m_X_walk.2.1 50 = .ok (.if_icmp .ge 77, 3) := by decide +kernel
theorem d_X_walk_53 : decode m_X_walk.2.1 53 = .ok (.iload_n 3, 1) := by decide +kernel
theorem d_X_walk_54 : decode m_X_walk.2.1 54 = .ok (.iconst 3, 1) := by decide +kernel
theorem d_X_walk_55 : decode m_X_walk.2.1 55 = .ok (.if_icmp .lt 11, 3) := by decide +kernel
theorem d_X_walk_58 : decode m_X_walk.2.1 58 = .ok (.aload_n 0, 1) := by decide +kernel
theorem d_X_walk_59 : decode m_X_walk.2.1 59 = .ok (.getfield 90, 3) := by decide +kernel
theorem d_X_walk_62 : decode m_X_walk.2.1 62 = .ok (.iconst 1, 1) := by decide +kernel
theorem d_X_walk_63 : decode m_X_walk.2.1 63 = .ok (.if_icmp .ne 16, 3) := by decide +kernel
theorem d_X_walk_66 : decode m_X_walk.2.1 66 = .ok (.aload_n 0, 1) := by decide +kernel
theorem d_X_walk_67 : decode m_X_walk.2.1 67 = .ok (.getfield 23, 3) := by decide +kernel
theorem d_X_walk_70 : decode m_X_walk.2.1 70 = .ok (.iconst 5, 1) := by decide +kernel
theorem d_X_walk_71 : decode m_X_walk.2.1 71 = .ok (.iload_n 2, 1) := by decide +kernel
theorem d_X_walk_72 : decode m_X_walk.2.1 72 = .ok (.imul, 1) := by decide +kernel
theorem d_X_walk_73 : decode m_X_walk.2.1 73 = .ok (.iload_n 3, 1) := by decide +kernel
theorem d_X_walk_74 : decode m_X_walk.2.1 74 = .ok (.iadd, 1) := by decide +kernel
theorem d_X_walk_75 : decode m_X_walk.2.1 75 = .ok (.iaload, 1) := by decide +kernel
theorem d_X_walk_76 : decode m_X_walk.2.1 76 = .ok (.goto 5, 3) := by decide +kernel
theorem d_X_walk_79 : decode m_X_walk.2.1 79 = .ok (.bipush (-6), 2) := by decide +kernel
theorem d_X_walk_81 : decode m_X_walk.2.1 81 = .ok (.istore 4, 2) := by decide +kernel
theorem d_X_walk_83 : decode m_X_walk.2.1 83 = .ok (.iload 4, 2) := by decide +kernel
theorem d_X_walk_85 : decode m_X_walk.2.1 85 = .ok (.ifCond .lt 36, 3) := by decide +kernel
theorem d_X_walk_88 : decode m_X_walk.2.1 88 = .ok (.aload_n 0, 1) := by decide +kernel
theorem d_X_walk_89 : decode m_X_walk.2.1 89 = .ok (.getfield 35, 3) := by decide +kernel
theorem d_X_walk_92 : decode m_X_walk.2.1 92 = .ok (.iload_n 2, 1) := by decide +kernel
theorem d_X_walk_93 : decode m_X_walk.2.1 93 = .ok (.iaload, 1) := by decide +kernel
theorem d_X_walk_94 : decode m_X_walk.2.1 94 = .ok (.iconst 1, 1) := by decide +kernel
theorem d_X_walk_95 : decode m_X_walk.2.1 95 = .ok (.iadd, 1) := by decide +kernel
theorem d_X_walk_96 : decode m_X_walk.2.1 96 = .ok (.aload_n 0, 1) := by decide +kernel
theorem d_X_walk_97 : decode m_X_walk.2.1 97 = .ok (.getfield 35, 3) := by decide +kernel
theorem d_X_walk_100 : decode m_X_walk.2.1 100 = .ok (.iload 4, 2) := by decide +kernel
theorem d_X_walk_102 : decode m_X_walk.2.1 102 = .ok (.iaload, 1) := by decide +kernel
theorem d_X_walk_103 : decode m_X_walk.2.1 103 = .ok (.if_icmp .ge 18, 3) := by decide +kernel
theorem d_X_walk_106 : decode m_X_walk.2.1 106 = .ok (.aload_n 0, 1) := by decide +kernel
theorem d_X_walk_107 : decode m_X_walk.2.1 107 = .ok (.getfield 35, 3) := by decide +kernel
theorem d_X_walk_110 : decode m_X_walk.2.1 110 = .ok (.iload 4, 2) := by decide +kernel
theorem d_X_walk_112 : decode m_X_walk.2.1 112 = .ok (.aload_n 0, 1) := by decide +kernel
theorem d_X_walk_113 : decode m_X_walk.2.1 113 = .ok (.getfield 35, 3) := by decide +kernel
theorem d_X_walk_116 : decode m_X_walk.2.1 116 = .ok (.iload_n 2, 1) := by decide +kernel
theorem d_X_walk_117 : decode m_X_walk.2.1 117 = .ok (.iaload, 1) := by decide +kernel
theorem d_X_walk_118 : decode m_X_walk.2.1 118 = .ok (.iconst 1, 1) := by decide +kernel
theorem d_X_walk_119 : decode m_X_walk.2.1 119 = .ok (.iadd, 1) := by decide +kernel
theorem d_X_walk_120 : decode m_X_walk.2.1 120 = .ok (.iastore, 1) := by decide +kernel
theorem d_X_walk_121 : decode m_X_walk.2.1 121 = .ok (.iinc 3 1, 3) := by decide +kernel
theorem d_X_walk_124 : decode m_X_walk.2.1 124 = .ok (.goto (-87), 3) := by decide +kernel
theorem d_X_walk_127 : decode m_X_walk.2.1 127 = .ok (.iinc 2 (-1), 3) := by decide +kernel
theorem d_X_walk_130 : decode m_X_walk.2.1 130 = .ok (.goto (-99), 3) := by decide +kernel
theorem d_X_walk_133 : decode m_X_walk.2.1 133 = .ok (.return_, 1) := by decide +kernel
theorem d_X_washed_0 : decode m_X_washed.2.1 0 = .ok (.aload_n 0, 1) := by decide +kernel
theorem d_X_washed_1 : decode m_X_washed.2.1 1 = .ok (.iload_n 1, 1) := by decide +kernel
theorem d_X_washed_2 : decode m_X_washed.2.1 2 = .ok (.invokevirtual 83, 3) := by decide +kernel
theorem d_X_washed_5 : decode m_X_washed.2.1 5 = .ok (.ifCond .eq 10, 3) := by decide +kernel
theorem d_X_washed_8 : decode m_X_washed.2.1 8 = .ok (.iload_n 2, 1) := by decide +kernel
theorem d_X_washed_9 : decode m_X_washed.2.1 9 = .ok (.invokestatic 87, 3) := by decide +kernel
theorem d_X_washed_12 : decode m_X_washed.2.1 12 = .ok (.ifCond .ne 5, 3) := by decide +kernel
theorem d_X_washed_15 : decode m_X_washed.2.1 15 = .ok (.iconst (-1), 1) := by decide +kernel
theorem d_X_washed_16 : decode m_X_washed.2.1 16 = .ok (.ireturn, 1) := by decide +kernel
theorem d_X_washed_17 : decode m_X_washed.2.1 17 = .ok (.aload_n 0, 1) := by decide +kernel
theorem d_X_washed_18 : decode m_X_washed.2.1 18 = .ok (.iload_n 1, 1) := by decide +kernel
theorem d_X_washed_19 : decode m_X_washed.2.1 19 = .ok (.iload_n 2, 1) := by decide +kernel
theorem d_X_washed_20 : decode m_X_washed.2.1 20 = .ok (.invokevirtual 128, 3) := by decide +kernel
theorem d_X_washed_23 : decode m_X_washed.2.1 23 = .ok (.istore_n 3, 1) := by decide +kernel
theorem d_X_washed_24 : decode m_X_washed.2.1 24 = .ok (.aload_n 0, 1) := by decide +kernel
theorem d_X_washed_25 : decode m_X_washed.2.1 25 = .ok (.getfield 16, 3) := by decide +kernel
theorem d_X_washed_28 : decode m_X_washed.2.1 28 = .ok (.iload_n 2, 1) := by decide +kernel
theorem d_X_washed_29 : decode m_X_washed.2.1 29 = .ok (.iaload, 1) := by decide +kernel
theorem d_X_washed_30 : decode m_X_washed.2.1 30 = .ok (.ifCond .lt 17, 3) := by decide +kernel
theorem d_X_washed_33 : decode m_X_washed.2.1 33 = .ok (.aload_n 0, 1) := by decide +kernel
theorem d_X_washed_34 : decode m_X_washed.2.1 34 = .ok (.iload_n 1, 1) := by decide +kernel
theorem d_X_washed_35 : decode m_X_washed.2.1 35 = .ok (.aload_n 0, 1) := by decide +kernel
theorem d_X_washed_36 : decode m_X_washed.2.1 36 = .ok (.getfield 16, 3) := by decide +kernel
theorem d_X_washed_39 : decode m_X_washed.2.1 39 = .ok (.iload_n 2, 1) := by decide +kernel
theorem d_X_washed_40 : decode m_X_washed.2.1 40 = .ok (.iaload, 1) := by decide +kernel
theorem d_X_washed_41 : decode m_X_washed.2.1 41 = .ok (.invokevirtual 128, 3) := by decide +kernel
theorem d_X_washed_44 : decode m_X_washed.2.1 44 = .ok (.goto 5, 3) := by decide +kernel
theorem d_X_washed_47 : decode m_X_washed.2.1 47 = .ok (.ldc 93, 2) := by decide +kernel
theorem d_X_washed_49 : decode m_X_washed.2.1 49 = .ok (.istore 4, 2) := by decide +kernel
theorem d_X_washed_51 : decode m_X_washed.2.1 51 = .ok (.iload_n 3, 1) := by decide +kernel
theorem d_X_washed_52 : decode m_X_washed.2.1 52 = .ok (.iload 4, 2) := by decide +kernel
theorem d_X_washed_54 : decode m_X_washed.2.1 54 = .ok (.if_icmp .ge 7, 3) := by decide +kernel
theorem d_X_washed_57 : decode m_X_washed.2.1 57 = .ok (.iload_n 3, 1) := by decide +kernel
theorem d_X_washed_58 : decode m_X_washed.2.1 58 = .ok (.goto 5, 3) := by decide +kernel
theorem d_X_washed_61 : decode m_X_washed.2.1 61 = .ok (.iload 4, 2) := by decide +kernel
theorem d_X_washed_63 : decode m_X_washed.2.1 63 = .ok (.istore 5, 2) := by decide +kernel
theorem d_X_washed_65 : decode m_X_washed.2.1 65 = .ok (.iload 5, 2) := by decide +kernel
theorem d_X_washed_67 : decode m_X_washed.2.1 67 = .ok (.aload_n 0, 1) := by decide +kernel
theorem d_X_washed_68 : decode m_X_washed.2.1 68 = .ok (.getfield 7, 3) := by decide +kernel
theorem d_X_washed_71 : decode m_X_washed.2.1 71 = .ok (.if_icmp .le 7, 3) := by decide +kernel
theorem d_X_washed_74 : decode m_X_washed.2.1 74 = .ok (.iconst 0, 1) := by decide +kernel
theorem d_X_washed_75 : decode m_X_washed.2.1 75 = .ok (.goto 12, 3) := by decide +kernel
theorem d_X_washed_78 : decode m_X_washed.2.1 78 = .ok (.aload_n 0, 1) := by decide +kernel
theorem d_X_washed_79 : decode m_X_washed.2.1 79 = .ok (.getfield 7, 3) := by decide +kernel
theorem d_X_washed_82 : decode m_X_washed.2.1 82 = .ok (.iload 5, 2) := by decide +kernel
theorem d_X_washed_84 : decode m_X_washed.2.1 84 = .ok (.isub, 1) := by decide +kernel
theorem d_X_washed_85 : decode m_X_washed.2.1 85 = .ok (.iconst 1, 1) := by decide +kernel
theorem d_X_washed_86 : decode m_X_washed.2.1 86 = .ok (.iadd, 1) := by decide +kernel
theorem d_X_washed_87 : decode m_X_washed.2.1 87 = .ok (.ireturn, 1) := by decide +kernel
theorem d_X_wipe_0 : decode m_X_wipe.2.1 0 = .ok (.aload_n 0, 1) := by decide +kernel
theorem d_X_wipe_1 : decode m_X_wipe.2.1 1 = .ok (.getfield 73, 3) := by decide +kernel
theorem d_X_wipe_4 : decode m_X_wipe.2.1 4 = .ok (.istore_n 1, 1) := by decide +kernel
theorem d_X_wipe_5 : decode m_X_wipe.2.1 5 = .ok (.aload_n 0, 1) := by decide +kernel
theorem d_X_wipe_6 : decode m_X_wipe.2.1 6 = .ok (.iconst 0, 1) := by decide +kernel
theorem d_X_wipe_7 : decode m_X_wipe.2.1 7 = .ok (.putfield 73, 3) := by decide +kernel
theorem d_X_wipe_10 : decode m_X_wipe.2.1 10 = .ok (.iload_n 1, 1) := by decide +kernel
theorem d_X_wipe_11 : decode m_X_wipe.2.1 11 = .ok (.ireturn, 1) := by decide +kernel
theorem d_X_withPartners_0 : decode m_X_withPartners.2.1 0 = .ok (.iload_n 1, 1) := by decide +kernel
theorem d_X_withPartners_1 : decode m_X_withPartners.2.1 1 = .ok (.istore_n 2, 1) := by decide +kernel
theorem d_X_withPartners_2 : decode m_X_withPartners.2.1 2 = .ok (.iconst 0, 1) := by decide +kernel
theorem d_X_withPartners_3 : decode m_X_withPartners.2.1 3 = .ok (.istore_n 3, 1) := by decide +kernel
theorem d_X_withPartners_4 : decode m_X_withPartners.2.1 4 = .ok (.iload_n 3, 1) := by decide +kernel
theorem d_X_withPartners_5 : decode m_X_withPartners.2.1 5 = .ok (.bipush 6, 2) := by decide +kernel
theorem d_X_withPartners_7 : decode m_X_withPartners.2.1 7 = .ok (.if_icmp .ge 41, 3) := by decide +kernel
theorem d_X_withPartners_10 : decode m_X_withPartners.2.1 10 = .ok (.iload_n 2, 1) := by decide +kernel
theorem d_X_withPartners_11 : decode m_X_withPartners.2.1 11 = .ok (.iload_n 1, 1) := by decide +kernel
theorem d_X_withPartners_12 : decode m_X_withPartners.2.1 12 = .ok (.iload_n 3, 1) := by decide +kernel
theorem d_X_withPartners_13 : decode m_X_withPartners.2.1 13 = .ok (.invokestatic 98, 3) := by decide +kernel
theorem d_X_withPartners_16 : decode m_X_withPartners.2.1 16 = .ok (.ifCond .eq 23, 3) := by decide +kernel
theorem d_X_withPartners_19 : decode m_X_withPartners.2.1 19 = .ok (.aload_n 0, 1) := by decide +kernel
theorem d_X_withPartners_20 : decode m_X_withPartners.2.1 20 = .ok (.getfield 16, 3) := by decide +kernel
theorem d_X_withPartners_23 : decode m_X_withPartners.2.1 23 = .ok (.iload_n 3, 1) := by decide +kernel
theorem d_X_withPartners_24 : decode m_X_withPartners.2.1 24 = .ok (.iaload, 1) := by decide +kernel
theorem d_X_withPartners_25 : decode m_X_withPartners.2.1 25 = .ok (.ifCond .lt 14, 3) := by decide +kernel
theorem d_X_withPartners_28 : decode m_X_withPartners.2.1 28 = .ok (.iconst 1, 1) := by decide +kernel
theorem d_X_withPartners_29 : decode m_X_withPartners.2.1 29 = .ok (.aload_n 0, 1) := by decide +kernel
theorem d_X_withPartners_30 : decode m_X_withPartners.2.1 30 = .ok (.getfield 16, 3) := by decide +kernel
theorem d_X_withPartners_33 : decode m_X_withPartners.2.1 33 = .ok (.iload_n 3, 1) := by decide +kernel
theorem d_X_withPartners_34 : decode m_X_withPartners.2.1 34 = .ok (.iaload, 1) := by decide +kernel
theorem d_X_withPartners_35 : decode m_X_withPartners.2.1 35 = .ok (.ishl, 1) := by decide +kernel
theorem d_X_withPartners_36 : decode m_X_withPartners.2.1 36 = .ok (.goto 4, 3) := by decide +kernel
theorem d_X_withPartners_39 : decode m_X_withPartners.2.1 39 = .ok (.iconst 0, 1) := by decide +kernel
theorem d_X_withPartners_40 : decode m_X_withPartners.2.1 40 = .ok (.ior, 1) := by decide +kernel
theorem d_X_withPartners_41 : decode m_X_withPartners.2.1 41 = .ok (.istore_n 2, 1) := by decide +kernel
theorem d_X_withPartners_42 : decode m_X_withPartners.2.1 42 = .ok (.iinc 3 1, 3) := by decide +kernel
theorem d_X_withPartners_45 : decode m_X_withPartners.2.1 45 = .ok (.goto (-41), 3) := by decide +kernel
theorem d_X_withPartners_48 : decode m_X_withPartners.2.1 48 = .ok (.iload_n 2, 1) := by decide +kernel
theorem d_X_withPartners_49 : decode m_X_withPartners.2.1 49 = .ok (.ireturn, 1) := by decide +kernel
