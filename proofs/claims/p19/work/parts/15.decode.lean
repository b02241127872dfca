theorem d_X_fill_24 : decode m_X_fill.2.1 24 = .ok (.iconst 5, 1) := by decide +kernel
theorem d_X_fill_25 : decode m_X_fill.2.1 25 = .ok (.iload 4, 2) := by decide +kernel
theorem d_X_fill_27 : decode m_X_fill.2.1 27 = .ok (.imul, 1) := by decide +kernel
theorem d_X_fill_28 : decode m_X_fill.2.1 28 = .ok (.iconst 4, 1) := by decide +kernel
theorem d_X_fill_29 : decode m_X_fill.2.1 29 = .ok (.iadd, 1) := by decide +kernel
theorem d_X_fill_30 : decode m_X_fill.2.1 30 = .ok (.iaload, 1) := by decide +kernel
theorem d_X_fill_31 : decode m_X_fill.2.1 31 = .ok (.iconst 1, 1) := by decide +kernel
theorem d_X_fill_32 : decode m_X_fill.2.1 32 = .ok (.if_icmp .ne 53, 3) := by decide +kernel
theorem d_X_fill_35 : decode m_X_fill.2.1 35 = .ok (.aload_n 0, 1) := by decide +kernel
theorem d_X_fill_36 : decode m_X_fill.2.1 36 = .ok (.iload_n 1, 1) := by decide +kernel
theorem d_X_fill_37 : decode m_X_fill.2.1 37 = .ok (.iload_n 2, 1) := by decide +kernel
theorem d_X_fill_38 : decode m_X_fill.2.1 38 = .ok (.invokevirtual 138, 3) := by decide +kernel
theorem d_X_fill_41 : decode m_X_fill.2.1 41 = .ok (.istore 5, 2) := by decide +kernel
theorem d_X_fill_43 : decode m_X_fill.2.1 43 = .ok (.iload_n 3, 1) := by decide +kernel
theorem d_X_fill_44 : decode m_X_fill.2.1 44 = .ok (.ifCond .eq 22, 3) := by decide +kernel
theorem d_X_fill_47 : decode m_X_fill.2.1 47 = .ok (.aload_n 0, 1) := by decide +kernel
theorem d_X_fill_48 : decode m_X_fill.2.1 48 = .ok (.getfield 32, 3) := by decide +kernel
theorem d_X_fill_51 : decode m_X_fill.2.1 51 = .ok (.iload 4, 2) := by decide +kernel
theorem d_X_fill_53 : decode m_X_fill.2.1 53 = .ok (.iaload, 1) := by decide +kernel
theorem d_X_fill_54 : decode m_X_fill.2.1 54 = .ok (.iload 5, 2) := by decide +kernel
theorem d_X_fill_56 : decode m_X_fill.2.1 56 = .ok (.invokestatic 98, 3) := by decide +kernel
theorem d_X_fill_59 : decode m_X_fill.2.1 59 = .ok (.ifCond .ne 7, 3) := by decide +kernel
theorem d_X_fill_62 : decode m_X_fill.2.1 62 = .ok (.iconst 1, 1) := by decide +kernel
theorem d_X_fill_63 : decode m_X_fill.2.1 63 = .ok (.goto 4, 3) := by decide +kernel
theorem d_X_fill_66 : decode m_X_fill.2.1 66 = .ok (.iconst 0, 1) := by decide +kernel
theorem d_X_fill_67 : decode m_X_fill.2.1 67 = .ok (.istore_n 3, 1) := by decide +kernel
theorem d_X_fill_68 : decode m_X_fill.2.1 68 = .ok (.aload_n 0, 1) := by decide +kernel
theorem d_X_fill_69 : decode m_X_fill.2.1 69 = .ok (.getfield 32, 3) := by decide +kernel
theorem d_X_fill_72 : decode m_X_fill.2.1 72 = .ok (.iload 4, 2) := by decide +kernel
theorem d_X_fill_74 : decode m_X_fill.2.1 74 = .ok (.dup2, 1) := by decide +kernel
theorem d_X_fill_75 : decode m_X_fill.2.1 75 = .ok (.iaload, 1) := by decide +kernel
theorem d_X_fill_76 : decode m_X_fill.2.1 76 = .ok (.iconst 1, 1) := by decide +kernel
theorem d_X_fill_77 : decode m_X_fill.2.1 77 = .ok (.iload 5, 2) := by decide +kernel
theorem d_X_fill_79 : decode m_X_fill.2.1 79 = .ok (.ishl, 1) := by decide +kernel
theorem d_X_fill_80 : decode m_X_fill.2.1 80 = .ok (.ior, 1) := by decide +kernel
theorem d_X_fill_81 : decode m_X_fill.2.1 81 = .ok (.iastore, 1) := by decide +kernel
theorem d_X_fill_82 : decode m_X_fill.2.1 82 = .ok (.iinc 2 1, 3) := by decide +kernel
theorem d_X_fill_85 : decode m_X_fill.2.1 85 = .ok (.iinc 4 1, 3) := by decide +kernel
theorem d_X_fill_88 : decode m_X_fill.2.1 88 = .ok (.goto (-77), 3) := by decide +kernel
theorem d_X_fill_91 : decode m_X_fill.2.1 91 = .ok (.iconst 0, 1) := by decide +kernel
theorem d_X_fill_92 : decode m_X_fill.2.1 92 = .ok (.istore 4, 2) := by decide +kernel
theorem d_X_fill_94 : decode m_X_fill.2.1 94 = .ok (.iload 4, 2) := by decide +kernel
theorem d_X_fill_96 : decode m_X_fill.2.1 96 = .ok (.aload_n 0, 1) := by decide +kernel
theorem d_X_fill_97 : decode m_X_fill.2.1 97 = .ok (.getfield 80, 3) := by decide +kernel
theorem d_X_fill_100 : decode m_X_fill.2.1 100 = .ok (.if_icmp .ge 49, 3) := by decide +kernel
theorem d_X_fill_103 : decode m_X_fill.2.1 103 = .ok (.iload_n 3, 1) := by decide +kernel
theorem d_X_fill_104 : decode m_X_fill.2.1 104 = .ok (.ifCond .eq 45, 3) := by decide +kernel
theorem d_X_fill_107 : decode m_X_fill.2.1 107 = .ok (.aload_n 0, 1) := by decide +kernel
theorem d_X_fill_108 : decode m_X_fill.2.1 108 = .ok (.aload_n 0, 1) := by decide +kernel
theorem d_X_fill_109 : decode m_X_fill.2.1 109 = .ok (.getfield 29, 3) := by decide +kernel
theorem d_X_fill_112 : decode m_X_fill.2.1 112 = .ok (.iconst 2, 1) := by decide +kernel
theorem d_X_fill_113 : decode m_X_fill.2.1 113 = .ok (.iload 4, 2) := by decide +kernel
theorem d_X_fill_115 : decode m_X_fill.2.1 115 = .ok (.imul, 1) := by decide +kernel
theorem d_X_fill_116 : decode m_X_fill.2.1 116 = .ok (.iconst 1, 1) := by decide +kernel
theorem d_X_fill_117 : decode m_X_fill.2.1 117 = .ok (.iadd, 1) := by decide +kernel
theorem d_X_fill_118 : decode m_X_fill.2.1 118 = .ok (.iaload, 1) := by decide +kernel
theorem d_X_fill_119 : decode m_X_fill.2.1 119 = .ok (.invokevirtual 119, 3) := by decide +kernel
theorem d_X_fill_122 : decode m_X_fill.2.1 122 = .ok (.aload_n 0, 1) := by decide +kernel
theorem d_X_fill_123 : decode m_X_fill.2.1 123 = .ok (.getfield 29, 3) := by decide +kernel
theorem d_X_fill_126 : decode m_X_fill.2.1 126 = .ok (.iconst 2, 1) := by decide +kernel
theorem d_X_fill_127 : decode m_X_fill.2.1 127 = .ok (.iload 4, 2) := by decide +kernel
theorem d_X_fill_129 : decode m_X_fill.2.1 129 = .ok (.imul, 1) := by decide +kernel
theorem d_X_fill_130 : decode m_X_fill.2.1 130 = .ok (.iaload, 1) := by decide +kernel
theorem d_X_fill_131 : decode m_X_fill.2.1 131 = .ok (.invokestatic 98, 3) := by decide +kernel
theorem d_X_fill_134 : decode m_X_fill.2.1 134 = .ok (.ifCond .ne 7, 3) := by decide +kernel
theorem d_X_fill_137 : decode m_X_fill.2.1 137 = .ok (.iconst 1, 1) := by decide +kernel
theorem d_X_fill_138 : decode m_X_fill.2.1 138 = .ok (.goto 4, 3) := by decide +kernel
theorem d_X_fill_141 : decode m_X_fill.2.1 141 = .ok (.iconst 0, 1) := by decide +kernel
theorem d_X_fill_142 : decode m_X_fill.2.1 142 = .ok (.istore_n 3, 1) := by decide +kernel
theorem d_X_fill_143 : decode m_X_fill.2.1 143 = .ok (.iinc 4 1, 3) := by decide +kernel
theorem d_X_fill_146 : decode m_X_fill.2.1 146 = .ok (.goto (-52), 3) := by decide +kernel
theorem d_X_fill_149 : decode m_X_fill.2.1 149 = .ok (.iload_n 3, 1) := by decide +kernel
theorem d_X_fill_150 : decode m_X_fill.2.1 150 = .ok (.ireturn, 1) := by decide +kernel
theorem d_X_filled_0 : decode m_X_filled.2.1 0 = .ok (.iconst 0, 1) := by decide +kernel
theorem d_X_filled_1 : decode m_X_filled.2.1 1 = .ok (.istore_n 2, 1) := by decide +kernel
theorem d_X_filled_2 : decode m_X_filled.2.1 2 = .ok (.bipush (-6), 2) := by decide +kernel
theorem d_X_filled_4 : decode m_X_filled.2.1 4 = .ok (.istore_n 3, 1) := by decide +kernel
theorem d_X_filled_5 : decode m_X_filled.2.1 5 = .ok (.iconst 0, 1) := by decide +kernel
theorem d_X_filled_6 : decode m_X_filled.2.1 6 = .ok (.istore 4, 2) := by decide +kernel
theorem d_X_filled_8 : decode m_X_filled.2.1 8 = .ok (.iload 4, 2) := by decide +kernel
theorem d_X_filled_10 : decode m_X_filled.2.1 10 = .ok (.aload_n 0, 1) := by decide +kernel
theorem d_X_filled_11 : decode m_X_filled.2.1 11 = .ok (.invokevirtual 141, 3) := by decide +kernel
theorem d_X_filled_14 : decode m_X_filled.2.1 14 = .ok (.if_icmp .ge 32, 3) := by decide +kernel
theorem d_X_filled_17 : decode m_X_filled.2.1 17 = .ok (.aload_n 0, 1) := by decide +kernel
theorem d_X_filled_18 : decode m_X_filled.2.1 18 = .ok (.iload 4, 2) := by decide +kernel
theorem d_X_filled_20 : decode m_X_filled.2.1 20 = .ok (.invokevirtual 144, 3) := by decide +kernel
theorem d_X_filled_23 : decode m_X_filled.2.1 23 = .ok (.ifCond .eq 17, 3) := by decide +kernel
theorem d_X_filled_26 : decode m_X_filled.2.1 26 = .ok (.iload_n 3, 1) := by decide +kernel
theorem d_X_filled_27 : decode m_X_filled.2.1 27 = .ok (.ifCond .ge 8, 3) := by decide +kernel
theorem d_X_filled_30 : decode m_X_filled.2.1 30 = .ok (.iload 4, 2) := by decide +kernel
theorem d_X_filled_32 : decode m_X_filled.2.1 32 = .ok (.goto 4, 3) := by decide +kernel
theorem d_X_filled_35 : decode m_X_filled.2.1 35 = .ok (.iload_n 3, 1) := by decide +kernel
theorem d_X_filled_36 : decode m_X_filled.2.1 36 = .ok (.istore_n 3, 1) := by decide +kernel
theorem d_X_filled_37 : decode m_X_filled.2.1 37 = .ok (.iinc 2 1, 3) := by decide +kernel
theorem d_X_filled_40 : decode m_X_filled.2.1 40 = .ok (.iinc 4 1, 3) := by decide +kernel
theorem d_X_filled_43 : decode m_X_filled.2.1 43 = .ok (.goto (-35), 3) := by decide +kernel
theorem d_X_filled_46 : decode m_X_filled.2.1 46 = .ok (.iload_n 1, 1) := by decide +kernel
theorem d_X_filled_47 : decode m_X_filled.2.1 47 = .ok (.iconst (-1), 1) := by decide +kernel
theorem d_X_filled_48 : decode m_X_filled.2.1 48 = .ok (.if_icmp .ne 5, 3) := by decide +kernel
theorem d_X_filled_51 : decode m_X_filled.2.1 51 = .ok (.iload_n 2, 1) := by decide +kernel
theorem d_X_filled_52 : decode m_X_filled.2.1 52 = .ok (.ireturn, 1) := by decide +kernel
theorem d_X_filled_53 : decode m_X_filled.2.1 53 = .ok (.iload_n 3, 1) := by decide +kernel
theorem d_X_filled_54 : decode m_X_filled.2.1 54 = .ok (.ifCond .lt 26, 3) := by decide +kernel
theorem d_X_filled_57 : decode m_X_filled.2.1 57 = .ok (.iload_n 1, 1) := by decide +kernel
theorem d_X_filled_58 : decode m_X_filled.2.1 58 = .ok (.iconst 0, 1) := by decide +kernel
theorem d_X_filled_59 : decode m_X_filled.2.1 59 = .ok (.aload_n 0, 1) := by decide +kernel
theorem d_X_filled_60 : decode m_X_filled.2.1 60 = .ok (.invokevirtual 135, 3) := by decide +kernel
theorem d_X_filled_63 : decode m_X_filled.2.1 63 = .ok (.iconst 1, 1) := by decide +kernel
theorem d_X_filled_64 : decode m_X_filled.2.1 64 = .ok (.isub, 1) := by decide +kernel
theorem d_X_filled_65 : decode m_X_filled.2.1 65 = .ok (.invokestatic 66, 3) := by decide +kernel
theorem d_X_filled_68 : decode m_X_filled.2.1 68 = .ok (.ifCond .eq 12, 3) := by decide +kernel
theorem d_X_filled_71 : decode m_X_filled.2.1 71 = .ok (.aload_n 0, 1) := by decide +kernel
theorem d_X_filled_72 : decode m_X_filled.2.1 72 = .ok (.iload_n 3, 1) := by decide +kernel
theorem d_X_filled_73 : decode m_X_filled.2.1 73 = .ok (.iload_n 1, 1) := by decide +kernel
theorem d_X_filled_74 : decode m_X_filled.2.1 74 = .ok (.invokevirtual 138, 3) := by decide +kernel
theorem d_X_filled_77 : decode m_X_filled.2.1 77 = .ok (.goto 5, 3) := by decide +kernel
theorem d_X_filled_80 : decode m_X_filled.2.1 80 = .ok (.bipush (-6), 2) := by decide +kernel
theorem d_X_filled_82 : decode m_X_filled.2.1 82 = .ok (.ireturn, 1) := by decide +kernel
theorem d_X_forget_0 : decode m_X_forget.2.1 0 = .ok (.aload_n 0, 1) := by decide +kernel
theorem d_X_forget_1 : decode m_X_forget.2.1 1 = .ok (.getfield 80, 3) := by decide +kernel
theorem d_X_forget_4 : decode m_X_forget.2.1 4 = .ok (.istore_n 1, 1) := by decide +kernel
theorem d_X_forget_5 : decode m_X_forget.2.1 5 = .ok (.aload_n 0, 1) := by decide +kernel
theorem d_X_forget_6 : decode m_X_forget.2.1 6 = .ok (.iconst 0, 1) := by decide +kernel
theorem d_X_forget_7 : decode m_X_forget.2.1 7 = .ok (.putfield 80, 3) := by decide +kernel
theorem d_X_forget_10 : decode m_X_forget.2.1 10 = .ok (.iload_n 1, 1) := by decide +kernel
theorem d_X_forget_11 : decode m_X_forget.2.1 11 = .ok (.ireturn, 1) := by decide +kernel
theorem d_X_has_0 : decode m_X_has.2.1 0 = .ok (.iload_n 0, 1) := by decide +kernel
theorem d_X_has_1 : decode m_X_has.2.1 1 = .ok (.iload_n 1, 1) := by decide +kernel
theorem d_X_has_2 : decode m_X_has.2.1 2 = .ok (.ishr, 1) := by decide +kernel
theorem d_X_has_3 : decode m_X_has.2.1 3 = .ok (.iconst 1, 1) := by decide +kernel
theorem d_X_has_4 : decode m_X_has.2.1 4 = .ok (.iand, 1) := by decide +kernel
theorem d_X_has_5 : decode m_X_has.2.1 5 = .ok (.iconst 1, 1) := by decide +kernel
theorem d_X_has_6 : decode m_X_has.2.1 6 = .ok (.if_icmp .ne 7, 3) := by decide +kernel
theorem d_X_has_9 : decode m_X_has.2.1 9 = .ok (.iconst 1, 1) := by decide +kernel
theorem d_X_has_10 : decode m_X_has.2.1 10 = .ok (.goto 4, 3) := by decide +kernel
theorem d_X_has_13 : decode m_X_has.2.1 13 = .ok (.iconst 0, 1) := by decide +kernel
theorem d_X_has_14 : decode m_X_has.2.1 14 = .ok (.ireturn, 1) := by decide +kernel
theorem d_X_image_0 : decode m_X_image.2.1 0 = .ok (.iload_n 1, 1) := by decide +kernel
theorem d_X_image_1 : decode m_X_image.2.1 1 = .ok (.iconst 0, 1) := by decide +kernel
theorem d_X_image_2 : decode m_X_image.2.1 2 = .ok (.iconst 1, 1) := by decide +kernel
theorem d_X_image_3 : decode m_X_image.2.1 3 = .ok (.invokestatic 66, 3) := by decide +kernel
theorem d_X_image_6 : decode m_X_image.2.1 6 = .ok (.ifCond .ne 6, 3) := by decide +kernel
theorem d_X_image_9 : decode m_X_image.2.1 9 = .ok (.bipush (-2), 2) := by decide +kernel
theorem d_X_image_11 : decode m_X_image.2.1 11 = .ok (.ireturn, 1) := by decide +kernel
theorem d_X_image_12 : decode m_X_image.2.1 12 = .ok (.bipush 84, 2) := by decide +kernel
theorem d_X_image_14 : decode m_X_image.2.1 14 = .ok (.iload_n 1, 1) := by decide +kernel
theorem d_X_image_15 : decode m_X_image.2.1 15 = .ok (.imul, 1) := by decide +kernel
theorem d_X_image_16 : decode m_X_image.2.1 16 = .ok (.istore_n 2, 1) := by decide +kernel
theorem d_X_image_17 : decode m_X_image.2.1 17 = .ok (.iconst 0, 1) := by decide +kernel
theorem d_X_image_18 : decode m_X_image.2.1 18 = .ok (.istore_n 3, 1) := by decide +kernel
theorem d_X_image_19 : decode m_X_image.2.1 19 = .ok (.iload_n 3, 1) := by decide +kernel
theorem d_X_image_20 : decode m_X_image.2.1 20 = .ok (.bipush 50, 2) := by decide +kernel
theorem d_X_image_22 : decode m_X_image.2.1 22 = .ok (.if_icmp .ge 23, 3) := by decide +kernel
theorem d_X_image_25 : decode m_X_image.2.1 25 = .ok (.aload_n 0, 1) := by decide +kernel
theorem d_X_image_26 : decode m_X_image.2.1 26 = .ok (.getfield 59, 3) := by decide +kernel
theorem d_X_image_29 : decode m_X_image.2.1 29 = .ok (.iload_n 2, 1) := by decide +kernel
theorem d_X_image_30 : decode m_X_image.2.1 30 = .ok (.iload_n 3, 1) := by decide +kernel
theorem d_X_image_31 : decode m_X_image.2.1 31 = .ok (.iadd, 1) := by decide +kernel
theorem d_X_image_32 : decode m_X_image.2.1 32 = .ok (.aload_n 0, 1) := by decide +kernel
theorem d_X_image_33 : decode m_X_image.2.1 33 = .ok (.getfield 23, 3) := by decide +kernel
theorem d_X_image_36 : decode m_X_image.2.1 36 = .ok (.iload_n 3, 1) := by decide +kernel
theorem d_X_image_37 : decode m_X_image.2.1 37 = .ok (.iaload, 1) := by decide +kernel
theorem d_X_image_38 : decode m_X_image.2.1 38 = .ok (.iastore, 1) := by decide +kernel
theorem d_X_image_39 : decode m_X_image.2.1 39 = .ok (.iinc 3 1, 3) := by decide +kernel
theorem d_X_image_42 : decode m_X_image.2.1 42 = .ok (.goto (-23), 3) := by decide +kernel
theorem d_X_image_45 : decode m_X_image.2.1 45 = .ok (.iconst 0, 1) := by decide +kernel
theorem d_X_image_46 : decode m_X_image.2.1 46 = .ok (.istore_n 3, 1) := by decide +kernel
theorem d_X_image_47 : decode m_X_image.2.1 47 = .ok (.iload_n 3, 1) := by decide +kernel
theorem d_X_image_48 : decode m_X_image.2.1 48 = .ok (.bipush 10, 2) := by decide +kernel
theorem d_X_image_50 : decode m_X_image.2.1 50 = .ok (.if_icmp .ge 26, 3) := by decide +kernel
theorem d_X_image_53 : decode m_X_image.2.1 53 = .ok (.aload_n 0, 1) := by decide +kernel
theorem d_X_image_54 : decode m_X_image.2.1 54 = .ok (.getfield 59, 3) := by decide +kernel
theorem d_X_image_57 : decode m_X_image.2.1 57 = .ok (.iload_n 2, 1) := by decide +kernel
theorem d_X_image_58 : decode m_X_image.2.1 58 = .ok (.bipush 50, 2) := by decide +kernel
theorem d_X_image_60 : decode m_X_image.2.1 60 = .ok (.iadd, 1) := by decide +kernel
theorem d_X_image_61 : decode m_X_image.2.1 61 = .ok (.iload_n 3, 1) := by decide +kernel
theorem d_X_image_62 : decode m_X_image.2.1 62 = .ok (.iadd, 1) := by decide +kernel
theorem d_X_image_63 : decode m_X_image.2.1 63 = .ok (.aload_n 0, 1) := by decide +kernel
theorem d_X_image_64 : decode m_X_image.2.1 64 = .ok (.getfield 26, 3) := by decide +kernel
theorem d_X_image_67 : decode m_X_image.2.1 67 = .ok (.iload_n 3, 1) := by decide +kernel
theorem d_X_image_68 : decode m_X_image.2.1 68 = .ok (.iaload, 1) := by decide +kernel
theorem d_X_image_69 : decode m_X_image.2.1 69 = .ok (.iastore, 1) := by decide +kernel
theorem d_X_image_70 : decode m_X_image.2.1 70 = .ok (.iinc 3 1, 3) := by decide +kernel
theorem d_X_image_73 : decode m_X_image.2.1 73 = .ok (.goto (-26), 3) := by decide +kernel
theorem d_X_image_76 : decode m_X_image.2.1 76 = .ok (.iconst 0, 1) := by decide +kernel
theorem d_X_image_77 : decode m_X_image.2.1 77 = .ok (.istore_n 3, 1) := by decide +kernel
theorem d_X_image_78 : decode m_X_image.2.1 78 = .ok (.iload_n 3, 1) := by decide +kernel
theorem d_X_image_79 : decode m_X_image.2.1 79 = .ok (.bipush 12, 2) := by decide +kernel
theorem d_X_image_81 : decode m_X_image.2.1 81 = .ok (.if_icmp .ge 26, 3) := by decide +kernel
theorem d_X_image_84 : decode m_X_image.2.1 84 = .ok (.aload_n 0, 1) := by decide +kernel
theorem d_X_image_85 : decode m_X_image.2.1 85 = .ok (.getfield 59, 3) := by decide +kernel
theorem d_X_image_88 : decode m_X_image.2.1 88 = .ok (.iload_n 2, 1) := by decide +kernel
theorem d_X_image_89 : decode m_X_image.2.1 89 = .ok (.bipush 60, 2) := by decide +kernel
theorem d_X_image_91 : decode m_X_image.2.1 91 = .ok (.iadd, 1) := by decide +kernel
theorem d_X_image_92 : decode m_X_image.2.1 92 = .ok (.iload_n 3, 1) := by decide +kernel
theorem d_X_image_93 : decode m_X_image.2.1 93 = .ok (.iadd, 1) := by decide +kernel
theorem d_X_image_94 : decode m_X_image.2.1 94 = .ok (.aload_n 0, 1) := by decide +kernel
theorem d_X_image_95 : decode m_X_image.2.1 95 = .ok (.getfield 29, 3) := by decide +kernel
theorem d_X_image_98 : decode m_X_image.2.1 98 = .ok (.iload_n 3, 1) := by decide +kernel
theorem d_X_image_99 : decode m_X_image.2.1 99 = .ok (.iaload, 1) := by decide +kernel
theorem d_X_image_100 : decode m_X_image.2.1 100 = .ok (.iastore, 1) := by decide +kernel
theorem d_X_image_101 : decode m_X_image.2.1 101 = .ok (.iinc 3 1, 3) := by decide +kernel
theorem d_X_image_104 : decode m_X_image.2.1 104 = .ok (.goto (-26), 3) := by decide +kernel
theorem d_X_image_107 : decode m_X_image.2.1 107 = .ok (.iconst 0, 1) := by decide +kernel
theorem d_X_image_108 : decode m_X_image.2.1 108 = .ok (.istore_n 3, 1) := by decide +kernel
theorem d_X_image_109 : decode m_X_image.2.1 109 = .ok (.iload_n 3, 1) := by decide +kernel
theorem d_X_image_110 : decode m_X_image.2.1 110 = .ok (.bipush 6, 2) := by decide +kernel
theorem d_X_image_112 : decode m_X_image.2.1 112 = .ok (.if_icmp .ge 26, 3) := by decide +kernel
theorem d_X_image_115 : decode m_X_image.2.1 115 = .ok (.aload_n 0, 1) := by decide +kernel
theorem d_X_image_116 : decode m_X_image.2.1 116 = .ok (.getfield 59, 3) := by decide +kernel
theorem d_X_image_119 : decode m_X_image.2.1 119 = .ok (.iload_n 2, 1) := by decide +kernel
theorem d_X_image_120 : decode m_X_image.2.1 120 = .ok (.bipush 72, 2) := by decide +kernel
theorem d_X_image_122 : decode m_X_image.2.1 122 = .ok (.iadd, 1) := by decide +kernel
theorem d_X_image_123 : decode m_X_image.2.1 123 = .ok (.iload_n 3, 1) := by decide +kernel
theorem d_X_image_124 : decode m_X_image.2.1 124 = .ok (.iadd, 1) := by decide +kernel
theorem d_X_image_125 : decode m_X_image.2.1 125 = .ok (.aload_n 0, 1) := by decide +kernel
theorem d_X_image_126 : decode m_X_image.2.1 126 = .ok (.getfield 16, 3) := by decide +kernel
theorem d_X_image_129 : decode m_X_image.2.1 129 = .ok (.iload_n 3, 1) := by decide +kernel
theorem d_X_image_130 : decode m_X_image.2.1 130 = .ok (.iaload, 1) := by decide +kernel
theorem d_X_image_131 : decode m_X_image.2.1 131 = .ok (.iastore, 1) := by decide +kernel
theorem d_X_image_132 : decode m_X_image.2.1 132 = .ok (.iinc 3 1, 3) := by decide +kernel
theorem d_X_image_135 : decode m_X_image.2.1 135 = .ok (.goto (-26), 3) := by decide +kernel
theorem d_X_image_138 : decode m_X_image.2.1 138 = .ok (.aload_n 0, 1) := by decide +kernel
theorem d_X_image_139 : decode m_X_image.2.1 139 = .ok (.getfield 59, 3) := by decide +kernel
theorem d_X_image_142 : decode m_X_image.2.1 142 = .ok (.iload_n 2, 1) := by decide +kernel
theorem d_X_image_143 : decode m_X_image.2.1 143 = .ok (.bipush 78, 2) := by decide +kernel
theorem d_X_image_145 : decode m_X_image.2.1 145 = .ok (.iadd, 1) := by decide +kernel
theorem d_X_image_146 : decode m_X_image.2.1 146 = .ok (.aload_n 0, 1) := by decide +kernel
theorem d_X_image_147 : decode m_X_image.2.1 147 = .ok (.getfield 70, 3) := by decide +kernel
theorem d_X_image_150 : decode m_X_image.2.1 150 = .ok (.iastore, 1) := by decide +kernel
theorem d_X_image_151 : decode m_X_image.2.1 151 = .ok (.aload_n 0, 1) := by decide +kernel
theorem d_X_image_152 : decode m_X_image.2.1 152 = .ok (.getfield 59, 3) := by decide +kernel
theorem d_X_image_155 : decode m_X_image.2.1 155 = .ok (.iload_n 2, 1) := by decide +kernel
theorem d_X_image_156 : decode m_X_image.2.1 156 = .ok (.bipush 79, 2) := by decide +kernel
theorem d_X_image_158 : decode m_X_image.2.1 158 = .ok (.iadd, 1) := by decide +kernel
theorem d_X_image_159 : decode m_X_image.2.1 159 = .ok (.aload_n 0, 1) := by decide +kernel
theorem d_X_image_160 : decode m_X_image.2.1 160 = .ok (.getfield 80, 3) := by decide +kernel
theorem d_X_image_163 : decode m_X_image.2.1 163 = .ok (.iastore, 1) := by decide +kernel
theorem d_X_image_164 : decode m_X_image.2.1 164 = .ok (.aload_n 0, 1) := by decide +kernel
theorem d_X_image_165 : decode m_X_image.2.1 165 = .ok (.getfield 59, 3) := by decide +kernel
theorem d_X_image_168 : decode m_X_image.2.1 168 = .ok (.iload_n 2, 1) := by decide +kernel
theorem d_X_image_169 : decode m_X_image.2.1 169 = .ok (.bipush 80, 2) := by decide +kernel
theorem d_X_image_171 : decode m_X_image.2.1 171 = .ok (.iadd, 1) := by decide +kernel
theorem d_X_image_172 : decode m_X_image.2.1 172 = .ok (.aload_n 0, 1) := by decide +kernel
theorem d_X_image_173 : decode m_X_image.2.1 173 = .ok (.getfield 7, 3) := by decide +kernel
theorem d_X_image_176 : decode m_X_image.2.1 176 = .ok (.iastore, 1) := by decide +kernel
theorem d_X_image_177 : decode m_X_image.2.1 177 = .ok (.aload_n 0, 1) := by decide +kernel
theorem d_X_image_178 : decode m_X_image.2.1 178 = .ok (.getfield 59, 3) := by decide +kernel
theorem d_X_image_181 : decode m_X_image.2.1 181 = .ok (.iload_n 2, 1) := by decide +kernel
theorem d_X_image_182 : decode m_X_image.2.1 182 = .ok (.bipush 81, 2) := by decide +kernel
theorem d_X_image_184 : decode m_X_image.2.1 184 = .ok (.iadd, 1) := by decide +kernel
theorem d_X_image_185 : decode m_X_image.2.1 185 = .ok (.aload_n 0, 1) := by decide +kernel
theorem d_X_image_186 : decode m_X_image.2.1 186 = .ok (.getfield 90, 3) := by decide +kernel
theorem d_X_image_189 : decode m_X_image.2.1 189 = .ok (.iastore, 1) := by decide +kernel
theorem d_X_image_190 : decode m_X_image.2.1 190 = .ok (.aload_n 0, 1) := by decide +kernel
theorem d_X_image_191 : decode m_X_image.2.1 191 = .ok (.getfield 59, 3) := by decide +kernel
theorem d_X_image_194 : decode m_X_image.2.1 194 = .ok (.iload_n 2, 1) := by decide +kernel
theorem d_X_image_195 : decode m_X_image.2.1 195 = .ok (.bipush 82, 2) := by decide +kernel
theorem d_X_image_197 : decode m_X_image.2.1 197 = .ok (.iadd, 1) := by decide +kernel
theorem d_X_image_198 : decode m_X_image.2.1 198 = .ok (.aload_n 0, 1) := by decide +kernel
theorem d_X_image_199 : decode m_X_image.2.1 199 = .ok (.getfield 13, 3) := by decide +kernel
theorem d_X_image_202 : decode m_X_image.2.1 202 = .ok (.iastore, 1) := by decide +kernel
theorem d_X_image_203 : decode m_X_image.2.1 203 = .ok (.aload_n 0, 1) := by decide +kernel
theorem d_X_image_204 : decode m_X_image.2.1 204 = .ok (.getfield 62, 3) := by decide +kernel
theorem d_X_image_207 : decode m_X_image.2.1 207 = .ok (.iload_n 1, 1) := by decide +kernel
theorem d_X_image_208 : decode m_X_image.2.1 208 = .ok (.iconst 1, 1) := by decide +kernel
theorem d_X_image_209 : decode m_X_image.2.1 209 = .ok (.bastore, 1) := by decide +kernel
theorem d_X_image_210 : decode m_X_image.2.1 210 = .ok (.iconst 1, 1) := by decide +kernel
theorem d_X_image_211 : decode m_X_image.2.1 211 = .ok (.ireturn, 1) := by decide +kernel
theorem d_X_in_0 : decode m_X_in.2.1 0 = .ok (.iload_n 0, 1) := by decide +kernel
theorem d_X_in_1 : decode m_X_in.2.1 1 = .ok (.iload_n 1, 1) := by decide +kernel
theorem d_X_in_2 : decode m_X_in.2.1 2 = .ok (.if_icmp .lt 12, 3) := by decide +kernel
theorem d_X_in_5 : decode m_X_in.2.1 5 = .ok (.iload_n 0, 1) := by decide +kernel
theorem d_X_in_6 : decode m_X_in.2.1 6 = .ok (.iload_n 2, 1) := by decide +kernel
theorem d_X_in_7 : decode m_X_in.2.1 7 = .ok (.if_icmp .gt 7, 3) := by decide +kernel
theorem d_X_in_10 : decode m_X_in.2.1 10 = .ok (.iconst 1, 1) := by decide +kernel
theorem d_X_in_11 : decode m_X_in.2.1 11 = .ok (.goto 4, 3) := by decide +kernel
theorem d_X_in_14 : decode m_X_in.2.1 14 = .ok (.iconst 0, 1) := by decide +kernel
theorem d_X_in_15 : decode m_X_in.2.1 15 = .ok (.ireturn, 1) := by decide +kernel
theorem d_X_init_0 : decode m_X_init.2.1 0 = .ok (.aload_n 0, 1) := by decide +kernel
theorem d_X_init_1 : decode m_X_init.2.1 1 = .ok (.invokespecial 1, 3) := by decide +kernel
theorem d_X_init_4 : decode m_X_init.2.1 4 = .ok (.aload_n 0, 1) := by decide +kernel
theorem d_X_init_5 : decode m_X_init.2.1 5 = .ok (.iconst 2, 1) := by decide +kernel
theorem d_X_init_6 : decode m_X_init.2.1 6 = .ok (.putfield 7, 3) := by decide +kernel
theorem d_X_init_9 : decode m_X_init.2.1 9 = .ok (.aload_n 0, 1) := by decide +kernel
theorem d_X_init_10 : decode m_X_init.2.1 10 = .ok (.iconst 1, 1) := by decide +kernel
theorem d_X_init_11 : decode m_X_init.2.1 11 = .ok (.putfield 13, 3) := by decide +kernel
theorem d_X_init_14 : decode m_X_init.2.1 14 = .ok (.aload_n 0, 1) := by decide +kernel
theorem d_X_init_15 : decode m_X_init.2.1 15 = .ok (.bipush 6, 2) := by decide +kernel
theorem d_X_init_17 : decode m_X_init.2.1 17 = .ok (.newarray .int, 2) := by decide +kernel
theorem d_X_init_19 : decode m_X_init.2.1 19 = .ok (.putfield 16, 3) := by decide +kernel
theorem d_X_init_22 : decode m_X_init.2.1 22 = .ok (.aload_n 0, 1) := by decide +kernel
theorem d_X_init_23 : decode m_X_init.2.1 23 = .ok (.bipush 60, 2) := by decide +kernel
theorem d_X_init_25 : decode m_X_init.2.1 25 = .ok (.newarray .int, 2) := by decide +kernel
theorem d_X_init_27 : decode m_X_init.2.1 27 = .ok (.putfield 20, 3) := by decide +kernel
theorem d_X_init_30 : decode m_X_init.2.1 30 = .ok (.aload_n 0, 1) := by decide +kernel
theorem d_X_init_31 : decode m_X_init.2.1 31 = .ok (.bipush 50, 2) := by decide +kernel
theorem d_X_init_33 : decode m_X_init.2.1 33 = .ok (.newarray .int, 2) := by decide +kernel
theorem d_X_init_35 : decode m_X_init.2.1 35 = .ok (.putfield 23, 3) := by decide +kernel
theorem d_X_init_38 : decode m_X_init.2.1 38 = .ok (.aload_n 0, 1) := by decide +kernel
theorem d_X_init_39 : decode m_X_init.2.1 39 = .ok (.bipush 10, 2) := by decide +kernel
theorem d_X_init_41 : decode m_X_init.2.1 41 = .ok (.newarray .int, 2) := by decide +kernel
theorem d_X_init_43 : decode m_X_init.2.1 43 = .ok (.putfield 26, 3) := by decide +kernel
theorem d_X_init_46 : decode m_X_init.2.1 46 = .ok (.aload_n 0, 1) := by decide +kernel
theorem d_X_init_47 : decode m_X_init.2.1 47 = .ok (.bipush 12, 2) := by decide +kernel
theorem d_X_init_49 : decode m_X_init.2.1 49 = .ok (.newarray .int, 2) := by decide +kernel
theorem d_X_init_51 : decode m_X_init.2.1 51 = .ok (.putfield 29, 3) := by decide +kernel
theorem d_X_init_54 : decode m_X_init.2.1 54 = .ok (.aload_n 0, 1) := by decide +kernel
theorem d_X_init_55 : decode m_X_init.2.1 55 = .ok (.bipush 10, 2) := by decide +kernel
theorem d_X_init_57 : decode m_X_init.2.1 57 = .ok (.newarray .int, 2) := by decide +kernel
theorem d_X_init_59 : decode m_X_init.2.1 59 = .ok (.putfield 32, 3) := by decide +kernel
theorem d_X_init_62 : decode m_X_init.2.1 62 = .ok (.aload_n 0, 1) := by decide +kernel
theorem d_X_init_63 : decode m_X_init.2.1 63 = .ok (.bipush 10, 2) := by decide +kernel
theorem d_X_init_65 : decode m_X_init.2.1 65 = .ok (.newarray .int, 2) := by decide +kernel
theorem d_X_init_67 : decode m_X_init.2.1 67 = .ok (.putfield 35, 3) := by decide +kernel
theorem d_X_init_70 : decode m_X_init.2.1 70 = .ok (.aload_n 0, 1) := by decide +kernel
theorem d_X_init_71 : decode m_X_init.2.1 71 = .ok (.bipush 10, 2) := by decide +kernel
theorem d_X_init_73 : decode m_X_init.2.1 73 = .ok (.newarray .int, 2) := by decide +kernel
theorem d_X_init_75 : decode m_X_init.2.1 75 = .ok (.putfield 38, 3) := by decide +kernel
theorem d_X_init_78 : decode m_X_init.2.1 78 = .ok (.aload_n 0, 1) := by decide +kernel
theorem d_X_init_79 : decode m_X_init.2.1 79 = .ok (.bipush 6, 2) := by decide +kernel
theorem d_X_init_81 : decode m_X_init.2.1 81 = .ok (.newarray .int, 2) := by decide +kernel
theorem d_X_init_83 : decode m_X_init.2.1 83 = .ok (.putfield 41, 3) := by decide +kernel
theorem d_X_init_86 : decode m_X_init.2.1 86 = .ok (.aload_n 0, 1) := by decide +kernel
theorem d_X_init_87 : decode m_X_init.2.1 87 = .ok (.bipush 6, 2) := by decide +kernel
theorem d_X_init_89 : decode m_X_init.2.1 89 = .ok (.newarray .int, 2) := by decide +kernel
theorem d_X_init_91 : decode m_X_init.2.1 91 = .ok (.putfield 44, 3) := by decide +kernel
theorem d_X_init_94 : decode m_X_init.2.1 94 = .ok (.aload_n 0, 1) := by decide +kernel
theorem d_X_init_95 : decode m_X_init.2.1 95 = .ok (.bipush 6, 2) := by decide +kernel
theorem d_X_init_97 : decode m_X_init.2.1 97 = .ok (.newarray .int, 2) := by decide +kernel
theorem d_X_init_99 : decode m_X_init.2.1 99 = .ok (.putfield 47, 3) := by decide +kernel
theorem d_X_init_102 : decode m_X_init.2.1 102 = .ok (.aload_n 0, 1) := by decide +kernel
theorem d_X_init_103 : decode m_X_init.2.1 103 = .ok (.bipush 10, 2) := by decide +kernel
theorem d_X_init_105 : decode m_X_init.2.1 105 = .ok (.newarray .int, 2) := by decide +kernel
theorem d_X_init_107 : decode m_X_init.2.1 107 = .ok (.putfield 50, 3) := by decide +kernel
theorem d_X_init_110 : decode m_X_init.2.1 110 = .ok (.aload_n 0, 1) := by decide +kernel
theorem d_X_init_111 : decode m_X_init.2.1 111 = .ok (.bipush 6, 2) := by decide +kernel
theorem d_X_init_113 : decode m_X_init.2.1 113 = .ok (.newarray .int, 2) := by decide +kernel
theorem d_X_init_115 : decode m_X_init.2.1 115 = .ok (.putfield 53, 3) := by decide +kernel
theorem d_X_init_118 : decode m_X_init.2.1 118 = .ok (.aload_n 0, 1) := by decide +kernel
theorem d_X_init_119 : decode m_X_init.2.1 119 = .ok (.bipush 6, 2) := by decide +kernel
theorem d_X_init_121 : decode m_X_init.2.1 121 = .ok (.newarray .int, 2) := by decide +kernel
theorem d_X_init_123 : decode m_X_init.2.1 123 = .ok (.putfield 56, 3) := by decide +kernel
theorem d_X_init_126 : decode m_X_init.2.1 126 = .ok (.aload_n 0, 1) := by decide +kernel
theorem d_X_init_127 : decode m_X_init.2.1 127 = .ok (.sipush 168, 3) := by decide +kernel
theorem d_X_init_130 : decode m_X_init.2.1 130 = .ok (.newarray .int, 2) := by decide +kernel
theorem d_X_init_132 : decode m_X_init.2.1 132 = .ok (.putfield 59, 3) := by decide +kernel
theorem d_X_init_135 : decode m_X_init.2.1 135 = .ok (.aload_n 0, 1) := by decide +kernel
theorem d_X_init_136 : decode m_X_init.2.1 136 = .ok (.iconst 2, 1) := by decide +kernel
theorem d_X_init_137 : decode m_X_init.2.1 137 = .ok (.newarray .boolean, 2) := by decide +kernel
theorem d_X_init_139 : decode m_X_init.2.1 139 = .ok (.putfield 62, 3) := by decide +kernel
theorem d_X_init_142 : decode m_X_init.2.1 142 = .ok (.iconst 0, 1) := by decide +kernel
theorem d_X_init_143 : decode m_X_init.2.1 143 = .ok (.istore_n 1, 1) := by decide +kernel
theorem d_X_init_144 : decode m_X_init.2.1 144 = .ok (.iload_n 1, 1) := by decide +kernel
theorem d_X_init_145 : decode m_X_init.2.1 145 = .ok (.bipush 6, 2) := by decide +kernel
theorem d_X_init_147 : decode m_X_init.2.1 147 = .ok (.if_icmp .ge 17, 3) := by decide +kernel
theorem d_X_init_150 : decode m_X_init.2.1 150 = .ok (.aload_n 0, 1) := by decide +kernel
theorem d_X_init_151 : decode m_X_init.2.1 151 = .ok (.getfield 16, 3) := by decide +kernel
theorem d_X_init_154 : decode m_X_init.2.1 154 = .ok (.iload_n 1, 1) := by decide +kernel
theorem d_X_init_155 : decode m_X_init.2.1 155 = .ok (.bipush (-6), 2) := by decide +kernel
theorem d_X_init_157 : decode m_X_init.2.1 157 = .ok (.iastore, 1) := by decide +kernel
theorem d_X_init_158 : decode m_X_init.2.1 158 = .ok (.iinc 1 1, 3) := by decide +kernel
theorem d_X_init_161 : decode m_X_init.2.1 161 = .ok (.goto (-17), 3) := by decide +kernel
theorem d_X_init_164 : decode m_X_init.2.1 164 = .ok (.return_, 1) := by decide +kernel
theorem d_X_isMan_0 : decode m_X_isMan.2.1 0 = .ok (.iload_n 0, 1) := by decide +kernel
theorem d_X_isMan_1 : decode m_X_isMan.2.1 1 = .ok (.iconst 0, 1) := by decide +kernel
theorem d_X_isMan_2 : decode m_X_isMan.2.1 2 = .ok (.iconst 5, 1) := by decide +kernel
theorem d_X_isMan_3 : decode m_X_isMan.2.1 3 = .ok (.invokestatic 66, 3) := by decide +kernel
theorem d_X_isMan_6 : decode m_X_isMan.2.1 6 = .ok (.ireturn, 1) := by decide +kernel
theorem d_X_isThing_0 : decode m_X_isThing.2.1 0 = .ok (.iload_n 1, 1) := by decide +kernel
theorem d_X_isThing_1 : decode m_X_isThing.2.1 1 = .ok (.iconst 0, 1) := by decide +kernel
theorem d_X_isThing_2 : decode m_X_isThing.2.1 2 = .ok (.aload_n 0, 1) := by decide +kernel
theorem d_X_isThing_3 : decode m_X_isThing.2.1 3 = .ok (.getfield 70, 3) := by decide +kernel
theorem d_X_isThing_6 : decode m_X_isThing.2.1 6 = .ok (.iconst 1, 1) := by decide +kernel
theorem d_X_isThing_7 : decode m_X_isThing.2.1 7 = .ok (.isub, 1) := by decide +kernel
theorem d_X_isThing_8 : decode m_X_isThing.2.1 8 = .ok (.invokestatic 66, 3) := by decide +kernel
theorem d_X_isThing_11 : decode m_X_isThing.2.1 11 = .ok (.ireturn, 1) := by decide +kernel
theorem d_X_join_0 : decode m_X_join.2.1 0 = .ok (.iload_n 1, 1) := by decide +kernel
theorem d_X_join_1 : decode m_X_join.2.1 1 = .ok (.invokestatic 87, 3) := by decide +kernel
theorem d_X_join_4 : decode m_X_join.2.1 4 = .ok (.ifCond .eq 15, 3) := by decide +kernel
theorem d_X_join_7 : decode m_X_join.2.1 7 = .ok (.iload_n 2, 1) := by decide +kernel
theorem d_X_join_8 : decode m_X_join.2.1 8 = .ok (.invokestatic 87, 3) := by decide +kernel
theorem d_X_join_11 : decode m_X_join.2.1 11 = .ok (.ifCond .eq 8, 3) := by decide +kernel
theorem d_X_join_14 : decode m_X_join.2.1 14 = .ok (.iload_n 1, 1) := by decide +kernel
theorem d_X_join_15 : decode m_X_join.2.1 15 = .ok (.iload_n 2, 1) := by decide +kernel
theorem d_X_join_16 : decode m_X_join.2.1 16 = .ok (.if_icmp .ne 5, 3) := by decide +kernel
theorem d_X_join_19 : decode m_X_join.2.1 19 = .ok (.iconst (-1), 1) := by decide +kernel
theorem d_X_join_20 : decode m_X_join.2.1 20 = .ok (.ireturn, 1) := by decide +kernel
theorem d_X_join_21 : decode m_X_join.2.1 21 = .ok (.aload_n 0, 1) := by decide +kernel
theorem d_X_join_22 : decode m_X_join.2.1 22 = .ok (.getfield 16, 3) := by decide +kernel
theorem d_X_join_25 : decode m_X_join.2.1 25 = .ok (.iload_n 1, 1) := by decide +kernel
theorem d_X_join_26 : decode m_X_join.2.1 26 = .ok (.iaload, 1) := by decide +kernel
theorem d_X_join_27 : decode m_X_join.2.1 27 = .ok (.ifCond .ge 12, 3) := by decide +kernel
theorem d_X_join_30 : decode m_X_join.2.1 30 = .ok (.aload_n 0, 1) := by decide +kernel
theorem d_X_join_31 : decode m_X_join.2.1 31 = .ok (.getfield 16, 3) := by decide +kernel
theorem d_X_join_34 : decode m_X_join.2.1 34 = .ok (.iload_n 2, 1) := by decide +kernel
theorem d_X_join_35 : decode m_X_join.2.1 35 = .ok (.iaload, 1) := by decide +kernel
theorem d_X_join_36 : decode m_X_join.2.1 36 = .ok (.ifCond .lt 6, 3) := by decide +kernel
theorem d_X_join_39 : decode m_X_join.2.1 39 = .ok (.bipush (-3), 2) := by decide +kernel
theorem d_X_join_41 : decode m_X_join.2.1 41 = .ok (.ireturn, 1) := by decide +kernel
theorem d_X_join_42 : decode m_X_join.2.1 42 = .ok (.aload_n 0, 1) := by decide +kernel
theorem d_X_join_43 : decode m_X_join.2.1 43 = .ok (.getfield 16, 3) := by decide +kernel
theorem d_X_join_46 : decode m_X_join.2.1 46 = .ok (.iload_n 1, 1) := by decide +kernel
theorem d_X_join_47 : decode m_X_join.2.1 47 = .ok (.iload_n 2, 1) := by decide +kernel
theorem d_X_join_48 : decode m_X_join.2.1 48 = .ok (.iastore, 1) := by decide +kernel
theorem d_X_join_49 : decode m_X_join.2.1 49 = .ok (.aload_n 0, 1) := by decide +kernel
theorem d_X_join_50 : decode m_X_join.2.1 50 = .ok (.getfield 16, 3) := by decide +kernel
theorem d_X_join_53 : decode m_X_join.2.1 53 = .ok (.iload_n 2, 1) := by decide +kernel
theorem d_X_join_54 : decode m_X_join.2.1 54 = .ok (.iload_n 1, 1) := by decide +kernel
theorem d_X_join_55 : decode m_X_join.2.1 55 = .ok (.iastore, 1) := by decide +kernel
theorem d_X_join_56 : decode m_X_join.2.1 56 = .ok (.iconst 1, 1) := by decide +kernel
theorem d_X_join_57 : decode m_X_join.2.1 57 = .ok (.ireturn, 1) := by decide +kernel
theorem d_X_lack_0 : decode m_X_lack.2.1 0 = .ok (.aload_n 0, 1) := by decide +kernel
theorem d_X_lack_1 : decode m_X_lack.2.1 1 = .ok (.invokevirtual 147, 3) := by decide +kernel
theorem d_X_lack_4 : decode m_X_lack.2.1 4 = .ok (.iconst 1, 1) := by decide +kernel
theorem d_X_lack_5 : decode m_X_lack.2.1 5 = .ok (.istore_n 1, 1) := by decide +kernel
theorem d_X_lack_6 : decode m_X_lack.2.1 6 = .ok (.iload_n 1, 1) := by decide +kernel
theorem d_X_lack_7 : decode m_X_lack.2.1 7 = .ok (.bipush 64, 2) := by decide +kernel
theorem d_X_lack_9 : decode m_X_lack.2.1 9 = .ok (.if_icmp .ge 99, 3) := by decide +kernel
theorem d_X_lack_12 : decode m_X_lack.2.1 12 = .ok (.iconst 0, 1) := by decide +kernel
theorem d_X_lack_13 : decode m_X_lack.2.1 13 = .ok (.istore_n 2, 1) := by decide +kernel
theorem d_X_lack_14 : decode m_X_lack.2.1 14 = .ok (.iconst 0, 1) := by decide +kernel
theorem d_X_lack_15 : decode m_X_lack.2.1 15 = .ok (.istore_n 3, 1) := by decide +kernel
theorem d_X_lack_16 : decode m_X_lack.2.1 16 = .ok (.iload_n 3, 1) := by decide +kernel
theorem d_X_lack_17 : decode m_X_lack.2.1 17 = .ok (.bipush 6, 2) := by decide +kernel
theorem d_X_lack_19 : decode m_X_lack.2.1 19 = .ok (.if_icmp .ge 30, 3) := by decide +kernel
theorem d_X_lack_22 : decode m_X_lack.2.1 22 = .ok (.iload_n 2, 1) := by decide +kernel
theorem d_X_lack_23 : decode m_X_lack.2.1 23 = .ok (.iload_n 1, 1) := by decide +kernel
theorem d_X_lack_24 : decode m_X_lack.2.1 24 = .ok (.iload_n 3, 1) := by decide +kernel
theorem d_X_lack_25 : decode m_X_lack.2.1 25 = .ok (.invokestatic 98, 3) := by decide +kernel
theorem d_X_lack_28 : decode m_X_lack.2.1 28 = .ok (.ifCond .eq 12, 3) := by decide +kernel
theorem d_X_lack_31 : decode m_X_lack.2.1 31 = .ok (.aload_n 0, 1) := by decide +kernel
theorem d_X_lack_32 : decode m_X_lack.2.1 32 = .ok (.getfield 41, 3) := by decide +kernel
theorem d_X_lack_35 : decode m_X_lack.2.1 35 = .ok (.iload_n 3, 1) := by decide +kernel
theorem d_X_lack_36 : decode m_X_lack.2.1 36 = .ok (.iaload, 1) := by decide +kernel
theorem d_X_lack_37 : decode m_X_lack.2.1 37 = .ok (.goto 4, 3) := by decide +kernel
theorem d_X_lack_40 : decode m_X_lack.2.1 40 = .ok (.iconst 0, 1) := by decide +kernel
theorem d_X_lack_41 : decode m_X_lack.2.1 41 = .ok (.ior, 1) := by decide +kernel
theorem d_X_lack_42 : decode m_X_lack.2.1 42 = .ok (.istore_n 2, 1) := by decide +kernel
theorem d_X_lack_43 : decode m_X_lack.2.1 43 = .ok (.iinc 3 1, 3) := by decide +kernel
theorem d_X_lack_46 : decode m_X_lack.2.1 46 = .ok (.goto (-30), 3) := by decide +kernel
theorem d_X_lack_49 : decode m_X_lack.2.1 49 = .ok (.iconst 0, 1) := by decide +kernel
theorem d_X_lack_50 : decode m_X_lack.2.1 50 = .ok (.istore_n 3, 1) := by decide +kernel
theorem d_X_lack_51 : decode m_X_lack.2.1 51 = .ok (.iconst 0, 1) := by decide +kernel
theorem d_X_lack_52 : decode m_X_lack.2.1 52 = .ok (.istore 4, 2) := by decide +kernel
theorem d_X_lack_54 : decode m_X_lack.2.1 54 = .ok (.iload 4, 2) := by decide +kernel
theorem d_X_lack_56 : decode m_X_lack.2.1 56 = .ok (.aload_n 0, 1) := by decide +kernel
theorem d_X_lack_57 : decode m_X_lack.2.1 57 = .ok (.getfield 70, 3) := by decide +kernel
theorem d_X_lack_60 : decode m_X_lack.2.1 60 = .ok (.if_icmp .ge 32, 3) := by decide +kernel
theorem d_X_lack_63 : decode m_X_lack.2.1 63 = .ok (.iload_n 3, 1) := by decide +kernel
theorem d_X_lack_64 : decode m_X_lack.2.1 64 = .ok (.iload_n 2, 1) := by decide +kernel
theorem d_X_lack_65 : decode m_X_lack.2.1 65 = .ok (.iload 4, 2) := by decide +kernel
theorem d_X_lack_67 : decode m_X_lack.2.1 67 = .ok (.invokestatic 98, 3) := by decide +kernel
theorem d_X_lack_70 : decode m_X_lack.2.1 70 = .ok (.ifCond .eq 13, 3) := by decide +kernel
theorem d_X_lack_73 : decode m_X_lack.2.1 73 = .ok (.aload_n 0, 1) := by decide +kernel
theorem d_X_lack_74 : decode m_X_lack.2.1 74 = .ok (.getfield 26, 3) := by decide +kernel
theorem d_X_lack_77 : decode m_X_lack.2.1 77 = .ok (.iload 4, 2) := by decide +kernel
theorem d_X_lack_79 : decode m_X_lack.2.1 79 = .ok (.iaload, 1) := by decide +kernel
theorem d_X_lack_80 : decode m_X_lack.2.1 80 = .ok (.goto 4, 3) := by decide +kernel
theorem d_X_lack_83 : decode m_X_lack.2.1 83 = .ok (.iconst 0, 1) := by decide +kernel
theorem d_X_lack_84 : decode m_X_lack.2.1 84 = .ok (.iadd, 1) := by decide +kernel
theorem d_X_lack_85 : decode m_X_lack.2.1 85 = .ok (.istore_n 3, 1) := by decide +kernel
theorem d_X_lack_86 : decode m_X_lack.2.1 86 = .ok (.iinc 4 1, 3) := by decide +kernel
theorem d_X_lack_89 : decode m_X_lack.2.1 89 = .ok (.goto (-35), 3) := by decide +kernel
theorem d_X_lack_92 : decode m_X_lack.2.1 92 = .ok (.iload_n 3, 1) := by decide +kernel
theorem d_X_lack_93 : decode m_X_lack.2.1 93 = .ok (.iload_n 1, 1) := by decide +kernel
theorem d_X_lack_94 : decode m_X_lack.2.1 94 = .ok (.invokestatic 109, 3) := by decide +kernel
theorem d_X_lack_97 : decode m_X_lack.2.1 97 = .ok (.if_icmp .ge 5, 3) := by decide +kernel
theorem d_X_lack_100 : decode m_X_lack.2.1 100 = .ok (.iload_n 1, 1) := by decide +kernel
theorem d_X_lack_101 : decode m_X_lack.2.1 101 = .ok (.ireturn, 1) := by decide +kernel
theorem d_X_lack_102 : decode m_X_lack.2.1 102 = .ok (.iinc 1 1, 3) := by decide +kernel
theorem d_X_lack_105 : decode m_X_lack.2.1 105 = .ok (.goto (-99), 3) := by decide +kernel
theorem d_X_lack_108 : decode m_X_lack.2.1 108 = .ok (.bipush (-6), 2) := by decide +kernel
theorem d_X_lack_110 : decode m_X_lack.2.1 110 = .ok (.ireturn, 1) := by decide +kernel
theorem d_X_layMays_0 : decode m_X_layMays.2.1 0 = .ok (.aload_n 0, 1) := by decide +kernel
theorem d_X_layMays_1 : decode m_X_layMays.2.1 1 = .ok (.invokevirtual 116, 3) := by decide +kernel
theorem d_X_layMays_4 : decode m_X_layMays.2.1 4 = .ok (.iconst 0, 1) := by decide +kernel
theorem d_X_layMays_5 : decode m_X_layMays.2.1 5 = .ok (.istore_n 1, 1) := by decide +kernel
theorem d_X_layMays_6 : decode m_X_layMays.2.1 6 = .ok (.iload_n 1, 1) := by decide +kernel
theorem d_X_layMays_7 : decode m_X_layMays.2.1 7 = .ok (.bipush 6, 2) := by decide +kernel
theorem d_X_layMays_9 : decode m_X_layMays.2.1 9 = .ok (.if_icmp .ge 20, 3) := by decide +kernel
theorem d_X_layMays_12 : decode m_X_layMays.2.1 12 = .ok (.aload_n 0, 1) := by decide +kernel
theorem d_X_layMays_13 : decode m_X_layMays.2.1 13 = .ok (.getfield 41, 3) := by decide +kernel
theorem d_X_layMays_16 : decode m_X_layMays.2.1 16 = .ok (.iload_n 1, 1) := by decide +kernel
theorem d_X_layMays_17 : decode m_X_layMays.2.1 17 = .ok (.aload_n 0, 1) := by decide +kernel
theorem d_X_layMays_18 : decode m_X_layMays.2.1 18 = .ok (.iload_n 1, 1) := by decide +kernel
theorem d_X_layMays_19 : decode m_X_layMays.2.1 19 = .ok (.invokevirtual 125, 3) := by decide +kernel
theorem d_X_layMays_22 : decode m_X_layMays.2.1 22 = .ok (.iastore, 1) := by decide +kernel
theorem d_X_layMays_23 : decode m_X_layMays.2.1 23 = .ok (.iinc 1 1, 3) := by decide +kernel
theorem d_X_layMays_26 : decode m_X_layMays.2.1 26 = .ok (.goto (-20), 3) := by decide +kernel
theorem d_X_layMays_29 : decode m_X_layMays.2.1 29 = .ok (.return_, 1) := by decide +kernel
theorem d_X_layPlan_0 : decode m_X_layPlan.2.1 0 = .ok (.iload_n 1, 1) := by decide +kernel
theorem d_X_layPlan_1 : decode m_X_layPlan.2.1 1 = .ok (.istore_n 2, 1) := by decide +kernel
theorem d_X_layPlan_2 : decode m_X_layPlan.2.1 2 = .ok (.iconst 0, 1) := by decide +kernel
theorem d_X_layPlan_3 : decode m_X_layPlan.2.1 3 = .ok (.istore_n 3, 1) := by decide +kernel
theorem d_X_layPlan_4 : decode m_X_layPlan.2.1 4 = .ok (.iconst 1, 1) := by decide +kernel
theorem d_X_layPlan_5 : decode m_X_layPlan.2.1 5 = .ok (.istore 4, 2) := by decide +kernel
theorem d_X_layPlan_7 : decode m_X_layPlan.2.1 7 = .ok (.iconst 5, 1) := by decide +kernel
theorem d_X_layPlan_8 : decode m_X_layPlan.2.1 8 = .ok (.istore 5, 2) := by decide +kernel
theorem d_X_layPlan_10 : decode m_X_layPlan.2.1 10 = .ok (.iload 5, 2) := by decide +kernel
theorem d_X_layPlan_12 : decode m_X_layPlan.2.1 12 = .ok (.ifCond .lt 25, 3) := by decide +kernel
theorem d_X_layPlan_15 : decode m_X_layPlan.2.1 15 = .ok (.aload_n 0, 1) := by decide +kernel
theorem d_X_layPlan_16 : decode m_X_layPlan.2.1 16 = .ok (.getfield 56, 3) := by decide +kernel
theorem d_X_layPlan_19 : decode m_X_layPlan.2.1 19 = .ok (.iload 5, 2) := by decide +kernel
theorem d_X_layPlan_21 : decode m_X_layPlan.2.1 21 = .ok (.iload_n 2, 1) := by decide +kernel
theorem d_X_layPlan_22 : decode m_X_layPlan.2.1 22 = .ok (.bipush 7, 2) := by decide +kernel
theorem d_X_layPlan_24 : decode m_X_layPlan.2.1 24 = .ok (.irem, 1) := by decide +kernel
theorem d_X_layPlan_25 : decode m_X_layPlan.2.1 25 = .ok (.iastore, 1) := by decide +kernel
theorem d_X_layPlan_26 : decode m_X_layPlan.2.1 26 = .ok (.iload_n 2, 1) := by decide +kernel
theorem d_X_layPlan_27 : decode m_X_layPlan.2.1 27 = .ok (.bipush 7, 2) := by decide +kernel
theorem d_X_layPlan_29 : decode m_X_layPlan.2.1 29 = .ok (.idiv, 1) := by decide +kernel
theorem d_X_layPlan_30 : decode m_X_layPlan.2.1 30 = .ok (.istore_n 2, 1) := by decide +kernel
theorem d_X_layPlan_31 : decode m_X_layPlan.2.1 31 = .ok (.iinc 5 (-1), 3) := by decide +kernel
theorem d_X_layPlan_34 : decode m_X_layPlan.2.1 34 = .ok (.goto (-24), 3) := by decide +kernel
theorem d_X_layPlan_37 : decode m_X_layPlan.2.1 37 = .ok (.iconst 0, 1) := by decide +kernel
theorem d_X_layPlan_38 : decode m_X_layPlan.2.1 38 = .ok (.istore 5, 2) := by decide +kernel
theorem d_X_layPlan_40 : decode m_X_layPlan.2.1 40 = .ok (.iload 5, 2) := by decide +kernel
theorem d_X_layPlan_42 : decode m_X_layPlan.2.1 42 = .ok (.bipush 6, 2) := by decide +kernel
theorem d_X_layPlan_44 : decode m_X_layPlan.2.1 44 = .ok (.if_icmp .ge 93, 3) := by decide +kernel
theorem d_X_layPlan_47 : decode m_X_layPlan.2.1 47 = .ok (.aload_n 0, 1) := by decide +kernel
theorem d_X_layPlan_48 : decode m_X_layPlan.2.1 48 = .ok (.getfield 56, 3) := by decide +kernel
theorem d_X_layPlan_51 : decode m_X_layPlan.2.1 51 = .ok (.iload 5, 2) := by decide +kernel
theorem d_X_layPlan_53 : decode m_X_layPlan.2.1 53 = .ok (.iaload, 1) := by decide +kernel
theorem d_X_layPlan_54 : decode m_X_layPlan.2.1 54 = .ok (.istore 6, 2) := by decide +kernel
theorem d_X_layPlan_56 : decode m_X_layPlan.2.1 56 = .ok (.iload 4, 2) := by decide +kernel
theorem d_X_layPlan_58 : decode m_X_layPlan.2.1 58 = .ok (.ifCond .eq 55, 3) := by decide +kernel
theorem d_X_layPlan_61 : decode m_X_layPlan.2.1 61 = .ok (.iload 6, 2) := by decide +kernel
theorem d_X_layPlan_63 : decode m_X_layPlan.2.1 63 = .ok (.iload 5, 2) := by decide +kernel
theorem d_X_layPlan_65 : decode m_X_layPlan.2.1 65 = .ok (.if_icmp .eq 48, 3) := by decide +kernel
theorem d_X_layPlan_68 : decode m_X_layPlan.2.1 68 = .ok (.iload 6, 2) := by decide +kernel
theorem d_X_layPlan_70 : decode m_X_layPlan.2.1 70 = .ok (.bipush 6, 2) := by decide +kernel
theorem d_X_layPlan_72 : decode m_X_layPlan.2.1 72 = .ok (.if_icmp .eq 15, 3) := by decide +kernel
theorem d_X_layPlan_75 : decode m_X_layPlan.2.1 75 = .ok (.aload_n 0, 1) := by decide +kernel
theorem d_X_layPlan_76 : decode m_X_layPlan.2.1 76 = .ok (.getfield 56, 3) := by decide +kernel
theorem d_X_layPlan_79 : decode m_X_layPlan.2.1 79 = .ok (.iload 6, 2) := by decide +kernel
theorem d_X_layPlan_81 : decode m_X_layPlan.2.1 81 = .ok (.iaload, 1) := by decide +kernel
theorem d_X_layPlan_82 : decode m_X_layPlan.2.1 82 = .ok (.iload 5, 2) := by decide +kernel
theorem d_X_layPlan_84 : decode m_X_layPlan.2.1 84 = .ok (.if_icmp .ne 29, 3) := by decide +kernel
theorem d_X_layPlan_87 : decode m_X_layPlan.2.1 87 = .ok (.aload_n 0, 1) := by decide +kernel
theorem d_X_layPlan_88 : decode m_X_layPlan.2.1 88 = .ok (.getfield 53, 3) := by decide +kernel
theorem d_X_layPlan_91 : decode m_X_layPlan.2.1 91 = .ok (.iload 5, 2) := by decide +kernel
theorem d_X_layPlan_93 : decode m_X_layPlan.2.1 93 = .ok (.iaload, 1) := by decide +kernel
theorem d_X_layPlan_94 : decode m_X_layPlan.2.1 94 = .ok (.ifCond .lt 15, 3) := by decide +kernel
theorem d_X_layPlan_97 : decode m_X_layPlan.2.1 97 = .ok (.iload 6, 2) := by decide +kernel
theorem d_X_layPlan_99 : decode m_X_layPlan.2.1 99 = .ok (.aload_n 0, 1) := by decide +kernel
theorem d_X_layPlan_100 : decode m_X_layPlan.2.1 100 = .ok (.getfield 53, 3) := by decide +kernel
theorem d_X_layPlan_103 : decode m_X_layPlan.2.1 103 = .ok (.iload 5, 2) := by decide +kernel
theorem d_X_layPlan_105 : decode m_X_layPlan.2.1 105 = .ok (.iaload, 1) := by decide +kernel
theorem d_X_layPlan_106 : decode m_X_layPlan.2.1 106 = .ok (.if_icmp .ne 7, 3) := by decide +kernel
theorem d_X_layPlan_109 : decode m_X_layPlan.2.1 109 = .ok (.iconst 1, 1) := by decide +kernel
theorem d_X_layPlan_110 : decode m_X_layPlan.2.1 110 = .ok (.goto 4, 3) := by decide +kernel
theorem d_X_layPlan_113 : decode m_X_layPlan.2.1 113 = .ok (.iconst 0, 1) := by decide +kernel
theorem d_X_layPlan_114 : decode m_X_layPlan.2.1 114 = .ok (.istore 4, 2) := by decide +kernel
theorem d_X_layPlan_116 : decode m_X_layPlan.2.1 116 = .ok (.iload_n 3, 1) := by decide +kernel
theorem d_X_layPlan_117 : decode m_X_layPlan.2.1 117 = .ok (.iload 6, 2) := by decide +kernel
theorem d_X_layPlan_119 : decode m_X_layPlan.2.1 119 = .ok (.bipush 6, 2) := by decide +kernel
theorem d_X_layPlan_121 : decode m_X_layPlan.2.1 121 = .ok (.if_icmp .ne 7, 3) := by decide +kernel
theorem d_X_layPlan_124 : decode m_X_layPlan.2.1 124 = .ok (.iconst 1, 1) := by decide +kernel
theorem d_X_layPlan_125 : decode m_X_layPlan.2.1 125 = .ok (.goto 4, 3) := by decide +kernel
theorem d_X_layPlan_128 : decode m_X_layPlan.2.1 128 = .ok (.iconst 0, 1) := by decide +kernel
theorem d_X_layPlan_129 : decode m_X_layPlan.2.1 129 = .ok (.iadd, 1) := by decide +kernel
theorem d_X_layPlan_130 : decode m_X_layPlan.2.1 130 = .ok (.istore_n 3, 1) := by decide +kernel
theorem d_X_layPlan_131 : decode m_X_layPlan.2.1 131 = .ok (.iinc 5 1, 3) := by decide +kernel
theorem d_X_layPlan_134 : decode m_X_layPlan.2.1 134 = .ok (.goto (-94), 3) := by decide +kernel
theorem d_X_layPlan_137 : decode m_X_layPlan.2.1 137 = .ok (.iload 4, 2) := by decide +kernel
theorem d_X_layPlan_139 : decode m_X_layPlan.2.1 139 = .ok (.ifCond .eq 12, 3) := by decide +kernel
theorem d_X_layPlan_142 : decode m_X_layPlan.2.1 142 = .ok (.iload_n 3, 1) := by decide +kernel
theorem d_X_layPlan_143 : decode m_X_layPlan.2.1 143 = .ok (.iconst 2, 1) := by decide +kernel
theorem d_X_layPlan_144 : decode m_X_layPlan.2.1 144 = .ok (.if_icmp .ge 7, 3) := by decide +kernel
theorem d_X_layPlan_147 : decode m_X_layPlan.2.1 147 = .ok (.iconst 1, 1) := by decide +kernel
theorem d_X_layPlan_148 : decode m_X_layPlan.2.1 148 = .ok (.goto 4, 3) := by decide +kernel
theorem d_X_layPlan_151 : decode m_X_layPlan.2.1 151 = .ok (.iconst 0, 1) := by decide +kernel
theorem d_X_layPlan_152 : decode m_X_layPlan.2.1 152 = .ok (.ireturn, 1) := by decide +kernel
theorem d_X_loaves_0 : decode m_X_loaves.2.1 0 = .ok (.aload_n 0, 1) := by decide +kernel
theorem d_X_loaves_1 : decode m_X_loaves.2.1 1 = .ok (.iload_n 1, 1) := by decide +kernel
theorem d_X_loaves_2 : decode m_X_loaves.2.1 2 = .ok (.invokevirtual 83, 3) := by decide +kernel
theorem d_X_loaves_5 : decode m_X_loaves.2.1 5 = .ok (.ifCond .ne 5, 3) := by decide +kernel
theorem d_X_loaves_8 : decode m_X_loaves.2.1 8 = .ok (.iconst (-1), 1) := by decide +kernel
theorem d_X_loaves_9 : decode m_X_loaves.2.1 9 = .ok (.ireturn, 1) := by decide +kernel
theorem d_X_loaves_10 : decode m_X_loaves.2.1 10 = .ok (.iload_n 2, 1) := by decide +kernel
theorem d_X_loaves_11 : decode m_X_loaves.2.1 11 = .ok (.iconst 0, 1) := by decide +kernel
theorem d_X_loaves_12 : decode m_X_loaves.2.1 12 = .ok (.bipush 9, 2) := by decide +kernel
theorem d_X_loaves_14 : decode m_X_loaves.2.1 14 = .ok (.invokestatic 66, 3) := by decide +kernel
theorem d_X_loaves_17 : decode m_X_loaves.2.1 17 = .ok (.ifCond .ne 6, 3) := by decide +kernel
theorem d_X_loaves_20 : decode m_X_loaves.2.1 20 = .ok (.bipush (-2), 2) := by decide +kernel
theorem d_X_loaves_22 : decode m_X_loaves.2.1 22 = .ok (.ireturn, 1) := by decide +kernel
theorem d_X_loaves_23 : decode m_X_loaves.2.1 23 = .ok (.aload_n 0, 1) := by decide +kernel
theorem d_X_loaves_24 : decode m_X_loaves.2.1 24 = .ok (.getfield 26, 3) := by decide +kernel
theorem d_X_loaves_27 : decode m_X_loaves.2.1 27 = .ok (.iload_n 1, 1) := by decide +kernel
theorem d_X_loaves_28 : decode m_X_loaves.2.1 28 = .ok (.iaload, 1) := by decide +kernel
theorem d_X_loaves_29 : decode m_X_loaves.2.1 29 = .ok (.istore_n 3, 1) := by decide +kernel
theorem d_X_loaves_30 : decode m_X_loaves.2.1 30 = .ok (.aload_n 0, 1) := by decide +kernel
theorem d_X_loaves_31 : decode m_X_loaves.2.1 31 = .ok (.getfield 26, 3) := by decide +kernel
theorem d_X_loaves_34 : decode m_X_loaves.2.1 34 = .ok (.iload_n 1, 1) := by decide +kernel
theorem d_X_loaves_35 : decode m_X_loaves.2.1 35 = .ok (.iload_n 2, 1) := by decide +kernel
theorem d_X_loaves_36 : decode m_X_loaves.2.1 36 = .ok (.iastore, 1) := by decide +kernel
theorem d_X_loaves_37 : decode m_X_loaves.2.1 37 = .ok (.iload_n 3, 1) := by decide +kernel
theorem d_X_loaves_38 : decode m_X_loaves.2.1 38 = .ok (.ireturn, 1) := by decide +kernel
theorem d_X_makers_0 : decode m_X_makers.2.1 0 = .ok (.iload_n 1, 1) := by decide +kernel
theorem d_X_makers_1 : decode m_X_makers.2.1 1 = .ok (.iconst 1, 1) := by decide +kernel
theorem d_X_makers_2 : decode m_X_makers.2.1 2 = .ok (.bipush 6, 2) := by decide +kernel
theorem d_X_makers_4 : decode m_X_makers.2.1 4 = .ok (.invokestatic 66, 3) := by decide +kernel
theorem d_X_makers_7 : decode m_X_makers.2.1 7 = .ok (.ifCond .eq 12, 3) := by decide +kernel
theorem d_X_makers_10 : decode m_X_makers.2.1 10 = .ok (.iload_n 2, 1) := by decide +kernel
theorem d_X_makers_11 : decode m_X_makers.2.1 11 = .ok (.iconst 0, 1) := by decide +kernel
theorem d_X_makers_12 : decode m_X_makers.2.1 12 = .ok (.iconst 1, 1) := by decide +kernel
theorem d_X_makers_13 : decode m_X_makers.2.1 13 = .ok (.invokestatic 66, 3) := by decide +kernel
theorem d_X_makers_16 : decode m_X_makers.2.1 16 = .ok (.ifCond .ne 6, 3) := by decide +kernel
theorem d_X_makers_19 : decode m_X_makers.2.1 19 = .ok (.bipush (-2), 2) := by decide +kernel
theorem d_X_makers_21 : decode m_X_makers.2.1 21 = .ok (.ireturn, 1) := by decide +kernel
theorem d_X_makers_22 : decode m_X_makers.2.1 22 = .ok (.bipush (-6), 2) := by decide +kernel
theorem d_X_makers_24 : decode m_X_makers.2.1 24 = .ok (.istore_n 3, 1) := by decide +kernel
theorem d_X_makers_25 : decode m_X_makers.2.1 25 = .ok (.iconst 0, 1) := by decide +kernel
theorem d_X_makers_26 : decode m_X_makers.2.1 26 = .ok (.istore 4, 2) := by decide +kernel
theorem d_X_makers_28 : decode m_X_makers.2.1 28 = .ok (.iload 4, 2) := by decide +kernel
theorem d_X_makers_30 : decode m_X_makers.2.1 30 = .ok (.bipush 64, 2) := by decide +kernel
theorem d_X_makers_32 : decode m_X_makers.2.1 32 = .ok (.if_icmp .ge 54, 3) := by decide +kernel
theorem d_X_makers_35 : decode m_X_makers.2.1 35 = .ok (.iload_n 3, 1) := by decide +kernel
theorem d_X_makers_36 : decode m_X_makers.2.1 36 = .ok (.ifCond .lt 15, 3) := by decide +kernel
theorem d_X_makers_39 : decode m_X_makers.2.1 39 = .ok (.iload 4, 2) := by decide +kernel
theorem d_X_makers_41 : decode m_X_makers.2.1 41 = .ok (.invokestatic 109, 3) := by decide +kernel
theorem d_X_makers_44 : decode m_X_makers.2.1 44 = .ok (.iload_n 3, 1) := by decide +kernel
theorem d_X_makers_45 : decode m_X_makers.2.1 45 = .ok (.invokestatic 109, 3) := by decide +kernel
theorem d_X_makers_48 : decode m_X_makers.2.1 48 = .ok (.if_icmp .ge 7, 3) := by decide +kernel
theorem d_X_makers_51 : decode m_X_makers.2.1 51 = .ok (.iconst 1, 1) := by decide +kernel
theorem d_X_makers_52 : decode m_X_makers.2.1 52 = .ok (.goto 4, 3) := by decide +kernel
theorem d_X_makers_55 : decode m_X_makers.2.1 55 = .ok (.iconst 0, 1) := by decide +kernel
theorem d_X_makers_56 : decode m_X_makers.2.1 56 = .ok (.istore 5, 2) := by decide +kernel
theorem d_X_makers_58 : decode m_X_makers.2.1 58 = .ok (.iload 5, 2) := by decide +kernel
theorem d_X_makers_60 : decode m_X_makers.2.1 60 = .ok (.ifCond .eq 18, 3) := by decide +kernel
theorem d_X_makers_63 : decode m_X_makers.2.1 63 = .ok (.aload_n 0, 1) := by decide +kernel
theorem d_X_makers_64 : decode m_X_makers.2.1 64 = .ok (.iload 4, 2) := by decide +kernel
theorem d_X_makers_66 : decode m_X_makers.2.1 66 = .ok (.iload_n 1, 1) := by decide +kernel
theorem d_X_makers_67 : decode m_X_makers.2.1 67 = .ok (.invokevirtual 150, 3) := by decide +kernel
theorem d_X_makers_70 : decode m_X_makers.2.1 70 = .ok (.ifCond .eq 8, 3) := by decide +kernel
theorem d_X_makers_73 : decode m_X_makers.2.1 73 = .ok (.iload 4, 2) := by decide +kernel
theorem d_X_makers_75 : decode m_X_makers.2.1 75 = .ok (.goto 4, 3) := by decide +kernel
theorem d_X_makers_78 : decode m_X_makers.2.1 78 = .ok (.iload_n 3, 1) := by decide +kernel
theorem d_X_makers_79 : decode m_X_makers.2.1 79 = .ok (.istore_n 3, 1) := by decide +kernel
theorem d_X_makers_80 : decode m_X_makers.2.1 80 = .ok (.iinc 4 1, 3) := by decide +kernel
theorem d_X_makers_83 : decode m_X_makers.2.1 83 = .ok (.goto (-55), 3) := by decide +kernel
theorem d_X_makers_86 : decode m_X_makers.2.1 86 = .ok (.iload_n 3, 1) := by decide +kernel
theorem d_X_makers_87 : decode m_X_makers.2.1 87 = .ok (.ifCond .lt 8, 3) := by decide +kernel
theorem d_X_makers_90 : decode m_X_makers.2.1 90 = .ok (.iload_n 2, 1) := by decide +kernel
theorem d_X_makers_91 : decode m_X_makers.2.1 91 = .ok (.iconst 1, 1) := by decide +kernel
theorem d_X_makers_92 : decode m_X_makers.2.1 92 = .ok (.if_icmp .ne 7, 3) := by decide +kernel
theorem d_X_makers_95 : decode m_X_makers.2.1 95 = .ok (.iload_n 3, 1) := by decide +kernel
theorem d_X_makers_96 : decode m_X_makers.2.1 96 = .ok (.goto 7, 3) := by decide +kernel
theorem d_X_makers_99 : decode m_X_makers.2.1 99 = .ok (.iload_n 3, 1) := by decide +kernel
theorem d_X_makers_100 : decode m_X_makers.2.1 100 = .ok (.invokestatic 109, 3) := by decide +kernel
theorem d_X_makers_103 : decode m_X_makers.2.1 103 = .ok (.ireturn, 1) := by decide +kernel
theorem d_X_manAt_0 : decode m_X_manAt.2.1 0 = .ok (.iload_n 1, 1) := by decide +kernel
theorem d_X_manAt_1 : decode m_X_manAt.2.1 1 = .ok (.istore_n 3, 1) := by decide +kernel
theorem d_X_manAt_2 : decode m_X_manAt.2.1 2 = .ok (.aload_n 0, 1) := by decide +kernel
theorem d_X_manAt_3 : decode m_X_manAt.2.1 3 = .ok (.invokevirtual 135, 3) := by decide +kernel
theorem d_X_manAt_6 : decode m_X_manAt.2.1 6 = .ok (.iconst 1, 1) := by decide +kernel
theorem d_X_manAt_7 : decode m_X_manAt.2.1 7 = .ok (.isub, 1) := by decide +kernel
theorem d_X_manAt_8 : decode m_X_manAt.2.1 8 = .ok (.istore 4, 2) := by decide +kernel
theorem d_X_manAt_10 : decode m_X_manAt.2.1 10 = .ok (.iload 4, 2) := by decide +kernel
theorem d_X_manAt_12 : decode m_X_manAt.2.1 12 = .ok (.iload_n 2, 1) := by decide +kernel
theorem d_X_manAt_13 : decode m_X_manAt.2.1 13 = .ok (.if_icmp .le 14, 3) := by decide +kernel
theorem d_X_manAt_16 : decode m_X_manAt.2.1 16 = .ok (.iload_n 3, 1) := by decide +kernel
theorem d_X_manAt_17 : decode m_X_manAt.2.1 17 = .ok (.bipush 6, 2) := by decide +kernel
theorem d_X_manAt_19 : decode m_X_manAt.2.1 19 = .ok (.idiv, 1) := by decide +kernel
theorem d_X_manAt_20 : decode m_X_manAt.2.1 20 = .ok (.istore_n 3, 1) := by decide +kernel
theorem d_X_manAt_21 : decode m_X_manAt.2.1 21 = .ok (.iinc 4 (-1), 3) := by decide +kernel
theorem d_X_manAt_24 : decode m_X_manAt.2.1 24 = .ok (.goto (-14), 3) := by decide +kernel
theorem d_X_manAt_27 : decode m_X_manAt.2.1 27 = .ok (.iload_n 3, 1) := by decide +kernel
theorem d_X_manAt_28 : decode m_X_manAt.2.1 28 = .ok (.bipush 6, 2) := by decide +kernel
theorem d_X_manAt_30 : decode m_X_manAt.2.1 30 = .ok (.irem, 1) := by decide +kernel
theorem d_X_manAt_31 : decode m_X_manAt.2.1 31 = .ok (.ireturn, 1) := by decide +kernel
theorem d_X_married_0 : decode m_X_married.2.1 0 = .ok (.aload_n 0, 1) := by decide +kernel
theorem d_X_married_1 : decode m_X_married.2.1 1 = .ok (.invokevirtual 116, 3) := by decide +kernel
theorem d_X_married_4 : decode m_X_married.2.1 4 = .ok (.aload_n 0, 1) := by decide +kernel
theorem d_X_married_5 : decode m_X_married.2.1 5 = .ok (.invokevirtual 153, 3) := by decide +kernel
theorem d_X_married_8 : decode m_X_married.2.1 8 = .ok (.istore_n 2, 1) := by decide +kernel
theorem d_X_married_9 : decode m_X_married.2.1 9 = .ok (.ldc 93, 2) := by decide +kernel
theorem d_X_married_11 : decode m_X_married.2.1 11 = .ok (.istore_n 3, 1) := by decide +kernel
theorem d_X_married_12 : decode m_X_married.2.1 12 = .ok (.iconst 0, 1) := by decide +kernel
theorem d_X_married_13 : decode m_X_married.2.1 13 = .ok (.istore 4, 2) := by decide +kernel
theorem d_X_married_15 : decode m_X_married.2.1 15 = .ok (.iload 4, 2) := by decide +kernel
theorem d_X_married_17 : decode m_X_married.2.1 17 = .ok (.bipush 6, 2) := by decide +kernel
theorem d_X_married_19 : decode m_X_married.2.1 19 = .ok (.if_icmp .ge 23, 3) := by decide +kernel
theorem d_X_married_22 : decode m_X_married.2.1 22 = .ok (.aload_n 0, 1) := by decide +kernel
theorem d_X_married_23 : decode m_X_married.2.1 23 = .ok (.getfield 53, 3) := by decide +kernel
theorem d_X_married_26 : decode m_X_married.2.1 26 = .ok (.iload 4, 2) := by decide +kernel
theorem d_X_married_28 : decode m_X_married.2.1 28 = .ok (.aload_n 0, 1) := by decide +kernel
theorem d_X_married_29 : decode m_X_married.2.1 29 = .ok (.getfield 16, 3) := by decide +kernel
theorem d_X_married_32 : decode m_X_married.2.1 32 = .ok (.iload 4, 2) := by decide +kernel
theorem d_X_married_34 : decode m_X_married.2.1 34 = .ok (.iaload, 1) := by decide +kernel
theorem d_X_married_35 : decode m_X_married.2.1 35 = .ok (.iastore, 1) := by decide +kernel
theorem d_X_married_36 : decode m_X_married.2.1 36 = .ok (.iinc 4 1, 3) := by decide +kernel
theorem d_X_married_39 : decode m_X_married.2.1 39 = .ok (.goto (-24), 3) := by decide +kernel
theorem d_X_married_42 : decode m_X_married.2.1 42 = .ok (.iconst 0, 1) := by decide +kernel
theorem d_X_married_43 : decode m_X_married.2.1 43 = .ok (.istore 4, 2) := by decide +kernel
theorem d_X_married_45 : decode m_X_married.2.1 45 = .ok (.iload 4, 2) := by decide +kernel
theorem d_X_married_47 : decode m_X_married.2.1 47 = .ok (.ldc 156, 2) := by decide +kernel
theorem d_X_married_49 : decode m_X_married.2.1 49 = .ok (.if_icmp .ge 120, 3) := by decide +kernel
theorem d_X_married_52 : decode m_X_married.2.1 52 = .ok (.aload_n 0, 1) := by decide +kernel
theorem d_X_married_53 : decode m_X_married.2.1 53 = .ok (.iload 4, 2) := by decide +kernel
theorem d_X_married_55 : decode m_X_married.2.1 55 = .ok (.invokevirtual 157, 3) := by decide +kernel
theorem d_X_married_58 : decode m_X_married.2.1 58 = .ok (.ifCond .eq 105, 3) := by decide +kernel
theorem d_X_married_61 : decode m_X_married.2.1 61 = .ok (.iconst 0, 1) := by decide +kernel
theorem d_X_married_62 : decode m_X_married.2.1 62 = .ok (.istore 5, 2) := by decide +kernel
theorem d_X_married_64 : decode m_X_married.2.1 64 = .ok (.iload 5, 2) := by decide +kernel
theorem d_X_married_66 : decode m_X_married.2.1 66 = .ok (.bipush 6, 2) := by decide +kernel
theorem d_X_married_68 : decode m_X_married.2.1 68 = .ok (.if_icmp .ge 40, 3) := by decide +kernel
theorem d_X_married_71 : decode m_X_married.2.1 71 = .ok (.aload_n 0, 1) := by decide +kernel
theorem d_X_married_72 : decode m_X_married.2.1 72 = .ok (.getfield 16, 3) := by decide +kernel
theorem d_X_married_75 : decode m_X_married.2.1 75 = .ok (.iload 5, 2) := by decide +kernel
theorem d_X_married_77 : decode m_X_married.2.1 77 = .ok (.aload_n 0, 1) := by decide +kernel
theorem d_X_married_78 : decode m_X_married.2.1 78 = .ok (.getfield 56, 3) := by decide +kernel
theorem d_X_married_81 : decode m_X_married.2.1 81 = .ok (.iload 5, 2) := by decide +kernel
theorem d_X_married_83 : decode m_X_married.2.1 83 = .ok (.iaload, 1) := by decide +kernel
theorem d_X_married_84 : decode m_X_married.2.1 84 = .ok (.bipush 6, 2) := by decide +kernel
theorem d_X_married_86 : decode m_X_married.2.1 86 = .ok (.if_icmp .ne 8, 3) := by decide +kernel
theorem d_X_married_89 : decode m_X_married.2.1 89 = .ok (.bipush (-6), 2) := by decide +kernel
theorem d_X_married_91 : decode m_X_married.2.1 91 = .ok (.goto 10, 3) := by decide +kernel
theorem d_X_married_94 : decode m_X_married.2.1 94 = .ok (.aload_n 0, 1) := by decide +kernel
theorem d_X_married_95 : decode m_X_married.2.1 95 = .ok (.getfield 56, 3) := by decide +kernel
theorem d_X_married_98 : decode m_X_married.2.1 98 = .ok (.iload 5, 2) := by decide +kernel
theorem d_X_married_100 : decode m_X_married.2.1 100 = .ok (.iaload, 1) := by decide +kernel
theorem d_X_married_101 : decode m_X_married.2.1 101 = .ok (.iastore, 1) := by decide +kernel
theorem d_X_married_102 : decode m_X_married.2.1 102 = .ok (.iinc 5 1, 3) := by decide +kernel
theorem d_X_married_105 : decode m_X_married.2.1 105 = .ok (.goto (-41), 3) := by decide +kernel
theorem d_X_married_108 : decode m_X_married.2.1 108 = .ok (.aload_n 0, 1) := by decide +kernel
theorem d_X_married_109 : decode m_X_married.2.1 109 = .ok (.invokevirtual 153, 3) := by decide +kernel
theorem d_X_married_112 : decode m_X_married.2.1 112 = .ok (.istore 5, 2) := by decide +kernel
theorem d_X_married_114 : decode m_X_married.2.1 114 = .ok (.iconst 0, 1) := by decide +kernel
theorem d_X_married_115 : decode m_X_married.2.1 115 = .ok (.istore 6, 2) := by decide +kernel
theorem d_X_married_117 : decode m_X_married.2.1 117 = .ok (.iload 6, 2) := by decide +kernel
theorem d_X_married_119 : decode m_X_married.2.1 119 = .ok (.bipush 6, 2) := by decide +kernel
theorem d_X_married_121 : decode m_X_married.2.1 121 = .ok (.if_icmp .ge 29, 3) := by decide +kernel
theorem d_X_married_124 : decode m_X_married.2.1 124 = .ok (.iload 5, 2) := by decide +kernel
theorem d_X_married_126 : decode m_X_married.2.1 126 = .ok (.iload_n 3, 1) := by decide +kernel
theorem d_X_married_127 : decode m_X_married.2.1 127 = .ok (.if_icmp .ge 23, 3) := by decide +kernel
theorem d_X_married_130 : decode m_X_married.2.1 130 = .ok (.aload_n 0, 1) := by decide +kernel
theorem d_X_married_131 : decode m_X_married.2.1 131 = .ok (.getfield 47, 3) := by decide +kernel
theorem d_X_married_134 : decode m_X_married.2.1 134 = .ok (.iload 6, 2) := by decide +kernel
theorem d_X_married_136 : decode m_X_married.2.1 136 = .ok (.aload_n 0, 1) := by decide +kernel
theorem d_X_married_137 : decode m_X_married.2.1 137 = .ok (.getfield 16, 3) := by decide +kernel
theorem d_X_married_140 : decode m_X_married.2.1 140 = .ok (.iload 6, 2) := by decide +kernel
theorem d_X_married_142 : decode m_X_married.2.1 142 = .ok (.iaload, 1) := by decide +kernel
theorem d_X_married_143 : decode m_X_married.2.1 143 = .ok (.iastore, 1) := by decide +kernel
theorem d_X_married_144 : decode m_X_married.2.1 144 = .ok (.iinc 6 1, 3) := by decide +kernel
theorem d_X_married_147 : decode m_X_married.2.1 147 = .ok (.goto (-30), 3) := by decide +kernel
theorem d_X_married_150 : decode m_X_married.2.1 150 = .ok (.iload 5, 2) := by decide +kernel
theorem d_X_married_152 : decode m_X_married.2.1 152 = .ok (.iload_n 3, 1) := by decide +kernel
theorem d_X_married_153 : decode m_X_married.2.1 153 = .ok (.if_icmp .ge 8, 3) := by decide +kernel
theorem d_X_married_156 : decode m_X_married.2.1 156 = .ok (.iload 5, 2) := by decide +kernel
theorem d_X_married_158 : decode m_X_married.2.1 158 = .ok (.goto 4, 3) := by decide +kernel
theorem d_X_married_161 : decode m_X_married.2.1 161 = .ok (.iload_n 3, 1) := by decide +kernel
theorem d_X_married_162 : decode m_X_married.2.1 162 = .ok (.istore_n 3, 1) := by decide +kernel
theorem d_X_married_163 : decode m_X_married.2.1 163 = .ok (.iinc 4 1, 3) := by decide +kernel
theorem d_X_married_166 : decode m_X_married.2.1 166 = .ok (.goto (-121), 3) := by decide +kernel
theorem d_X_married_169 : decode m_X_married.2.1 169 = .ok (.iconst 0, 1) := by decide +kernel
theorem d_X_married_170 : decode m_X_married.2.1 170 = .ok (.istore 4, 2) := by decide +kernel
theorem d_X_married_172 : decode m_X_married.2.1 172 = .ok (.iload 4, 2) := by decide +kernel
theorem d_X_married_174 : decode m_X_married.2.1 174 = .ok (.bipush 6, 2) := by decide +kernel
theorem d_X_married_176 : decode m_X_married.2.1 176 = .ok (.if_icmp .ge 23, 3) := by decide +kernel
theorem d_X_married_179 : decode m_X_married.2.1 179 = .ok (.aload_n 0, 1) := by decide +kernel
theorem d_X_married_180 : decode m_X_married.2.1 180 = .ok (.getfield 16, 3) := by decide +kernel
theorem d_X_married_183 : decode m_X_married.2.1 183 = .ok (.iload 4, 2) := by decide +kernel
theorem d_X_married_185 : decode m_X_married.2.1 185 = .ok (.aload_n 0, 1) := by decide +kernel
theorem d_X_married_186 : decode m_X_married.2.1 186 = .ok (.getfield 53, 3) := by decide +kernel
theorem d_X_married_189 : decode m_X_married.2.1 189 = .ok (.iload 4, 2) := by decide +kernel
theorem d_X_married_191 : decode m_X_married.2.1 191 = .ok (.iaload, 1) := by decide +kernel
theorem d_X_married_192 : decode m_X_married.2.1 192 = .ok (.iastore, 1) := by decide +kernel
theorem d_X_married_193 : decode m_X_married.2.1 193 = .ok (.iinc 4 1, 3) := by decide +kernel
theorem d_X_married_196 : decode m_X_married.2.1 196 = .ok (.goto (-24), 3) := by decide +kernel
theorem d_X_married_199 : decode m_X_married.2.1 199 = .ok (.iload_n 1, 1) := by decide +kernel
theorem d_X_married_200 : decode m_X_married.2.1 200 = .ok (.iconst (-1), 1) := by decide +kernel
theorem d_X_married_201 : decode m_X_married.2.1 201 = .ok (.if_icmp .ne 9, 3) := by decide +kernel
theorem d_X_married_204 : decode m_X_married.2.1 204 = .ok (.iload_n 3, 1) := by decide +kernel
theorem d_X_married_205 : decode m_X_married.2.1 205 = .ok (.iload_n 2, 1) := by decide +kernel
theorem d_X_married_206 : decode m_X_married.2.1 206 = .ok (.isub, 1) := by decide +kernel
theorem d_X_married_207 : decode m_X_married.2.1 207 = .ok (.goto 21, 3) := by decide +kernel
theorem d_X_married_210 : decode m_X_married.2.1 210 = .ok (.iload_n 1, 1) := by decide +kernel
theorem d_X_married_211 : decode m_X_married.2.1 211 = .ok (.invokestatic 87, 3) := by decide +kernel
theorem d_X_married_214 : decode m_X_married.2.1 214 = .ok (.ifCond .eq 12, 3) := by decide +kernel
theorem d_X_married_217 : decode m_X_married.2.1 217 = .ok (.aload_n 0, 1) := by decide +kernel
theorem d_X_married_218 : decode m_X_married.2.1 218 = .ok (.getfield 47, 3) := by decide +kernel
theorem d_X_married_221 : decode m_X_married.2.1 221 = .ok (.iload_n 1, 1) := by decide +kernel
theorem d_X_married_222 : decode m_X_married.2.1 222 = .ok (.iaload, 1) := by decide +kernel
theorem d_X_married_223 : decode m_X_married.2.1 223 = .ok (.goto 5, 3) := by decide +kernel
theorem d_X_married_226 : decode m_X_married.2.1 226 = .ok (.bipush (-6), 2) := by decide +kernel
theorem d_X_married_228 : decode m_X_married.2.1 228 = .ok (.ireturn, 1) := by decide +kernel
theorem d_X_may_0 : decode m_X_may.2.1 0 = .ok (.iload_n 1, 1) := by decide +kernel
theorem d_X_may_1 : decode m_X_may.2.1 1 = .ok (.invokestatic 87, 3) := by decide +kernel
theorem d_X_may_4 : decode m_X_may.2.1 4 = .ok (.ifCond .ne 5, 3) := by decide +kernel
theorem d_X_may_7 : decode m_X_may.2.1 7 = .ok (.iconst (-1), 1) := by decide +kernel
theorem d_X_may_8 : decode m_X_may.2.1 8 = .ok (.ireturn, 1) := by decide +kernel
theorem d_X_may_9 : decode m_X_may.2.1 9 = .ok (.iload_n 2, 1) := by decide +kernel
theorem d_X_may_10 : decode m_X_may.2.1 10 = .ok (.iconst 0, 1) := by decide +kernel
theorem d_X_may_11 : decode m_X_may.2.1 11 = .ok (.iconst 1, 1) := by decide +kernel
theorem d_X_may_12 : decode m_X_may.2.1 12 = .ok (.invokestatic 66, 3) := by decide +kernel
theorem d_X_may_15 : decode m_X_may.2.1 15 = .ok (.ifCond .ne 6, 3) := by decide +kernel
theorem d_X_may_18 : decode m_X_may.2.1 18 = .ok (.bipush (-2), 2) := by decide +kernel
theorem d_X_may_20 : decode m_X_may.2.1 20 = .ok (.ireturn, 1) := by decide +kernel
theorem d_X_may_21 : decode m_X_may.2.1 21 = .ok (.aload_n 0, 1) := by decide +kernel
theorem d_X_may_22 : decode m_X_may.2.1 22 = .ok (.invokevirtual 116, 3) := by decide +kernel
theorem d_X_may_25 : decode m_X_may.2.1 25 = .ok (.iconst 0, 1) := by decide +kernel
theorem d_X_may_26 : decode m_X_may.2.1 26 = .ok (.istore_n 3, 1) := by decide +kernel
theorem d_X_may_27 : decode m_X_may.2.1 27 = .ok (.iconst 0, 1) := by decide +kernel
theorem d_X_may_28 : decode m_X_may.2.1 28 = .ok (.istore 4, 2) := by decide +kernel
theorem d_X_may_30 : decode m_X_may.2.1 30 = .ok (.iload 4, 2) := by decide +kernel
theorem d_X_may_32 : decode m_X_may.2.1 32 = .ok (.aload_n 0, 1) := by decide +kernel
theorem d_X_may_33 : decode m_X_may.2.1 33 = .ok (.getfield 70, 3) := by decide +kernel
theorem d_X_may_36 : decode m_X_may.2.1 36 = .ok (.if_icmp .ge 33, 3) := by decide +kernel
theorem d_X_may_39 : decode m_X_may.2.1 39 = .ok (.iload_n 3, 1) := by decide +kernel
theorem d_X_may_40 : decode m_X_may.2.1 40 = .ok (.aload_n 0, 1) := by decide +kernel
theorem d_X_may_41 : decode m_X_may.2.1 41 = .ok (.iload 4, 2) := by decide +kernel
theorem d_X_may_43 : decode m_X_may.2.1 43 = .ok (.invokevirtual 102, 3) := by decide +kernel
theorem d_X_may_46 : decode m_X_may.2.1 46 = .ok (.iload_n 1, 1) := by decide +kernel
theorem d_X_may_47 : decode m_X_may.2.1 47 = .ok (.invokestatic 98, 3) := by decide +kernel
theorem d_X_may_50 : decode m_X_may.2.1 50 = .ok (.ifCond .eq 10, 3) := by decide +kernel
theorem d_X_may_53 : decode m_X_may.2.1 53 = .ok (.iconst 1, 1) := by decide +kernel
theorem d_X_may_54 : decode m_X_may.2.1 54 = .ok (.iload 4, 2) := by decide +kernel
theorem d_X_may_56 : decode m_X_may.2.1 56 = .ok (.ishl, 1) := by decide +kernel
theorem d_X_may_57 : decode m_X_may.2.1 57 = .ok (.goto 4, 3) := by decide +kernel
theorem d_X_may_60 : decode m_X_may.2.1 60 = .ok (.iconst 0, 1) := by decide +kernel
theorem d_X_may_61 : decode m_X_may.2.1 61 = .ok (.ior, 1) := by decide +kernel
theorem d_X_may_62 : decode m_X_may.2.1 62 = .ok (.istore_n 3, 1) := by decide +kernel
theorem d_X_may_63 : decode m_X_may.2.1 63 = .ok (.iinc 4 1, 3) := by decide +kernel
theorem d_X_may_66 : decode m_X_may.2.1 66 = .ok (.goto (-36), 3) := by decide +kernel
theorem d_X_may_69 : decode m_X_may.2.1 69 = .ok (.iload_n 2, 1) := by decide +kernel
theorem d_X_may_70 : decode m_X_may.2.1 70 = .ok (.ifCond .ne 11, 3) := by decide +kernel
theorem d_X_may_73 : decode m_X_may.2.1 73 = .ok (.aload_n 0, 1) := by decide +kernel
theorem d_X_may_74 : decode m_X_may.2.1 74 = .ok (.iload_n 1, 1) := by decide +kernel
theorem d_X_may_75 : decode m_X_may.2.1 75 = .ok (.invokevirtual 125, 3) := by decide +kernel
theorem d_X_may_78 : decode m_X_may.2.1 78 = .ok (.goto 4, 3) := by decide +kernel
theorem d_X_may_81 : decode m_X_may.2.1 81 = .ok (.iload_n 3, 1) := by decide +kernel
theorem d_X_may_82 : decode m_X_may.2.1 82 = .ok (.ireturn, 1) := by decide +kernel
theorem d_X_mayHave_0 : decode m_X_mayHave.2.1 0 = .ok (.iconst 0, 1) := by decide +kernel
theorem d_X_mayHave_1 : decode m_X_mayHave.2.1 1 = .ok (.istore_n 2, 1) := by decide +kernel
theorem d_X_mayHave_2 : decode m_X_mayHave.2.1 2 = .ok (.iconst 0, 1) := by decide +kernel
theorem d_X_mayHave_3 : decode m_X_mayHave.2.1 3 = .ok (.istore_n 3, 1) := by decide +kernel
theorem d_X_mayHave_4 : decode m_X_mayHave.2.1 4 = .ok (.iload_n 3, 1) := by decide +kernel
theorem d_X_mayHave_5 : decode m_X_mayHave.2.1 5 = .ok (.aload_n 0, 1) := by decide +kernel
theorem d_X_mayHave_6 : decode m_X_mayHave.2.1 6 = .ok (.getfield 70, 3) := by decide +kernel
theorem d_X_mayHave_9 : decode m_X_mayHave.2.1 9 = .ok (.if_icmp .ge 31, 3) := by decide +kernel
theorem d_X_mayHave_12 : decode m_X_mayHave.2.1 12 = .ok (.iload_n 2, 1) := by decide +kernel
theorem d_X_mayHave_13 : decode m_X_mayHave.2.1 13 = .ok (.aload_n 0, 1) := by decide +kernel
theorem d_X_mayHave_14 : decode m_X_mayHave.2.1 14 = .ok (.iload_n 3, 1) := by decide +kernel
theorem d_X_mayHave_15 : decode m_X_mayHave.2.1 15 = .ok (.invokevirtual 119, 3) := by decide +kernel
theorem d_X_mayHave_18 : decode m_X_mayHave.2.1 18 = .ok (.iload_n 1, 1) := by decide +kernel
theorem d_X_mayHave_19 : decode m_X_mayHave.2.1 19 = .ok (.invokestatic 98, 3) := by decide +kernel
theorem d_X_mayHave_22 : decode m_X_mayHave.2.1 22 = .ok (.ifCond .eq 7, 3) := by decide +kernel
theorem d_X_mayHave_25 : decode m_X_mayHave.2.1 25 = .ok (.iconst 0, 1) := by decide +kernel
theorem d_X_mayHave_26 : decode m_X_mayHave.2.1 26 = .ok (.goto 6, 3) := by decide +kernel
theorem d_X_mayHave_29 : decode m_X_mayHave.2.1 29 = .ok (.iconst 1, 1) := by decide +kernel
theorem d_X_mayHave_30 : decode m_X_mayHave.2.1 30 = .ok (.iload_n 3, 1) := by decide +kernel
theorem d_X_mayHave_31 : decode m_X_mayHave.2.1 31 = .ok (.ishl, 1) := by decide +kernel
theorem d_X_mayHave_32 : decode m_X_mayHave.2.1 32 = .ok (.ior, 1) := by decide +kernel
theorem d_X_mayHave_33 : decode m_X_mayHave.2.1 33 = .ok (.istore_n 2, 1) := by decide +kernel
theorem d_X_mayHave_34 : decode m_X_mayHave.2.1 34 = .ok (.iinc 3 1, 3) := by decide +kernel
theorem d_X_mayHave_37 : decode m_X_mayHave.2.1 37 = .ok (.goto (-33), 3) := by decide +kernel
theorem d_X_mayHave_40 : decode m_X_mayHave.2.1 40 = .ok (.iload_n 2, 1) := by decide +kernel
