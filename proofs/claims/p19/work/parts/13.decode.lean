theorem d_Pages_behind_3 : decode m_Pages_behind.2.1 3 = .ok (.istore 4, 2) := by decide +kernel
theorem d_Pages_behind_5 : decode m_Pages_behind.2.1 5 = .ok (.iload 4, 2) := by decide +kernel
theorem d_Pages_behind_7 : decode m_Pages_behind.2.1 7 = .ok (.aload_n 0, 1) := by decide +kernel
theorem d_Pages_behind_8 : decode m_Pages_behind.2.1 8 = .ok (.getfield 33, 3) := by decide +kernel
theorem d_Pages_behind_11 : decode m_Pages_behind.2.1 11 = .ok (.if_icmp .ge 63, 3) := by decide +kernel
theorem d_Pages_behind_14 : decode m_Pages_behind.2.1 14 = .ok (.iload_n 1, 1) := by decide +kernel
theorem d_Pages_behind_15 : decode m_Pages_behind.2.1 15 = .ok (.iload 4, 2) := by decide +kernel
theorem d_Pages_behind_17 : decode m_Pages_behind.2.1 17 = .ok (.invokestatic 37, 3) := by decide +kernel
theorem d_Pages_behind_20 : decode m_Pages_behind.2.1 20 = .ok (.ifCond .eq 48, 3) := by decide +kernel
theorem d_Pages_behind_23 : decode m_Pages_behind.2.1 23 = .ok (.iload_n 3, 1) := by decide +kernel
theorem d_Pages_behind_24 : decode m_Pages_behind.2.1 24 = .ok (.aload_n 0, 1) := by decide +kernel
theorem d_Pages_behind_25 : decode m_Pages_behind.2.1 25 = .ok (.getfield 15, 3) := by decide +kernel
theorem d_Pages_behind_28 : decode m_Pages_behind.2.1 28 = .ok (.iload 4, 2) := by decide +kernel
theorem d_Pages_behind_30 : decode m_Pages_behind.2.1 30 = .ok (.iaload, 1) := by decide +kernel
theorem d_Pages_behind_31 : decode m_Pages_behind.2.1 31 = .ok (.invokestatic 41, 3) := by decide +kernel
theorem d_Pages_behind_34 : decode m_Pages_behind.2.1 34 = .ok (.aload_n 0, 1) := by decide +kernel
theorem d_Pages_behind_35 : decode m_Pages_behind.2.1 35 = .ok (.getfield 18, 3) := by decide +kernel
theorem d_Pages_behind_38 : decode m_Pages_behind.2.1 38 = .ok (.iload 4, 2) := by decide +kernel
theorem d_Pages_behind_40 : decode m_Pages_behind.2.1 40 = .ok (.iaload, 1) := by decide +kernel
theorem d_Pages_behind_41 : decode m_Pages_behind.2.1 41 = .ok (.invokestatic 41, 3) := by decide +kernel
theorem d_Pages_behind_44 : decode m_Pages_behind.2.1 44 = .ok (.ior, 1) := by decide +kernel
theorem d_Pages_behind_45 : decode m_Pages_behind.2.1 45 = .ok (.ior, 1) := by decide +kernel
theorem d_Pages_behind_46 : decode m_Pages_behind.2.1 46 = .ok (.istore_n 3, 1) := by decide +kernel
theorem d_Pages_behind_47 : decode m_Pages_behind.2.1 47 = .ok (.iload_n 3, 1) := by decide +kernel
theorem d_Pages_behind_48 : decode m_Pages_behind.2.1 48 = .ok (.iload_n 2, 1) := by decide +kernel
theorem d_Pages_behind_49 : decode m_Pages_behind.2.1 49 = .ok (.ifCond .eq 16, 3) := by decide +kernel
theorem d_Pages_behind_52 : decode m_Pages_behind.2.1 52 = .ok (.aload_n 0, 1) := by decide +kernel
theorem d_Pages_behind_53 : decode m_Pages_behind.2.1 53 = .ok (.getfield 21, 3) := by decide +kernel
theorem d_Pages_behind_56 : decode m_Pages_behind.2.1 56 = .ok (.iload 4, 2) := by decide +kernel
theorem d_Pages_behind_58 : decode m_Pages_behind.2.1 58 = .ok (.iaload, 1) := by decide +kernel
theorem d_Pages_behind_59 : decode m_Pages_behind.2.1 59 = .ok (.invokestatic 41, 3) := by decide +kernel
theorem d_Pages_behind_62 : decode m_Pages_behind.2.1 62 = .ok (.goto 4, 3) := by decide +kernel
theorem d_Pages_behind_65 : decode m_Pages_behind.2.1 65 = .ok (.iconst 0, 1) := by decide +kernel
theorem d_Pages_behind_66 : decode m_Pages_behind.2.1 66 = .ok (.ior, 1) := by decide +kernel
theorem d_Pages_behind_67 : decode m_Pages_behind.2.1 67 = .ok (.istore_n 3, 1) := by decide +kernel
theorem d_Pages_behind_68 : decode m_Pages_behind.2.1 68 = .ok (.iinc 4 1, 3) := by decide +kernel
theorem d_Pages_behind_71 : decode m_Pages_behind.2.1 71 = .ok (.goto (-66), 3) := by decide +kernel
theorem d_Pages_behind_74 : decode m_Pages_behind.2.1 74 = .ok (.iload_n 3, 1) := by decide +kernel
theorem d_Pages_behind_75 : decode m_Pages_behind.2.1 75 = .ok (.ireturn, 1) := by decide +kernel
theorem d_Pages_bitOf_0 : decode m_Pages_bitOf.2.1 0 = .ok (.iload_n 0, 1) := by decide +kernel
theorem d_Pages_bitOf_1 : decode m_Pages_bitOf.2.1 1 = .ok (.bipush (-6), 2) := by decide +kernel
theorem d_Pages_bitOf_3 : decode m_Pages_bitOf.2.1 3 = .ok (.if_icmp .ne 7, 3) := by decide +kernel
theorem d_Pages_bitOf_6 : decode m_Pages_bitOf.2.1 6 = .ok (.iconst 0, 1) := by decide +kernel
theorem d_Pages_bitOf_7 : decode m_Pages_bitOf.2.1 7 = .ok (.goto 6, 3) := by decide +kernel
theorem d_Pages_bitOf_10 : decode m_Pages_bitOf.2.1 10 = .ok (.iconst 1, 1) := by decide +kernel
theorem d_Pages_bitOf_11 : decode m_Pages_bitOf.2.1 11 = .ok (.iload_n 0, 1) := by decide +kernel
theorem d_Pages_bitOf_12 : decode m_Pages_bitOf.2.1 12 = .ok (.ishl, 1) := by decide +kernel
theorem d_Pages_bitOf_13 : decode m_Pages_bitOf.2.1 13 = .ok (.ireturn, 1) := by decide +kernel
theorem d_Pages_clearMaking_0 : decode m_Pages_clearMaking.2.1 0 = .ok (.aload_n 0, 1) := by decide +kernel
theorem d_Pages_clearMaking_1 : decode m_Pages_clearMaking.2.1 1 = .ok (.getfield 9, 3) := by decide +kernel
theorem d_Pages_clearMaking_4 : decode m_Pages_clearMaking.2.1 4 = .ok (.iload_n 1, 1) := by decide +kernel
theorem d_Pages_clearMaking_5 : decode m_Pages_clearMaking.2.1 5 = .ok (.iconst 0, 1) := by decide +kernel
theorem d_Pages_clearMaking_6 : decode m_Pages_clearMaking.2.1 6 = .ok (.iastore, 1) := by decide +kernel
theorem d_Pages_clearMaking_7 : decode m_Pages_clearMaking.2.1 7 = .ok (.aload_n 0, 1) := by decide +kernel
theorem d_Pages_clearMaking_8 : decode m_Pages_clearMaking.2.1 8 = .ok (.getfield 15, 3) := by decide +kernel
theorem d_Pages_clearMaking_11 : decode m_Pages_clearMaking.2.1 11 = .ok (.iload_n 1, 1) := by decide +kernel
theorem d_Pages_clearMaking_12 : decode m_Pages_clearMaking.2.1 12 = .ok (.bipush (-6), 2) := by decide +kernel
theorem d_Pages_clearMaking_14 : decode m_Pages_clearMaking.2.1 14 = .ok (.iastore, 1) := by decide +kernel
theorem d_Pages_clearMaking_15 : decode m_Pages_clearMaking.2.1 15 = .ok (.aload_n 0, 1) := by decide +kernel
theorem d_Pages_clearMaking_16 : decode m_Pages_clearMaking.2.1 16 = .ok (.getfield 18, 3) := by decide +kernel
theorem d_Pages_clearMaking_19 : decode m_Pages_clearMaking.2.1 19 = .ok (.iload_n 1, 1) := by decide +kernel
theorem d_Pages_clearMaking_20 : decode m_Pages_clearMaking.2.1 20 = .ok (.bipush (-6), 2) := by decide +kernel
theorem d_Pages_clearMaking_22 : decode m_Pages_clearMaking.2.1 22 = .ok (.iastore, 1) := by decide +kernel
theorem d_Pages_clearMaking_23 : decode m_Pages_clearMaking.2.1 23 = .ok (.aload_n 0, 1) := by decide +kernel
theorem d_Pages_clearMaking_24 : decode m_Pages_clearMaking.2.1 24 = .ok (.getfield 21, 3) := by decide +kernel
theorem d_Pages_clearMaking_27 : decode m_Pages_clearMaking.2.1 27 = .ok (.iload_n 1, 1) := by decide +kernel
theorem d_Pages_clearMaking_28 : decode m_Pages_clearMaking.2.1 28 = .ok (.bipush (-6), 2) := by decide +kernel
theorem d_Pages_clearMaking_30 : decode m_Pages_clearMaking.2.1 30 = .ok (.iastore, 1) := by decide +kernel
theorem d_Pages_clearMaking_31 : decode m_Pages_clearMaking.2.1 31 = .ok (.aload_n 0, 1) := by decide +kernel
theorem d_Pages_clearMaking_32 : decode m_Pages_clearMaking.2.1 32 = .ok (.getfield 24, 3) := by decide +kernel
theorem d_Pages_clearMaking_35 : decode m_Pages_clearMaking.2.1 35 = .ok (.iload_n 1, 1) := by decide +kernel
theorem d_Pages_clearMaking_36 : decode m_Pages_clearMaking.2.1 36 = .ok (.iconst 0, 1) := by decide +kernel
theorem d_Pages_clearMaking_37 : decode m_Pages_clearMaking.2.1 37 = .ok (.iastore, 1) := by decide +kernel
theorem d_Pages_clearMaking_38 : decode m_Pages_clearMaking.2.1 38 = .ok (.return_, 1) := by decide +kernel
theorem d_Pages_handsOf_0 : decode m_Pages_handsOf.2.1 0 = .ok (.iconst 0, 1) := by decide +kernel
theorem d_Pages_handsOf_1 : decode m_Pages_handsOf.2.1 1 = .ok (.istore_n 2, 1) := by decide +kernel
theorem d_Pages_handsOf_2 : decode m_Pages_handsOf.2.1 2 = .ok (.iconst 0, 1) := by decide +kernel
theorem d_Pages_handsOf_3 : decode m_Pages_handsOf.2.1 3 = .ok (.istore_n 3, 1) := by decide +kernel
theorem d_Pages_handsOf_4 : decode m_Pages_handsOf.2.1 4 = .ok (.iload_n 3, 1) := by decide +kernel
theorem d_Pages_handsOf_5 : decode m_Pages_handsOf.2.1 5 = .ok (.aload_n 0, 1) := by decide +kernel
theorem d_Pages_handsOf_6 : decode m_Pages_handsOf.2.1 6 = .ok (.getfield 33, 3) := by decide +kernel
theorem d_Pages_handsOf_9 : decode m_Pages_handsOf.2.1 9 = .ok (.if_icmp .ge 26, 3) := by decide +kernel
theorem d_Pages_handsOf_12 : decode m_Pages_handsOf.2.1 12 = .ok (.iload_n 1, 1) := by decide +kernel
theorem d_Pages_handsOf_13 : decode m_Pages_handsOf.2.1 13 = .ok (.iload_n 3, 1) := by decide +kernel
theorem d_Pages_handsOf_14 : decode m_Pages_handsOf.2.1 14 = .ok (.invokestatic 37, 3) := by decide +kernel
theorem d_Pages_handsOf_17 : decode m_Pages_handsOf.2.1 17 = .ok (.ifCond .eq 12, 3) := by decide +kernel
theorem d_Pages_handsOf_20 : decode m_Pages_handsOf.2.1 20 = .ok (.iload_n 2, 1) := by decide +kernel
theorem d_Pages_handsOf_21 : decode m_Pages_handsOf.2.1 21 = .ok (.aload_n 0, 1) := by decide +kernel
theorem d_Pages_handsOf_22 : decode m_Pages_handsOf.2.1 22 = .ok (.getfield 9, 3) := by decide +kernel
theorem d_Pages_handsOf_25 : decode m_Pages_handsOf.2.1 25 = .ok (.iload_n 3, 1) := by decide +kernel
theorem d_Pages_handsOf_26 : decode m_Pages_handsOf.2.1 26 = .ok (.iaload, 1) := by decide +kernel
theorem d_Pages_handsOf_27 : decode m_Pages_handsOf.2.1 27 = .ok (.ior, 1) := by decide +kernel
theorem d_Pages_handsOf_28 : decode m_Pages_handsOf.2.1 28 = .ok (.istore_n 2, 1) := by decide +kernel
theorem d_Pages_handsOf_29 : decode m_Pages_handsOf.2.1 29 = .ok (.iinc 3 1, 3) := by decide +kernel
theorem d_Pages_handsOf_32 : decode m_Pages_handsOf.2.1 32 = .ok (.goto (-28), 3) := by decide +kernel
theorem d_Pages_handsOf_35 : decode m_Pages_handsOf.2.1 35 = .ok (.iload_n 2, 1) := by decide +kernel
theorem d_Pages_handsOf_36 : decode m_Pages_handsOf.2.1 36 = .ok (.ireturn, 1) := by decide +kernel
theorem d_Pages_init_0 : decode m_Pages_init.2.1 0 = .ok (.aload_n 0, 1) := by decide +kernel
theorem d_Pages_init_1 : decode m_Pages_init.2.1 1 = .ok (.invokespecial 3, 3) := by decide +kernel
theorem d_Pages_init_4 : decode m_Pages_init.2.1 4 = .ok (.aload_n 0, 1) := by decide +kernel
theorem d_Pages_init_5 : decode m_Pages_init.2.1 5 = .ok (.bipush 10, 2) := by decide +kernel
theorem d_Pages_init_7 : decode m_Pages_init.2.1 7 = .ok (.newarray .int, 2) := by decide +kernel
theorem d_Pages_init_9 : decode m_Pages_init.2.1 9 = .ok (.putfield 9, 3) := by decide +kernel
theorem d_Pages_init_12 : decode m_Pages_init.2.1 12 = .ok (.aload_n 0, 1) := by decide +kernel
theorem d_Pages_init_13 : decode m_Pages_init.2.1 13 = .ok (.bipush 10, 2) := by decide +kernel
theorem d_Pages_init_15 : decode m_Pages_init.2.1 15 = .ok (.newarray .int, 2) := by decide +kernel
theorem d_Pages_init_17 : decode m_Pages_init.2.1 17 = .ok (.putfield 15, 3) := by decide +kernel
theorem d_Pages_init_20 : decode m_Pages_init.2.1 20 = .ok (.aload_n 0, 1) := by decide +kernel
theorem d_Pages_init_21 : decode m_Pages_init.2.1 21 = .ok (.bipush 10, 2) := by decide +kernel
theorem d_Pages_init_23 : decode m_Pages_init.2.1 23 = .ok (.newarray .int, 2) := by decide +kernel
theorem d_Pages_init_25 : decode m_Pages_init.2.1 25 = .ok (.putfield 18, 3) := by decide +kernel
theorem d_Pages_init_28 : decode m_Pages_init.2.1 28 = .ok (.aload_n 0, 1) := by decide +kernel
theorem d_Pages_init_29 : decode m_Pages_init.2.1 29 = .ok (.bipush 10, 2) := by decide +kernel
theorem d_Pages_init_31 : decode m_Pages_init.2.1 31 = .ok (.newarray .int, 2) := by decide +kernel
theorem d_Pages_init_33 : decode m_Pages_init.2.1 33 = .ok (.putfield 21, 3) := by decide +kernel
theorem d_Pages_init_36 : decode m_Pages_init.2.1 36 = .ok (.aload_n 0, 1) := by decide +kernel
theorem d_Pages_init_37 : decode m_Pages_init.2.1 37 = .ok (.bipush 10, 2) := by decide +kernel
theorem d_Pages_init_39 : decode m_Pages_init.2.1 39 = .ok (.newarray .int, 2) := by decide +kernel
theorem d_Pages_init_41 : decode m_Pages_init.2.1 41 = .ok (.putfield 24, 3) := by decide +kernel
theorem d_Pages_init_44 : decode m_Pages_init.2.1 44 = .ok (.return_, 1) := by decide +kernel
theorem d_Reader_hasRoomForHand_0 : decode m_Reader_hasRoomForHand.2.1 0 = .ok (.aload_n 0, 1) := by decide +kernel
theorem d_Reader_hasRoomForHand_1 : decode m_Reader_hasRoomForHand.2.1 1 = .ok (.getfield 26, 3) := by decide +kernel
theorem d_Reader_hasRoomForHand_4 : decode m_Reader_hasRoomForHand.2.1 4 = .ok (.iconst 2, 1) := by decide +kernel
theorem d_Reader_hasRoomForHand_5 : decode m_Reader_hasRoomForHand.2.1 5 = .ok (.if_icmp .eq 31, 3) := by decide +kernel
theorem d_Reader_hasRoomForHand_8 : decode m_Reader_hasRoomForHand.2.1 8 = .ok (.aload_n 0, 1) := by decide +kernel
theorem d_Reader_hasRoomForHand_9 : decode m_Reader_hasRoomForHand.2.1 9 = .ok (.getfield 26, 3) := by decide +kernel
theorem d_Reader_hasRoomForHand_12 : decode m_Reader_hasRoomForHand.2.1 12 = .ok (.iconst 4, 1) := by decide +kernel
theorem d_Reader_hasRoomForHand_13 : decode m_Reader_hasRoomForHand.2.1 13 = .ok (.if_icmp .eq 23, 3) := by decide +kernel
theorem d_Reader_hasRoomForHand_16 : decode m_Reader_hasRoomForHand.2.1 16 = .ok (.aload_n 0, 1) := by decide +kernel
theorem d_Reader_hasRoomForHand_17 : decode m_Reader_hasRoomForHand.2.1 17 = .ok (.getfield 12, 3) := by decide +kernel
theorem d_Reader_hasRoomForHand_20 : decode m_Reader_hasRoomForHand.2.1 20 = .ok (.getfield 71, 3) := by decide +kernel
theorem d_Reader_hasRoomForHand_23 : decode m_Reader_hasRoomForHand.2.1 23 = .ok (.iload_n 1, 1) := by decide +kernel
theorem d_Reader_hasRoomForHand_24 : decode m_Reader_hasRoomForHand.2.1 24 = .ok (.iaload, 1) := by decide +kernel
theorem d_Reader_hasRoomForHand_25 : decode m_Reader_hasRoomForHand.2.1 25 = .ok (.invokestatic 74, 3) := by decide +kernel
theorem d_Reader_hasRoomForHand_28 : decode m_Reader_hasRoomForHand.2.1 28 = .ok (.iconst 3, 1) := by decide +kernel
theorem d_Reader_hasRoomForHand_29 : decode m_Reader_hasRoomForHand.2.1 29 = .ok (.if_icmp .ge 7, 3) := by decide +kernel
theorem d_Reader_hasRoomForHand_32 : decode m_Reader_hasRoomForHand.2.1 32 = .ok (.iconst 1, 1) := by decide +kernel
theorem d_Reader_hasRoomForHand_33 : decode m_Reader_hasRoomForHand.2.1 33 = .ok (.goto 4, 3) := by decide +kernel
theorem d_Reader_hasRoomForHand_36 : decode m_Reader_hasRoomForHand.2.1 36 = .ok (.iconst 0, 1) := by decide +kernel
theorem d_Reader_hasRoomForHand_37 : decode m_Reader_hasRoomForHand.2.1 37 = .ok (.ireturn, 1) := by decide +kernel
theorem d_Reader_init_0 : decode m_Reader_init.2.1 0 = .ok (.aload_n 0, 1) := by decide +kernel
theorem d_Reader_init_1 : decode m_Reader_init.2.1 1 = .ok (.invokespecial 3, 3) := by decide +kernel
theorem d_Reader_init_4 : decode m_Reader_init.2.1 4 = .ok (.aload_n 0, 1) := by decide +kernel
theorem d_Reader_init_5 : decode m_Reader_init.2.1 5 = .ok (.new 9, 3) := by decide +kernel
theorem d_Reader_init_8 : decode m_Reader_init.2.1 8 = .ok (.dup, 1) := by decide +kernel
theorem d_Reader_init_9 : decode m_Reader_init.2.1 9 = .ok (.invokespecial 11, 3) := by decide +kernel
theorem d_Reader_init_12 : decode m_Reader_init.2.1 12 = .ok (.putfield 12, 3) := by decide +kernel
theorem d_Reader_init_15 : decode m_Reader_init.2.1 15 = .ok (.return_, 1) := by decide +kernel
theorem d_Reader_read_0 : decode m_Reader_read.2.1 0 = .ok (.aload_n 0, 1) := by decide +kernel
theorem d_Reader_read_1 : decode m_Reader_read.2.1 1 = .ok (.getfield 12, 3) := by decide +kernel
theorem d_Reader_read_4 : decode m_Reader_read.2.1 4 = .ok (.iconst 0, 1) := by decide +kernel
theorem d_Reader_read_5 : decode m_Reader_read.2.1 5 = .ok (.putfield 18, 3) := by decide +kernel
theorem d_Reader_read_8 : decode m_Reader_read.2.1 8 = .ok (.aload_n 0, 1) := by decide +kernel
theorem d_Reader_read_9 : decode m_Reader_read.2.1 9 = .ok (.getfield 12, 3) := by decide +kernel
theorem d_Reader_read_12 : decode m_Reader_read.2.1 12 = .ok (.iconst 0, 1) := by decide +kernel
theorem d_Reader_read_13 : decode m_Reader_read.2.1 13 = .ok (.invokevirtual 22, 3) := by decide +kernel
theorem d_Reader_read_16 : decode m_Reader_read.2.1 16 = .ok (.aload_n 0, 1) := by decide +kernel
theorem d_Reader_read_17 : decode m_Reader_read.2.1 17 = .ok (.iconst 0, 1) := by decide +kernel
theorem d_Reader_read_18 : decode m_Reader_read.2.1 18 = .ok (.putfield 26, 3) := by decide +kernel
theorem d_Reader_read_21 : decode m_Reader_read.2.1 21 = .ok (.aload_n 0, 1) := by decide +kernel
theorem d_Reader_read_22 : decode m_Reader_read.2.1 22 = .ok (.iconst 0, 1) := by decide +kernel
theorem d_Reader_read_23 : decode m_Reader_read.2.1 23 = .ok (.putfield 29, 3) := by decide +kernel
theorem d_Reader_read_26 : decode m_Reader_read.2.1 26 = .ok (.iconst 0, 1) := by decide +kernel
theorem d_Reader_read_27 : decode m_Reader_read.2.1 27 = .ok (.istore_n 2, 1) := by decide +kernel
theorem d_Reader_read_28 : decode m_Reader_read.2.1 28 = .ok (.iload_n 2, 1) := by decide +kernel
theorem d_Reader_read_29 : decode m_Reader_read.2.1 29 = .ok (.aload_n 1, 1) := by decide +kernel
theorem d_Reader_read_30 : decode m_Reader_read.2.1 30 = .ok (.getfield 32, 3) := by decide +kernel
theorem d_Reader_read_33 : decode m_Reader_read.2.1 33 = .ok (.if_icmp .ge 24, 3) := by decide +kernel
theorem d_Reader_read_36 : decode m_Reader_read.2.1 36 = .ok (.aload_n 0, 1) := by decide +kernel
theorem d_Reader_read_37 : decode m_Reader_read.2.1 37 = .ok (.aload_n 1, 1) := by decide +kernel
theorem d_Reader_read_38 : decode m_Reader_read.2.1 38 = .ok (.getfield 35, 3) := by decide +kernel
theorem d_Reader_read_41 : decode m_Reader_read.2.1 41 = .ok (.iload_n 2, 1) := by decide +kernel
theorem d_Reader_read_42 : decode m_Reader_read.2.1 42 = .ok (.iaload, 1) := by decide +kernel
theorem d_Reader_read_43 : decode m_Reader_read.2.1 43 = .ok (.invokevirtual 39, 3) := by decide +kernel
theorem d_Reader_read_46 : decode m_Reader_read.2.1 46 = .ok (.ifCond .ne 5, 3) := by decide +kernel
theorem d_Reader_read_49 : decode m_Reader_read.2.1 49 = .ok (.iload_n 2, 1) := by decide +kernel
theorem d_Reader_read_50 : decode m_Reader_read.2.1 50 = .ok (.ireturn, 1) := by decide +kernel
theorem d_Reader_read_51 : decode m_Reader_read.2.1 51 = .ok (.iinc 2 1, 3) := by decide +kernel
theorem d_Reader_read_54 : decode m_Reader_read.2.1 54 = .ok (.goto (-26), 3) := by decide +kernel
theorem d_Reader_read_57 : decode m_Reader_read.2.1 57 = .ok (.aload_n 0, 1) := by decide +kernel
theorem d_Reader_read_58 : decode m_Reader_read.2.1 58 = .ok (.getfield 26, 3) := by decide +kernel
theorem d_Reader_read_61 : decode m_Reader_read.2.1 61 = .ok (.ifCond .ne 8, 3) := by decide +kernel
theorem d_Reader_read_64 : decode m_Reader_read.2.1 64 = .ok (.bipush (-6), 2) := by decide +kernel
theorem d_Reader_read_66 : decode m_Reader_read.2.1 66 = .ok (.goto 7, 3) := by decide +kernel
theorem d_Reader_read_69 : decode m_Reader_read.2.1 69 = .ok (.aload_n 1, 1) := by decide +kernel
theorem d_Reader_read_70 : decode m_Reader_read.2.1 70 = .ok (.getfield 32, 3) := by decide +kernel
theorem d_Reader_read_73 : decode m_Reader_read.2.1 73 = .ok (.ireturn, 1) := by decide +kernel
theorem d_Reader_takes_0 : decode m_Reader_takes.2.1 0 = .ok (.aload_n 0, 1) := by decide +kernel
theorem d_Reader_takes_1 : decode m_Reader_takes.2.1 1 = .ok (.getfield 12, 3) := by decide +kernel
theorem d_Reader_takes_4 : decode m_Reader_takes.2.1 4 = .ok (.getfield 18, 3) := by decide +kernel
theorem d_Reader_takes_7 : decode m_Reader_takes.2.1 7 = .ok (.istore_n 2, 1) := by decide +kernel
theorem d_Reader_takes_8 : decode m_Reader_takes.2.1 8 = .ok (.iload_n 2, 1) := by decide +kernel
theorem d_Reader_takes_9 : decode m_Reader_takes.2.1 9 = .ok (.bipush 10, 2) := by decide +kernel
theorem d_Reader_takes_11 : decode m_Reader_takes.2.1 11 = .ok (.if_icmp .lt 5, 3) := by decide +kernel
theorem d_Reader_takes_14 : decode m_Reader_takes.2.1 14 = .ok (.iconst 0, 1) := by decide +kernel
theorem d_Reader_takes_15 : decode m_Reader_takes.2.1 15 = .ok (.ireturn, 1) := by decide +kernel
theorem d_Reader_takes_16 : decode m_Reader_takes.2.1 16 = .ok (.iload_n 1, 1) := by decide +kernel
theorem d_Reader_takes_17 : decode m_Reader_takes.2.1 17 = .ok (.bipush 97, 2) := by decide +kernel
theorem d_Reader_takes_19 : decode m_Reader_takes.2.1 19 = .ok (.if_icmp .lt 41, 3) := by decide +kernel
theorem d_Reader_takes_22 : decode m_Reader_takes.2.1 22 = .ok (.iload_n 1, 1) := by decide +kernel
theorem d_Reader_takes_23 : decode m_Reader_takes.2.1 23 = .ok (.bipush 97, 2) := by decide +kernel
theorem d_Reader_takes_25 : decode m_Reader_takes.2.1 25 = .ok (.iload_n 2, 1) := by decide +kernel
theorem d_Reader_takes_26 : decode m_Reader_takes.2.1 26 = .ok (.iadd, 1) := by decide +kernel
theorem d_Reader_takes_27 : decode m_Reader_takes.2.1 27 = .ok (.if_icmp .ge 33, 3) := by decide +kernel
theorem d_Reader_takes_30 : decode m_Reader_takes.2.1 30 = .ok (.aload_n 0, 1) := by decide +kernel
theorem d_Reader_takes_31 : decode m_Reader_takes.2.1 31 = .ok (.getfield 26, 3) := by decide +kernel
theorem d_Reader_takes_34 : decode m_Reader_takes.2.1 34 = .ok (.iconst 2, 1) := by decide +kernel
theorem d_Reader_takes_35 : decode m_Reader_takes.2.1 35 = .ok (.if_icmp .ne 15, 3) := by decide +kernel
theorem d_Reader_takes_38 : decode m_Reader_takes.2.1 38 = .ok (.aload_n 0, 1) := by decide +kernel
theorem d_Reader_takes_39 : decode m_Reader_takes.2.1 39 = .ok (.iload_n 2, 1) := by decide +kernel
theorem d_Reader_takes_40 : decode m_Reader_takes.2.1 40 = .ok (.iload_n 1, 1) := by decide +kernel
theorem d_Reader_takes_41 : decode m_Reader_takes.2.1 41 = .ok (.bipush 97, 2) := by decide +kernel
theorem d_Reader_takes_43 : decode m_Reader_takes.2.1 43 = .ok (.isub, 1) := by decide +kernel
theorem d_Reader_takes_44 : decode m_Reader_takes.2.1 44 = .ok (.invokevirtual 43, 3) := by decide +kernel
theorem d_Reader_takes_47 : decode m_Reader_takes.2.1 47 = .ok (.goto 12, 3) := by decide +kernel
theorem d_Reader_takes_50 : decode m_Reader_takes.2.1 50 = .ok (.aload_n 0, 1) := by decide +kernel
theorem d_Reader_takes_51 : decode m_Reader_takes.2.1 51 = .ok (.iload_n 2, 1) := by decide +kernel
theorem d_Reader_takes_52 : decode m_Reader_takes.2.1 52 = .ok (.iload_n 1, 1) := by decide +kernel
theorem d_Reader_takes_53 : decode m_Reader_takes.2.1 53 = .ok (.bipush 97, 2) := by decide +kernel
theorem d_Reader_takes_55 : decode m_Reader_takes.2.1 55 = .ok (.isub, 1) := by decide +kernel
theorem d_Reader_takes_56 : decode m_Reader_takes.2.1 56 = .ok (.invokevirtual 47, 3) := by decide +kernel
theorem d_Reader_takes_59 : decode m_Reader_takes.2.1 59 = .ok (.ireturn, 1) := by decide +kernel
theorem d_Reader_takes_60 : decode m_Reader_takes.2.1 60 = .ok (.iload_n 1, 1) := by decide +kernel
theorem d_Reader_takes_61 : decode m_Reader_takes.2.1 61 = .ok (.bipush 65, 2) := by decide +kernel
theorem d_Reader_takes_63 : decode m_Reader_takes.2.1 63 = .ok (.if_icmp .lt 19, 3) := by decide +kernel
theorem d_Reader_takes_66 : decode m_Reader_takes.2.1 66 = .ok (.iload_n 1, 1) := by decide +kernel
theorem d_Reader_takes_67 : decode m_Reader_takes.2.1 67 = .ok (.bipush 71, 2) := by decide +kernel
theorem d_Reader_takes_69 : decode m_Reader_takes.2.1 69 = .ok (.if_icmp .ge 13, 3) := by decide +kernel
theorem d_Reader_takes_72 : decode m_Reader_takes.2.1 72 = .ok (.aload_n 0, 1) := by decide +kernel
theorem d_Reader_takes_73 : decode m_Reader_takes.2.1 73 = .ok (.iload_n 2, 1) := by decide +kernel
theorem d_Reader_takes_74 : decode m_Reader_takes.2.1 74 = .ok (.iload_n 1, 1) := by decide +kernel
theorem d_Reader_takes_75 : decode m_Reader_takes.2.1 75 = .ok (.bipush 65, 2) := by decide +kernel
theorem d_Reader_takes_77 : decode m_Reader_takes.2.1 77 = .ok (.isub, 1) := by decide +kernel
theorem d_Reader_takes_78 : decode m_Reader_takes.2.1 78 = .ok (.invokevirtual 50, 3) := by decide +kernel
theorem d_Reader_takes_81 : decode m_Reader_takes.2.1 81 = .ok (.ireturn, 1) := by decide +kernel
theorem d_Reader_takes_82 : decode m_Reader_takes.2.1 82 = .ok (.iload_n 1, 1) := by decide +kernel
theorem d_Reader_takes_83 : decode m_Reader_takes.2.1 83 = .ok (.lookupswitch 51 #[(43, 33), (59, 45), (63, 39)], 33) := by decide +kernel
theorem d_Reader_takes_116 : decode m_Reader_takes.2.1 116 = .ok (.aload_n 0, 1) := by decide +kernel
theorem d_Reader_takes_117 : decode m_Reader_takes.2.1 117 = .ok (.iload_n 2, 1) := by decide +kernel
theorem d_Reader_takes_118 : decode m_Reader_takes.2.1 118 = .ok (.invokevirtual 53, 3) := by decide +kernel
theorem d_Reader_takes_121 : decode m_Reader_takes.2.1 121 = .ok (.ireturn, 1) := by decide +kernel
theorem d_Reader_takes_122 : decode m_Reader_takes.2.1 122 = .ok (.aload_n 0, 1) := by decide +kernel
theorem d_Reader_takes_123 : decode m_Reader_takes.2.1 123 = .ok (.iload_n 2, 1) := by decide +kernel
theorem d_Reader_takes_124 : decode m_Reader_takes.2.1 124 = .ok (.invokevirtual 56, 3) := by decide +kernel
theorem d_Reader_takes_127 : decode m_Reader_takes.2.1 127 = .ok (.ireturn, 1) := by decide +kernel
theorem d_Reader_takes_128 : decode m_Reader_takes.2.1 128 = .ok (.aload_n 0, 1) := by decide +kernel
theorem d_Reader_takes_129 : decode m_Reader_takes.2.1 129 = .ok (.iload_n 2, 1) := by decide +kernel
theorem d_Reader_takes_130 : decode m_Reader_takes.2.1 130 = .ok (.invokevirtual 59, 3) := by decide +kernel
theorem d_Reader_takes_133 : decode m_Reader_takes.2.1 133 = .ok (.ireturn, 1) := by decide +kernel
theorem d_Reader_takes_134 : decode m_Reader_takes.2.1 134 = .ok (.iconst 0, 1) := by decide +kernel
theorem d_Reader_takes_135 : decode m_Reader_takes.2.1 135 = .ok (.ireturn, 1) := by decide +kernel
theorem d_Reader_takesAsk_0 : decode m_Reader_takesAsk.2.1 0 = .ok (.aload_n 0, 1) := by decide +kernel
theorem d_Reader_takesAsk_1 : decode m_Reader_takesAsk.2.1 1 = .ok (.iload_n 1, 1) := by decide +kernel
theorem d_Reader_takesAsk_2 : decode m_Reader_takesAsk.2.1 2 = .ok (.invokevirtual 80, 3) := by decide +kernel
theorem d_Reader_takesAsk_5 : decode m_Reader_takesAsk.2.1 5 = .ok (.ifCond .eq 11, 3) := by decide +kernel
theorem d_Reader_takesAsk_8 : decode m_Reader_takesAsk.2.1 8 = .ok (.aload_n 0, 1) := by decide +kernel
theorem d_Reader_takesAsk_9 : decode m_Reader_takesAsk.2.1 9 = .ok (.getfield 29, 3) := by decide +kernel
theorem d_Reader_takesAsk_12 : decode m_Reader_takesAsk.2.1 12 = .ok (.iconst 4, 1) := by decide +kernel
theorem d_Reader_takesAsk_13 : decode m_Reader_takesAsk.2.1 13 = .ok (.if_icmp .lt 5, 3) := by decide +kernel
theorem d_Reader_takesAsk_16 : decode m_Reader_takesAsk.2.1 16 = .ok (.iconst 0, 1) := by decide +kernel
theorem d_Reader_takesAsk_17 : decode m_Reader_takesAsk.2.1 17 = .ok (.ireturn, 1) := by decide +kernel
theorem d_Reader_takesAsk_18 : decode m_Reader_takesAsk.2.1 18 = .ok (.aload_n 0, 1) := by decide +kernel
theorem d_Reader_takesAsk_19 : decode m_Reader_takesAsk.2.1 19 = .ok (.getfield 12, 3) := by decide +kernel
theorem d_Reader_takesAsk_22 : decode m_Reader_takesAsk.2.1 22 = .ok (.getfield 83, 3) := by decide +kernel
theorem d_Reader_takesAsk_25 : decode m_Reader_takesAsk.2.1 25 = .ok (.iload_n 1, 1) := by decide +kernel
theorem d_Reader_takesAsk_26 : decode m_Reader_takesAsk.2.1 26 = .ok (.iconst 1, 1) := by decide +kernel
theorem d_Reader_takesAsk_27 : decode m_Reader_takesAsk.2.1 27 = .ok (.iastore, 1) := by decide +kernel
theorem d_Reader_takesAsk_28 : decode m_Reader_takesAsk.2.1 28 = .ok (.aload_n 0, 1) := by decide +kernel
theorem d_Reader_takesAsk_29 : decode m_Reader_takesAsk.2.1 29 = .ok (.dup, 1) := by decide +kernel
theorem d_Reader_takesAsk_30 : decode m_Reader_takesAsk.2.1 30 = .ok (.getfield 29, 3) := by decide +kernel
theorem d_Reader_takesAsk_33 : decode m_Reader_takesAsk.2.1 33 = .ok (.iconst 1, 1) := by decide +kernel
theorem d_Reader_takesAsk_34 : decode m_Reader_takesAsk.2.1 34 = .ok (.iadd, 1) := by decide +kernel
theorem d_Reader_takesAsk_35 : decode m_Reader_takesAsk.2.1 35 = .ok (.putfield 29, 3) := by decide +kernel
theorem d_Reader_takesAsk_38 : decode m_Reader_takesAsk.2.1 38 = .ok (.aload_n 0, 1) := by decide +kernel
theorem d_Reader_takesAsk_39 : decode m_Reader_takesAsk.2.1 39 = .ok (.iconst 4, 1) := by decide +kernel
theorem d_Reader_takesAsk_40 : decode m_Reader_takesAsk.2.1 40 = .ok (.putfield 26, 3) := by decide +kernel
theorem d_Reader_takesAsk_43 : decode m_Reader_takesAsk.2.1 43 = .ok (.iconst 1, 1) := by decide +kernel
theorem d_Reader_takesAsk_44 : decode m_Reader_takesAsk.2.1 44 = .ok (.ireturn, 1) := by decide +kernel
theorem d_Reader_takesEnd_0 : decode m_Reader_takesEnd.2.1 0 = .ok (.aload_n 0, 1) := by decide +kernel
theorem d_Reader_takesEnd_1 : decode m_Reader_takesEnd.2.1 1 = .ok (.getfield 12, 3) := by decide +kernel
theorem d_Reader_takesEnd_4 : decode m_Reader_takesEnd.2.1 4 = .ok (.getfield 71, 3) := by decide +kernel
theorem d_Reader_takesEnd_7 : decode m_Reader_takesEnd.2.1 7 = .ok (.iload_n 1, 1) := by decide +kernel
theorem d_Reader_takesEnd_8 : decode m_Reader_takesEnd.2.1 8 = .ok (.iaload, 1) := by decide +kernel
theorem d_Reader_takesEnd_9 : decode m_Reader_takesEnd.2.1 9 = .ok (.ifCond .ne 17, 3) := by decide +kernel
theorem d_Reader_takesEnd_12 : decode m_Reader_takesEnd.2.1 12 = .ok (.aload_n 0, 1) := by decide +kernel
theorem d_Reader_takesEnd_13 : decode m_Reader_takesEnd.2.1 13 = .ok (.getfield 12, 3) := by decide +kernel
theorem d_Reader_takesEnd_16 : decode m_Reader_takesEnd.2.1 16 = .ok (.getfield 83, 3) := by decide +kernel
theorem d_Reader_takesEnd_19 : decode m_Reader_takesEnd.2.1 19 = .ok (.iload_n 1, 1) := by decide +kernel
theorem d_Reader_takesEnd_20 : decode m_Reader_takesEnd.2.1 20 = .ok (.iaload, 1) := by decide +kernel
theorem d_Reader_takesEnd_21 : decode m_Reader_takesEnd.2.1 21 = .ok (.ifCond .ne 5, 3) := by decide +kernel
theorem d_Reader_takesEnd_24 : decode m_Reader_takesEnd.2.1 24 = .ok (.iconst 0, 1) := by decide +kernel
theorem d_Reader_takesEnd_25 : decode m_Reader_takesEnd.2.1 25 = .ok (.ireturn, 1) := by decide +kernel
theorem d_Reader_takesEnd_26 : decode m_Reader_takesEnd.2.1 26 = .ok (.aload_n 0, 1) := by decide +kernel
theorem d_Reader_takesEnd_27 : decode m_Reader_takesEnd.2.1 27 = .ok (.getfield 12, 3) := by decide +kernel
theorem d_Reader_takesEnd_30 : decode m_Reader_takesEnd.2.1 30 = .ok (.iload_n 1, 1) := by decide +kernel
theorem d_Reader_takesEnd_31 : decode m_Reader_takesEnd.2.1 31 = .ok (.iconst 1, 1) := by decide +kernel
theorem d_Reader_takesEnd_32 : decode m_Reader_takesEnd.2.1 32 = .ok (.iadd, 1) := by decide +kernel
theorem d_Reader_takesEnd_33 : decode m_Reader_takesEnd.2.1 33 = .ok (.putfield 18, 3) := by decide +kernel
theorem d_Reader_takesEnd_36 : decode m_Reader_takesEnd.2.1 36 = .ok (.iload_n 1, 1) := by decide +kernel
theorem d_Reader_takesEnd_37 : decode m_Reader_takesEnd.2.1 37 = .ok (.iconst 1, 1) := by decide +kernel
theorem d_Reader_takesEnd_38 : decode m_Reader_takesEnd.2.1 38 = .ok (.iadd, 1) := by decide +kernel
theorem d_Reader_takesEnd_39 : decode m_Reader_takesEnd.2.1 39 = .ok (.bipush 10, 2) := by decide +kernel
theorem d_Reader_takesEnd_41 : decode m_Reader_takesEnd.2.1 41 = .ok (.if_icmp .ge 13, 3) := by decide +kernel
theorem d_Reader_takesEnd_44 : decode m_Reader_takesEnd.2.1 44 = .ok (.aload_n 0, 1) := by decide +kernel
theorem d_Reader_takesEnd_45 : decode m_Reader_takesEnd.2.1 45 = .ok (.getfield 12, 3) := by decide +kernel
theorem d_Reader_takesEnd_48 : decode m_Reader_takesEnd.2.1 48 = .ok (.iload_n 1, 1) := by decide +kernel
theorem d_Reader_takesEnd_49 : decode m_Reader_takesEnd.2.1 49 = .ok (.iconst 1, 1) := by decide +kernel
theorem d_Reader_takesEnd_50 : decode m_Reader_takesEnd.2.1 50 = .ok (.iadd, 1) := by decide +kernel
theorem d_Reader_takesEnd_51 : decode m_Reader_takesEnd.2.1 51 = .ok (.invokevirtual 22, 3) := by decide +kernel
theorem d_Reader_takesEnd_54 : decode m_Reader_takesEnd.2.1 54 = .ok (.aload_n 0, 1) := by decide +kernel
theorem d_Reader_takesEnd_55 : decode m_Reader_takesEnd.2.1 55 = .ok (.iconst 0, 1) := by decide +kernel
theorem d_Reader_takesEnd_56 : decode m_Reader_takesEnd.2.1 56 = .ok (.putfield 26, 3) := by decide +kernel
theorem d_Reader_takesEnd_59 : decode m_Reader_takesEnd.2.1 59 = .ok (.iconst 1, 1) := by decide +kernel
theorem d_Reader_takesEnd_60 : decode m_Reader_takesEnd.2.1 60 = .ok (.ireturn, 1) := by decide +kernel
theorem d_Reader_takesFrom_0 : decode m_Reader_takesFrom.2.1 0 = .ok (.aload_n 0, 1) := by decide +kernel
theorem d_Reader_takesFrom_1 : decode m_Reader_takesFrom.2.1 1 = .ok (.getfield 26, 3) := by decide +kernel
theorem d_Reader_takesFrom_4 : decode m_Reader_takesFrom.2.1 4 = .ok (.iconst 1, 1) := by decide +kernel
theorem d_Reader_takesFrom_5 : decode m_Reader_takesFrom.2.1 5 = .ok (.if_icmp .le 5, 3) := by decide +kernel
theorem d_Reader_takesFrom_8 : decode m_Reader_takesFrom.2.1 8 = .ok (.iconst 0, 1) := by decide +kernel
theorem d_Reader_takesFrom_9 : decode m_Reader_takesFrom.2.1 9 = .ok (.ireturn, 1) := by decide +kernel
theorem d_Reader_takesFrom_10 : decode m_Reader_takesFrom.2.1 10 = .ok (.aload_n 0, 1) := by decide +kernel
theorem d_Reader_takesFrom_11 : decode m_Reader_takesFrom.2.1 11 = .ok (.getfield 12, 3) := by decide +kernel
theorem d_Reader_takesFrom_14 : decode m_Reader_takesFrom.2.1 14 = .ok (.getfield 62, 3) := by decide +kernel
theorem d_Reader_takesFrom_17 : decode m_Reader_takesFrom.2.1 17 = .ok (.iload_n 1, 1) := by decide +kernel
theorem d_Reader_takesFrom_18 : decode m_Reader_takesFrom.2.1 18 = .ok (.iaload, 1) := by decide +kernel
theorem d_Reader_takesFrom_19 : decode m_Reader_takesFrom.2.1 19 = .ok (.bipush (-6), 2) := by decide +kernel
theorem d_Reader_takesFrom_21 : decode m_Reader_takesFrom.2.1 21 = .ok (.if_icmp .ne 16, 3) := by decide +kernel
theorem d_Reader_takesFrom_24 : decode m_Reader_takesFrom.2.1 24 = .ok (.aload_n 0, 1) := by decide +kernel
theorem d_Reader_takesFrom_25 : decode m_Reader_takesFrom.2.1 25 = .ok (.getfield 12, 3) := by decide +kernel
theorem d_Reader_takesFrom_28 : decode m_Reader_takesFrom.2.1 28 = .ok (.getfield 62, 3) := by decide +kernel
theorem d_Reader_takesFrom_31 : decode m_Reader_takesFrom.2.1 31 = .ok (.iload_n 1, 1) := by decide +kernel
theorem d_Reader_takesFrom_32 : decode m_Reader_takesFrom.2.1 32 = .ok (.iload_n 2, 1) := by decide +kernel
theorem d_Reader_takesFrom_33 : decode m_Reader_takesFrom.2.1 33 = .ok (.iastore, 1) := by decide +kernel
theorem d_Reader_takesFrom_34 : decode m_Reader_takesFrom.2.1 34 = .ok (.goto 45, 3) := by decide +kernel
theorem d_Reader_takesFrom_37 : decode m_Reader_takesFrom.2.1 37 = .ok (.aload_n 0, 1) := by decide +kernel
theorem d_Reader_takesFrom_38 : decode m_Reader_takesFrom.2.1 38 = .ok (.getfield 12, 3) := by decide +kernel
theorem d_Reader_takesFrom_41 : decode m_Reader_takesFrom.2.1 41 = .ok (.getfield 65, 3) := by decide +kernel
theorem d_Reader_takesFrom_44 : decode m_Reader_takesFrom.2.1 44 = .ok (.iload_n 1, 1) := by decide +kernel
theorem d_Reader_takesFrom_45 : decode m_Reader_takesFrom.2.1 45 = .ok (.iaload, 1) := by decide +kernel
theorem d_Reader_takesFrom_46 : decode m_Reader_takesFrom.2.1 46 = .ok (.bipush (-6), 2) := by decide +kernel
theorem d_Reader_takesFrom_48 : decode m_Reader_takesFrom.2.1 48 = .ok (.if_icmp .ne 29, 3) := by decide +kernel
theorem d_Reader_takesFrom_51 : decode m_Reader_takesFrom.2.1 51 = .ok (.iload_n 2, 1) := by decide +kernel
theorem d_Reader_takesFrom_52 : decode m_Reader_takesFrom.2.1 52 = .ok (.aload_n 0, 1) := by decide +kernel
theorem d_Reader_takesFrom_53 : decode m_Reader_takesFrom.2.1 53 = .ok (.getfield 12, 3) := by decide +kernel
theorem d_Reader_takesFrom_56 : decode m_Reader_takesFrom.2.1 56 = .ok (.getfield 62, 3) := by decide +kernel
theorem d_Reader_takesFrom_59 : decode m_Reader_takesFrom.2.1 59 = .ok (.iload_n 1, 1) := by decide +kernel
theorem d_Reader_takesFrom_60 : decode m_Reader_takesFrom.2.1 60 = .ok (.iaload, 1) := by decide +kernel
theorem d_Reader_takesFrom_61 : decode m_Reader_takesFrom.2.1 61 = .ok (.if_icmp .le 16, 3) := by decide +kernel
theorem d_Reader_takesFrom_64 : decode m_Reader_takesFrom.2.1 64 = .ok (.aload_n 0, 1) := by decide +kernel
theorem d_Reader_takesFrom_65 : decode m_Reader_takesFrom.2.1 65 = .ok (.getfield 12, 3) := by decide +kernel
theorem d_Reader_takesFrom_68 : decode m_Reader_takesFrom.2.1 68 = .ok (.getfield 65, 3) := by decide +kernel
theorem d_Reader_takesFrom_71 : decode m_Reader_takesFrom.2.1 71 = .ok (.iload_n 1, 1) := by decide +kernel
theorem d_Reader_takesFrom_72 : decode m_Reader_takesFrom.2.1 72 = .ok (.iload_n 2, 1) := by decide +kernel
theorem d_Reader_takesFrom_73 : decode m_Reader_takesFrom.2.1 73 = .ok (.iastore, 1) := by decide +kernel
theorem d_Reader_takesFrom_74 : decode m_Reader_takesFrom.2.1 74 = .ok (.goto 5, 3) := by decide +kernel
theorem d_Reader_takesFrom_77 : decode m_Reader_takesFrom.2.1 77 = .ok (.iconst 0, 1) := by decide +kernel
theorem d_Reader_takesFrom_78 : decode m_Reader_takesFrom.2.1 78 = .ok (.ireturn, 1) := by decide +kernel
theorem d_Reader_takesFrom_79 : decode m_Reader_takesFrom.2.1 79 = .ok (.aload_n 0, 1) := by decide +kernel
theorem d_Reader_takesFrom_80 : decode m_Reader_takesFrom.2.1 80 = .ok (.iconst 1, 1) := by decide +kernel
theorem d_Reader_takesFrom_81 : decode m_Reader_takesFrom.2.1 81 = .ok (.putfield 26, 3) := by decide +kernel
theorem d_Reader_takesFrom_84 : decode m_Reader_takesFrom.2.1 84 = .ok (.iconst 1, 1) := by decide +kernel
theorem d_Reader_takesFrom_85 : decode m_Reader_takesFrom.2.1 85 = .ok (.ireturn, 1) := by decide +kernel
theorem d_Reader_takesMan_0 : decode m_Reader_takesMan.2.1 0 = .ok (.aload_n 0, 1) := by decide +kernel
theorem d_Reader_takesMan_1 : decode m_Reader_takesMan.2.1 1 = .ok (.getfield 12, 3) := by decide +kernel
theorem d_Reader_takesMan_4 : decode m_Reader_takesMan.2.1 4 = .ok (.getfield 71, 3) := by decide +kernel
theorem d_Reader_takesMan_7 : decode m_Reader_takesMan.2.1 7 = .ok (.iload_n 1, 1) := by decide +kernel
theorem d_Reader_takesMan_8 : decode m_Reader_takesMan.2.1 8 = .ok (.iaload, 1) := by decide +kernel
theorem d_Reader_takesMan_9 : decode m_Reader_takesMan.2.1 9 = .ok (.iload_n 2, 1) := by decide +kernel
theorem d_Reader_takesMan_10 : decode m_Reader_takesMan.2.1 10 = .ok (.ishr, 1) := by decide +kernel
theorem d_Reader_takesMan_11 : decode m_Reader_takesMan.2.1 11 = .ok (.ifCond .ne 7, 3) := by decide +kernel
theorem d_Reader_takesMan_14 : decode m_Reader_takesMan.2.1 14 = .ok (.iconst 1, 1) := by decide +kernel
theorem d_Reader_takesMan_15 : decode m_Reader_takesMan.2.1 15 = .ok (.goto 4, 3) := by decide +kernel
theorem d_Reader_takesMan_18 : decode m_Reader_takesMan.2.1 18 = .ok (.iconst 0, 1) := by decide +kernel
theorem d_Reader_takesMan_19 : decode m_Reader_takesMan.2.1 19 = .ok (.istore_n 3, 1) := by decide +kernel
theorem d_Reader_takesMan_20 : decode m_Reader_takesMan.2.1 20 = .ok (.aload_n 0, 1) := by decide +kernel
theorem d_Reader_takesMan_21 : decode m_Reader_takesMan.2.1 21 = .ok (.iload_n 1, 1) := by decide +kernel
theorem d_Reader_takesMan_22 : decode m_Reader_takesMan.2.1 22 = .ok (.invokevirtual 80, 3) := by decide +kernel
theorem d_Reader_takesMan_25 : decode m_Reader_takesMan.2.1 25 = .ok (.ifCond .eq 7, 3) := by decide +kernel
theorem d_Reader_takesMan_28 : decode m_Reader_takesMan.2.1 28 = .ok (.iload_n 3, 1) := by decide +kernel
theorem d_Reader_takesMan_29 : decode m_Reader_takesMan.2.1 29 = .ok (.ifCond .ne 5, 3) := by decide +kernel
theorem d_Reader_takesMan_32 : decode m_Reader_takesMan.2.1 32 = .ok (.iconst 0, 1) := by decide +kernel
theorem d_Reader_takesMan_33 : decode m_Reader_takesMan.2.1 33 = .ok (.ireturn, 1) := by decide +kernel
theorem d_Reader_takesMan_34 : decode m_Reader_takesMan.2.1 34 = .ok (.aload_n 0, 1) := by decide +kernel
theorem d_Reader_takesMan_35 : decode m_Reader_takesMan.2.1 35 = .ok (.getfield 12, 3) := by decide +kernel
theorem d_Reader_takesMan_38 : decode m_Reader_takesMan.2.1 38 = .ok (.getfield 71, 3) := by decide +kernel
theorem d_Reader_takesMan_41 : decode m_Reader_takesMan.2.1 41 = .ok (.iload_n 1, 1) := by decide +kernel
theorem d_Reader_takesMan_42 : decode m_Reader_takesMan.2.1 42 = .ok (.dup2, 1) := by decide +kernel
theorem d_Reader_takesMan_43 : decode m_Reader_takesMan.2.1 43 = .ok (.iaload, 1) := by decide +kernel
theorem d_Reader_takesMan_44 : decode m_Reader_takesMan.2.1 44 = .ok (.iconst 1, 1) := by decide +kernel
theorem d_Reader_takesMan_45 : decode m_Reader_takesMan.2.1 45 = .ok (.iload_n 2, 1) := by decide +kernel
theorem d_Reader_takesMan_46 : decode m_Reader_takesMan.2.1 46 = .ok (.ishl, 1) := by decide +kernel
theorem d_Reader_takesMan_47 : decode m_Reader_takesMan.2.1 47 = .ok (.ior, 1) := by decide +kernel
theorem d_Reader_takesMan_48 : decode m_Reader_takesMan.2.1 48 = .ok (.iastore, 1) := by decide +kernel
theorem d_Reader_takesMan_49 : decode m_Reader_takesMan.2.1 49 = .ok (.aload_n 0, 1) := by decide +kernel
theorem d_Reader_takesMan_50 : decode m_Reader_takesMan.2.1 50 = .ok (.iconst 3, 1) := by decide +kernel
theorem d_Reader_takesMan_51 : decode m_Reader_takesMan.2.1 51 = .ok (.putfield 26, 3) := by decide +kernel
theorem d_Reader_takesMan_54 : decode m_Reader_takesMan.2.1 54 = .ok (.iconst 1, 1) := by decide +kernel
theorem d_Reader_takesMan_55 : decode m_Reader_takesMan.2.1 55 = .ok (.ireturn, 1) := by decide +kernel
theorem d_Reader_takesPlus_0 : decode m_Reader_takesPlus.2.1 0 = .ok (.aload_n 0, 1) := by decide +kernel
theorem d_Reader_takesPlus_1 : decode m_Reader_takesPlus.2.1 1 = .ok (.getfield 26, 3) := by decide +kernel
theorem d_Reader_takesPlus_4 : decode m_Reader_takesPlus.2.1 4 = .ok (.iconst 1, 1) := by decide +kernel
theorem d_Reader_takesPlus_5 : decode m_Reader_takesPlus.2.1 5 = .ok (.if_icmp .gt 7, 3) := by decide +kernel
theorem d_Reader_takesPlus_8 : decode m_Reader_takesPlus.2.1 8 = .ok (.iload_n 1, 1) := by decide +kernel
theorem d_Reader_takesPlus_9 : decode m_Reader_takesPlus.2.1 9 = .ok (.ifCond .ne 5, 3) := by decide +kernel
theorem d_Reader_takesPlus_12 : decode m_Reader_takesPlus.2.1 12 = .ok (.iconst 0, 1) := by decide +kernel
theorem d_Reader_takesPlus_13 : decode m_Reader_takesPlus.2.1 13 = .ok (.ireturn, 1) := by decide +kernel
theorem d_Reader_takesPlus_14 : decode m_Reader_takesPlus.2.1 14 = .ok (.aload_n 0, 1) := by decide +kernel
theorem d_Reader_takesPlus_15 : decode m_Reader_takesPlus.2.1 15 = .ok (.iconst 2, 1) := by decide +kernel
theorem d_Reader_takesPlus_16 : decode m_Reader_takesPlus.2.1 16 = .ok (.putfield 26, 3) := by decide +kernel
theorem d_Reader_takesPlus_19 : decode m_Reader_takesPlus.2.1 19 = .ok (.iconst 1, 1) := by decide +kernel
theorem d_Reader_takesPlus_20 : decode m_Reader_takesPlus.2.1 20 = .ok (.ireturn, 1) := by decide +kernel
theorem d_Reader_takesTool_0 : decode m_Reader_takesTool.2.1 0 = .ok (.aload_n 0, 1) := by decide +kernel
theorem d_Reader_takesTool_1 : decode m_Reader_takesTool.2.1 1 = .ok (.getfield 12, 3) := by decide +kernel
theorem d_Reader_takesTool_4 : decode m_Reader_takesTool.2.1 4 = .ok (.getfield 68, 3) := by decide +kernel
theorem d_Reader_takesTool_7 : decode m_Reader_takesTool.2.1 7 = .ok (.iload_n 1, 1) := by decide +kernel
theorem d_Reader_takesTool_8 : decode m_Reader_takesTool.2.1 8 = .ok (.iload_n 2, 1) := by decide +kernel
theorem d_Reader_takesTool_9 : decode m_Reader_takesTool.2.1 9 = .ok (.iastore, 1) := by decide +kernel
theorem d_Reader_takesTool_10 : decode m_Reader_takesTool.2.1 10 = .ok (.aload_n 0, 1) := by decide +kernel
theorem d_Reader_takesTool_11 : decode m_Reader_takesTool.2.1 11 = .ok (.iconst 3, 1) := by decide +kernel
theorem d_Reader_takesTool_12 : decode m_Reader_takesTool.2.1 12 = .ok (.putfield 26, 3) := by decide +kernel
theorem d_Reader_takesTool_15 : decode m_Reader_takesTool.2.1 15 = .ok (.iconst 1, 1) := by decide +kernel
theorem d_Reader_takesTool_16 : decode m_Reader_takesTool.2.1 16 = .ok (.ireturn, 1) := by decide +kernel
theorem d_Shares_holders_0 : decode m_Shares_holders.2.1 0 = .ok (.iconst 0, 1) := by decide +kernel
theorem d_Shares_holders_1 : decode m_Shares_holders.2.1 1 = .ok (.istore 4, 2) := by decide +kernel
theorem d_Shares_holders_3 : decode m_Shares_holders.2.1 3 = .ok (.iconst 0, 1) := by decide +kernel
theorem d_Shares_holders_4 : decode m_Shares_holders.2.1 4 = .ok (.istore 5, 2) := by decide +kernel
theorem d_Shares_holders_6 : decode m_Shares_holders.2.1 6 = .ok (.iload 5, 2) := by decide +kernel
theorem d_Shares_holders_8 : decode m_Shares_holders.2.1 8 = .ok (.bipush 6, 2) := by decide +kernel
theorem d_Shares_holders_10 : decode m_Shares_holders.2.1 10 = .ok (.if_icmp .ge 46, 3) := by decide +kernel
theorem d_Shares_holders_13 : decode m_Shares_holders.2.1 13 = .ok (.aload_n 0, 1) := by decide +kernel
theorem d_Shares_holders_14 : decode m_Shares_holders.2.1 14 = .ok (.aload_n 1, 1) := by decide +kernel
theorem d_Shares_holders_15 : decode m_Shares_holders.2.1 15 = .ok (.iload_n 2, 1) := by decide +kernel
theorem d_Shares_holders_16 : decode m_Shares_holders.2.1 16 = .ok (.iload 5, 2) := by decide +kernel
theorem d_Shares_holders_18 : decode m_Shares_holders.2.1 18 = .ok (.invokevirtual 43, 3) := by decide +kernel
theorem d_Shares_holders_21 : decode m_Shares_holders.2.1 21 = .ok (.istore 6, 2) := by decide +kernel
theorem d_Shares_holders_23 : decode m_Shares_holders.2.1 23 = .ok (.iload 6, 2) := by decide +kernel
theorem d_Shares_holders_25 : decode m_Shares_holders.2.1 25 = .ok (.ifCond .le 25, 3) := by decide +kernel
theorem d_Shares_holders_28 : decode m_Shares_holders.2.1 28 = .ok (.iload 6, 2) := by decide +kernel
theorem d_Shares_holders_30 : decode m_Shares_holders.2.1 30 = .ok (.bipush 10, 2) := by decide +kernel
theorem d_Shares_holders_32 : decode m_Shares_holders.2.1 32 = .ok (.imul, 1) := by decide +kernel
theorem d_Shares_holders_33 : decode m_Shares_holders.2.1 33 = .ok (.iload_n 3, 1) := by decide +kernel
theorem d_Shares_holders_34 : decode m_Shares_holders.2.1 34 = .ok (.sipush 6144, 3) := by decide +kernel
theorem d_Shares_holders_37 : decode m_Shares_holders.2.1 37 = .ok (.imul, 1) := by decide +kernel
theorem d_Shares_holders_38 : decode m_Shares_holders.2.1 38 = .ok (.if_icmp .lt 12, 3) := by decide +kernel
theorem d_Shares_holders_41 : decode m_Shares_holders.2.1 41 = .ok (.iload 4, 2) := by decide +kernel
theorem d_Shares_holders_43 : decode m_Shares_holders.2.1 43 = .ok (.iconst 1, 1) := by decide +kernel
theorem d_Shares_holders_44 : decode m_Shares_holders.2.1 44 = .ok (.iload 5, 2) := by decide +kernel
theorem d_Shares_holders_46 : decode m_Shares_holders.2.1 46 = .ok (.ishl, 1) := by decide +kernel
theorem d_Shares_holders_47 : decode m_Shares_holders.2.1 47 = .ok (.ior, 1) := by decide +kernel
theorem d_Shares_holders_48 : decode m_Shares_holders.2.1 48 = .ok (.istore 4, 2) := by decide +kernel
theorem d_Shares_holders_50 : decode m_Shares_holders.2.1 50 = .ok (.iinc 5 1, 3) := by decide +kernel
theorem d_Shares_holders_53 : decode m_Shares_holders.2.1 53 = .ok (.goto (-47), 3) := by decide +kernel
theorem d_Shares_holders_56 : decode m_Shares_holders.2.1 56 = .ok (.iload 4, 2) := by decide +kernel
theorem d_Shares_holders_58 : decode m_Shares_holders.2.1 58 = .ok (.ireturn, 1) := by decide +kernel
theorem d_Shares_init_0 : decode m_Shares_init.2.1 0 = .ok (.aload_n 0, 1) := by decide +kernel
theorem d_Shares_init_1 : decode m_Shares_init.2.1 1 = .ok (.invokespecial 3, 3) := by decide +kernel
theorem d_Shares_init_4 : decode m_Shares_init.2.1 4 = .ok (.aload_n 0, 1) := by decide +kernel
theorem d_Shares_init_5 : decode m_Shares_init.2.1 5 = .ok (.bipush 10, 2) := by decide +kernel
theorem d_Shares_init_7 : decode m_Shares_init.2.1 7 = .ok (.newarray .int, 2) := by decide +kernel
theorem d_Shares_init_9 : decode m_Shares_init.2.1 9 = .ok (.putfield 9, 3) := by decide +kernel
theorem d_Shares_init_12 : decode m_Shares_init.2.1 12 = .ok (.return_, 1) := by decide +kernel
theorem d_Shares_isAhead_0 : decode m_Shares_isAhead.2.1 0 = .ok (.iload_n 0, 1) := by decide +kernel
theorem d_Shares_isAhead_1 : decode m_Shares_isAhead.2.1 1 = .ok (.ifCond .lt 12, 3) := by decide +kernel
theorem d_Shares_isAhead_4 : decode m_Shares_isAhead.2.1 4 = .ok (.iload_n 0, 1) := by decide +kernel
theorem d_Shares_isAhead_5 : decode m_Shares_isAhead.2.1 5 = .ok (.iload_n 1, 1) := by decide +kernel
theorem d_Shares_isAhead_6 : decode m_Shares_isAhead.2.1 6 = .ok (.if_icmp .ge 7, 3) := by decide +kernel
theorem d_Shares_isAhead_9 : decode m_Shares_isAhead.2.1 9 = .ok (.iconst 1, 1) := by decide +kernel
theorem d_Shares_isAhead_10 : decode m_Shares_isAhead.2.1 10 = .ok (.goto 4, 3) := by decide +kernel
theorem d_Shares_isAhead_13 : decode m_Shares_isAhead.2.1 13 = .ok (.iconst 0, 1) := by decide +kernel
theorem d_Shares_isAhead_14 : decode m_Shares_isAhead.2.1 14 = .ok (.ireturn, 1) := by decide +kernel
theorem d_Shares_lowest_0 : decode m_Shares_lowest.2.1 0 = .ok (.iload_n 1, 1) := by decide +kernel
theorem d_Shares_lowest_1 : decode m_Shares_lowest.2.1 1 = .ok (.istore_n 3, 1) := by decide +kernel
theorem d_Shares_lowest_2 : decode m_Shares_lowest.2.1 2 = .ok (.iload_n 0, 1) := by decide +kernel
theorem d_Shares_lowest_3 : decode m_Shares_lowest.2.1 3 = .ok (.istore 4, 2) := by decide +kernel
theorem d_Shares_lowest_5 : decode m_Shares_lowest.2.1 5 = .ok (.iconst 0, 1) := by decide +kernel
theorem d_Shares_lowest_6 : decode m_Shares_lowest.2.1 6 = .ok (.istore 5, 2) := by decide +kernel
theorem d_Shares_lowest_8 : decode m_Shares_lowest.2.1 8 = .ok (.iload 5, 2) := by decide +kernel
theorem d_Shares_lowest_10 : decode m_Shares_lowest.2.1 10 = .ok (.bipush 64, 2) := by decide +kernel
theorem d_Shares_lowest_12 : decode m_Shares_lowest.2.1 12 = .ok (.if_icmp .ge 27, 3) := by decide +kernel
theorem d_Shares_lowest_15 : decode m_Shares_lowest.2.1 15 = .ok (.iload 4, 2) := by decide +kernel
theorem d_Shares_lowest_17 : decode m_Shares_lowest.2.1 17 = .ok (.ifCond .eq 22, 3) := by decide +kernel
theorem d_Shares_lowest_20 : decode m_Shares_lowest.2.1 20 = .ok (.iload_n 3, 1) := by decide +kernel
theorem d_Shares_lowest_21 : decode m_Shares_lowest.2.1 21 = .ok (.iload 4, 2) := by decide +kernel
theorem d_Shares_lowest_23 : decode m_Shares_lowest.2.1 23 = .ok (.irem, 1) := by decide +kernel
theorem d_Shares_lowest_24 : decode m_Shares_lowest.2.1 24 = .ok (.istore 6, 2) := by decide +kernel
theorem d_Shares_lowest_26 : decode m_Shares_lowest.2.1 26 = .ok (.iload 4, 2) := by decide +kernel
theorem d_Shares_lowest_28 : decode m_Shares_lowest.2.1 28 = .ok (.istore_n 3, 1) := by decide +kernel
theorem d_Shares_lowest_29 : decode m_Shares_lowest.2.1 29 = .ok (.iload 6, 2) := by decide +kernel
theorem d_Shares_lowest_31 : decode m_Shares_lowest.2.1 31 = .ok (.istore 4, 2) := by decide +kernel
theorem d_Shares_lowest_33 : decode m_Shares_lowest.2.1 33 = .ok (.iinc 5 1, 3) := by decide +kernel
theorem d_Shares_lowest_36 : decode m_Shares_lowest.2.1 36 = .ok (.goto (-28), 3) := by decide +kernel
theorem d_Shares_lowest_39 : decode m_Shares_lowest.2.1 39 = .ok (.iload_n 3, 1) := by decide +kernel
theorem d_Shares_lowest_40 : decode m_Shares_lowest.2.1 40 = .ok (.ifCond .ne 5, 3) := by decide +kernel
theorem d_Shares_lowest_43 : decode m_Shares_lowest.2.1 43 = .ok (.iconst 0, 1) := by decide +kernel
theorem d_Shares_lowest_44 : decode m_Shares_lowest.2.1 44 = .ok (.ireturn, 1) := by decide +kernel
theorem d_Shares_lowest_45 : decode m_Shares_lowest.2.1 45 = .ok (.iload_n 2, 1) := by decide +kernel
theorem d_Shares_lowest_46 : decode m_Shares_lowest.2.1 46 = .ok (.ifCond .ne 7, 3) := by decide +kernel
theorem d_Shares_lowest_49 : decode m_Shares_lowest.2.1 49 = .ok (.iload_n 0, 1) := by decide +kernel
theorem d_Shares_lowest_50 : decode m_Shares_lowest.2.1 50 = .ok (.goto 4, 3) := by decide +kernel
theorem d_Shares_lowest_53 : decode m_Shares_lowest.2.1 53 = .ok (.iload_n 1, 1) := by decide +kernel
theorem d_Shares_lowest_54 : decode m_Shares_lowest.2.1 54 = .ok (.iload_n 3, 1) := by decide +kernel
theorem d_Shares_lowest_55 : decode m_Shares_lowest.2.1 55 = .ok (.idiv, 1) := by decide +kernel
theorem d_Shares_lowest_56 : decode m_Shares_lowest.2.1 56 = .ok (.ireturn, 1) := by decide +kernel
theorem d_Shares_partsOf_0 : decode m_Shares_partsOf.2.1 0 = .ok (.iconst 0, 1) := by decide +kernel
theorem d_Shares_partsOf_1 : decode m_Shares_partsOf.2.1 1 = .ok (.istore 4, 2) := by decide +kernel
theorem d_Shares_partsOf_3 : decode m_Shares_partsOf.2.1 3 = .ok (.iload 4, 2) := by decide +kernel
theorem d_Shares_partsOf_5 : decode m_Shares_partsOf.2.1 5 = .ok (.iload_n 2, 1) := by decide +kernel
theorem d_Shares_partsOf_6 : decode m_Shares_partsOf.2.1 6 = .ok (.if_icmp .gt 116, 3) := by decide +kernel
theorem d_Shares_partsOf_9 : decode m_Shares_partsOf.2.1 9 = .ok (.iload 4, 2) := by decide +kernel
theorem d_Shares_partsOf_11 : decode m_Shares_partsOf.2.1 11 = .ok (.bipush 10, 2) := by decide +kernel
theorem d_Shares_partsOf_13 : decode m_Shares_partsOf.2.1 13 = .ok (.if_icmp .ge 109, 3) := by decide +kernel
theorem d_Shares_partsOf_16 : decode m_Shares_partsOf.2.1 16 = .ok (.aload_n 1, 1) := by decide +kernel
theorem d_Shares_partsOf_17 : decode m_Shares_partsOf.2.1 17 = .ok (.getfield 15, 3) := by decide +kernel
theorem d_Shares_partsOf_20 : decode m_Shares_partsOf.2.1 20 = .ok (.iload 4, 2) := by decide +kernel
theorem d_Shares_partsOf_22 : decode m_Shares_partsOf.2.1 22 = .ok (.iaload, 1) := by decide +kernel
theorem d_Shares_partsOf_23 : decode m_Shares_partsOf.2.1 23 = .ok (.istore 5, 2) := by decide +kernel
theorem d_Shares_partsOf_25 : decode m_Shares_partsOf.2.1 25 = .ok (.aload_n 1, 1) := by decide +kernel
theorem d_Shares_partsOf_26 : decode m_Shares_partsOf.2.1 26 = .ok (.getfield 20, 3) := by decide +kernel
theorem d_Shares_partsOf_29 : decode m_Shares_partsOf.2.1 29 = .ok (.iload 4, 2) := by decide +kernel
theorem d_Shares_partsOf_31 : decode m_Shares_partsOf.2.1 31 = .ok (.iaload, 1) := by decide +kernel
theorem d_Shares_partsOf_32 : decode m_Shares_partsOf.2.1 32 = .ok (.istore 6, 2) := by decide +kernel
theorem d_Shares_partsOf_34 : decode m_Shares_partsOf.2.1 34 = .ok (.iload 5, 2) := by decide +kernel
theorem d_Shares_partsOf_36 : decode m_Shares_partsOf.2.1 36 = .ok (.iload 4, 2) := by decide +kernel
theorem d_Shares_partsOf_38 : decode m_Shares_partsOf.2.1 38 = .ok (.invokestatic 23, 3) := by decide +kernel
theorem d_Shares_partsOf_41 : decode m_Shares_partsOf.2.1 41 = .ok (.ifCond .ne 24, 3) := by decide +kernel
theorem d_Shares_partsOf_44 : decode m_Shares_partsOf.2.1 44 = .ok (.aload_n 0, 1) := by decide +kernel
theorem d_Shares_partsOf_45 : decode m_Shares_partsOf.2.1 45 = .ok (.getfield 9, 3) := by decide +kernel
theorem d_Shares_partsOf_48 : decode m_Shares_partsOf.2.1 48 = .ok (.iload 4, 2) := by decide +kernel
theorem d_Shares_partsOf_50 : decode m_Shares_partsOf.2.1 50 = .ok (.aload_n 1, 1) := by decide +kernel
theorem d_Shares_partsOf_51 : decode m_Shares_partsOf.2.1 51 = .ok (.getfield 27, 3) := by decide +kernel
theorem d_Shares_partsOf_54 : decode m_Shares_partsOf.2.1 54 = .ok (.iload 4, 2) := by decide +kernel
theorem d_Shares_partsOf_56 : decode m_Shares_partsOf.2.1 56 = .ok (.iaload, 1) := by decide +kernel
theorem d_Shares_partsOf_57 : decode m_Shares_partsOf.2.1 57 = .ok (.iload_n 3, 1) := by decide +kernel
theorem d_Shares_partsOf_58 : decode m_Shares_partsOf.2.1 58 = .ok (.invokestatic 30, 3) := by decide +kernel
theorem d_Shares_partsOf_61 : decode m_Shares_partsOf.2.1 61 = .ok (.iastore, 1) := by decide +kernel
theorem d_Shares_partsOf_62 : decode m_Shares_partsOf.2.1 62 = .ok (.goto 54, 3) := by decide +kernel
theorem d_Shares_partsOf_65 : decode m_Shares_partsOf.2.1 65 = .ok (.iload 6, 2) := by decide +kernel
theorem d_Shares_partsOf_67 : decode m_Shares_partsOf.2.1 67 = .ok (.iload 4, 2) := by decide +kernel
theorem d_Shares_partsOf_69 : decode m_Shares_partsOf.2.1 69 = .ok (.invokestatic 23, 3) := by decide +kernel
theorem d_Shares_partsOf_72 : decode m_Shares_partsOf.2.1 72 = .ok (.ifCond .ne 20, 3) := by decide +kernel
theorem d_Shares_partsOf_75 : decode m_Shares_partsOf.2.1 75 = .ok (.aload_n 0, 1) := by decide +kernel
theorem d_Shares_partsOf_76 : decode m_Shares_partsOf.2.1 76 = .ok (.getfield 9, 3) := by decide +kernel
theorem d_Shares_partsOf_79 : decode m_Shares_partsOf.2.1 79 = .ok (.iload 4, 2) := by decide +kernel
theorem d_Shares_partsOf_81 : decode m_Shares_partsOf.2.1 81 = .ok (.aload_n 0, 1) := by decide +kernel
theorem d_Shares_partsOf_82 : decode m_Shares_partsOf.2.1 82 = .ok (.getfield 9, 3) := by decide +kernel
theorem d_Shares_partsOf_85 : decode m_Shares_partsOf.2.1 85 = .ok (.iload 5, 2) := by decide +kernel
theorem d_Shares_partsOf_87 : decode m_Shares_partsOf.2.1 87 = .ok (.iaload, 1) := by decide +kernel
theorem d_Shares_partsOf_88 : decode m_Shares_partsOf.2.1 88 = .ok (.iastore, 1) := by decide +kernel
theorem d_Shares_partsOf_89 : decode m_Shares_partsOf.2.1 89 = .ok (.goto 27, 3) := by decide +kernel
theorem d_Shares_partsOf_92 : decode m_Shares_partsOf.2.1 92 = .ok (.aload_n 0, 1) := by decide +kernel
theorem d_Shares_partsOf_93 : decode m_Shares_partsOf.2.1 93 = .ok (.getfield 9, 3) := by decide +kernel
theorem d_Shares_partsOf_96 : decode m_Shares_partsOf.2.1 96 = .ok (.iload 4, 2) := by decide +kernel
theorem d_Shares_partsOf_98 : decode m_Shares_partsOf.2.1 98 = .ok (.aload_n 0, 1) := by decide +kernel
theorem d_Shares_partsOf_99 : decode m_Shares_partsOf.2.1 99 = .ok (.getfield 9, 3) := by decide +kernel
theorem d_Shares_partsOf_102 : decode m_Shares_partsOf.2.1 102 = .ok (.iload 5, 2) := by decide +kernel
theorem d_Shares_partsOf_104 : decode m_Shares_partsOf.2.1 104 = .ok (.iaload, 1) := by decide +kernel
theorem d_Shares_partsOf_105 : decode m_Shares_partsOf.2.1 105 = .ok (.aload_n 0, 1) := by decide +kernel
theorem d_Shares_partsOf_106 : decode m_Shares_partsOf.2.1 106 = .ok (.getfield 9, 3) := by decide +kernel
theorem d_Shares_partsOf_109 : decode m_Shares_partsOf.2.1 109 = .ok (.iload 6, 2) := by decide +kernel
theorem d_Shares_partsOf_111 : decode m_Shares_partsOf.2.1 111 = .ok (.iaload, 1) := by decide +kernel
theorem d_Shares_partsOf_112 : decode m_Shares_partsOf.2.1 112 = .ok (.iadd, 1) := by decide +kernel
theorem d_Shares_partsOf_113 : decode m_Shares_partsOf.2.1 113 = .ok (.iconst 2, 1) := by decide +kernel
theorem d_Shares_partsOf_114 : decode m_Shares_partsOf.2.1 114 = .ok (.idiv, 1) := by decide +kernel
theorem d_Shares_partsOf_115 : decode m_Shares_partsOf.2.1 115 = .ok (.iastore, 1) := by decide +kernel
theorem d_Shares_partsOf_116 : decode m_Shares_partsOf.2.1 116 = .ok (.iinc 4 1, 3) := by decide +kernel
theorem d_Shares_partsOf_119 : decode m_Shares_partsOf.2.1 119 = .ok (.goto (-116), 3) := by decide +kernel
theorem d_Shares_partsOf_122 : decode m_Shares_partsOf.2.1 122 = .ok (.aload_n 0, 1) := by decide +kernel
theorem d_Shares_partsOf_123 : decode m_Shares_partsOf.2.1 123 = .ok (.getfield 9, 3) := by decide +kernel
theorem d_Shares_partsOf_126 : decode m_Shares_partsOf.2.1 126 = .ok (.iload_n 2, 1) := by decide +kernel
theorem d_Shares_partsOf_127 : decode m_Shares_partsOf.2.1 127 = .ok (.iaload, 1) := by decide +kernel
theorem d_Shares_partsOf_128 : decode m_Shares_partsOf.2.1 128 = .ok (.ireturn, 1) := by decide +kernel
theorem d_Shares_partsOfHands_0 : decode m_Shares_partsOfHands.2.1 0 = .ok (.iload_n 0, 1) := by decide +kernel
theorem d_Shares_partsOfHands_1 : decode m_Shares_partsOfHands.2.1 1 = .ok (.invokestatic 34, 3) := by decide +kernel
theorem d_Shares_partsOfHands_4 : decode m_Shares_partsOfHands.2.1 4 = .ok (.istore_n 2, 1) := by decide +kernel
theorem d_Shares_partsOfHands_5 : decode m_Shares_partsOfHands.2.1 5 = .ok (.iload_n 2, 1) := by decide +kernel
theorem d_Shares_partsOfHands_6 : decode m_Shares_partsOfHands.2.1 6 = .ok (.ifCond .eq 11, 3) := by decide +kernel
theorem d_Shares_partsOfHands_9 : decode m_Shares_partsOfHands.2.1 9 = .ok (.iload_n 0, 1) := by decide +kernel
theorem d_Shares_partsOfHands_10 : decode m_Shares_partsOfHands.2.1 10 = .ok (.iload_n 1, 1) := by decide +kernel
theorem d_Shares_partsOfHands_11 : decode m_Shares_partsOfHands.2.1 11 = .ok (.invokestatic 40, 3) := by decide +kernel
theorem d_Shares_partsOfHands_14 : decode m_Shares_partsOfHands.2.1 14 = .ok (.ifCond .ne 7, 3) := by decide +kernel
theorem d_Shares_partsOfHands_17 : decode m_Shares_partsOfHands.2.1 17 = .ok (.iconst 0, 1) := by decide +kernel
theorem d_Shares_partsOfHands_18 : decode m_Shares_partsOfHands.2.1 18 = .ok (.goto 8, 3) := by decide +kernel
theorem d_Shares_partsOfHands_21 : decode m_Shares_partsOfHands.2.1 21 = .ok (.sipush 6144, 3) := by decide +kernel
theorem d_Shares_partsOfHands_24 : decode m_Shares_partsOfHands.2.1 24 = .ok (.iload_n 2, 1) := by decide +kernel
theorem d_Shares_partsOfHands_25 : decode m_Shares_partsOfHands.2.1 25 = .ok (.idiv, 1) := by decide +kernel
theorem d_Shares_partsOfHands_26 : decode m_Shares_partsOfHands.2.1 26 = .ok (.ireturn, 1) := by decide +kernel
theorem d_Town_addSight_0 : decode m_Town_addSight.2.1 0 = .ok (.aload_n 0, 1) := by decide +kernel
theorem d_Town_addSight_1 : decode m_Town_addSight.2.1 1 = .ok (.getfield 48, 3) := by decide +kernel
theorem d_Town_addSight_4 : decode m_Town_addSight.2.1 4 = .ok (.bipush 6, 2) := by decide +kernel
theorem d_Town_addSight_6 : decode m_Town_addSight.2.1 6 = .ok (.if_icmp .lt 6, 3) := by decide +kernel
theorem d_Town_addSight_9 : decode m_Town_addSight.2.1 9 = .ok (.bipush (-4), 2) := by decide +kernel
theorem d_Town_addSight_11 : decode m_Town_addSight.2.1 11 = .ok (.ireturn, 1) := by decide +kernel
theorem d_Town_addSight_12 : decode m_Town_addSight.2.1 12 = .ok (.aload_n 0, 1) := by decide +kernel
theorem d_Town_addSight_13 : decode m_Town_addSight.2.1 13 = .ok (.getfield 25, 3) := by decide +kernel
theorem d_Town_addSight_16 : decode m_Town_addSight.2.1 16 = .ok (.aload_n 0, 1) := by decide +kernel
theorem d_Town_addSight_17 : decode m_Town_addSight.2.1 17 = .ok (.getfield 48, 3) := by decide +kernel
theorem d_Town_addSight_20 : decode m_Town_addSight.2.1 20 = .ok (.iload_n 1, 1) := by decide +kernel
theorem d_Town_addSight_21 : decode m_Town_addSight.2.1 21 = .ok (.iastore, 1) := by decide +kernel
theorem d_Town_addSight_22 : decode m_Town_addSight.2.1 22 = .ok (.aload_n 0, 1) := by decide +kernel
theorem d_Town_addSight_23 : decode m_Town_addSight.2.1 23 = .ok (.getfield 28, 3) := by decide +kernel
theorem d_Town_addSight_26 : decode m_Town_addSight.2.1 26 = .ok (.aload_n 0, 1) := by decide +kernel
theorem d_Town_addSight_27 : decode m_Town_addSight.2.1 27 = .ok (.getfield 48, 3) := by decide +kernel
theorem d_Town_addSight_30 : decode m_Town_addSight.2.1 30 = .ok (.iload_n 2, 1) := by decide +kernel
theorem d_Town_addSight_31 : decode m_Town_addSight.2.1 31 = .ok (.iastore, 1) := by decide +kernel
theorem d_Town_addSight_32 : decode m_Town_addSight.2.1 32 = .ok (.aload_n 0, 1) := by decide +kernel
theorem d_Town_addSight_33 : decode m_Town_addSight.2.1 33 = .ok (.dup, 1) := by decide +kernel
theorem d_Town_addSight_34 : decode m_Town_addSight.2.1 34 = .ok (.getfield 48, 3) := by decide +kernel
theorem d_Town_addSight_37 : decode m_Town_addSight.2.1 37 = .ok (.iconst 1, 1) := by decide +kernel
theorem d_Town_addSight_38 : decode m_Town_addSight.2.1 38 = .ok (.iadd, 1) := by decide +kernel
theorem d_Town_addSight_39 : decode m_Town_addSight.2.1 39 = .ok (.putfield 48, 3) := by decide +kernel
theorem d_Town_addSight_42 : decode m_Town_addSight.2.1 42 = .ok (.aload_n 0, 1) := by decide +kernel
theorem d_Town_addSight_43 : decode m_Town_addSight.2.1 43 = .ok (.getfield 48, 3) := by decide +kernel
theorem d_Town_addSight_46 : decode m_Town_addSight.2.1 46 = .ok (.ireturn, 1) := by decide +kernel
theorem d_Town_barredMen_0 : decode m_Town_barredMen.2.1 0 = .ok (.aload_n 0, 1) := by decide +kernel
theorem d_Town_barredMen_1 : decode m_Town_barredMen.2.1 1 = .ok (.aload_n 0, 1) := by decide +kernel
theorem d_Town_barredMen_2 : decode m_Town_barredMen.2.1 2 = .ok (.iload_n 1, 1) := by decide +kernel
theorem d_Town_barredMen_3 : decode m_Town_barredMen.2.1 3 = .ok (.invokevirtual 72, 3) := by decide +kernel
theorem d_Town_barredMen_6 : decode m_Town_barredMen.2.1 6 = .ok (.invokevirtual 75, 3) := by decide +kernel
theorem d_Town_barredMen_9 : decode m_Town_barredMen.2.1 9 = .ok (.ireturn, 1) := by decide +kernel
theorem d_Town_become_0 : decode m_Town_become.2.1 0 = .ok (.aload_n 0, 1) := by decide +kernel
theorem d_Town_become_1 : decode m_Town_become.2.1 1 = .ok (.getfield 12, 3) := by decide +kernel
theorem d_Town_become_4 : decode m_Town_become.2.1 4 = .ok (.aload_n 1, 1) := by decide +kernel
theorem d_Town_become_5 : decode m_Town_become.2.1 5 = .ok (.getfield 12, 3) := by decide +kernel
theorem d_Town_become_8 : decode m_Town_become.2.1 8 = .ok (.invokevirtual 38, 3) := by decide +kernel
theorem d_Town_become_11 : decode m_Town_become.2.1 11 = .ok (.aload_n 1, 1) := by decide +kernel
theorem d_Town_become_12 : decode m_Town_become.2.1 12 = .ok (.getfield 18, 3) := by decide +kernel
theorem d_Town_become_15 : decode m_Town_become.2.1 15 = .ok (.iconst 0, 1) := by decide +kernel
theorem d_Town_become_16 : decode m_Town_become.2.1 16 = .ok (.aload_n 0, 1) := by decide +kernel
theorem d_Town_become_17 : decode m_Town_become.2.1 17 = .ok (.getfield 18, 3) := by decide +kernel
theorem d_Town_become_20 : decode m_Town_become.2.1 20 = .ok (.iconst 0, 1) := by decide +kernel
theorem d_Town_become_21 : decode m_Town_become.2.1 21 = .ok (.bipush 6, 2) := by decide +kernel
theorem d_Town_become_23 : decode m_Town_become.2.1 23 = .ok (.invokestatic 42, 3) := by decide +kernel
theorem d_Town_become_26 : decode m_Town_become.2.1 26 = .ok (.aload_n 1, 1) := by decide +kernel
theorem d_Town_become_27 : decode m_Town_become.2.1 27 = .ok (.getfield 22, 3) := by decide +kernel
theorem d_Town_become_30 : decode m_Town_become.2.1 30 = .ok (.iconst 0, 1) := by decide +kernel
theorem d_Town_become_31 : decode m_Town_become.2.1 31 = .ok (.aload_n 0, 1) := by decide +kernel
theorem d_Town_become_32 : decode m_Town_become.2.1 32 = .ok (.getfield 22, 3) := by decide +kernel
theorem d_Town_become_35 : decode m_Town_become.2.1 35 = .ok (.iconst 0, 1) := by decide +kernel
theorem d_Town_become_36 : decode m_Town_become.2.1 36 = .ok (.bipush 10, 2) := by decide +kernel
theorem d_Town_become_38 : decode m_Town_become.2.1 38 = .ok (.invokestatic 42, 3) := by decide +kernel
theorem d_Town_become_41 : decode m_Town_become.2.1 41 = .ok (.aload_n 1, 1) := by decide +kernel
theorem d_Town_become_42 : decode m_Town_become.2.1 42 = .ok (.getfield 25, 3) := by decide +kernel
theorem d_Town_become_45 : decode m_Town_become.2.1 45 = .ok (.iconst 0, 1) := by decide +kernel
theorem d_Town_become_46 : decode m_Town_become.2.1 46 = .ok (.aload_n 0, 1) := by decide +kernel
theorem d_Town_become_47 : decode m_Town_become.2.1 47 = .ok (.getfield 25, 3) := by decide +kernel
theorem d_Town_become_50 : decode m_Town_become.2.1 50 = .ok (.iconst 0, 1) := by decide +kernel
theorem d_Town_become_51 : decode m_Town_become.2.1 51 = .ok (.bipush 6, 2) := by decide +kernel
theorem d_Town_become_53 : decode m_Town_become.2.1 53 = .ok (.invokestatic 42, 3) := by decide +kernel
theorem d_Town_become_56 : decode m_Town_become.2.1 56 = .ok (.aload_n 1, 1) := by decide +kernel
theorem d_Town_become_57 : decode m_Town_become.2.1 57 = .ok (.getfield 28, 3) := by decide +kernel
theorem d_Town_become_60 : decode m_Town_become.2.1 60 = .ok (.iconst 0, 1) := by decide +kernel
theorem d_Town_become_61 : decode m_Town_become.2.1 61 = .ok (.aload_n 0, 1) := by decide +kernel
theorem d_Town_become_62 : decode m_Town_become.2.1 62 = .ok (.getfield 28, 3) := by decide +kernel
theorem d_Town_become_65 : decode m_Town_become.2.1 65 = .ok (.iconst 0, 1) := by decide +kernel
theorem d_Town_become_66 : decode m_Town_become.2.1 66 = .ok (.bipush 6, 2) := by decide +kernel
theorem d_Town_become_68 : decode m_Town_become.2.1 68 = .ok (.invokestatic 42, 3) := by decide +kernel
theorem d_Town_become_71 : decode m_Town_become.2.1 71 = .ok (.aload_n 0, 1) := by decide +kernel
theorem d_Town_become_72 : decode m_Town_become.2.1 72 = .ok (.aload_n 1, 1) := by decide +kernel
theorem d_Town_become_73 : decode m_Town_become.2.1 73 = .ok (.getfield 48, 3) := by decide +kernel
theorem d_Town_become_76 : decode m_Town_become.2.1 76 = .ok (.putfield 48, 3) := by decide +kernel
theorem d_Town_become_79 : decode m_Town_become.2.1 79 = .ok (.aload_n 0, 1) := by decide +kernel
theorem d_Town_become_80 : decode m_Town_become.2.1 80 = .ok (.aload_n 1, 1) := by decide +kernel
theorem d_Town_become_81 : decode m_Town_become.2.1 81 = .ok (.getfield 31, 3) := by decide +kernel
theorem d_Town_become_84 : decode m_Town_become.2.1 84 = .ok (.putfield 31, 3) := by decide +kernel
theorem d_Town_become_87 : decode m_Town_become.2.1 87 = .ok (.aload_n 0, 1) := by decide +kernel
theorem d_Town_become_88 : decode m_Town_become.2.1 88 = .ok (.aload_n 1, 1) := by decide +kernel
theorem d_Town_become_89 : decode m_Town_become.2.1 89 = .ok (.getfield 51, 3) := by decide +kernel
theorem d_Town_become_92 : decode m_Town_become.2.1 92 = .ok (.putfield 51, 3) := by decide +kernel
theorem d_Town_become_95 : decode m_Town_become.2.1 95 = .ok (.aload_n 0, 1) := by decide +kernel
theorem d_Town_become_96 : decode m_Town_become.2.1 96 = .ok (.aload_n 1, 1) := by decide +kernel
theorem d_Town_become_97 : decode m_Town_become.2.1 97 = .ok (.getfield 35, 3) := by decide +kernel
theorem d_Town_become_100 : decode m_Town_become.2.1 100 = .ok (.putfield 35, 3) := by decide +kernel
theorem d_Town_become_103 : decode m_Town_become.2.1 103 = .ok (.return_, 1) := by decide +kernel
theorem d_Town_change_0 : decode m_Town_change.2.1 0 = .ok (.iload_n 1, 1) := by decide +kernel
theorem d_Town_change_1 : decode m_Town_change.2.1 1 = .ok (.ifCond .ne 16, 3) := by decide +kernel
theorem d_Town_change_4 : decode m_Town_change.2.1 4 = .ok (.aload_n 0, 1) := by decide +kernel
theorem d_Town_change_5 : decode m_Town_change.2.1 5 = .ok (.getfield 31, 3) := by decide +kernel
theorem d_Town_change_8 : decode m_Town_change.2.1 8 = .ok (.istore_n 3, 1) := by decide +kernel
theorem d_Town_change_9 : decode m_Town_change.2.1 9 = .ok (.aload_n 0, 1) := by decide +kernel
theorem d_Town_change_10 : decode m_Town_change.2.1 10 = .ok (.iload_n 2, 1) := by decide +kernel
theorem d_Town_change_11 : decode m_Town_change.2.1 11 = .ok (.putfield 31, 3) := by decide +kernel
theorem d_Town_change_14 : decode m_Town_change.2.1 14 = .ok (.goto 31, 3) := by decide +kernel
theorem d_Town_change_17 : decode m_Town_change.2.1 17 = .ok (.iload_n 1, 1) := by decide +kernel
theorem d_Town_change_18 : decode m_Town_change.2.1 18 = .ok (.iconst 1, 1) := by decide +kernel
theorem d_Town_change_19 : decode m_Town_change.2.1 19 = .ok (.if_icmp .ne 16, 3) := by decide +kernel
theorem d_Town_change_22 : decode m_Town_change.2.1 22 = .ok (.aload_n 0, 1) := by decide +kernel
theorem d_Town_change_23 : decode m_Town_change.2.1 23 = .ok (.getfield 51, 3) := by decide +kernel
theorem d_Town_change_26 : decode m_Town_change.2.1 26 = .ok (.istore_n 3, 1) := by decide +kernel
theorem d_Town_change_27 : decode m_Town_change.2.1 27 = .ok (.aload_n 0, 1) := by decide +kernel
theorem d_Town_change_28 : decode m_Town_change.2.1 28 = .ok (.iload_n 2, 1) := by decide +kernel
theorem d_Town_change_29 : decode m_Town_change.2.1 29 = .ok (.putfield 51, 3) := by decide +kernel
theorem d_Town_change_32 : decode m_Town_change.2.1 32 = .ok (.goto 13, 3) := by decide +kernel
theorem d_Town_change_35 : decode m_Town_change.2.1 35 = .ok (.aload_n 0, 1) := by decide +kernel
theorem d_Town_change_36 : decode m_Town_change.2.1 36 = .ok (.getfield 35, 3) := by decide +kernel
theorem d_Town_change_39 : decode m_Town_change.2.1 39 = .ok (.istore_n 3, 1) := by decide +kernel
theorem d_Town_change_40 : decode m_Town_change.2.1 40 = .ok (.aload_n 0, 1) := by decide +kernel
theorem d_Town_change_41 : decode m_Town_change.2.1 41 = .ok (.iload_n 2, 1) := by decide +kernel
theorem d_Town_change_42 : decode m_Town_change.2.1 42 = .ok (.putfield 35, 3) := by decide +kernel
theorem d_Town_change_45 : decode m_Town_change.2.1 45 = .ok (.iload_n 3, 1) := by decide +kernel
theorem d_Town_change_46 : decode m_Town_change.2.1 46 = .ok (.ireturn, 1) := by decide +kernel
theorem d_Town_couple_0 : decode m_Town_couple.2.1 0 = .ok (.aload_n 0, 1) := by decide +kernel
theorem d_Town_couple_1 : decode m_Town_couple.2.1 1 = .ok (.getfield 18, 3) := by decide +kernel
theorem d_Town_couple_4 : decode m_Town_couple.2.1 4 = .ok (.iload_n 1, 1) := by decide +kernel
theorem d_Town_couple_5 : decode m_Town_couple.2.1 5 = .ok (.iaload, 1) := by decide +kernel
theorem d_Town_couple_6 : decode m_Town_couple.2.1 6 = .ok (.istore_n 2, 1) := by decide +kernel
theorem d_Town_couple_7 : decode m_Town_couple.2.1 7 = .ok (.iconst 1, 1) := by decide +kernel
theorem d_Town_couple_8 : decode m_Town_couple.2.1 8 = .ok (.iload_n 1, 1) := by decide +kernel
theorem d_Town_couple_9 : decode m_Town_couple.2.1 9 = .ok (.ishl, 1) := by decide +kernel
theorem d_Town_couple_10 : decode m_Town_couple.2.1 10 = .ok (.iload_n 2, 1) := by decide +kernel
theorem d_Town_couple_11 : decode m_Town_couple.2.1 11 = .ok (.bipush (-6), 2) := by decide +kernel
theorem d_Town_couple_13 : decode m_Town_couple.2.1 13 = .ok (.if_icmp .ne 7, 3) := by decide +kernel
theorem d_Town_couple_16 : decode m_Town_couple.2.1 16 = .ok (.iconst 0, 1) := by decide +kernel
theorem d_Town_couple_17 : decode m_Town_couple.2.1 17 = .ok (.goto 6, 3) := by decide +kernel
theorem d_Town_couple_20 : decode m_Town_couple.2.1 20 = .ok (.iconst 1, 1) := by decide +kernel
theorem d_Town_couple_21 : decode m_Town_couple.2.1 21 = .ok (.iload_n 2, 1) := by decide +kernel
theorem d_Town_couple_22 : decode m_Town_couple.2.1 22 = .ok (.ishl, 1) := by decide +kernel
theorem d_Town_couple_23 : decode m_Town_couple.2.1 23 = .ok (.ior, 1) := by decide +kernel
theorem d_Town_couple_24 : decode m_Town_couple.2.1 24 = .ok (.ireturn, 1) := by decide +kernel
theorem d_Town_dropSights_0 : decode m_Town_dropSights.2.1 0 = .ok (.aload_n 0, 1) := by decide +kernel
theorem d_Town_dropSights_1 : decode m_Town_dropSights.2.1 1 = .ok (.getfield 48, 3) := by decide +kernel
theorem d_Town_dropSights_4 : decode m_Town_dropSights.2.1 4 = .ok (.istore_n 1, 1) := by decide +kernel
theorem d_Town_dropSights_5 : decode m_Town_dropSights.2.1 5 = .ok (.aload_n 0, 1) := by decide +kernel
theorem d_Town_dropSights_6 : decode m_Town_dropSights.2.1 6 = .ok (.iconst 0, 1) := by decide +kernel
theorem d_Town_dropSights_7 : decode m_Town_dropSights.2.1 7 = .ok (.putfield 48, 3) := by decide +kernel
theorem d_Town_dropSights_10 : decode m_Town_dropSights.2.1 10 = .ok (.iload_n 1, 1) := by decide +kernel
theorem d_Town_dropSights_11 : decode m_Town_dropSights.2.1 11 = .ok (.ireturn, 1) := by decide +kernel
theorem d_Town_fewestSteps_0 : decode m_Town_fewestSteps.2.1 0 = .ok (.iconst 1, 1) := by decide +kernel
theorem d_Town_fewestSteps_1 : decode m_Town_fewestSteps.2.1 1 = .ok (.iload_n 1, 1) := by decide +kernel
theorem d_Town_fewestSteps_2 : decode m_Town_fewestSteps.2.1 2 = .ok (.ishl, 1) := by decide +kernel
theorem d_Town_fewestSteps_3 : decode m_Town_fewestSteps.2.1 3 = .ok (.istore_n 3, 1) := by decide +kernel
theorem d_Town_fewestSteps_4 : decode m_Town_fewestSteps.2.1 4 = .ok (.iconst 0, 1) := by decide +kernel
theorem d_Town_fewestSteps_5 : decode m_Town_fewestSteps.2.1 5 = .ok (.istore 4, 2) := by decide +kernel
theorem d_Town_fewestSteps_7 : decode m_Town_fewestSteps.2.1 7 = .ok (.iload 4, 2) := by decide +kernel
theorem d_Town_fewestSteps_9 : decode m_Town_fewestSteps.2.1 9 = .ok (.bipush 10, 2) := by decide +kernel
theorem d_Town_fewestSteps_11 : decode m_Town_fewestSteps.2.1 11 = .ok (.if_icmp .ge 51, 3) := by decide +kernel
theorem d_Town_fewestSteps_14 : decode m_Town_fewestSteps.2.1 14 = .ok (.iload_n 3, 1) := by decide +kernel
theorem d_Town_fewestSteps_15 : decode m_Town_fewestSteps.2.1 15 = .ok (.ifCond .eq 47, 3) := by decide +kernel
theorem d_Town_fewestSteps_18 : decode m_Town_fewestSteps.2.1 18 = .ok (.aload_n 0, 1) := by decide +kernel
theorem d_Town_fewestSteps_19 : decode m_Town_fewestSteps.2.1 19 = .ok (.getfield 12, 3) := by decide +kernel
theorem d_Town_fewestSteps_22 : decode m_Town_fewestSteps.2.1 22 = .ok (.iload_n 3, 1) := by decide +kernel
theorem d_Town_fewestSteps_23 : decode m_Town_fewestSteps.2.1 23 = .ok (.invokevirtual 69, 3) := by decide +kernel
theorem d_Town_fewestSteps_26 : decode m_Town_fewestSteps.2.1 26 = .ok (.iload_n 2, 1) := by decide +kernel
theorem d_Town_fewestSteps_27 : decode m_Town_fewestSteps.2.1 27 = .ok (.iand, 1) := by decide +kernel
theorem d_Town_fewestSteps_28 : decode m_Town_fewestSteps.2.1 28 = .ok (.ifCond .eq 6, 3) := by decide +kernel
theorem d_Town_fewestSteps_31 : decode m_Town_fewestSteps.2.1 31 = .ok (.iload 4, 2) := by decide +kernel
theorem d_Town_fewestSteps_33 : decode m_Town_fewestSteps.2.1 33 = .ok (.ireturn, 1) := by decide +kernel
theorem d_Town_fewestSteps_34 : decode m_Town_fewestSteps.2.1 34 = .ok (.aload_n 0, 1) := by decide +kernel
theorem d_Town_fewestSteps_35 : decode m_Town_fewestSteps.2.1 35 = .ok (.getfield 12, 3) := by decide +kernel
theorem d_Town_fewestSteps_38 : decode m_Town_fewestSteps.2.1 38 = .ok (.iload_n 3, 1) := by decide +kernel
theorem d_Town_fewestSteps_39 : decode m_Town_fewestSteps.2.1 39 = .ok (.aload_n 0, 1) := by decide +kernel
theorem d_Town_fewestSteps_40 : decode m_Town_fewestSteps.2.1 40 = .ok (.getfield 51, 3) := by decide +kernel
theorem d_Town_fewestSteps_43 : decode m_Town_fewestSteps.2.1 43 = .ok (.iconst 1, 1) := by decide +kernel
theorem d_Town_fewestSteps_44 : decode m_Town_fewestSteps.2.1 44 = .ok (.if_icmp .ne 7, 3) := by decide +kernel
theorem d_Town_fewestSteps_47 : decode m_Town_fewestSteps.2.1 47 = .ok (.iconst 1, 1) := by decide +kernel
theorem d_Town_fewestSteps_48 : decode m_Town_fewestSteps.2.1 48 = .ok (.goto 4, 3) := by decide +kernel
theorem d_Town_fewestSteps_51 : decode m_Town_fewestSteps.2.1 51 = .ok (.iconst 0, 1) := by decide +kernel
theorem d_Town_fewestSteps_52 : decode m_Town_fewestSteps.2.1 52 = .ok (.invokevirtual 62, 3) := by decide +kernel
theorem d_Town_fewestSteps_55 : decode m_Town_fewestSteps.2.1 55 = .ok (.istore_n 3, 1) := by decide +kernel
theorem d_Town_fewestSteps_56 : decode m_Town_fewestSteps.2.1 56 = .ok (.iinc 4 1, 3) := by decide +kernel
theorem d_Town_fewestSteps_59 : decode m_Town_fewestSteps.2.1 59 = .ok (.goto (-52), 3) := by decide +kernel
theorem d_Town_fewestSteps_62 : decode m_Town_fewestSteps.2.1 62 = .ok (.bipush (-6), 2) := by decide +kernel
theorem d_Town_fewestSteps_64 : decode m_Town_fewestSteps.2.1 64 = .ok (.ireturn, 1) := by decide +kernel
theorem d_Town_init_0 : decode m_Town_init.2.1 0 = .ok (.aload_n 0, 1) := by decide +kernel
theorem d_Town_init_1 : decode m_Town_init.2.1 1 = .ok (.invokespecial 3, 3) := by decide +kernel
theorem d_Town_init_4 : decode m_Town_init.2.1 4 = .ok (.aload_n 0, 1) := by decide +kernel
theorem d_Town_init_5 : decode m_Town_init.2.1 5 = .ok (.new 9, 3) := by decide +kernel
theorem d_Town_init_8 : decode m_Town_init.2.1 8 = .ok (.dup, 1) := by decide +kernel
theorem d_Town_init_9 : decode m_Town_init.2.1 9 = .ok (.invokespecial 11, 3) := by decide +kernel
theorem d_Town_init_12 : decode m_Town_init.2.1 12 = .ok (.putfield 12, 3) := by decide +kernel
theorem d_Town_init_15 : decode m_Town_init.2.1 15 = .ok (.aload_n 0, 1) := by decide +kernel
theorem d_Town_init_16 : decode m_Town_init.2.1 16 = .ok (.bipush 6, 2) := by decide +kernel
theorem d_Town_init_18 : decode m_Town_init.2.1 18 = .ok (.newarray .int, 2) := by decide +kernel
theorem d_Town_init_20 : decode m_Town_init.2.1 20 = .ok (.putfield 18, 3) := by decide +kernel
theorem d_Town_init_23 : decode m_Town_init.2.1 23 = .ok (.aload_n 0, 1) := by decide +kernel
theorem d_Town_init_24 : decode m_Town_init.2.1 24 = .ok (.bipush 10, 2) := by decide +kernel
theorem d_Town_init_26 : decode m_Town_init.2.1 26 = .ok (.newarray .int, 2) := by decide +kernel
theorem d_Town_init_28 : decode m_Town_init.2.1 28 = .ok (.putfield 22, 3) := by decide +kernel
theorem d_Town_init_31 : decode m_Town_init.2.1 31 = .ok (.aload_n 0, 1) := by decide +kernel
theorem d_Town_init_32 : decode m_Town_init.2.1 32 = .ok (.bipush 6, 2) := by decide +kernel
theorem d_Town_init_34 : decode m_Town_init.2.1 34 = .ok (.newarray .int, 2) := by decide +kernel
theorem d_Town_init_36 : decode m_Town_init.2.1 36 = .ok (.putfield 25, 3) := by decide +kernel
theorem d_Town_init_39 : decode m_Town_init.2.1 39 = .ok (.aload_n 0, 1) := by decide +kernel
theorem d_Town_init_40 : decode m_Town_init.2.1 40 = .ok (.bipush 6, 2) := by decide +kernel
theorem d_Town_init_42 : decode m_Town_init.2.1 42 = .ok (.newarray .int, 2) := by decide +kernel
theorem d_Town_init_44 : decode m_Town_init.2.1 44 = .ok (.putfield 28, 3) := by decide +kernel
theorem d_Town_init_47 : decode m_Town_init.2.1 47 = .ok (.aload_n 0, 1) := by decide +kernel
theorem d_Town_init_48 : decode m_Town_init.2.1 48 = .ok (.iconst 2, 1) := by decide +kernel
theorem d_Town_init_49 : decode m_Town_init.2.1 49 = .ok (.putfield 31, 3) := by decide +kernel
theorem d_Town_init_52 : decode m_Town_init.2.1 52 = .ok (.aload_n 0, 1) := by decide +kernel
theorem d_Town_init_53 : decode m_Town_init.2.1 53 = .ok (.iconst 1, 1) := by decide +kernel
theorem d_Town_init_54 : decode m_Town_init.2.1 54 = .ok (.putfield 35, 3) := by decide +kernel
theorem d_Town_init_57 : decode m_Town_init.2.1 57 = .ok (.iconst 0, 1) := by decide +kernel
theorem d_Town_init_58 : decode m_Town_init.2.1 58 = .ok (.istore_n 1, 1) := by decide +kernel
theorem d_Town_init_59 : decode m_Town_init.2.1 59 = .ok (.iload_n 1, 1) := by decide +kernel
theorem d_Town_init_60 : decode m_Town_init.2.1 60 = .ok (.bipush 6, 2) := by decide +kernel
theorem d_Town_init_62 : decode m_Town_init.2.1 62 = .ok (.if_icmp .ge 17, 3) := by decide +kernel
theorem d_Town_init_65 : decode m_Town_init.2.1 65 = .ok (.aload_n 0, 1) := by decide +kernel
theorem d_Town_init_66 : decode m_Town_init.2.1 66 = .ok (.getfield 18, 3) := by decide +kernel
theorem d_Town_init_69 : decode m_Town_init.2.1 69 = .ok (.iload_n 1, 1) := by decide +kernel
theorem d_Town_init_70 : decode m_Town_init.2.1 70 = .ok (.bipush (-6), 2) := by decide +kernel
theorem d_Town_init_72 : decode m_Town_init.2.1 72 = .ok (.iastore, 1) := by decide +kernel
theorem d_Town_init_73 : decode m_Town_init.2.1 73 = .ok (.iinc 1 1, 3) := by decide +kernel
theorem d_Town_init_76 : decode m_Town_init.2.1 76 = .ok (.goto (-17), 3) := by decide +kernel
theorem d_Town_init_79 : decode m_Town_init.2.1 79 = .ok (.return_, 1) := by decide +kernel
theorem d_Town_lawfulThings_0 : decode m_Town_lawfulThings.2.1 0 = .ok (.iconst 0, 1) := by decide +kernel
theorem d_Town_lawfulThings_1 : decode m_Town_lawfulThings.2.1 1 = .ok (.istore_n 2, 1) := by decide +kernel
theorem d_Town_lawfulThings_2 : decode m_Town_lawfulThings.2.1 2 = .ok (.iconst 0, 1) := by decide +kernel
theorem d_Town_lawfulThings_3 : decode m_Town_lawfulThings.2.1 3 = .ok (.istore_n 3, 1) := by decide +kernel
theorem d_Town_lawfulThings_4 : decode m_Town_lawfulThings.2.1 4 = .ok (.iload_n 3, 1) := by decide +kernel
theorem d_Town_lawfulThings_5 : decode m_Town_lawfulThings.2.1 5 = .ok (.aload_n 0, 1) := by decide +kernel
theorem d_Town_lawfulThings_6 : decode m_Town_lawfulThings.2.1 6 = .ok (.getfield 12, 3) := by decide +kernel
theorem d_Town_lawfulThings_9 : decode m_Town_lawfulThings.2.1 9 = .ok (.getfield 78, 3) := by decide +kernel
theorem d_Town_lawfulThings_12 : decode m_Town_lawfulThings.2.1 12 = .ok (.if_icmp .ge 29, 3) := by decide +kernel
theorem d_Town_lawfulThings_15 : decode m_Town_lawfulThings.2.1 15 = .ok (.aload_n 0, 1) := by decide +kernel
theorem d_Town_lawfulThings_16 : decode m_Town_lawfulThings.2.1 16 = .ok (.iload_n 3, 1) := by decide +kernel
theorem d_Town_lawfulThings_17 : decode m_Town_lawfulThings.2.1 17 = .ok (.invokevirtual 72, 3) := by decide +kernel
theorem d_Town_lawfulThings_20 : decode m_Town_lawfulThings.2.1 20 = .ok (.aload_n 0, 1) := by decide +kernel
theorem d_Town_lawfulThings_21 : decode m_Town_lawfulThings.2.1 21 = .ok (.iload_n 1, 1) := by decide +kernel
theorem d_Town_lawfulThings_22 : decode m_Town_lawfulThings.2.1 22 = .ok (.invokevirtual 58, 3) := by decide +kernel
theorem d_Town_lawfulThings_25 : decode m_Town_lawfulThings.2.1 25 = .ok (.iand, 1) := by decide +kernel
theorem d_Town_lawfulThings_26 : decode m_Town_lawfulThings.2.1 26 = .ok (.ifCond .ne 9, 3) := by decide +kernel
theorem d_Town_lawfulThings_29 : decode m_Town_lawfulThings.2.1 29 = .ok (.iload_n 2, 1) := by decide +kernel
theorem d_Town_lawfulThings_30 : decode m_Town_lawfulThings.2.1 30 = .ok (.iconst 1, 1) := by decide +kernel
theorem d_Town_lawfulThings_31 : decode m_Town_lawfulThings.2.1 31 = .ok (.iload_n 3, 1) := by decide +kernel
theorem d_Town_lawfulThings_32 : decode m_Town_lawfulThings.2.1 32 = .ok (.ishl, 1) := by decide +kernel
theorem d_Town_lawfulThings_33 : decode m_Town_lawfulThings.2.1 33 = .ok (.ior, 1) := by decide +kernel
theorem d_Town_lawfulThings_34 : decode m_Town_lawfulThings.2.1 34 = .ok (.istore_n 2, 1) := by decide +kernel
theorem d_Town_lawfulThings_35 : decode m_Town_lawfulThings.2.1 35 = .ok (.iinc 3 1, 3) := by decide +kernel
theorem d_Town_lawfulThings_38 : decode m_Town_lawfulThings.2.1 38 = .ok (.goto (-34), 3) := by decide +kernel
theorem d_Town_lawfulThings_41 : decode m_Town_lawfulThings.2.1 41 = .ok (.iload_n 2, 1) := by decide +kernel
theorem d_Town_lawfulThings_42 : decode m_Town_lawfulThings.2.1 42 = .ok (.ireturn, 1) := by decide +kernel
theorem d_Town_mostOf_0 : decode m_Town_mostOf.2.1 0 = .ok (.iload_n 0, 1) := by decide +kernel
theorem d_Town_mostOf_1 : decode m_Town_mostOf.2.1 1 = .ok (.lookupswitch 32 #[(0, 27), (1, 30)], 27) := by decide +kernel
theorem d_Town_mostOf_28 : decode m_Town_mostOf.2.1 28 = .ok (.bipush 9, 2) := by decide +kernel
theorem d_Town_mostOf_30 : decode m_Town_mostOf.2.1 30 = .ok (.ireturn, 1) := by decide +kernel
theorem d_Town_mostOf_31 : decode m_Town_mostOf.2.1 31 = .ok (.iconst 1, 1) := by decide +kernel
theorem d_Town_mostOf_32 : decode m_Town_mostOf.2.1 32 = .ok (.ireturn, 1) := by decide +kernel
theorem d_Town_mostOf_33 : decode m_Town_mostOf.2.1 33 = .ok (.bipush 10, 2) := by decide +kernel
theorem d_Town_mostOf_35 : decode m_Town_mostOf.2.1 35 = .ok (.ireturn, 1) := by decide +kernel
theorem d_Town_open_0 : decode m_Town_open.2.1 0 = .ok (.aload_n 0, 1) := by decide +kernel
theorem d_Town_open_1 : decode m_Town_open.2.1 1 = .ok (.getfield 12, 3) := by decide +kernel
theorem d_Town_open_4 : decode m_Town_open.2.1 4 = .ok (.aload_n 1, 1) := by decide +kernel
theorem d_Town_open_5 : decode m_Town_open.2.1 5 = .ok (.invokevirtual 38, 3) := by decide +kernel
theorem d_Town_open_8 : decode m_Town_open.2.1 8 = .ok (.iconst 0, 1) := by decide +kernel
theorem d_Town_open_9 : decode m_Town_open.2.1 9 = .ok (.istore_n 2, 1) := by decide +kernel
theorem d_Town_open_10 : decode m_Town_open.2.1 10 = .ok (.iload_n 2, 1) := by decide +kernel
theorem d_Town_open_11 : decode m_Town_open.2.1 11 = .ok (.bipush 10, 2) := by decide +kernel
theorem d_Town_open_13 : decode m_Town_open.2.1 13 = .ok (.if_icmp .ge 16, 3) := by decide +kernel
theorem d_Town_open_16 : decode m_Town_open.2.1 16 = .ok (.aload_n 0, 1) := by decide +kernel
theorem d_Town_open_17 : decode m_Town_open.2.1 17 = .ok (.getfield 22, 3) := by decide +kernel
theorem d_Town_open_20 : decode m_Town_open.2.1 20 = .ok (.iload_n 2, 1) := by decide +kernel
theorem d_Town_open_21 : decode m_Town_open.2.1 21 = .ok (.iconst 0, 1) := by decide +kernel
theorem d_Town_open_22 : decode m_Town_open.2.1 22 = .ok (.iastore, 1) := by decide +kernel
theorem d_Town_open_23 : decode m_Town_open.2.1 23 = .ok (.iinc 2 1, 3) := by decide +kernel
theorem d_Town_open_26 : decode m_Town_open.2.1 26 = .ok (.goto (-16), 3) := by decide +kernel
theorem d_Town_open_29 : decode m_Town_open.2.1 29 = .ok (.aload_n 0, 1) := by decide +kernel
theorem d_Town_open_30 : decode m_Town_open.2.1 30 = .ok (.iconst 0, 1) := by decide +kernel
theorem d_Town_open_31 : decode m_Town_open.2.1 31 = .ok (.putfield 48, 3) := by decide +kernel
