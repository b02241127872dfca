theorem d_Bakers_barredForEach_0 : decode m_Bakers_barredForEach.2.1 0 = .ok (.bipush 63, 2) := by decide +kernel
theorem d_Bakers_barredForEach_2 : decode m_Bakers_barredForEach.2.1 2 = .ok (.istore_n 2, 1) := by decide +kernel
theorem d_Bakers_barredForEach_3 : decode m_Bakers_barredForEach.2.1 3 = .ok (.iconst 0, 1) := by decide +kernel
theorem d_Bakers_barredForEach_4 : decode m_Bakers_barredForEach.2.1 4 = .ok (.istore_n 3, 1) := by decide +kernel
theorem d_Bakers_barredForEach_5 : decode m_Bakers_barredForEach.2.1 5 = .ok (.iload_n 3, 1) := by decide +kernel
theorem d_Bakers_barredForEach_6 : decode m_Bakers_barredForEach.2.1 6 = .ok (.bipush 6, 2) := by decide +kernel
theorem d_Bakers_barredForEach_8 : decode m_Bakers_barredForEach.2.1 8 = .ok (.if_icmp .ge 25, 3) := by decide +kernel
theorem d_Bakers_barredForEach_11 : decode m_Bakers_barredForEach.2.1 11 = .ok (.iload_n 1, 1) := by decide +kernel
theorem d_Bakers_barredForEach_12 : decode m_Bakers_barredForEach.2.1 12 = .ok (.iload_n 3, 1) := by decide +kernel
theorem d_Bakers_barredForEach_13 : decode m_Bakers_barredForEach.2.1 13 = .ok (.invokestatic 25, 3) := by decide +kernel
theorem d_Bakers_barredForEach_16 : decode m_Bakers_barredForEach.2.1 16 = .ok (.ifCond .eq 11, 3) := by decide +kernel
theorem d_Bakers_barredForEach_19 : decode m_Bakers_barredForEach.2.1 19 = .ok (.iload_n 2, 1) := by decide +kernel
theorem d_Bakers_barredForEach_20 : decode m_Bakers_barredForEach.2.1 20 = .ok (.aload_n 0, 1) := by decide +kernel
theorem d_Bakers_barredForEach_21 : decode m_Bakers_barredForEach.2.1 21 = .ok (.iload_n 3, 1) := by decide +kernel
theorem d_Bakers_barredForEach_22 : decode m_Bakers_barredForEach.2.1 22 = .ok (.invokevirtual 29, 3) := by decide +kernel
theorem d_Bakers_barredForEach_25 : decode m_Bakers_barredForEach.2.1 25 = .ok (.iand, 1) := by decide +kernel
theorem d_Bakers_barredForEach_26 : decode m_Bakers_barredForEach.2.1 26 = .ok (.istore_n 2, 1) := by decide +kernel
theorem d_Bakers_barredForEach_27 : decode m_Bakers_barredForEach.2.1 27 = .ok (.iinc 3 1, 3) := by decide +kernel
theorem d_Bakers_barredForEach_30 : decode m_Bakers_barredForEach.2.1 30 = .ok (.goto (-25), 3) := by decide +kernel
theorem d_Bakers_barredForEach_33 : decode m_Bakers_barredForEach.2.1 33 = .ok (.iload_n 2, 1) := by decide +kernel
theorem d_Bakers_barredForEach_34 : decode m_Bakers_barredForEach.2.1 34 = .ok (.ireturn, 1) := by decide +kernel
theorem d_Bakers_feedAll_0 : decode m_Bakers_feedAll.2.1 0 = .ok (.bipush 63, 2) := by decide +kernel
theorem d_Bakers_feedAll_2 : decode m_Bakers_feedAll.2.1 2 = .ok (.istore_n 3, 1) := by decide +kernel
theorem d_Bakers_feedAll_3 : decode m_Bakers_feedAll.2.1 3 = .ok (.iload_n 3, 1) := by decide +kernel
theorem d_Bakers_feedAll_4 : decode m_Bakers_feedAll.2.1 4 = .ok (.ifCond .le 36, 3) := by decide +kernel
theorem d_Bakers_feedAll_7 : decode m_Bakers_feedAll.2.1 7 = .ok (.iload_n 1, 1) := by decide +kernel
theorem d_Bakers_feedAll_8 : decode m_Bakers_feedAll.2.1 8 = .ok (.aload_n 0, 1) := by decide +kernel
theorem d_Bakers_feedAll_9 : decode m_Bakers_feedAll.2.1 9 = .ok (.iload_n 3, 1) := by decide +kernel
theorem d_Bakers_feedAll_10 : decode m_Bakers_feedAll.2.1 10 = .ok (.invokestatic 21, 3) := by decide +kernel
theorem d_Bakers_feedAll_13 : decode m_Bakers_feedAll.2.1 13 = .ok (.iconst (-1), 1) := by decide +kernel
theorem d_Bakers_feedAll_14 : decode m_Bakers_feedAll.2.1 14 = .ok (.ixor, 1) := by decide +kernel
theorem d_Bakers_feedAll_15 : decode m_Bakers_feedAll.2.1 15 = .ok (.iand, 1) := by decide +kernel
theorem d_Bakers_feedAll_16 : decode m_Bakers_feedAll.2.1 16 = .ok (.istore 4, 2) := by decide +kernel
theorem d_Bakers_feedAll_18 : decode m_Bakers_feedAll.2.1 18 = .ok (.iload_n 2, 1) := by decide +kernel
theorem d_Bakers_feedAll_19 : decode m_Bakers_feedAll.2.1 19 = .ok (.iload 4, 2) := by decide +kernel
theorem d_Bakers_feedAll_21 : decode m_Bakers_feedAll.2.1 21 = .ok (.invokestatic 9, 3) := by decide +kernel
theorem d_Bakers_feedAll_24 : decode m_Bakers_feedAll.2.1 24 = .ok (.imul, 1) := by decide +kernel
theorem d_Bakers_feedAll_25 : decode m_Bakers_feedAll.2.1 25 = .ok (.iload_n 3, 1) := by decide +kernel
theorem d_Bakers_feedAll_26 : decode m_Bakers_feedAll.2.1 26 = .ok (.invokestatic 9, 3) := by decide +kernel
theorem d_Bakers_feedAll_29 : decode m_Bakers_feedAll.2.1 29 = .ok (.if_icmp .ge 5, 3) := by decide +kernel
theorem d_Bakers_feedAll_32 : decode m_Bakers_feedAll.2.1 32 = .ok (.iconst 0, 1) := by decide +kernel
theorem d_Bakers_feedAll_33 : decode m_Bakers_feedAll.2.1 33 = .ok (.ireturn, 1) := by decide +kernel
theorem d_Bakers_feedAll_34 : decode m_Bakers_feedAll.2.1 34 = .ok (.iinc 3 (-1), 3) := by decide +kernel
theorem d_Bakers_feedAll_37 : decode m_Bakers_feedAll.2.1 37 = .ok (.goto (-34), 3) := by decide +kernel
theorem d_Bakers_feedAll_40 : decode m_Bakers_feedAll.2.1 40 = .ok (.iconst 1, 1) := by decide +kernel
theorem d_Bakers_feedAll_41 : decode m_Bakers_feedAll.2.1 41 = .ok (.ireturn, 1) := by decide +kernel
theorem d_Bakers_fewest_0 : decode m_Bakers_fewest.2.1 0 = .ok (.bipush (-6), 2) := by decide +kernel
theorem d_Bakers_fewest_2 : decode m_Bakers_fewest.2.1 2 = .ok (.istore_n 2, 1) := by decide +kernel
theorem d_Bakers_fewest_3 : decode m_Bakers_fewest.2.1 3 = .ok (.iconst 1, 1) := by decide +kernel
theorem d_Bakers_fewest_4 : decode m_Bakers_fewest.2.1 4 = .ok (.istore_n 3, 1) := by decide +kernel
theorem d_Bakers_fewest_5 : decode m_Bakers_fewest.2.1 5 = .ok (.iload_n 3, 1) := by decide +kernel
theorem d_Bakers_fewest_6 : decode m_Bakers_fewest.2.1 6 = .ok (.bipush 63, 2) := by decide +kernel
theorem d_Bakers_fewest_8 : decode m_Bakers_fewest.2.1 8 = .ok (.if_icmp .gt 49, 3) := by decide +kernel
theorem d_Bakers_fewest_11 : decode m_Bakers_fewest.2.1 11 = .ok (.iload_n 2, 1) := by decide +kernel
theorem d_Bakers_fewest_12 : decode m_Bakers_fewest.2.1 12 = .ok (.bipush (-6), 2) := by decide +kernel
theorem d_Bakers_fewest_14 : decode m_Bakers_fewest.2.1 14 = .ok (.if_icmp .eq 14, 3) := by decide +kernel
theorem d_Bakers_fewest_17 : decode m_Bakers_fewest.2.1 17 = .ok (.iload_n 3, 1) := by decide +kernel
theorem d_Bakers_fewest_18 : decode m_Bakers_fewest.2.1 18 = .ok (.invokestatic 9, 3) := by decide +kernel
theorem d_Bakers_fewest_21 : decode m_Bakers_fewest.2.1 21 = .ok (.iload_n 2, 1) := by decide +kernel
theorem d_Bakers_fewest_22 : decode m_Bakers_fewest.2.1 22 = .ok (.invokestatic 9, 3) := by decide +kernel
theorem d_Bakers_fewest_25 : decode m_Bakers_fewest.2.1 25 = .ok (.if_icmp .ge 7, 3) := by decide +kernel
theorem d_Bakers_fewest_28 : decode m_Bakers_fewest.2.1 28 = .ok (.iconst 1, 1) := by decide +kernel
theorem d_Bakers_fewest_29 : decode m_Bakers_fewest.2.1 29 = .ok (.goto 4, 3) := by decide +kernel
theorem d_Bakers_fewest_32 : decode m_Bakers_fewest.2.1 32 = .ok (.iconst 0, 1) := by decide +kernel
theorem d_Bakers_fewest_33 : decode m_Bakers_fewest.2.1 33 = .ok (.istore 4, 2) := by decide +kernel
theorem d_Bakers_fewest_35 : decode m_Bakers_fewest.2.1 35 = .ok (.iload 4, 2) := by decide +kernel
theorem d_Bakers_fewest_37 : decode m_Bakers_fewest.2.1 37 = .ok (.ifCond .eq 14, 3) := by decide +kernel
theorem d_Bakers_fewest_40 : decode m_Bakers_fewest.2.1 40 = .ok (.aload_n 0, 1) := by decide +kernel
theorem d_Bakers_fewest_41 : decode m_Bakers_fewest.2.1 41 = .ok (.iload_n 3, 1) := by decide +kernel
theorem d_Bakers_fewest_42 : decode m_Bakers_fewest.2.1 42 = .ok (.iload_n 1, 1) := by decide +kernel
theorem d_Bakers_fewest_43 : decode m_Bakers_fewest.2.1 43 = .ok (.invokestatic 15, 3) := by decide +kernel
theorem d_Bakers_fewest_46 : decode m_Bakers_fewest.2.1 46 = .ok (.ifCond .eq 5, 3) := by decide +kernel
theorem d_Bakers_fewest_49 : decode m_Bakers_fewest.2.1 49 = .ok (.iload_n 3, 1) := by decide +kernel
theorem d_Bakers_fewest_50 : decode m_Bakers_fewest.2.1 50 = .ok (.istore_n 2, 1) := by decide +kernel
theorem d_Bakers_fewest_51 : decode m_Bakers_fewest.2.1 51 = .ok (.iinc 3 1, 3) := by decide +kernel
theorem d_Bakers_fewest_54 : decode m_Bakers_fewest.2.1 54 = .ok (.goto (-49), 3) := by decide +kernel
theorem d_Bakers_fewest_57 : decode m_Bakers_fewest.2.1 57 = .ok (.iload_n 2, 1) := by decide +kernel
theorem d_Bakers_fewest_58 : decode m_Bakers_fewest.2.1 58 = .ok (.ireturn, 1) := by decide +kernel
theorem d_Bread_eats_0 : decode m_Bread_eats.2.1 0 = .ok (.iconst 0, 1) := by decide +kernel
theorem d_Bread_eats_1 : decode m_Bread_eats.2.1 1 = .ok (.istore_n 2, 1) := by decide +kernel
theorem d_Bread_eats_2 : decode m_Bread_eats.2.1 2 = .ok (.iload_n 2, 1) := by decide +kernel
theorem d_Bread_eats_3 : decode m_Bread_eats.2.1 3 = .ok (.bipush 10, 2) := by decide +kernel
theorem d_Bread_eats_5 : decode m_Bread_eats.2.1 5 = .ok (.if_icmp .ge 43, 3) := by decide +kernel
theorem d_Bread_eats_8 : decode m_Bread_eats.2.1 8 = .ok (.aload_n 0, 1) := by decide +kernel
theorem d_Bread_eats_9 : decode m_Bread_eats.2.1 9 = .ok (.getfield 9, 3) := by decide +kernel
theorem d_Bread_eats_12 : decode m_Bread_eats.2.1 12 = .ok (.iload_n 1, 1) := by decide +kernel
theorem d_Bread_eats_13 : decode m_Bread_eats.2.1 13 = .ok (.iaload, 1) := by decide +kernel
theorem d_Bread_eats_14 : decode m_Bread_eats.2.1 14 = .ok (.iload_n 2, 1) := by decide +kernel
theorem d_Bread_eats_15 : decode m_Bread_eats.2.1 15 = .ok (.invokestatic 36, 3) := by decide +kernel
theorem d_Bread_eats_18 : decode m_Bread_eats.2.1 18 = .ok (.ifCond .eq 24, 3) := by decide +kernel
theorem d_Bread_eats_21 : decode m_Bread_eats.2.1 21 = .ok (.aload_n 0, 1) := by decide +kernel
theorem d_Bread_eats_22 : decode m_Bread_eats.2.1 22 = .ok (.getfield 15, 3) := by decide +kernel
theorem d_Bread_eats_25 : decode m_Bread_eats.2.1 25 = .ok (.iload_n 2, 1) := by decide +kernel
theorem d_Bread_eats_26 : decode m_Bread_eats.2.1 26 = .ok (.iaload, 1) := by decide +kernel
theorem d_Bread_eats_27 : decode m_Bread_eats.2.1 27 = .ok (.ifCond .le 15, 3) := by decide +kernel
theorem d_Bread_eats_30 : decode m_Bread_eats.2.1 30 = .ok (.aload_n 0, 1) := by decide +kernel
theorem d_Bread_eats_31 : decode m_Bread_eats.2.1 31 = .ok (.getfield 15, 3) := by decide +kernel
theorem d_Bread_eats_34 : decode m_Bread_eats.2.1 34 = .ok (.iload_n 2, 1) := by decide +kernel
theorem d_Bread_eats_35 : decode m_Bread_eats.2.1 35 = .ok (.dup2, 1) := by decide +kernel
theorem d_Bread_eats_36 : decode m_Bread_eats.2.1 36 = .ok (.iaload, 1) := by decide +kernel
theorem d_Bread_eats_37 : decode m_Bread_eats.2.1 37 = .ok (.iconst 1, 1) := by decide +kernel
theorem d_Bread_eats_38 : decode m_Bread_eats.2.1 38 = .ok (.isub, 1) := by decide +kernel
theorem d_Bread_eats_39 : decode m_Bread_eats.2.1 39 = .ok (.iastore, 1) := by decide +kernel
theorem d_Bread_eats_40 : decode m_Bread_eats.2.1 40 = .ok (.iconst 1, 1) := by decide +kernel
theorem d_Bread_eats_41 : decode m_Bread_eats.2.1 41 = .ok (.ireturn, 1) := by decide +kernel
theorem d_Bread_eats_42 : decode m_Bread_eats.2.1 42 = .ok (.iinc 2 1, 3) := by decide +kernel
theorem d_Bread_eats_45 : decode m_Bread_eats.2.1 45 = .ok (.goto (-43), 3) := by decide +kernel
theorem d_Bread_eats_48 : decode m_Bread_eats.2.1 48 = .ok (.iconst 0, 1) := by decide +kernel
theorem d_Bread_eats_49 : decode m_Bread_eats.2.1 49 = .ok (.ireturn, 1) := by decide +kernel
theorem d_Bread_init_0 : decode m_Bread_init.2.1 0 = .ok (.aload_n 0, 1) := by decide +kernel
theorem d_Bread_init_1 : decode m_Bread_init.2.1 1 = .ok (.invokespecial 3, 3) := by decide +kernel
theorem d_Bread_init_4 : decode m_Bread_init.2.1 4 = .ok (.aload_n 0, 1) := by decide +kernel
theorem d_Bread_init_5 : decode m_Bread_init.2.1 5 = .ok (.bipush 6, 2) := by decide +kernel
theorem d_Bread_init_7 : decode m_Bread_init.2.1 7 = .ok (.newarray .int, 2) := by decide +kernel
theorem d_Bread_init_9 : decode m_Bread_init.2.1 9 = .ok (.putfield 9, 3) := by decide +kernel
theorem d_Bread_init_12 : decode m_Bread_init.2.1 12 = .ok (.aload_n 0, 1) := by decide +kernel
theorem d_Bread_init_13 : decode m_Bread_init.2.1 13 = .ok (.bipush 10, 2) := by decide +kernel
theorem d_Bread_init_15 : decode m_Bread_init.2.1 15 = .ok (.newarray .int, 2) := by decide +kernel
theorem d_Bread_init_17 : decode m_Bread_init.2.1 17 = .ok (.putfield 15, 3) := by decide +kernel
theorem d_Bread_init_20 : decode m_Bread_init.2.1 20 = .ok (.aload_n 0, 1) := by decide +kernel
theorem d_Bread_init_21 : decode m_Bread_init.2.1 21 = .ok (.bipush 6, 2) := by decide +kernel
theorem d_Bread_init_23 : decode m_Bread_init.2.1 23 = .ok (.newarray .int, 2) := by decide +kernel
theorem d_Bread_init_25 : decode m_Bread_init.2.1 25 = .ok (.putfield 18, 3) := by decide +kernel
theorem d_Bread_init_28 : decode m_Bread_init.2.1 28 = .ok (.return_, 1) := by decide +kernel
theorem d_Bread_layOut_0 : decode m_Bread_layOut.2.1 0 = .ok (.iconst 0, 1) := by decide +kernel
theorem d_Bread_layOut_1 : decode m_Bread_layOut.2.1 1 = .ok (.istore_n 2, 1) := by decide +kernel
theorem d_Bread_layOut_2 : decode m_Bread_layOut.2.1 2 = .ok (.iload_n 2, 1) := by decide +kernel
theorem d_Bread_layOut_3 : decode m_Bread_layOut.2.1 3 = .ok (.bipush 6, 2) := by decide +kernel
theorem d_Bread_layOut_5 : decode m_Bread_layOut.2.1 5 = .ok (.if_icmp .ge 20, 3) := by decide +kernel
theorem d_Bread_layOut_8 : decode m_Bread_layOut.2.1 8 = .ok (.aload_n 0, 1) := by decide +kernel
theorem d_Bread_layOut_9 : decode m_Bread_layOut.2.1 9 = .ok (.getfield 9, 3) := by decide +kernel
theorem d_Bread_layOut_12 : decode m_Bread_layOut.2.1 12 = .ok (.iload_n 2, 1) := by decide +kernel
theorem d_Bread_layOut_13 : decode m_Bread_layOut.2.1 13 = .ok (.aload_n 1, 1) := by decide +kernel
theorem d_Bread_layOut_14 : decode m_Bread_layOut.2.1 14 = .ok (.iload_n 2, 1) := by decide +kernel
theorem d_Bread_layOut_15 : decode m_Bread_layOut.2.1 15 = .ok (.invokevirtual 21, 3) := by decide +kernel
theorem d_Bread_layOut_18 : decode m_Bread_layOut.2.1 18 = .ok (.iastore, 1) := by decide +kernel
theorem d_Bread_layOut_19 : decode m_Bread_layOut.2.1 19 = .ok (.iinc 2 1, 3) := by decide +kernel
theorem d_Bread_layOut_22 : decode m_Bread_layOut.2.1 22 = .ok (.goto (-20), 3) := by decide +kernel
theorem d_Bread_layOut_25 : decode m_Bread_layOut.2.1 25 = .ok (.aload_n 1, 1) := by decide +kernel
theorem d_Bread_layOut_26 : decode m_Bread_layOut.2.1 26 = .ok (.getfield 27, 3) := by decide +kernel
theorem d_Bread_layOut_29 : decode m_Bread_layOut.2.1 29 = .ok (.iconst 0, 1) := by decide +kernel
theorem d_Bread_layOut_30 : decode m_Bread_layOut.2.1 30 = .ok (.aload_n 0, 1) := by decide +kernel
theorem d_Bread_layOut_31 : decode m_Bread_layOut.2.1 31 = .ok (.getfield 15, 3) := by decide +kernel
theorem d_Bread_layOut_34 : decode m_Bread_layOut.2.1 34 = .ok (.iconst 0, 1) := by decide +kernel
theorem d_Bread_layOut_35 : decode m_Bread_layOut.2.1 35 = .ok (.bipush 10, 2) := by decide +kernel
theorem d_Bread_layOut_37 : decode m_Bread_layOut.2.1 37 = .ok (.invokestatic 30, 3) := by decide +kernel
theorem d_Bread_layOut_40 : decode m_Bread_layOut.2.1 40 = .ok (.return_, 1) := by decide +kernel
theorem d_Bread_leastShortSet_0 : decode m_Bread_leastShortSet.2.1 0 = .ok (.iconst 1, 1) := by decide +kernel
theorem d_Bread_leastShortSet_1 : decode m_Bread_leastShortSet.2.1 1 = .ok (.istore_n 1, 1) := by decide +kernel
theorem d_Bread_leastShortSet_2 : decode m_Bread_leastShortSet.2.1 2 = .ok (.iload_n 1, 1) := by decide +kernel
theorem d_Bread_leastShortSet_3 : decode m_Bread_leastShortSet.2.1 3 = .ok (.bipush 63, 2) := by decide +kernel
theorem d_Bread_leastShortSet_5 : decode m_Bread_leastShortSet.2.1 5 = .ok (.if_icmp .gt 23, 3) := by decide +kernel
theorem d_Bread_leastShortSet_8 : decode m_Bread_leastShortSet.2.1 8 = .ok (.aload_n 0, 1) := by decide +kernel
theorem d_Bread_leastShortSet_9 : decode m_Bread_leastShortSet.2.1 9 = .ok (.iload_n 1, 1) := by decide +kernel
theorem d_Bread_leastShortSet_10 : decode m_Bread_leastShortSet.2.1 10 = .ok (.invokevirtual 45, 3) := by decide +kernel
theorem d_Bread_leastShortSet_13 : decode m_Bread_leastShortSet.2.1 13 = .ok (.iload_n 1, 1) := by decide +kernel
theorem d_Bread_leastShortSet_14 : decode m_Bread_leastShortSet.2.1 14 = .ok (.invokestatic 40, 3) := by decide +kernel
theorem d_Bread_leastShortSet_17 : decode m_Bread_leastShortSet.2.1 17 = .ok (.if_icmp .ge 5, 3) := by decide +kernel
theorem d_Bread_leastShortSet_20 : decode m_Bread_leastShortSet.2.1 20 = .ok (.iload_n 1, 1) := by decide +kernel
theorem d_Bread_leastShortSet_21 : decode m_Bread_leastShortSet.2.1 21 = .ok (.ireturn, 1) := by decide +kernel
theorem d_Bread_leastShortSet_22 : decode m_Bread_leastShortSet.2.1 22 = .ok (.iinc 1 1, 3) := by decide +kernel
theorem d_Bread_leastShortSet_25 : decode m_Bread_leastShortSet.2.1 25 = .ok (.goto (-23), 3) := by decide +kernel
theorem d_Bread_leastShortSet_28 : decode m_Bread_leastShortSet.2.1 28 = .ok (.bipush (-6), 2) := by decide +kernel
theorem d_Bread_leastShortSet_30 : decode m_Bread_leastShortSet.2.1 30 = .ok (.ireturn, 1) := by decide +kernel
theorem d_Bread_live_0 : decode m_Bread_live.2.1 0 = .ok (.iload_n 1, 1) := by decide +kernel
theorem d_Bread_live_1 : decode m_Bread_live.2.1 1 = .ok (.istore_n 3, 1) := by decide +kernel
theorem d_Bread_live_2 : decode m_Bread_live.2.1 2 = .ok (.iconst 0, 1) := by decide +kernel
theorem d_Bread_live_3 : decode m_Bread_live.2.1 3 = .ok (.istore 4, 2) := by decide +kernel
theorem d_Bread_live_5 : decode m_Bread_live.2.1 5 = .ok (.iconst 0, 1) := by decide +kernel
theorem d_Bread_live_6 : decode m_Bread_live.2.1 6 = .ok (.istore 5, 2) := by decide +kernel
theorem d_Bread_live_8 : decode m_Bread_live.2.1 8 = .ok (.iload 5, 2) := by decide +kernel
theorem d_Bread_live_10 : decode m_Bread_live.2.1 10 = .ok (.iload_n 2, 1) := by decide +kernel
theorem d_Bread_live_11 : decode m_Bread_live.2.1 11 = .ok (.if_icmp .ge 34, 3) := by decide +kernel
theorem d_Bread_live_14 : decode m_Bread_live.2.1 14 = .ok (.bipush 75, 2) := by decide +kernel
theorem d_Bread_live_16 : decode m_Bread_live.2.1 16 = .ok (.iload_n 3, 1) := by decide +kernel
theorem d_Bread_live_17 : decode m_Bread_live.2.1 17 = .ok (.imul, 1) := by decide +kernel
theorem d_Bread_live_18 : decode m_Bread_live.2.1 18 = .ok (.bipush 74, 2) := by decide +kernel
theorem d_Bread_live_20 : decode m_Bread_live.2.1 20 = .ok (.iadd, 1) := by decide +kernel
theorem d_Bread_live_21 : decode m_Bread_live.2.1 21 = .ok (.ldc 60, 2) := by decide +kernel
theorem d_Bread_live_23 : decode m_Bread_live.2.1 23 = .ok (.irem, 1) := by decide +kernel
theorem d_Bread_live_24 : decode m_Bread_live.2.1 24 = .ok (.istore_n 3, 1) := by decide +kernel
theorem d_Bread_live_25 : decode m_Bread_live.2.1 25 = .ok (.aload_n 0, 1) := by decide +kernel
theorem d_Bread_live_26 : decode m_Bread_live.2.1 26 = .ok (.iload_n 3, 1) := by decide +kernel
theorem d_Bread_live_27 : decode m_Bread_live.2.1 27 = .ok (.bipush 6, 2) := by decide +kernel
theorem d_Bread_live_29 : decode m_Bread_live.2.1 29 = .ok (.irem, 1) := by decide +kernel
theorem d_Bread_live_30 : decode m_Bread_live.2.1 30 = .ok (.invokevirtual 61, 3) := by decide +kernel
theorem d_Bread_live_33 : decode m_Bread_live.2.1 33 = .ok (.ifCond .eq 6, 3) := by decide +kernel
theorem d_Bread_live_36 : decode m_Bread_live.2.1 36 = .ok (.iinc 4 1, 3) := by decide +kernel
theorem d_Bread_live_39 : decode m_Bread_live.2.1 39 = .ok (.iinc 5 1, 3) := by decide +kernel
theorem d_Bread_live_42 : decode m_Bread_live.2.1 42 = .ok (.goto (-34), 3) := by decide +kernel
theorem d_Bread_live_45 : decode m_Bread_live.2.1 45 = .ok (.iload 4, 2) := by decide +kernel
theorem d_Bread_live_47 : decode m_Bread_live.2.1 47 = .ok (.ireturn, 1) := by decide +kernel
theorem d_Bread_loavesFor_0 : decode m_Bread_loavesFor.2.1 0 = .ok (.iconst 0, 1) := by decide +kernel
theorem d_Bread_loavesFor_1 : decode m_Bread_loavesFor.2.1 1 = .ok (.istore_n 2, 1) := by decide +kernel
theorem d_Bread_loavesFor_2 : decode m_Bread_loavesFor.2.1 2 = .ok (.iconst 0, 1) := by decide +kernel
theorem d_Bread_loavesFor_3 : decode m_Bread_loavesFor.2.1 3 = .ok (.istore_n 3, 1) := by decide +kernel
theorem d_Bread_loavesFor_4 : decode m_Bread_loavesFor.2.1 4 = .ok (.iload_n 3, 1) := by decide +kernel
theorem d_Bread_loavesFor_5 : decode m_Bread_loavesFor.2.1 5 = .ok (.bipush 6, 2) := by decide +kernel
theorem d_Bread_loavesFor_7 : decode m_Bread_loavesFor.2.1 7 = .ok (.if_icmp .ge 26, 3) := by decide +kernel
theorem d_Bread_loavesFor_10 : decode m_Bread_loavesFor.2.1 10 = .ok (.iload_n 1, 1) := by decide +kernel
theorem d_Bread_loavesFor_11 : decode m_Bread_loavesFor.2.1 11 = .ok (.iload_n 3, 1) := by decide +kernel
theorem d_Bread_loavesFor_12 : decode m_Bread_loavesFor.2.1 12 = .ok (.invokestatic 36, 3) := by decide +kernel
theorem d_Bread_loavesFor_15 : decode m_Bread_loavesFor.2.1 15 = .ok (.ifCond .eq 12, 3) := by decide +kernel
theorem d_Bread_loavesFor_18 : decode m_Bread_loavesFor.2.1 18 = .ok (.iload_n 2, 1) := by decide +kernel
theorem d_Bread_loavesFor_19 : decode m_Bread_loavesFor.2.1 19 = .ok (.aload_n 0, 1) := by decide +kernel
theorem d_Bread_loavesFor_20 : decode m_Bread_loavesFor.2.1 20 = .ok (.getfield 9, 3) := by decide +kernel
theorem d_Bread_loavesFor_23 : decode m_Bread_loavesFor.2.1 23 = .ok (.iload_n 3, 1) := by decide +kernel
theorem d_Bread_loavesFor_24 : decode m_Bread_loavesFor.2.1 24 = .ok (.iaload, 1) := by decide +kernel
theorem d_Bread_loavesFor_25 : decode m_Bread_loavesFor.2.1 25 = .ok (.ior, 1) := by decide +kernel
theorem d_Bread_loavesFor_26 : decode m_Bread_loavesFor.2.1 26 = .ok (.istore_n 2, 1) := by decide +kernel
theorem d_Bread_loavesFor_27 : decode m_Bread_loavesFor.2.1 27 = .ok (.iinc 3 1, 3) := by decide +kernel
theorem d_Bread_loavesFor_30 : decode m_Bread_loavesFor.2.1 30 = .ok (.goto (-26), 3) := by decide +kernel
theorem d_Bread_loavesFor_33 : decode m_Bread_loavesFor.2.1 33 = .ok (.iconst 0, 1) := by decide +kernel
theorem d_Bread_loavesFor_34 : decode m_Bread_loavesFor.2.1 34 = .ok (.istore_n 3, 1) := by decide +kernel
theorem d_Bread_loavesFor_35 : decode m_Bread_loavesFor.2.1 35 = .ok (.iconst 0, 1) := by decide +kernel
theorem d_Bread_loavesFor_36 : decode m_Bread_loavesFor.2.1 36 = .ok (.istore 4, 2) := by decide +kernel
theorem d_Bread_loavesFor_38 : decode m_Bread_loavesFor.2.1 38 = .ok (.iload 4, 2) := by decide +kernel
theorem d_Bread_loavesFor_40 : decode m_Bread_loavesFor.2.1 40 = .ok (.bipush 10, 2) := by decide +kernel
theorem d_Bread_loavesFor_42 : decode m_Bread_loavesFor.2.1 42 = .ok (.if_icmp .ge 28, 3) := by decide +kernel
theorem d_Bread_loavesFor_45 : decode m_Bread_loavesFor.2.1 45 = .ok (.iload_n 2, 1) := by decide +kernel
theorem d_Bread_loavesFor_46 : decode m_Bread_loavesFor.2.1 46 = .ok (.iload 4, 2) := by decide +kernel
theorem d_Bread_loavesFor_48 : decode m_Bread_loavesFor.2.1 48 = .ok (.invokestatic 36, 3) := by decide +kernel
theorem d_Bread_loavesFor_51 : decode m_Bread_loavesFor.2.1 51 = .ok (.ifCond .eq 13, 3) := by decide +kernel
theorem d_Bread_loavesFor_54 : decode m_Bread_loavesFor.2.1 54 = .ok (.iload_n 3, 1) := by decide +kernel
theorem d_Bread_loavesFor_55 : decode m_Bread_loavesFor.2.1 55 = .ok (.aload_n 0, 1) := by decide +kernel
theorem d_Bread_loavesFor_56 : decode m_Bread_loavesFor.2.1 56 = .ok (.getfield 15, 3) := by decide +kernel
theorem d_Bread_loavesFor_59 : decode m_Bread_loavesFor.2.1 59 = .ok (.iload 4, 2) := by decide +kernel
theorem d_Bread_loavesFor_61 : decode m_Bread_loavesFor.2.1 61 = .ok (.iaload, 1) := by decide +kernel
theorem d_Bread_loavesFor_62 : decode m_Bread_loavesFor.2.1 62 = .ok (.iadd, 1) := by decide +kernel
theorem d_Bread_loavesFor_63 : decode m_Bread_loavesFor.2.1 63 = .ok (.istore_n 3, 1) := by decide +kernel
theorem d_Bread_loavesFor_64 : decode m_Bread_loavesFor.2.1 64 = .ok (.iinc 4 1, 3) := by decide +kernel
theorem d_Bread_loavesFor_67 : decode m_Bread_loavesFor.2.1 67 = .ok (.goto (-29), 3) := by decide +kernel
theorem d_Bread_loavesFor_70 : decode m_Bread_loavesFor.2.1 70 = .ok (.iload_n 3, 1) := by decide +kernel
theorem d_Bread_loavesFor_71 : decode m_Bread_loavesFor.2.1 71 = .ok (.ireturn, 1) := by decide +kernel
theorem d_Bread_mostFed_0 : decode m_Bread_mostFed.2.1 0 = .ok (.iconst 0, 1) := by decide +kernel
theorem d_Bread_mostFed_1 : decode m_Bread_mostFed.2.1 1 = .ok (.istore_n 2, 1) := by decide +kernel
theorem d_Bread_mostFed_2 : decode m_Bread_mostFed.2.1 2 = .ok (.iconst 1, 1) := by decide +kernel
theorem d_Bread_mostFed_3 : decode m_Bread_mostFed.2.1 3 = .ok (.istore_n 3, 1) := by decide +kernel
theorem d_Bread_mostFed_4 : decode m_Bread_mostFed.2.1 4 = .ok (.iload_n 3, 1) := by decide +kernel
theorem d_Bread_mostFed_5 : decode m_Bread_mostFed.2.1 5 = .ok (.bipush 63, 2) := by decide +kernel
theorem d_Bread_mostFed_7 : decode m_Bread_mostFed.2.1 7 = .ok (.if_icmp .gt 32, 3) := by decide +kernel
theorem d_Bread_mostFed_10 : decode m_Bread_mostFed.2.1 10 = .ok (.iload_n 3, 1) := by decide +kernel
theorem d_Bread_mostFed_11 : decode m_Bread_mostFed.2.1 11 = .ok (.iload_n 1, 1) := by decide +kernel
theorem d_Bread_mostFed_12 : decode m_Bread_mostFed.2.1 12 = .ok (.iconst (-1), 1) := by decide +kernel
theorem d_Bread_mostFed_13 : decode m_Bread_mostFed.2.1 13 = .ok (.ixor, 1) := by decide +kernel
theorem d_Bread_mostFed_14 : decode m_Bread_mostFed.2.1 14 = .ok (.iand, 1) := by decide +kernel
theorem d_Bread_mostFed_15 : decode m_Bread_mostFed.2.1 15 = .ok (.ifCond .ne 18, 3) := by decide +kernel
theorem d_Bread_mostFed_18 : decode m_Bread_mostFed.2.1 18 = .ok (.iload_n 2, 1) := by decide +kernel
theorem d_Bread_mostFed_19 : decode m_Bread_mostFed.2.1 19 = .ok (.iload_n 3, 1) := by decide +kernel
theorem d_Bread_mostFed_20 : decode m_Bread_mostFed.2.1 20 = .ok (.invokestatic 40, 3) := by decide +kernel
theorem d_Bread_mostFed_23 : decode m_Bread_mostFed.2.1 23 = .ok (.aload_n 0, 1) := by decide +kernel
theorem d_Bread_mostFed_24 : decode m_Bread_mostFed.2.1 24 = .ok (.iload_n 3, 1) := by decide +kernel
theorem d_Bread_mostFed_25 : decode m_Bread_mostFed.2.1 25 = .ok (.invokevirtual 45, 3) := by decide +kernel
theorem d_Bread_mostFed_28 : decode m_Bread_mostFed.2.1 28 = .ok (.isub, 1) := by decide +kernel
theorem d_Bread_mostFed_29 : decode m_Bread_mostFed.2.1 29 = .ok (.invokestatic 48, 3) := by decide +kernel
theorem d_Bread_mostFed_32 : decode m_Bread_mostFed.2.1 32 = .ok (.istore_n 2, 1) := by decide +kernel
theorem d_Bread_mostFed_33 : decode m_Bread_mostFed.2.1 33 = .ok (.iinc 3 1, 3) := by decide +kernel
theorem d_Bread_mostFed_36 : decode m_Bread_mostFed.2.1 36 = .ok (.goto (-32), 3) := by decide +kernel
theorem d_Bread_mostFed_39 : decode m_Bread_mostFed.2.1 39 = .ok (.iload_n 1, 1) := by decide +kernel
theorem d_Bread_mostFed_40 : decode m_Bread_mostFed.2.1 40 = .ok (.invokestatic 40, 3) := by decide +kernel
theorem d_Bread_mostFed_43 : decode m_Bread_mostFed.2.1 43 = .ok (.iload_n 2, 1) := by decide +kernel
theorem d_Bread_mostFed_44 : decode m_Bread_mostFed.2.1 44 = .ok (.isub, 1) := by decide +kernel
theorem d_Bread_mostFed_45 : decode m_Bread_mostFed.2.1 45 = .ok (.ireturn, 1) := by decide +kernel
theorem d_Bread_serve_0 : decode m_Bread_serve.2.1 0 = .ok (.aload_n 0, 1) := by decide +kernel
theorem d_Bread_serve_1 : decode m_Bread_serve.2.1 1 = .ok (.bipush 63, 2) := by decide +kernel
theorem d_Bread_serve_3 : decode m_Bread_serve.2.1 3 = .ok (.invokevirtual 54, 3) := by decide +kernel
theorem d_Bread_serve_6 : decode m_Bread_serve.2.1 6 = .ok (.istore_n 1, 1) := by decide +kernel
theorem d_Bread_serve_7 : decode m_Bread_serve.2.1 7 = .ok (.iload_n 1, 1) := by decide +kernel
theorem d_Bread_serve_8 : decode m_Bread_serve.2.1 8 = .ok (.istore_n 2, 1) := by decide +kernel
theorem d_Bread_serve_9 : decode m_Bread_serve.2.1 9 = .ok (.iconst 0, 1) := by decide +kernel
theorem d_Bread_serve_10 : decode m_Bread_serve.2.1 10 = .ok (.istore_n 3, 1) := by decide +kernel
theorem d_Bread_serve_11 : decode m_Bread_serve.2.1 11 = .ok (.iload_n 3, 1) := by decide +kernel
theorem d_Bread_serve_12 : decode m_Bread_serve.2.1 12 = .ok (.bipush 6, 2) := by decide +kernel
theorem d_Bread_serve_14 : decode m_Bread_serve.2.1 14 = .ok (.if_icmp .ge 35, 3) := by decide +kernel
theorem d_Bread_serve_17 : decode m_Bread_serve.2.1 17 = .ok (.aload_n 0, 1) := by decide +kernel
theorem d_Bread_serve_18 : decode m_Bread_serve.2.1 18 = .ok (.getfield 18, 3) := by decide +kernel
theorem d_Bread_serve_21 : decode m_Bread_serve.2.1 21 = .ok (.iload_n 3, 1) := by decide +kernel
theorem d_Bread_serve_22 : decode m_Bread_serve.2.1 22 = .ok (.aload_n 0, 1) := by decide +kernel
theorem d_Bread_serve_23 : decode m_Bread_serve.2.1 23 = .ok (.iload_n 3, 1) := by decide +kernel
theorem d_Bread_serve_24 : decode m_Bread_serve.2.1 24 = .ok (.iload_n 2, 1) := by decide +kernel
theorem d_Bread_serve_25 : decode m_Bread_serve.2.1 25 = .ok (.invokevirtual 57, 3) := by decide +kernel
theorem d_Bread_serve_28 : decode m_Bread_serve.2.1 28 = .ok (.iastore, 1) := by decide +kernel
theorem d_Bread_serve_29 : decode m_Bread_serve.2.1 29 = .ok (.aload_n 0, 1) := by decide +kernel
theorem d_Bread_serve_30 : decode m_Bread_serve.2.1 30 = .ok (.getfield 18, 3) := by decide +kernel
theorem d_Bread_serve_33 : decode m_Bread_serve.2.1 33 = .ok (.iload_n 3, 1) := by decide +kernel
theorem d_Bread_serve_34 : decode m_Bread_serve.2.1 34 = .ok (.iaload, 1) := by decide +kernel
theorem d_Bread_serve_35 : decode m_Bread_serve.2.1 35 = .ok (.bipush (-6), 2) := by decide +kernel
theorem d_Bread_serve_37 : decode m_Bread_serve.2.1 37 = .ok (.if_icmp .eq 6, 3) := by decide +kernel
theorem d_Bread_serve_40 : decode m_Bread_serve.2.1 40 = .ok (.iinc 2 (-1), 3) := by decide +kernel
theorem d_Bread_serve_43 : decode m_Bread_serve.2.1 43 = .ok (.iinc 3 1, 3) := by decide +kernel
theorem d_Bread_serve_46 : decode m_Bread_serve.2.1 46 = .ok (.goto (-35), 3) := by decide +kernel
theorem d_Bread_serve_49 : decode m_Bread_serve.2.1 49 = .ok (.iload_n 1, 1) := by decide +kernel
theorem d_Bread_serve_50 : decode m_Bread_serve.2.1 50 = .ok (.ireturn, 1) := by decide +kernel
theorem d_Bread_takeLeastMeal_0 : decode m_Bread_takeLeastMeal.2.1 0 = .ok (.bipush 63, 2) := by decide +kernel
theorem d_Bread_takeLeastMeal_2 : decode m_Bread_takeLeastMeal.2.1 2 = .ok (.iconst 2, 1) := by decide +kernel
theorem d_Bread_takeLeastMeal_3 : decode m_Bread_takeLeastMeal.2.1 3 = .ok (.iload_n 1, 1) := by decide +kernel
theorem d_Bread_takeLeastMeal_4 : decode m_Bread_takeLeastMeal.2.1 4 = .ok (.ishl, 1) := by decide +kernel
theorem d_Bread_takeLeastMeal_5 : decode m_Bread_takeLeastMeal.2.1 5 = .ok (.ineg, 1) := by decide +kernel
theorem d_Bread_takeLeastMeal_6 : decode m_Bread_takeLeastMeal.2.1 6 = .ok (.iand, 1) := by decide +kernel
theorem d_Bread_takeLeastMeal_7 : decode m_Bread_takeLeastMeal.2.1 7 = .ok (.istore_n 3, 1) := by decide +kernel
theorem d_Bread_takeLeastMeal_8 : decode m_Bread_takeLeastMeal.2.1 8 = .ok (.iconst 0, 1) := by decide +kernel
theorem d_Bread_takeLeastMeal_9 : decode m_Bread_takeLeastMeal.2.1 9 = .ok (.istore 4, 2) := by decide +kernel
theorem d_Bread_takeLeastMeal_11 : decode m_Bread_takeLeastMeal.2.1 11 = .ok (.iload 4, 2) := by decide +kernel
theorem d_Bread_takeLeastMeal_13 : decode m_Bread_takeLeastMeal.2.1 13 = .ok (.bipush 10, 2) := by decide +kernel
theorem d_Bread_takeLeastMeal_15 : decode m_Bread_takeLeastMeal.2.1 15 = .ok (.if_icmp .ge 69, 3) := by decide +kernel
theorem d_Bread_takeLeastMeal_18 : decode m_Bread_takeLeastMeal.2.1 18 = .ok (.aload_n 0, 1) := by decide +kernel
theorem d_Bread_takeLeastMeal_19 : decode m_Bread_takeLeastMeal.2.1 19 = .ok (.getfield 9, 3) := by decide +kernel
theorem d_Bread_takeLeastMeal_22 : decode m_Bread_takeLeastMeal.2.1 22 = .ok (.iload_n 1, 1) := by decide +kernel
theorem d_Bread_takeLeastMeal_23 : decode m_Bread_takeLeastMeal.2.1 23 = .ok (.iaload, 1) := by decide +kernel
theorem d_Bread_takeLeastMeal_24 : decode m_Bread_takeLeastMeal.2.1 24 = .ok (.iload 4, 2) := by decide +kernel
theorem d_Bread_takeLeastMeal_26 : decode m_Bread_takeLeastMeal.2.1 26 = .ok (.invokestatic 36, 3) := by decide +kernel
theorem d_Bread_takeLeastMeal_29 : decode m_Bread_takeLeastMeal.2.1 29 = .ok (.ifCond .eq 49, 3) := by decide +kernel
theorem d_Bread_takeLeastMeal_32 : decode m_Bread_takeLeastMeal.2.1 32 = .ok (.aload_n 0, 1) := by decide +kernel
theorem d_Bread_takeLeastMeal_33 : decode m_Bread_takeLeastMeal.2.1 33 = .ok (.getfield 15, 3) := by decide +kernel
theorem d_Bread_takeLeastMeal_36 : decode m_Bread_takeLeastMeal.2.1 36 = .ok (.iload 4, 2) := by decide +kernel
theorem d_Bread_takeLeastMeal_38 : decode m_Bread_takeLeastMeal.2.1 38 = .ok (.iaload, 1) := by decide +kernel
theorem d_Bread_takeLeastMeal_39 : decode m_Bread_takeLeastMeal.2.1 39 = .ok (.ifCond .le 39, 3) := by decide +kernel
theorem d_Bread_takeLeastMeal_42 : decode m_Bread_takeLeastMeal.2.1 42 = .ok (.aload_n 0, 1) := by decide +kernel
theorem d_Bread_takeLeastMeal_43 : decode m_Bread_takeLeastMeal.2.1 43 = .ok (.getfield 15, 3) := by decide +kernel
theorem d_Bread_takeLeastMeal_46 : decode m_Bread_takeLeastMeal.2.1 46 = .ok (.iload 4, 2) := by decide +kernel
theorem d_Bread_takeLeastMeal_48 : decode m_Bread_takeLeastMeal.2.1 48 = .ok (.dup2, 1) := by decide +kernel
theorem d_Bread_takeLeastMeal_49 : decode m_Bread_takeLeastMeal.2.1 49 = .ok (.iaload, 1) := by decide +kernel
theorem d_Bread_takeLeastMeal_50 : decode m_Bread_takeLeastMeal.2.1 50 = .ok (.iconst 1, 1) := by decide +kernel
theorem d_Bread_takeLeastMeal_51 : decode m_Bread_takeLeastMeal.2.1 51 = .ok (.isub, 1) := by decide +kernel
theorem d_Bread_takeLeastMeal_52 : decode m_Bread_takeLeastMeal.2.1 52 = .ok (.iastore, 1) := by decide +kernel
theorem d_Bread_takeLeastMeal_53 : decode m_Bread_takeLeastMeal.2.1 53 = .ok (.iconst 1, 1) := by decide +kernel
theorem d_Bread_takeLeastMeal_54 : decode m_Bread_takeLeastMeal.2.1 54 = .ok (.aload_n 0, 1) := by decide +kernel
theorem d_Bread_takeLeastMeal_55 : decode m_Bread_takeLeastMeal.2.1 55 = .ok (.iload_n 3, 1) := by decide +kernel
theorem d_Bread_takeLeastMeal_56 : decode m_Bread_takeLeastMeal.2.1 56 = .ok (.invokevirtual 54, 3) := by decide +kernel
theorem d_Bread_takeLeastMeal_59 : decode m_Bread_takeLeastMeal.2.1 59 = .ok (.iadd, 1) := by decide +kernel
theorem d_Bread_takeLeastMeal_60 : decode m_Bread_takeLeastMeal.2.1 60 = .ok (.iload_n 2, 1) := by decide +kernel
theorem d_Bread_takeLeastMeal_61 : decode m_Bread_takeLeastMeal.2.1 61 = .ok (.if_icmp .ne 6, 3) := by decide +kernel
theorem d_Bread_takeLeastMeal_64 : decode m_Bread_takeLeastMeal.2.1 64 = .ok (.iload 4, 2) := by decide +kernel
theorem d_Bread_takeLeastMeal_66 : decode m_Bread_takeLeastMeal.2.1 66 = .ok (.ireturn, 1) := by decide +kernel
theorem d_Bread_takeLeastMeal_67 : decode m_Bread_takeLeastMeal.2.1 67 = .ok (.aload_n 0, 1) := by decide +kernel
theorem d_Bread_takeLeastMeal_68 : decode m_Bread_takeLeastMeal.2.1 68 = .ok (.getfield 15, 3) := by decide +kernel
theorem d_Bread_takeLeastMeal_71 : decode m_Bread_takeLeastMeal.2.1 71 = .ok (.iload 4, 2) := by decide +kernel
theorem d_Bread_takeLeastMeal_73 : decode m_Bread_takeLeastMeal.2.1 73 = .ok (.dup2, 1) := by decide +kernel
theorem d_Bread_takeLeastMeal_74 : decode m_Bread_takeLeastMeal.2.1 74 = .ok (.iaload, 1) := by decide +kernel
theorem d_Bread_takeLeastMeal_75 : decode m_Bread_takeLeastMeal.2.1 75 = .ok (.iconst 1, 1) := by decide +kernel
theorem d_Bread_takeLeastMeal_76 : decode m_Bread_takeLeastMeal.2.1 76 = .ok (.iadd, 1) := by decide +kernel
theorem d_Bread_takeLeastMeal_77 : decode m_Bread_takeLeastMeal.2.1 77 = .ok (.iastore, 1) := by decide +kernel
theorem d_Bread_takeLeastMeal_78 : decode m_Bread_takeLeastMeal.2.1 78 = .ok (.iinc 4 1, 3) := by decide +kernel
theorem d_Bread_takeLeastMeal_81 : decode m_Bread_takeLeastMeal.2.1 81 = .ok (.goto (-70), 3) := by decide +kernel
theorem d_Bread_takeLeastMeal_84 : decode m_Bread_takeLeastMeal.2.1 84 = .ok (.bipush (-6), 2) := by decide +kernel
theorem d_Bread_takeLeastMeal_86 : decode m_Bread_takeLeastMeal.2.1 86 = .ok (.ireturn, 1) := by decide +kernel
theorem d_Filling_applySight_0 : decode m_Filling_applySight.2.1 0 = .ok (.aload_n 3, 1) := by decide +kernel
theorem d_Filling_applySight_1 : decode m_Filling_applySight.2.1 1 = .ok (.iload_n 1, 1) := by decide +kernel
theorem d_Filling_applySight_2 : decode m_Filling_applySight.2.1 2 = .ok (.invokevirtual 67, 3) := by decide +kernel
theorem d_Filling_applySight_5 : decode m_Filling_applySight.2.1 5 = .ok (.iload_n 2, 1) := by decide +kernel
theorem d_Filling_applySight_6 : decode m_Filling_applySight.2.1 6 = .ok (.iand, 1) := by decide +kernel
theorem d_Filling_applySight_7 : decode m_Filling_applySight.2.1 7 = .ok (.ifCond .eq 8, 3) := by decide +kernel
theorem d_Filling_applySight_10 : decode m_Filling_applySight.2.1 10 = .ok (.aload_n 0, 1) := by decide +kernel
theorem d_Filling_applySight_11 : decode m_Filling_applySight.2.1 11 = .ok (.iconst 0, 1) := by decide +kernel
theorem d_Filling_applySight_12 : decode m_Filling_applySight.2.1 12 = .ok (.putfield 28, 3) := by decide +kernel
theorem d_Filling_applySight_15 : decode m_Filling_applySight.2.1 15 = .ok (.iconst 0, 1) := by decide +kernel
theorem d_Filling_applySight_16 : decode m_Filling_applySight.2.1 16 = .ok (.istore 4, 2) := by decide +kernel
theorem d_Filling_applySight_18 : decode m_Filling_applySight.2.1 18 = .ok (.iload 4, 2) := by decide +kernel
theorem d_Filling_applySight_20 : decode m_Filling_applySight.2.1 20 = .ok (.aload_n 0, 1) := by decide +kernel
theorem d_Filling_applySight_21 : decode m_Filling_applySight.2.1 21 = .ok (.getfield 53, 3) := by decide +kernel
theorem d_Filling_applySight_24 : decode m_Filling_applySight.2.1 24 = .ok (.if_icmp .ge 36, 3) := by decide +kernel
theorem d_Filling_applySight_27 : decode m_Filling_applySight.2.1 27 = .ok (.iload_n 1, 1) := by decide +kernel
theorem d_Filling_applySight_28 : decode m_Filling_applySight.2.1 28 = .ok (.aload_n 0, 1) := by decide +kernel
theorem d_Filling_applySight_29 : decode m_Filling_applySight.2.1 29 = .ok (.getfield 9, 3) := by decide +kernel
theorem d_Filling_applySight_32 : decode m_Filling_applySight.2.1 32 = .ok (.iload 4, 2) := by decide +kernel
theorem d_Filling_applySight_34 : decode m_Filling_applySight.2.1 34 = .ok (.iaload, 1) := by decide +kernel
theorem d_Filling_applySight_35 : decode m_Filling_applySight.2.1 35 = .ok (.invokestatic 70, 3) := by decide +kernel
theorem d_Filling_applySight_38 : decode m_Filling_applySight.2.1 38 = .ok (.ifCond .eq 16, 3) := by decide +kernel
theorem d_Filling_applySight_41 : decode m_Filling_applySight.2.1 41 = .ok (.aload_n 0, 1) := by decide +kernel
theorem d_Filling_applySight_42 : decode m_Filling_applySight.2.1 42 = .ok (.getfield 15, 3) := by decide +kernel
theorem d_Filling_applySight_45 : decode m_Filling_applySight.2.1 45 = .ok (.iload 4, 2) := by decide +kernel
theorem d_Filling_applySight_47 : decode m_Filling_applySight.2.1 47 = .ok (.dup2, 1) := by decide +kernel
theorem d_Filling_applySight_48 : decode m_Filling_applySight.2.1 48 = .ok (.iaload, 1) := by decide +kernel
theorem d_Filling_applySight_49 : decode m_Filling_applySight.2.1 49 = .ok (.iload_n 2, 1) := by decide +kernel
theorem d_Filling_applySight_50 : decode m_Filling_applySight.2.1 50 = .ok (.iconst (-1), 1) := by decide +kernel
theorem d_Filling_applySight_51 : decode m_Filling_applySight.2.1 51 = .ok (.ixor, 1) := by decide +kernel
theorem d_Filling_applySight_52 : decode m_Filling_applySight.2.1 52 = .ok (.iand, 1) := by decide +kernel
theorem d_Filling_applySight_53 : decode m_Filling_applySight.2.1 53 = .ok (.iastore, 1) := by decide +kernel
theorem d_Filling_applySight_54 : decode m_Filling_applySight.2.1 54 = .ok (.iinc 4 1, 3) := by decide +kernel
theorem d_Filling_applySight_57 : decode m_Filling_applySight.2.1 57 = .ok (.goto (-39), 3) := by decide +kernel
theorem d_Filling_applySight_60 : decode m_Filling_applySight.2.1 60 = .ok (.return_, 1) := by decide +kernel
theorem d_Filling_barredInAll_0 : decode m_Filling_barredInAll.2.1 0 = .ok (.aload_n 1, 1) := by decide +kernel
theorem d_Filling_barredInAll_1 : decode m_Filling_barredInAll.2.1 1 = .ok (.iload_n 2, 1) := by decide +kernel
theorem d_Filling_barredInAll_2 : decode m_Filling_barredInAll.2.1 2 = .ok (.invokevirtual 39, 3) := by decide +kernel
theorem d_Filling_barredInAll_5 : decode m_Filling_barredInAll.2.1 5 = .ok (.istore_n 3, 1) := by decide +kernel
theorem d_Filling_barredInAll_6 : decode m_Filling_barredInAll.2.1 6 = .ok (.aload_n 1, 1) := by decide +kernel
theorem d_Filling_barredInAll_7 : decode m_Filling_barredInAll.2.1 7 = .ok (.getfield 18, 3) := by decide +kernel
theorem d_Filling_barredInAll_10 : decode m_Filling_barredInAll.2.1 10 = .ok (.iload_n 3, 1) := by decide +kernel
theorem d_Filling_barredInAll_11 : decode m_Filling_barredInAll.2.1 11 = .ok (.invokevirtual 67, 3) := by decide +kernel
theorem d_Filling_barredInAll_14 : decode m_Filling_barredInAll.2.1 14 = .ok (.istore 4, 2) := by decide +kernel
theorem d_Filling_barredInAll_16 : decode m_Filling_barredInAll.2.1 16 = .ok (.iconst 0, 1) := by decide +kernel
theorem d_Filling_barredInAll_17 : decode m_Filling_barredInAll.2.1 17 = .ok (.istore 5, 2) := by decide +kernel
theorem d_Filling_barredInAll_19 : decode m_Filling_barredInAll.2.1 19 = .ok (.iconst 0, 1) := by decide +kernel
theorem d_Filling_barredInAll_20 : decode m_Filling_barredInAll.2.1 20 = .ok (.istore 6, 2) := by decide +kernel
theorem d_Filling_barredInAll_22 : decode m_Filling_barredInAll.2.1 22 = .ok (.iload 6, 2) := by decide +kernel
theorem d_Filling_barredInAll_24 : decode m_Filling_barredInAll.2.1 24 = .ok (.bipush 6, 2) := by decide +kernel
theorem d_Filling_barredInAll_26 : decode m_Filling_barredInAll.2.1 26 = .ok (.if_icmp .ge 44, 3) := by decide +kernel
theorem d_Filling_barredInAll_29 : decode m_Filling_barredInAll.2.1 29 = .ok (.aload_n 1, 1) := by decide +kernel
theorem d_Filling_barredInAll_30 : decode m_Filling_barredInAll.2.1 30 = .ok (.iload 6, 2) := by decide +kernel
theorem d_Filling_barredInAll_32 : decode m_Filling_barredInAll.2.1 32 = .ok (.invokevirtual 46, 3) := by decide +kernel
theorem d_Filling_barredInAll_35 : decode m_Filling_barredInAll.2.1 35 = .ok (.istore 7, 2) := by decide +kernel
theorem d_Filling_barredInAll_37 : decode m_Filling_barredInAll.2.1 37 = .ok (.iload 4, 2) := by decide +kernel
theorem d_Filling_barredInAll_39 : decode m_Filling_barredInAll.2.1 39 = .ok (.iload 7, 2) := by decide +kernel
theorem d_Filling_barredInAll_41 : decode m_Filling_barredInAll.2.1 41 = .ok (.iand, 1) := by decide +kernel
theorem d_Filling_barredInAll_42 : decode m_Filling_barredInAll.2.1 42 = .ok (.ifCond .ne 13, 3) := by decide +kernel
theorem d_Filling_barredInAll_45 : decode m_Filling_barredInAll.2.1 45 = .ok (.aload_n 0, 1) := by decide +kernel
theorem d_Filling_barredInAll_46 : decode m_Filling_barredInAll.2.1 46 = .ok (.iload_n 3, 1) := by decide +kernel
theorem d_Filling_barredInAll_47 : decode m_Filling_barredInAll.2.1 47 = .ok (.iload 7, 2) := by decide +kernel
theorem d_Filling_barredInAll_49 : decode m_Filling_barredInAll.2.1 49 = .ok (.invokevirtual 86, 3) := by decide +kernel
theorem d_Filling_barredInAll_52 : decode m_Filling_barredInAll.2.1 52 = .ok (.ifCond .eq 12, 3) := by decide +kernel
theorem d_Filling_barredInAll_55 : decode m_Filling_barredInAll.2.1 55 = .ok (.iload 5, 2) := by decide +kernel
theorem d_Filling_barredInAll_57 : decode m_Filling_barredInAll.2.1 57 = .ok (.iconst 1, 1) := by decide +kernel
theorem d_Filling_barredInAll_58 : decode m_Filling_barredInAll.2.1 58 = .ok (.iload 6, 2) := by decide +kernel
theorem d_Filling_barredInAll_60 : decode m_Filling_barredInAll.2.1 60 = .ok (.ishl, 1) := by decide +kernel
theorem d_Filling_barredInAll_61 : decode m_Filling_barredInAll.2.1 61 = .ok (.ior, 1) := by decide +kernel
theorem d_Filling_barredInAll_62 : decode m_Filling_barredInAll.2.1 62 = .ok (.istore 5, 2) := by decide +kernel
theorem d_Filling_barredInAll_64 : decode m_Filling_barredInAll.2.1 64 = .ok (.iinc 6 1, 3) := by decide +kernel
theorem d_Filling_barredInAll_67 : decode m_Filling_barredInAll.2.1 67 = .ok (.goto (-45), 3) := by decide +kernel
theorem d_Filling_barredInAll_70 : decode m_Filling_barredInAll.2.1 70 = .ok (.iload 5, 2) := by decide +kernel
theorem d_Filling_barredInAll_72 : decode m_Filling_barredInAll.2.1 72 = .ok (.ireturn, 1) := by decide +kernel
theorem d_Filling_barredInSome_0 : decode m_Filling_barredInSome.2.1 0 = .ok (.aload_n 1, 1) := by decide +kernel
theorem d_Filling_barredInSome_1 : decode m_Filling_barredInSome.2.1 1 = .ok (.iload_n 2, 1) := by decide +kernel
theorem d_Filling_barredInSome_2 : decode m_Filling_barredInSome.2.1 2 = .ok (.invokevirtual 39, 3) := by decide +kernel
theorem d_Filling_barredInSome_5 : decode m_Filling_barredInSome.2.1 5 = .ok (.istore_n 3, 1) := by decide +kernel
theorem d_Filling_barredInSome_6 : decode m_Filling_barredInSome.2.1 6 = .ok (.aload_n 1, 1) := by decide +kernel
theorem d_Filling_barredInSome_7 : decode m_Filling_barredInSome.2.1 7 = .ok (.getfield 18, 3) := by decide +kernel
theorem d_Filling_barredInSome_10 : decode m_Filling_barredInSome.2.1 10 = .ok (.iload_n 3, 1) := by decide +kernel
theorem d_Filling_barredInSome_11 : decode m_Filling_barredInSome.2.1 11 = .ok (.invokevirtual 67, 3) := by decide +kernel
theorem d_Filling_barredInSome_14 : decode m_Filling_barredInSome.2.1 14 = .ok (.istore 4, 2) := by decide +kernel
theorem d_Filling_barredInSome_16 : decode m_Filling_barredInSome.2.1 16 = .ok (.iconst 0, 1) := by decide +kernel
theorem d_Filling_barredInSome_17 : decode m_Filling_barredInSome.2.1 17 = .ok (.istore 5, 2) := by decide +kernel
theorem d_Filling_barredInSome_19 : decode m_Filling_barredInSome.2.1 19 = .ok (.iload 5, 2) := by decide +kernel
theorem d_Filling_barredInSome_21 : decode m_Filling_barredInSome.2.1 21 = .ok (.aload_n 0, 1) := by decide +kernel
theorem d_Filling_barredInSome_22 : decode m_Filling_barredInSome.2.1 22 = .ok (.getfield 53, 3) := by decide +kernel
theorem d_Filling_barredInSome_25 : decode m_Filling_barredInSome.2.1 25 = .ok (.if_icmp .ge 35, 3) := by decide +kernel
theorem d_Filling_barredInSome_28 : decode m_Filling_barredInSome.2.1 28 = .ok (.iload_n 3, 1) := by decide +kernel
theorem d_Filling_barredInSome_29 : decode m_Filling_barredInSome.2.1 29 = .ok (.aload_n 0, 1) := by decide +kernel
theorem d_Filling_barredInSome_30 : decode m_Filling_barredInSome.2.1 30 = .ok (.getfield 9, 3) := by decide +kernel
theorem d_Filling_barredInSome_33 : decode m_Filling_barredInSome.2.1 33 = .ok (.iload 5, 2) := by decide +kernel
theorem d_Filling_barredInSome_35 : decode m_Filling_barredInSome.2.1 35 = .ok (.iaload, 1) := by decide +kernel
theorem d_Filling_barredInSome_36 : decode m_Filling_barredInSome.2.1 36 = .ok (.invokestatic 70, 3) := by decide +kernel
theorem d_Filling_barredInSome_39 : decode m_Filling_barredInSome.2.1 39 = .ok (.ifCond .eq 15, 3) := by decide +kernel
theorem d_Filling_barredInSome_42 : decode m_Filling_barredInSome.2.1 42 = .ok (.iload 4, 2) := by decide +kernel
theorem d_Filling_barredInSome_44 : decode m_Filling_barredInSome.2.1 44 = .ok (.aload_n 0, 1) := by decide +kernel
theorem d_Filling_barredInSome_45 : decode m_Filling_barredInSome.2.1 45 = .ok (.getfield 15, 3) := by decide +kernel
theorem d_Filling_barredInSome_48 : decode m_Filling_barredInSome.2.1 48 = .ok (.iload 5, 2) := by decide +kernel
theorem d_Filling_barredInSome_50 : decode m_Filling_barredInSome.2.1 50 = .ok (.iaload, 1) := by decide +kernel
theorem d_Filling_barredInSome_51 : decode m_Filling_barredInSome.2.1 51 = .ok (.ior, 1) := by decide +kernel
theorem d_Filling_barredInSome_52 : decode m_Filling_barredInSome.2.1 52 = .ok (.istore 4, 2) := by decide +kernel
theorem d_Filling_barredInSome_54 : decode m_Filling_barredInSome.2.1 54 = .ok (.iinc 5 1, 3) := by decide +kernel
theorem d_Filling_barredInSome_57 : decode m_Filling_barredInSome.2.1 57 = .ok (.goto (-38), 3) := by decide +kernel
theorem d_Filling_barredInSome_60 : decode m_Filling_barredInSome.2.1 60 = .ok (.aload_n 1, 1) := by decide +kernel
theorem d_Filling_barredInSome_61 : decode m_Filling_barredInSome.2.1 61 = .ok (.iload 4, 2) := by decide +kernel
theorem d_Filling_barredInSome_63 : decode m_Filling_barredInSome.2.1 63 = .ok (.invokevirtual 89, 3) := by decide +kernel
theorem d_Filling_barredInSome_66 : decode m_Filling_barredInSome.2.1 66 = .ok (.ireturn, 1) := by decide +kernel
theorem d_Filling_findAsks_0 : decode m_Filling_findAsks.2.1 0 = .ok (.aload_n 0, 1) := by decide +kernel
theorem d_Filling_findAsks_1 : decode m_Filling_findAsks.2.1 1 = .ok (.iconst 0, 1) := by decide +kernel
theorem d_Filling_findAsks_2 : decode m_Filling_findAsks.2.1 2 = .ok (.putfield 53, 3) := by decide +kernel
theorem d_Filling_findAsks_5 : decode m_Filling_findAsks.2.1 5 = .ok (.iconst 0, 1) := by decide +kernel
theorem d_Filling_findAsks_6 : decode m_Filling_findAsks.2.1 6 = .ok (.istore_n 2, 1) := by decide +kernel
theorem d_Filling_findAsks_7 : decode m_Filling_findAsks.2.1 7 = .ok (.iload_n 2, 1) := by decide +kernel
theorem d_Filling_findAsks_8 : decode m_Filling_findAsks.2.1 8 = .ok (.aload_n 1, 1) := by decide +kernel
theorem d_Filling_findAsks_9 : decode m_Filling_findAsks.2.1 9 = .ok (.getfield 56, 3) := by decide +kernel
theorem d_Filling_findAsks_12 : decode m_Filling_findAsks.2.1 12 = .ok (.if_icmp .ge 67, 3) := by decide +kernel
theorem d_Filling_findAsks_15 : decode m_Filling_findAsks.2.1 15 = .ok (.aload_n 1, 1) := by decide +kernel
theorem d_Filling_findAsks_16 : decode m_Filling_findAsks.2.1 16 = .ok (.getfield 61, 3) := by decide +kernel
theorem d_Filling_findAsks_19 : decode m_Filling_findAsks.2.1 19 = .ok (.iload_n 2, 1) := by decide +kernel
theorem d_Filling_findAsks_20 : decode m_Filling_findAsks.2.1 20 = .ok (.iaload, 1) := by decide +kernel
theorem d_Filling_findAsks_21 : decode m_Filling_findAsks.2.1 21 = .ok (.iconst 1, 1) := by decide +kernel
theorem d_Filling_findAsks_22 : decode m_Filling_findAsks.2.1 22 = .ok (.if_icmp .ne 51, 3) := by decide +kernel
theorem d_Filling_findAsks_25 : decode m_Filling_findAsks.2.1 25 = .ok (.aload_n 0, 1) := by decide +kernel
theorem d_Filling_findAsks_26 : decode m_Filling_findAsks.2.1 26 = .ok (.getfield 53, 3) := by decide +kernel
theorem d_Filling_findAsks_29 : decode m_Filling_findAsks.2.1 29 = .ok (.iconst 4, 1) := by decide +kernel
theorem d_Filling_findAsks_30 : decode m_Filling_findAsks.2.1 30 = .ok (.if_icmp .ge 43, 3) := by decide +kernel
theorem d_Filling_findAsks_33 : decode m_Filling_findAsks.2.1 33 = .ok (.aload_n 0, 1) := by decide +kernel
theorem d_Filling_findAsks_34 : decode m_Filling_findAsks.2.1 34 = .ok (.getfield 9, 3) := by decide +kernel
theorem d_Filling_findAsks_37 : decode m_Filling_findAsks.2.1 37 = .ok (.aload_n 0, 1) := by decide +kernel
theorem d_Filling_findAsks_38 : decode m_Filling_findAsks.2.1 38 = .ok (.getfield 53, 3) := by decide +kernel
theorem d_Filling_findAsks_41 : decode m_Filling_findAsks.2.1 41 = .ok (.iload_n 2, 1) := by decide +kernel
theorem d_Filling_findAsks_42 : decode m_Filling_findAsks.2.1 42 = .ok (.iastore, 1) := by decide +kernel
theorem d_Filling_findAsks_43 : decode m_Filling_findAsks.2.1 43 = .ok (.aload_n 0, 1) := by decide +kernel
theorem d_Filling_findAsks_44 : decode m_Filling_findAsks.2.1 44 = .ok (.getfield 15, 3) := by decide +kernel
theorem d_Filling_findAsks_47 : decode m_Filling_findAsks.2.1 47 = .ok (.aload_n 0, 1) := by decide +kernel
theorem d_Filling_findAsks_48 : decode m_Filling_findAsks.2.1 48 = .ok (.getfield 53, 3) := by decide +kernel
theorem d_Filling_findAsks_51 : decode m_Filling_findAsks.2.1 51 = .ok (.bipush 63, 2) := by decide +kernel
theorem d_Filling_findAsks_53 : decode m_Filling_findAsks.2.1 53 = .ok (.aload_n 1, 1) := by decide +kernel
theorem d_Filling_findAsks_54 : decode m_Filling_findAsks.2.1 54 = .ok (.getfield 64, 3) := by decide +kernel
theorem d_Filling_findAsks_57 : decode m_Filling_findAsks.2.1 57 = .ok (.iload_n 2, 1) := by decide +kernel
theorem d_Filling_findAsks_58 : decode m_Filling_findAsks.2.1 58 = .ok (.iaload, 1) := by decide +kernel
theorem d_Filling_findAsks_59 : decode m_Filling_findAsks.2.1 59 = .ok (.iconst (-1), 1) := by decide +kernel
theorem d_Filling_findAsks_60 : decode m_Filling_findAsks.2.1 60 = .ok (.ixor, 1) := by decide +kernel
theorem d_Filling_findAsks_61 : decode m_Filling_findAsks.2.1 61 = .ok (.iand, 1) := by decide +kernel
theorem d_Filling_findAsks_62 : decode m_Filling_findAsks.2.1 62 = .ok (.iastore, 1) := by decide +kernel
theorem d_Filling_findAsks_63 : decode m_Filling_findAsks.2.1 63 = .ok (.aload_n 0, 1) := by decide +kernel
theorem d_Filling_findAsks_64 : decode m_Filling_findAsks.2.1 64 = .ok (.dup, 1) := by decide +kernel
theorem d_Filling_findAsks_65 : decode m_Filling_findAsks.2.1 65 = .ok (.getfield 53, 3) := by decide +kernel
theorem d_Filling_findAsks_68 : decode m_Filling_findAsks.2.1 68 = .ok (.iconst 1, 1) := by decide +kernel
theorem d_Filling_findAsks_69 : decode m_Filling_findAsks.2.1 69 = .ok (.iadd, 1) := by decide +kernel
theorem d_Filling_findAsks_70 : decode m_Filling_findAsks.2.1 70 = .ok (.putfield 53, 3) := by decide +kernel
theorem d_Filling_findAsks_73 : decode m_Filling_findAsks.2.1 73 = .ok (.iinc 2 1, 3) := by decide +kernel
theorem d_Filling_findAsks_76 : decode m_Filling_findAsks.2.1 76 = .ok (.goto (-69), 3) := by decide +kernel
theorem d_Filling_findAsks_79 : decode m_Filling_findAsks.2.1 79 = .ok (.return_, 1) := by decide +kernel
theorem d_Filling_firstMan_0 : decode m_Filling_firstMan.2.1 0 = .ok (.iload_n 1, 1) := by decide +kernel
theorem d_Filling_firstMan_1 : decode m_Filling_firstMan.2.1 1 = .ok (.ifCond .lt 18, 3) := by decide +kernel
theorem d_Filling_firstMan_4 : decode m_Filling_firstMan.2.1 4 = .ok (.iload_n 1, 1) := by decide +kernel
theorem d_Filling_firstMan_5 : decode m_Filling_firstMan.2.1 5 = .ok (.aload_n 0, 1) := by decide +kernel
theorem d_Filling_firstMan_6 : decode m_Filling_firstMan.2.1 6 = .ok (.getfield 53, 3) := by decide +kernel
theorem d_Filling_firstMan_9 : decode m_Filling_firstMan.2.1 9 = .ok (.if_icmp .ge 10, 3) := by decide +kernel
theorem d_Filling_firstMan_12 : decode m_Filling_firstMan.2.1 12 = .ok (.aload_n 0, 1) := by decide +kernel
theorem d_Filling_firstMan_13 : decode m_Filling_firstMan.2.1 13 = .ok (.invokevirtual 79, 3) := by decide +kernel
theorem d_Filling_firstMan_16 : decode m_Filling_firstMan.2.1 16 = .ok (.ifCond .ne 6, 3) := by decide +kernel
theorem d_Filling_firstMan_19 : decode m_Filling_firstMan.2.1 19 = .ok (.bipush (-6), 2) := by decide +kernel
theorem d_Filling_firstMan_21 : decode m_Filling_firstMan.2.1 21 = .ok (.ireturn, 1) := by decide +kernel
theorem d_Filling_firstMan_22 : decode m_Filling_firstMan.2.1 22 = .ok (.aload_n 0, 1) := by decide +kernel
theorem d_Filling_firstMan_23 : decode m_Filling_firstMan.2.1 23 = .ok (.getfield 15, 3) := by decide +kernel
theorem d_Filling_firstMan_26 : decode m_Filling_firstMan.2.1 26 = .ok (.iload_n 1, 1) := by decide +kernel
theorem d_Filling_firstMan_27 : decode m_Filling_firstMan.2.1 27 = .ok (.iaload, 1) := by decide +kernel
theorem d_Filling_firstMan_28 : decode m_Filling_firstMan.2.1 28 = .ok (.invokestatic 83, 3) := by decide +kernel
theorem d_Filling_firstMan_31 : decode m_Filling_firstMan.2.1 31 = .ok (.ireturn, 1) := by decide +kernel
theorem d_Filling_init_0 : decode m_Filling_init.2.1 0 = .ok (.aload_n 0, 1) := by decide +kernel
theorem d_Filling_init_1 : decode m_Filling_init.2.1 1 = .ok (.invokespecial 3, 3) := by decide +kernel
theorem d_Filling_init_4 : decode m_Filling_init.2.1 4 = .ok (.aload_n 0, 1) := by decide +kernel
theorem d_Filling_init_5 : decode m_Filling_init.2.1 5 = .ok (.iconst 4, 1) := by decide +kernel
theorem d_Filling_init_6 : decode m_Filling_init.2.1 6 = .ok (.newarray .int, 2) := by decide +kernel
theorem d_Filling_init_8 : decode m_Filling_init.2.1 8 = .ok (.putfield 9, 3) := by decide +kernel
theorem d_Filling_init_11 : decode m_Filling_init.2.1 11 = .ok (.aload_n 0, 1) := by decide +kernel
theorem d_Filling_init_12 : decode m_Filling_init.2.1 12 = .ok (.iconst 4, 1) := by decide +kernel
theorem d_Filling_init_13 : decode m_Filling_init.2.1 13 = .ok (.newarray .int, 2) := by decide +kernel
theorem d_Filling_init_15 : decode m_Filling_init.2.1 15 = .ok (.putfield 15, 3) := by decide +kernel
theorem d_Filling_init_18 : decode m_Filling_init.2.1 18 = .ok (.return_, 1) := by decide +kernel
theorem d_Filling_isForced_0 : decode m_Filling_isForced.2.1 0 = .ok (.iconst 0, 1) := by decide +kernel
theorem d_Filling_isForced_1 : decode m_Filling_isForced.2.1 1 = .ok (.istore_n 3, 1) := by decide +kernel
theorem d_Filling_isForced_2 : decode m_Filling_isForced.2.1 2 = .ok (.iload_n 3, 1) := by decide +kernel
theorem d_Filling_isForced_3 : decode m_Filling_isForced.2.1 3 = .ok (.aload_n 0, 1) := by decide +kernel
theorem d_Filling_isForced_4 : decode m_Filling_isForced.2.1 4 = .ok (.getfield 53, 3) := by decide +kernel
theorem d_Filling_isForced_7 : decode m_Filling_isForced.2.1 7 = .ok (.if_icmp .ge 37, 3) := by decide +kernel
theorem d_Filling_isForced_10 : decode m_Filling_isForced.2.1 10 = .ok (.iload_n 1, 1) := by decide +kernel
theorem d_Filling_isForced_11 : decode m_Filling_isForced.2.1 11 = .ok (.aload_n 0, 1) := by decide +kernel
theorem d_Filling_isForced_12 : decode m_Filling_isForced.2.1 12 = .ok (.getfield 9, 3) := by decide +kernel
theorem d_Filling_isForced_15 : decode m_Filling_isForced.2.1 15 = .ok (.iload_n 3, 1) := by decide +kernel
theorem d_Filling_isForced_16 : decode m_Filling_isForced.2.1 16 = .ok (.iaload, 1) := by decide +kernel
theorem d_Filling_isForced_17 : decode m_Filling_isForced.2.1 17 = .ok (.invokestatic 70, 3) := by decide +kernel
theorem d_Filling_isForced_20 : decode m_Filling_isForced.2.1 20 = .ok (.ifCond .eq 18, 3) := by decide +kernel
theorem d_Filling_isForced_23 : decode m_Filling_isForced.2.1 23 = .ok (.aload_n 0, 1) := by decide +kernel
theorem d_Filling_isForced_24 : decode m_Filling_isForced.2.1 24 = .ok (.getfield 15, 3) := by decide +kernel
theorem d_Filling_isForced_27 : decode m_Filling_isForced.2.1 27 = .ok (.iload_n 3, 1) := by decide +kernel
theorem d_Filling_isForced_28 : decode m_Filling_isForced.2.1 28 = .ok (.iaload, 1) := by decide +kernel
theorem d_Filling_isForced_29 : decode m_Filling_isForced.2.1 29 = .ok (.iload_n 2, 1) := by decide +kernel
theorem d_Filling_isForced_30 : decode m_Filling_isForced.2.1 30 = .ok (.iconst (-1), 1) := by decide +kernel
theorem d_Filling_isForced_31 : decode m_Filling_isForced.2.1 31 = .ok (.ixor, 1) := by decide +kernel
theorem d_Filling_isForced_32 : decode m_Filling_isForced.2.1 32 = .ok (.iand, 1) := by decide +kernel
theorem d_Filling_isForced_33 : decode m_Filling_isForced.2.1 33 = .ok (.ifCond .ne 5, 3) := by decide +kernel
theorem d_Filling_isForced_36 : decode m_Filling_isForced.2.1 36 = .ok (.iconst 1, 1) := by decide +kernel
theorem d_Filling_isForced_37 : decode m_Filling_isForced.2.1 37 = .ok (.ireturn, 1) := by decide +kernel
theorem d_Filling_isForced_38 : decode m_Filling_isForced.2.1 38 = .ok (.iinc 3 1, 3) := by decide +kernel
theorem d_Filling_isForced_41 : decode m_Filling_isForced.2.1 41 = .ok (.goto (-39), 3) := by decide +kernel
theorem d_Filling_isForced_44 : decode m_Filling_isForced.2.1 44 = .ok (.iconst 0, 1) := by decide +kernel
theorem d_Filling_isForced_45 : decode m_Filling_isForced.2.1 45 = .ok (.ireturn, 1) := by decide +kernel
theorem d_Filling_ways_0 : decode m_Filling_ways.2.1 0 = .ok (.aload_n 0, 1) := by decide +kernel
theorem d_Filling_ways_1 : decode m_Filling_ways.2.1 1 = .ok (.getfield 28, 3) := by decide +kernel
theorem d_Filling_ways_4 : decode m_Filling_ways.2.1 4 = .ok (.ifCond .eq 7, 3) := by decide +kernel
theorem d_Filling_ways_7 : decode m_Filling_ways.2.1 7 = .ok (.iconst 1, 1) := by decide +kernel
theorem d_Filling_ways_8 : decode m_Filling_ways.2.1 8 = .ok (.goto 4, 3) := by decide +kernel
theorem d_Filling_ways_11 : decode m_Filling_ways.2.1 11 = .ok (.iconst 0, 1) := by decide +kernel
theorem d_Filling_ways_12 : decode m_Filling_ways.2.1 12 = .ok (.istore_n 1, 1) := by decide +kernel
theorem d_Filling_ways_13 : decode m_Filling_ways.2.1 13 = .ok (.iconst 0, 1) := by decide +kernel
theorem d_Filling_ways_14 : decode m_Filling_ways.2.1 14 = .ok (.istore_n 2, 1) := by decide +kernel
theorem d_Filling_ways_15 : decode m_Filling_ways.2.1 15 = .ok (.iload_n 2, 1) := by decide +kernel
theorem d_Filling_ways_16 : decode m_Filling_ways.2.1 16 = .ok (.aload_n 0, 1) := by decide +kernel
theorem d_Filling_ways_17 : decode m_Filling_ways.2.1 17 = .ok (.getfield 53, 3) := by decide +kernel
theorem d_Filling_ways_20 : decode m_Filling_ways.2.1 20 = .ok (.if_icmp .ge 21, 3) := by decide +kernel
theorem d_Filling_ways_23 : decode m_Filling_ways.2.1 23 = .ok (.iload_n 1, 1) := by decide +kernel
theorem d_Filling_ways_24 : decode m_Filling_ways.2.1 24 = .ok (.aload_n 0, 1) := by decide +kernel
theorem d_Filling_ways_25 : decode m_Filling_ways.2.1 25 = .ok (.getfield 15, 3) := by decide +kernel
theorem d_Filling_ways_28 : decode m_Filling_ways.2.1 28 = .ok (.iload_n 2, 1) := by decide +kernel
theorem d_Filling_ways_29 : decode m_Filling_ways.2.1 29 = .ok (.iaload, 1) := by decide +kernel
theorem d_Filling_ways_30 : decode m_Filling_ways.2.1 30 = .ok (.invokestatic 74, 3) := by decide +kernel
theorem d_Filling_ways_33 : decode m_Filling_ways.2.1 33 = .ok (.imul, 1) := by decide +kernel
theorem d_Filling_ways_34 : decode m_Filling_ways.2.1 34 = .ok (.istore_n 1, 1) := by decide +kernel
theorem d_Filling_ways_35 : decode m_Filling_ways.2.1 35 = .ok (.iinc 2 1, 3) := by decide +kernel
theorem d_Filling_ways_38 : decode m_Filling_ways.2.1 38 = .ok (.goto (-23), 3) := by decide +kernel
theorem d_Filling_ways_41 : decode m_Filling_ways.2.1 41 = .ok (.iload_n 1, 1) := by decide +kernel
theorem d_Filling_ways_42 : decode m_Filling_ways.2.1 42 = .ok (.ireturn, 1) := by decide +kernel
theorem d_Filling_weigh_0 : decode m_Filling_weigh.2.1 0 = .ok (.aload_n 0, 1) := by decide +kernel
theorem d_Filling_weigh_1 : decode m_Filling_weigh.2.1 1 = .ok (.aload_n 1, 1) := by decide +kernel
theorem d_Filling_weigh_2 : decode m_Filling_weigh.2.1 2 = .ok (.getfield 18, 3) := by decide +kernel
theorem d_Filling_weigh_5 : decode m_Filling_weigh.2.1 5 = .ok (.invokevirtual 24, 3) := by decide +kernel
theorem d_Filling_weigh_8 : decode m_Filling_weigh.2.1 8 = .ok (.aload_n 0, 1) := by decide +kernel
theorem d_Filling_weigh_9 : decode m_Filling_weigh.2.1 9 = .ok (.iconst 1, 1) := by decide +kernel
theorem d_Filling_weigh_10 : decode m_Filling_weigh.2.1 10 = .ok (.putfield 28, 3) := by decide +kernel
theorem d_Filling_weigh_13 : decode m_Filling_weigh.2.1 13 = .ok (.iconst 0, 1) := by decide +kernel
theorem d_Filling_weigh_14 : decode m_Filling_weigh.2.1 14 = .ok (.istore_n 2, 1) := by decide +kernel
theorem d_Filling_weigh_15 : decode m_Filling_weigh.2.1 15 = .ok (.iload_n 2, 1) := by decide +kernel
theorem d_Filling_weigh_16 : decode m_Filling_weigh.2.1 16 = .ok (.aload_n 1, 1) := by decide +kernel
theorem d_Filling_weigh_17 : decode m_Filling_weigh.2.1 17 = .ok (.getfield 32, 3) := by decide +kernel
theorem d_Filling_weigh_20 : decode m_Filling_weigh.2.1 20 = .ok (.if_icmp .ge 37, 3) := by decide +kernel
theorem d_Filling_weigh_23 : decode m_Filling_weigh.2.1 23 = .ok (.aload_n 0, 1) := by decide +kernel
theorem d_Filling_weigh_24 : decode m_Filling_weigh.2.1 24 = .ok (.aload_n 1, 1) := by decide +kernel
theorem d_Filling_weigh_25 : decode m_Filling_weigh.2.1 25 = .ok (.aload_n 1, 1) := by decide +kernel
theorem d_Filling_weigh_26 : decode m_Filling_weigh.2.1 26 = .ok (.getfield 36, 3) := by decide +kernel
theorem d_Filling_weigh_29 : decode m_Filling_weigh.2.1 29 = .ok (.iload_n 2, 1) := by decide +kernel
theorem d_Filling_weigh_30 : decode m_Filling_weigh.2.1 30 = .ok (.iaload, 1) := by decide +kernel
theorem d_Filling_weigh_31 : decode m_Filling_weigh.2.1 31 = .ok (.invokevirtual 39, 3) := by decide +kernel
theorem d_Filling_weigh_34 : decode m_Filling_weigh.2.1 34 = .ok (.aload_n 1, 1) := by decide +kernel
theorem d_Filling_weigh_35 : decode m_Filling_weigh.2.1 35 = .ok (.aload_n 1, 1) := by decide +kernel
theorem d_Filling_weigh_36 : decode m_Filling_weigh.2.1 36 = .ok (.getfield 43, 3) := by decide +kernel
theorem d_Filling_weigh_39 : decode m_Filling_weigh.2.1 39 = .ok (.iload_n 2, 1) := by decide +kernel
theorem d_Filling_weigh_40 : decode m_Filling_weigh.2.1 40 = .ok (.iaload, 1) := by decide +kernel
theorem d_Filling_weigh_41 : decode m_Filling_weigh.2.1 41 = .ok (.invokevirtual 46, 3) := by decide +kernel
theorem d_Filling_weigh_44 : decode m_Filling_weigh.2.1 44 = .ok (.aload_n 1, 1) := by decide +kernel
theorem d_Filling_weigh_45 : decode m_Filling_weigh.2.1 45 = .ok (.getfield 18, 3) := by decide +kernel
theorem d_Filling_weigh_48 : decode m_Filling_weigh.2.1 48 = .ok (.invokevirtual 49, 3) := by decide +kernel
theorem d_Filling_weigh_51 : decode m_Filling_weigh.2.1 51 = .ok (.iinc 2 1, 3) := by decide +kernel
theorem d_Filling_weigh_54 : decode m_Filling_weigh.2.1 54 = .ok (.goto (-39), 3) := by decide +kernel
theorem d_Filling_weigh_57 : decode m_Filling_weigh.2.1 57 = .ok (.return_, 1) := by decide +kernel
theorem d_JI_bitCount_0 : decode m_JI_bitCount.2.1 0 = .ok (.iload_n 0, 1) := by decide +kernel
theorem d_JI_bitCount_1 : decode m_JI_bitCount.2.1 1 = .ok (.iload_n 0, 1) := by decide +kernel
theorem d_JI_bitCount_2 : decode m_JI_bitCount.2.1 2 = .ok (.iconst 1, 1) := by decide +kernel
theorem d_JI_bitCount_3 : decode m_JI_bitCount.2.1 3 = .ok (.iushr, 1) := by decide +kernel
theorem d_JI_bitCount_4 : decode m_JI_bitCount.2.1 4 = .ok (.ldc_w 265, 3) := by decide +kernel
theorem d_JI_bitCount_7 : decode m_JI_bitCount.2.1 7 = .ok (.iand, 1) := by decide +kernel
theorem d_JI_bitCount_8 : decode m_JI_bitCount.2.1 8 = .ok (.isub, 1) := by decide +kernel
theorem d_JI_bitCount_9 : decode m_JI_bitCount.2.1 9 = .ok (.istore_n 0, 1) := by decide +kernel
theorem d_JI_bitCount_10 : decode m_JI_bitCount.2.1 10 = .ok (.iload_n 0, 1) := by decide +kernel
theorem d_JI_bitCount_11 : decode m_JI_bitCount.2.1 11 = .ok (.ldc_w 266, 3) := by decide +kernel
theorem d_JI_bitCount_14 : decode m_JI_bitCount.2.1 14 = .ok (.iand, 1) := by decide +kernel
theorem d_JI_bitCount_15 : decode m_JI_bitCount.2.1 15 = .ok (.iload_n 0, 1) := by decide +kernel
theorem d_JI_bitCount_16 : decode m_JI_bitCount.2.1 16 = .ok (.iconst 2, 1) := by decide +kernel
theorem d_JI_bitCount_17 : decode m_JI_bitCount.2.1 17 = .ok (.iushr, 1) := by decide +kernel
theorem d_JI_bitCount_18 : decode m_JI_bitCount.2.1 18 = .ok (.ldc_w 266, 3) := by decide +kernel
theorem d_JI_bitCount_21 : decode m_JI_bitCount.2.1 21 = .ok (.iand, 1) := by decide +kernel
theorem d_JI_bitCount_22 : decode m_JI_bitCount.2.1 22 = .ok (.iadd, 1) := by decide +kernel
theorem d_JI_bitCount_23 : decode m_JI_bitCount.2.1 23 = .ok (.istore_n 0, 1) := by decide +kernel
theorem d_JI_bitCount_24 : decode m_JI_bitCount.2.1 24 = .ok (.iload_n 0, 1) := by decide +kernel
theorem d_JI_bitCount_25 : decode m_JI_bitCount.2.1 25 = .ok (.iload_n 0, 1) := by decide +kernel
theorem d_JI_bitCount_26 : decode m_JI_bitCount.2.1 26 = .ok (.iconst 4, 1) := by decide +kernel
theorem d_JI_bitCount_27 : decode m_JI_bitCount.2.1 27 = .ok (.iushr, 1) := by decide +kernel
theorem d_JI_bitCount_28 : decode m_JI_bitCount.2.1 28 = .ok (.iadd, 1) := by decide +kernel
theorem d_JI_bitCount_29 : decode m_JI_bitCount.2.1 29 = .ok (.ldc_w 267, 3) := by decide +kernel
theorem d_JI_bitCount_32 : decode m_JI_bitCount.2.1 32 = .ok (.iand, 1) := by decide +kernel
theorem d_JI_bitCount_33 : decode m_JI_bitCount.2.1 33 = .ok (.istore_n 0, 1) := by decide +kernel
theorem d_JI_bitCount_34 : decode m_JI_bitCount.2.1 34 = .ok (.iload_n 0, 1) := by decide +kernel
theorem d_JI_bitCount_35 : decode m_JI_bitCount.2.1 35 = .ok (.iload_n 0, 1) := by decide +kernel
theorem d_JI_bitCount_36 : decode m_JI_bitCount.2.1 36 = .ok (.bipush 8, 2) := by decide +kernel
theorem d_JI_bitCount_38 : decode m_JI_bitCount.2.1 38 = .ok (.iushr, 1) := by decide +kernel
theorem d_JI_bitCount_39 : decode m_JI_bitCount.2.1 39 = .ok (.iadd, 1) := by decide +kernel
theorem d_JI_bitCount_40 : decode m_JI_bitCount.2.1 40 = .ok (.istore_n 0, 1) := by decide +kernel
theorem d_JI_bitCount_41 : decode m_JI_bitCount.2.1 41 = .ok (.iload_n 0, 1) := by decide +kernel
theorem d_JI_bitCount_42 : decode m_JI_bitCount.2.1 42 = .ok (.iload_n 0, 1) := by decide +kernel
theorem d_JI_bitCount_43 : decode m_JI_bitCount.2.1 43 = .ok (.bipush 16, 2) := by decide +kernel
theorem d_JI_bitCount_45 : decode m_JI_bitCount.2.1 45 = .ok (.iushr, 1) := by decide +kernel
theorem d_JI_bitCount_46 : decode m_JI_bitCount.2.1 46 = .ok (.iadd, 1) := by decide +kernel
theorem d_JI_bitCount_47 : decode m_JI_bitCount.2.1 47 = .ok (.istore_n 0, 1) := by decide +kernel
theorem d_JI_bitCount_48 : decode m_JI_bitCount.2.1 48 = .ok (.iload_n 0, 1) := by decide +kernel
theorem d_JI_bitCount_49 : decode m_JI_bitCount.2.1 49 = .ok (.bipush 63, 2) := by decide +kernel
theorem d_JI_bitCount_51 : decode m_JI_bitCount.2.1 51 = .ok (.iand, 1) := by decide +kernel
theorem d_JI_bitCount_52 : decode m_JI_bitCount.2.1 52 = .ok (.ireturn, 1) := by decide +kernel
theorem d_JM_max_0 : decode m_JM_max.2.1 0 = .ok (.iload_n 0, 1) := by decide +kernel
theorem d_JM_max_1 : decode m_JM_max.2.1 1 = .ok (.iload_n 1, 1) := by decide +kernel
theorem d_JM_max_2 : decode m_JM_max.2.1 2 = .ok (.if_icmp .lt 7, 3) := by decide +kernel
theorem d_JM_max_5 : decode m_JM_max.2.1 5 = .ok (.iload_n 0, 1) := by decide +kernel
theorem d_JM_max_6 : decode m_JM_max.2.1 6 = .ok (.goto 4, 3) := by decide +kernel
theorem d_JM_max_9 : decode m_JM_max.2.1 9 = .ok (.iload_n 1, 1) := by decide +kernel
theorem d_JM_max_10 : decode m_JM_max.2.1 10 = .ok (.ireturn, 1) := by decide +kernel
theorem d_Matchmaker_arrange_0 : decode m_Matchmaker_arrange.2.1 0 = .ok (.iconst 0, 1) := by decide +kernel
theorem d_Matchmaker_arrange_1 : decode m_Matchmaker_arrange.2.1 1 = .ok (.istore_n 2, 1) := by decide +kernel
theorem d_Matchmaker_arrange_2 : decode m_Matchmaker_arrange.2.1 2 = .ok (.iconst 0, 1) := by decide +kernel
theorem d_Matchmaker_arrange_3 : decode m_Matchmaker_arrange.2.1 3 = .ok (.istore_n 3, 1) := by decide +kernel
theorem d_Matchmaker_arrange_4 : decode m_Matchmaker_arrange.2.1 4 = .ok (.iload_n 3, 1) := by decide +kernel
theorem d_Matchmaker_arrange_5 : decode m_Matchmaker_arrange.2.1 5 = .ok (.bipush 6, 2) := by decide +kernel
theorem d_Matchmaker_arrange_7 : decode m_Matchmaker_arrange.2.1 7 = .ok (.if_icmp .ge 49, 3) := by decide +kernel
theorem d_Matchmaker_arrange_10 : decode m_Matchmaker_arrange.2.1 10 = .ok (.aload_n 0, 1) := by decide +kernel
theorem d_Matchmaker_arrange_11 : decode m_Matchmaker_arrange.2.1 11 = .ok (.getfield 9, 3) := by decide +kernel
theorem d_Matchmaker_arrange_14 : decode m_Matchmaker_arrange.2.1 14 = .ok (.iload_n 3, 1) := by decide +kernel
theorem d_Matchmaker_arrange_15 : decode m_Matchmaker_arrange.2.1 15 = .ok (.aload_n 1, 1) := by decide +kernel
theorem d_Matchmaker_arrange_16 : decode m_Matchmaker_arrange.2.1 16 = .ok (.iload_n 3, 1) := by decide +kernel
theorem d_Matchmaker_arrange_17 : decode m_Matchmaker_arrange.2.1 17 = .ok (.invokevirtual 21, 3) := by decide +kernel
theorem d_Matchmaker_arrange_20 : decode m_Matchmaker_arrange.2.1 20 = .ok (.iastore, 1) := by decide +kernel
theorem d_Matchmaker_arrange_21 : decode m_Matchmaker_arrange.2.1 21 = .ok (.aload_n 0, 1) := by decide +kernel
theorem d_Matchmaker_arrange_22 : decode m_Matchmaker_arrange.2.1 22 = .ok (.getfield 18, 3) := by decide +kernel
theorem d_Matchmaker_arrange_25 : decode m_Matchmaker_arrange.2.1 25 = .ok (.iload_n 3, 1) := by decide +kernel
theorem d_Matchmaker_arrange_26 : decode m_Matchmaker_arrange.2.1 26 = .ok (.aload_n 1, 1) := by decide +kernel
theorem d_Matchmaker_arrange_27 : decode m_Matchmaker_arrange.2.1 27 = .ok (.getfield 27, 3) := by decide +kernel
theorem d_Matchmaker_arrange_30 : decode m_Matchmaker_arrange.2.1 30 = .ok (.iload_n 3, 1) := by decide +kernel
theorem d_Matchmaker_arrange_31 : decode m_Matchmaker_arrange.2.1 31 = .ok (.iaload, 1) := by decide +kernel
theorem d_Matchmaker_arrange_32 : decode m_Matchmaker_arrange.2.1 32 = .ok (.iastore, 1) := by decide +kernel
theorem d_Matchmaker_arrange_33 : decode m_Matchmaker_arrange.2.1 33 = .ok (.aload_n 0, 1) := by decide +kernel
theorem d_Matchmaker_arrange_34 : decode m_Matchmaker_arrange.2.1 34 = .ok (.getfield 18, 3) := by decide +kernel
theorem d_Matchmaker_arrange_37 : decode m_Matchmaker_arrange.2.1 37 = .ok (.iload_n 3, 1) := by decide +kernel
theorem d_Matchmaker_arrange_38 : decode m_Matchmaker_arrange.2.1 38 = .ok (.iaload, 1) := by decide +kernel
theorem d_Matchmaker_arrange_39 : decode m_Matchmaker_arrange.2.1 39 = .ok (.bipush (-6), 2) := by decide +kernel
theorem d_Matchmaker_arrange_41 : decode m_Matchmaker_arrange.2.1 41 = .ok (.if_icmp .ne 9, 3) := by decide +kernel
theorem d_Matchmaker_arrange_44 : decode m_Matchmaker_arrange.2.1 44 = .ok (.iload_n 2, 1) := by decide +kernel
theorem d_Matchmaker_arrange_45 : decode m_Matchmaker_arrange.2.1 45 = .ok (.iconst 1, 1) := by decide +kernel
theorem d_Matchmaker_arrange_46 : decode m_Matchmaker_arrange.2.1 46 = .ok (.iload_n 3, 1) := by decide +kernel
theorem d_Matchmaker_arrange_47 : decode m_Matchmaker_arrange.2.1 47 = .ok (.ishl, 1) := by decide +kernel
theorem d_Matchmaker_arrange_48 : decode m_Matchmaker_arrange.2.1 48 = .ok (.ior, 1) := by decide +kernel
theorem d_Matchmaker_arrange_49 : decode m_Matchmaker_arrange.2.1 49 = .ok (.istore_n 2, 1) := by decide +kernel
theorem d_Matchmaker_arrange_50 : decode m_Matchmaker_arrange.2.1 50 = .ok (.iinc 3 1, 3) := by decide +kernel
theorem d_Matchmaker_arrange_53 : decode m_Matchmaker_arrange.2.1 53 = .ok (.goto (-49), 3) := by decide +kernel
theorem d_Matchmaker_arrange_56 : decode m_Matchmaker_arrange.2.1 56 = .ok (.aload_n 0, 1) := by decide +kernel
theorem d_Matchmaker_arrange_57 : decode m_Matchmaker_arrange.2.1 57 = .ok (.iload_n 2, 1) := by decide +kernel
theorem d_Matchmaker_arrange_58 : decode m_Matchmaker_arrange.2.1 58 = .ok (.invokevirtual 30, 3) := by decide +kernel
theorem d_Matchmaker_arrange_61 : decode m_Matchmaker_arrange.2.1 61 = .ok (.aload_n 0, 1) := by decide +kernel
theorem d_Matchmaker_arrange_62 : decode m_Matchmaker_arrange.2.1 62 = .ok (.iload_n 2, 1) := by decide +kernel
theorem d_Matchmaker_arrange_63 : decode m_Matchmaker_arrange.2.1 63 = .ok (.invokevirtual 34, 3) := by decide +kernel
theorem d_Matchmaker_arrange_66 : decode m_Matchmaker_arrange.2.1 66 = .ok (.aload_n 0, 1) := by decide +kernel
theorem d_Matchmaker_arrange_67 : decode m_Matchmaker_arrange.2.1 67 = .ok (.getfield 15, 3) := by decide +kernel
theorem d_Matchmaker_arrange_70 : decode m_Matchmaker_arrange.2.1 70 = .ok (.iload_n 2, 1) := by decide +kernel
theorem d_Matchmaker_arrange_71 : decode m_Matchmaker_arrange.2.1 71 = .ok (.iaload, 1) := by decide +kernel
theorem d_Matchmaker_arrange_72 : decode m_Matchmaker_arrange.2.1 72 = .ok (.ireturn, 1) := by decide +kernel
theorem d_Matchmaker_bestOther_0 : decode m_Matchmaker_bestOther.2.1 0 = .ok (.bipush (-6), 2) := by decide +kernel
theorem d_Matchmaker_bestOther_2 : decode m_Matchmaker_bestOther.2.1 2 = .ok (.istore_n 3, 1) := by decide +kernel
theorem d_Matchmaker_bestOther_3 : decode m_Matchmaker_bestOther.2.1 3 = .ok (.iload_n 2, 1) := by decide +kernel
theorem d_Matchmaker_bestOther_4 : decode m_Matchmaker_bestOther.2.1 4 = .ok (.iconst 1, 1) := by decide +kernel
theorem d_Matchmaker_bestOther_5 : decode m_Matchmaker_bestOther.2.1 5 = .ok (.iadd, 1) := by decide +kernel
theorem d_Matchmaker_bestOther_6 : decode m_Matchmaker_bestOther.2.1 6 = .ok (.istore 4, 2) := by decide +kernel
theorem d_Matchmaker_bestOther_8 : decode m_Matchmaker_bestOther.2.1 8 = .ok (.iload 4, 2) := by decide +kernel
theorem d_Matchmaker_bestOther_10 : decode m_Matchmaker_bestOther.2.1 10 = .ok (.bipush 6, 2) := by decide +kernel
theorem d_Matchmaker_bestOther_12 : decode m_Matchmaker_bestOther.2.1 12 = .ok (.if_icmp .ge 45, 3) := by decide +kernel
theorem d_Matchmaker_bestOther_15 : decode m_Matchmaker_bestOther.2.1 15 = .ok (.iload_n 1, 1) := by decide +kernel
theorem d_Matchmaker_bestOther_16 : decode m_Matchmaker_bestOther.2.1 16 = .ok (.iload 4, 2) := by decide +kernel
theorem d_Matchmaker_bestOther_18 : decode m_Matchmaker_bestOther.2.1 18 = .ok (.invokestatic 60, 3) := by decide +kernel
theorem d_Matchmaker_bestOther_21 : decode m_Matchmaker_bestOther.2.1 21 = .ok (.ifCond .eq 30, 3) := by decide +kernel
theorem d_Matchmaker_bestOther_24 : decode m_Matchmaker_bestOther.2.1 24 = .ok (.iload_n 3, 1) := by decide +kernel
theorem d_Matchmaker_bestOther_25 : decode m_Matchmaker_bestOther.2.1 25 = .ok (.bipush (-6), 2) := by decide +kernel
theorem d_Matchmaker_bestOther_27 : decode m_Matchmaker_bestOther.2.1 27 = .ok (.if_icmp .eq 21, 3) := by decide +kernel
theorem d_Matchmaker_bestOther_30 : decode m_Matchmaker_bestOther.2.1 30 = .ok (.aload_n 0, 1) := by decide +kernel
theorem d_Matchmaker_bestOther_31 : decode m_Matchmaker_bestOther.2.1 31 = .ok (.iload_n 1, 1) := by decide +kernel
theorem d_Matchmaker_bestOther_32 : decode m_Matchmaker_bestOther.2.1 32 = .ok (.iload_n 2, 1) := by decide +kernel
theorem d_Matchmaker_bestOther_33 : decode m_Matchmaker_bestOther.2.1 33 = .ok (.iload 4, 2) := by decide +kernel
theorem d_Matchmaker_bestOther_35 : decode m_Matchmaker_bestOther.2.1 35 = .ok (.invokevirtual 56, 3) := by decide +kernel
theorem d_Matchmaker_bestOther_38 : decode m_Matchmaker_bestOther.2.1 38 = .ok (.aload_n 0, 1) := by decide +kernel
theorem d_Matchmaker_bestOther_39 : decode m_Matchmaker_bestOther.2.1 39 = .ok (.iload_n 1, 1) := by decide +kernel
theorem d_Matchmaker_bestOther_40 : decode m_Matchmaker_bestOther.2.1 40 = .ok (.iload_n 2, 1) := by decide +kernel
theorem d_Matchmaker_bestOther_41 : decode m_Matchmaker_bestOther.2.1 41 = .ok (.iload_n 3, 1) := by decide +kernel
theorem d_Matchmaker_bestOther_42 : decode m_Matchmaker_bestOther.2.1 42 = .ok (.invokevirtual 56, 3) := by decide +kernel
theorem d_Matchmaker_bestOther_45 : decode m_Matchmaker_bestOther.2.1 45 = .ok (.if_icmp .ge 6, 3) := by decide +kernel
theorem d_Matchmaker_bestOther_48 : decode m_Matchmaker_bestOther.2.1 48 = .ok (.iload 4, 2) := by decide +kernel
theorem d_Matchmaker_bestOther_50 : decode m_Matchmaker_bestOther.2.1 50 = .ok (.istore_n 3, 1) := by decide +kernel
theorem d_Matchmaker_bestOther_51 : decode m_Matchmaker_bestOther.2.1 51 = .ok (.iinc 4 1, 3) := by decide +kernel
theorem d_Matchmaker_bestOther_54 : decode m_Matchmaker_bestOther.2.1 54 = .ok (.goto (-46), 3) := by decide +kernel
theorem d_Matchmaker_bestOther_57 : decode m_Matchmaker_bestOther.2.1 57 = .ok (.iload_n 3, 1) := by decide +kernel
theorem d_Matchmaker_bestOther_58 : decode m_Matchmaker_bestOther.2.1 58 = .ok (.ireturn, 1) := by decide +kernel
theorem d_Matchmaker_choose_0 : decode m_Matchmaker_choose.2.1 0 = .ok (.iload_n 1, 1) := by decide +kernel
theorem d_Matchmaker_choose_1 : decode m_Matchmaker_choose.2.1 1 = .ok (.istore_n 2, 1) := by decide +kernel
theorem d_Matchmaker_choose_2 : decode m_Matchmaker_choose.2.1 2 = .ok (.iconst 0, 1) := by decide +kernel
theorem d_Matchmaker_choose_3 : decode m_Matchmaker_choose.2.1 3 = .ok (.istore_n 3, 1) := by decide +kernel
theorem d_Matchmaker_choose_4 : decode m_Matchmaker_choose.2.1 4 = .ok (.iload_n 3, 1) := by decide +kernel
theorem d_Matchmaker_choose_5 : decode m_Matchmaker_choose.2.1 5 = .ok (.bipush 6, 2) := by decide +kernel
theorem d_Matchmaker_choose_7 : decode m_Matchmaker_choose.2.1 7 = .ok (.if_icmp .ge 69, 3) := by decide +kernel
theorem d_Matchmaker_choose_10 : decode m_Matchmaker_choose.2.1 10 = .ok (.iload_n 2, 1) := by decide +kernel
theorem d_Matchmaker_choose_11 : decode m_Matchmaker_choose.2.1 11 = .ok (.iload_n 3, 1) := by decide +kernel
theorem d_Matchmaker_choose_12 : decode m_Matchmaker_choose.2.1 12 = .ok (.invokestatic 60, 3) := by decide +kernel
theorem d_Matchmaker_choose_15 : decode m_Matchmaker_choose.2.1 15 = .ok (.ifCond .eq 12, 3) := by decide +kernel
theorem d_Matchmaker_choose_18 : decode m_Matchmaker_choose.2.1 18 = .ok (.aload_n 0, 1) := by decide +kernel
theorem d_Matchmaker_choose_19 : decode m_Matchmaker_choose.2.1 19 = .ok (.iload_n 2, 1) := by decide +kernel
theorem d_Matchmaker_choose_20 : decode m_Matchmaker_choose.2.1 20 = .ok (.iload_n 3, 1) := by decide +kernel
theorem d_Matchmaker_choose_21 : decode m_Matchmaker_choose.2.1 21 = .ok (.invokevirtual 52, 3) := by decide +kernel
theorem d_Matchmaker_choose_24 : decode m_Matchmaker_choose.2.1 24 = .ok (.goto 5, 3) := by decide +kernel
theorem d_Matchmaker_choose_27 : decode m_Matchmaker_choose.2.1 27 = .ok (.bipush (-6), 2) := by decide +kernel
theorem d_Matchmaker_choose_29 : decode m_Matchmaker_choose.2.1 29 = .ok (.istore 4, 2) := by decide +kernel
theorem d_Matchmaker_choose_31 : decode m_Matchmaker_choose.2.1 31 = .ok (.iload 4, 2) := by decide +kernel
theorem d_Matchmaker_choose_33 : decode m_Matchmaker_choose.2.1 33 = .ok (.invokestatic 48, 3) := by decide +kernel
theorem d_Matchmaker_choose_36 : decode m_Matchmaker_choose.2.1 36 = .ok (.ifCond .eq 34, 3) := by decide +kernel
theorem d_Matchmaker_choose_39 : decode m_Matchmaker_choose.2.1 39 = .ok (.aload_n 0, 1) := by decide +kernel
theorem d_Matchmaker_choose_40 : decode m_Matchmaker_choose.2.1 40 = .ok (.getfield 18, 3) := by decide +kernel
theorem d_Matchmaker_choose_43 : decode m_Matchmaker_choose.2.1 43 = .ok (.iload_n 3, 1) := by decide +kernel
theorem d_Matchmaker_choose_44 : decode m_Matchmaker_choose.2.1 44 = .ok (.iload 4, 2) := by decide +kernel
theorem d_Matchmaker_choose_46 : decode m_Matchmaker_choose.2.1 46 = .ok (.iastore, 1) := by decide +kernel
theorem d_Matchmaker_choose_47 : decode m_Matchmaker_choose.2.1 47 = .ok (.aload_n 0, 1) := by decide +kernel
theorem d_Matchmaker_choose_48 : decode m_Matchmaker_choose.2.1 48 = .ok (.getfield 18, 3) := by decide +kernel
theorem d_Matchmaker_choose_51 : decode m_Matchmaker_choose.2.1 51 = .ok (.iload 4, 2) := by decide +kernel
theorem d_Matchmaker_choose_53 : decode m_Matchmaker_choose.2.1 53 = .ok (.iload_n 3, 1) := by decide +kernel
theorem d_Matchmaker_choose_54 : decode m_Matchmaker_choose.2.1 54 = .ok (.iastore, 1) := by decide +kernel
theorem d_Matchmaker_choose_55 : decode m_Matchmaker_choose.2.1 55 = .ok (.iload_n 2, 1) := by decide +kernel
theorem d_Matchmaker_choose_56 : decode m_Matchmaker_choose.2.1 56 = .ok (.iconst 1, 1) := by decide +kernel
theorem d_Matchmaker_choose_57 : decode m_Matchmaker_choose.2.1 57 = .ok (.iload_n 3, 1) := by decide +kernel
theorem d_Matchmaker_choose_58 : decode m_Matchmaker_choose.2.1 58 = .ok (.ishl, 1) := by decide +kernel
theorem d_Matchmaker_choose_59 : decode m_Matchmaker_choose.2.1 59 = .ok (.iconst (-1), 1) := by decide +kernel
theorem d_Matchmaker_choose_60 : decode m_Matchmaker_choose.2.1 60 = .ok (.ixor, 1) := by decide +kernel
theorem d_Matchmaker_choose_61 : decode m_Matchmaker_choose.2.1 61 = .ok (.iconst 1, 1) := by decide +kernel
theorem d_Matchmaker_choose_62 : decode m_Matchmaker_choose.2.1 62 = .ok (.iload 4, 2) := by decide +kernel
theorem d_Matchmaker_choose_64 : decode m_Matchmaker_choose.2.1 64 = .ok (.ishl, 1) := by decide +kernel
theorem d_Matchmaker_choose_65 : decode m_Matchmaker_choose.2.1 65 = .ok (.iconst (-1), 1) := by decide +kernel
theorem d_Matchmaker_choose_66 : decode m_Matchmaker_choose.2.1 66 = .ok (.ixor, 1) := by decide +kernel
theorem d_Matchmaker_choose_67 : decode m_Matchmaker_choose.2.1 67 = .ok (.iand, 1) := by decide +kernel
theorem d_Matchmaker_choose_68 : decode m_Matchmaker_choose.2.1 68 = .ok (.iand, 1) := by decide +kernel
theorem d_Matchmaker_choose_69 : decode m_Matchmaker_choose.2.1 69 = .ok (.istore_n 2, 1) := by decide +kernel
theorem d_Matchmaker_choose_70 : decode m_Matchmaker_choose.2.1 70 = .ok (.iinc 3 1, 3) := by decide +kernel
theorem d_Matchmaker_choose_73 : decode m_Matchmaker_choose.2.1 73 = .ok (.goto (-69), 3) := by decide +kernel
theorem d_Matchmaker_choose_76 : decode m_Matchmaker_choose.2.1 76 = .ok (.return_, 1) := by decide +kernel
theorem d_Matchmaker_init_0 : decode m_Matchmaker_init.2.1 0 = .ok (.aload_n 0, 1) := by decide +kernel
theorem d_Matchmaker_init_1 : decode m_Matchmaker_init.2.1 1 = .ok (.invokespecial 3, 3) := by decide +kernel
theorem d_Matchmaker_init_4 : decode m_Matchmaker_init.2.1 4 = .ok (.aload_n 0, 1) := by decide +kernel
theorem d_Matchmaker_init_5 : decode m_Matchmaker_init.2.1 5 = .ok (.bipush 6, 2) := by decide +kernel
theorem d_Matchmaker_init_7 : decode m_Matchmaker_init.2.1 7 = .ok (.newarray .int, 2) := by decide +kernel
theorem d_Matchmaker_init_9 : decode m_Matchmaker_init.2.1 9 = .ok (.putfield 9, 3) := by decide +kernel
theorem d_Matchmaker_init_12 : decode m_Matchmaker_init.2.1 12 = .ok (.aload_n 0, 1) := by decide +kernel
theorem d_Matchmaker_init_13 : decode m_Matchmaker_init.2.1 13 = .ok (.bipush 64, 2) := by decide +kernel
theorem d_Matchmaker_init_15 : decode m_Matchmaker_init.2.1 15 = .ok (.newarray .int, 2) := by decide +kernel
theorem d_Matchmaker_init_17 : decode m_Matchmaker_init.2.1 17 = .ok (.putfield 15, 3) := by decide +kernel
theorem d_Matchmaker_init_20 : decode m_Matchmaker_init.2.1 20 = .ok (.aload_n 0, 1) := by decide +kernel
theorem d_Matchmaker_init_21 : decode m_Matchmaker_init.2.1 21 = .ok (.bipush 6, 2) := by decide +kernel
theorem d_Matchmaker_init_23 : decode m_Matchmaker_init.2.1 23 = .ok (.newarray .int, 2) := by decide +kernel
theorem d_Matchmaker_init_25 : decode m_Matchmaker_init.2.1 25 = .ok (.putfield 18, 3) := by decide +kernel
theorem d_Matchmaker_init_28 : decode m_Matchmaker_init.2.1 28 = .ok (.return_, 1) := by decide +kernel
theorem d_Matchmaker_leastSum_0 : decode m_Matchmaker_leastSum.2.1 0 = .ok (.iload_n 1, 1) := by decide +kernel
theorem d_Matchmaker_leastSum_1 : decode m_Matchmaker_leastSum.2.1 1 = .ok (.invokestatic 45, 3) := by decide +kernel
theorem d_Matchmaker_leastSum_4 : decode m_Matchmaker_leastSum.2.1 4 = .ok (.istore_n 2, 1) := by decide +kernel
theorem d_Matchmaker_leastSum_5 : decode m_Matchmaker_leastSum.2.1 5 = .ok (.iload_n 2, 1) := by decide +kernel
theorem d_Matchmaker_leastSum_6 : decode m_Matchmaker_leastSum.2.1 6 = .ok (.invokestatic 48, 3) := by decide +kernel
theorem d_Matchmaker_leastSum_9 : decode m_Matchmaker_leastSum.2.1 9 = .ok (.ifCond .eq 12, 3) := by decide +kernel
theorem d_Matchmaker_leastSum_12 : decode m_Matchmaker_leastSum.2.1 12 = .ok (.aload_n 0, 1) := by decide +kernel
theorem d_Matchmaker_leastSum_13 : decode m_Matchmaker_leastSum.2.1 13 = .ok (.iload_n 1, 1) := by decide +kernel
theorem d_Matchmaker_leastSum_14 : decode m_Matchmaker_leastSum.2.1 14 = .ok (.iload_n 2, 1) := by decide +kernel
theorem d_Matchmaker_leastSum_15 : decode m_Matchmaker_leastSum.2.1 15 = .ok (.invokevirtual 52, 3) := by decide +kernel
theorem d_Matchmaker_leastSum_18 : decode m_Matchmaker_leastSum.2.1 18 = .ok (.goto 5, 3) := by decide +kernel
theorem d_Matchmaker_leastSum_21 : decode m_Matchmaker_leastSum.2.1 21 = .ok (.bipush (-6), 2) := by decide +kernel
theorem d_Matchmaker_leastSum_23 : decode m_Matchmaker_leastSum.2.1 23 = .ok (.istore_n 3, 1) := by decide +kernel
theorem d_Matchmaker_leastSum_24 : decode m_Matchmaker_leastSum.2.1 24 = .ok (.iload_n 3, 1) := by decide +kernel
theorem d_Matchmaker_leastSum_25 : decode m_Matchmaker_leastSum.2.1 25 = .ok (.invokestatic 48, 3) := by decide +kernel
theorem d_Matchmaker_leastSum_28 : decode m_Matchmaker_leastSum.2.1 28 = .ok (.ifCond .eq 13, 3) := by decide +kernel
theorem d_Matchmaker_leastSum_31 : decode m_Matchmaker_leastSum.2.1 31 = .ok (.aload_n 0, 1) := by decide +kernel
theorem d_Matchmaker_leastSum_32 : decode m_Matchmaker_leastSum.2.1 32 = .ok (.iload_n 1, 1) := by decide +kernel
theorem d_Matchmaker_leastSum_33 : decode m_Matchmaker_leastSum.2.1 33 = .ok (.iload_n 2, 1) := by decide +kernel
theorem d_Matchmaker_leastSum_34 : decode m_Matchmaker_leastSum.2.1 34 = .ok (.iload_n 3, 1) := by decide +kernel
theorem d_Matchmaker_leastSum_35 : decode m_Matchmaker_leastSum.2.1 35 = .ok (.invokevirtual 56, 3) := by decide +kernel
theorem d_Matchmaker_leastSum_38 : decode m_Matchmaker_leastSum.2.1 38 = .ok (.goto 4, 3) := by decide +kernel
theorem d_Matchmaker_leastSum_41 : decode m_Matchmaker_leastSum.2.1 41 = .ok (.iconst 0, 1) := by decide +kernel
theorem d_Matchmaker_leastSum_42 : decode m_Matchmaker_leastSum.2.1 42 = .ok (.ireturn, 1) := by decide +kernel
theorem d_Matchmaker_sumUp_0 : decode m_Matchmaker_sumUp.2.1 0 = .ok (.iconst 1, 1) := by decide +kernel
theorem d_Matchmaker_sumUp_1 : decode m_Matchmaker_sumUp.2.1 1 = .ok (.istore_n 2, 1) := by decide +kernel
theorem d_Matchmaker_sumUp_2 : decode m_Matchmaker_sumUp.2.1 2 = .ok (.iload_n 2, 1) := by decide +kernel
theorem d_Matchmaker_sumUp_3 : decode m_Matchmaker_sumUp.2.1 3 = .ok (.iload_n 1, 1) := by decide +kernel
theorem d_Matchmaker_sumUp_4 : decode m_Matchmaker_sumUp.2.1 4 = .ok (.if_icmp .gt 37, 3) := by decide +kernel
theorem d_Matchmaker_sumUp_7 : decode m_Matchmaker_sumUp.2.1 7 = .ok (.iload_n 2, 1) := by decide +kernel
theorem d_Matchmaker_sumUp_8 : decode m_Matchmaker_sumUp.2.1 8 = .ok (.iload_n 1, 1) := by decide +kernel
theorem d_Matchmaker_sumUp_9 : decode m_Matchmaker_sumUp.2.1 9 = .ok (.iconst (-1), 1) := by decide +kernel
theorem d_Matchmaker_sumUp_10 : decode m_Matchmaker_sumUp.2.1 10 = .ok (.ixor, 1) := by decide +kernel
theorem d_Matchmaker_sumUp_11 : decode m_Matchmaker_sumUp.2.1 11 = .ok (.iand, 1) := by decide +kernel
theorem d_Matchmaker_sumUp_12 : decode m_Matchmaker_sumUp.2.1 12 = .ok (.ifCond .ne 23, 3) := by decide +kernel
theorem d_Matchmaker_sumUp_15 : decode m_Matchmaker_sumUp.2.1 15 = .ok (.iload_n 2, 1) := by decide +kernel
theorem d_Matchmaker_sumUp_16 : decode m_Matchmaker_sumUp.2.1 16 = .ok (.invokestatic 37, 3) := by decide +kernel
theorem d_Matchmaker_sumUp_19 : decode m_Matchmaker_sumUp.2.1 19 = .ok (.iconst 2, 1) := by decide +kernel
theorem d_Matchmaker_sumUp_20 : decode m_Matchmaker_sumUp.2.1 20 = .ok (.irem, 1) := by decide +kernel
theorem d_Matchmaker_sumUp_21 : decode m_Matchmaker_sumUp.2.1 21 = .ok (.ifCond .ne 14, 3) := by decide +kernel
theorem d_Matchmaker_sumUp_24 : decode m_Matchmaker_sumUp.2.1 24 = .ok (.aload_n 0, 1) := by decide +kernel
theorem d_Matchmaker_sumUp_25 : decode m_Matchmaker_sumUp.2.1 25 = .ok (.getfield 15, 3) := by decide +kernel
theorem d_Matchmaker_sumUp_28 : decode m_Matchmaker_sumUp.2.1 28 = .ok (.iload_n 2, 1) := by decide +kernel
theorem d_Matchmaker_sumUp_29 : decode m_Matchmaker_sumUp.2.1 29 = .ok (.aload_n 0, 1) := by decide +kernel
theorem d_Matchmaker_sumUp_30 : decode m_Matchmaker_sumUp.2.1 30 = .ok (.iload_n 2, 1) := by decide +kernel
theorem d_Matchmaker_sumUp_31 : decode m_Matchmaker_sumUp.2.1 31 = .ok (.invokevirtual 42, 3) := by decide +kernel
theorem d_Matchmaker_sumUp_34 : decode m_Matchmaker_sumUp.2.1 34 = .ok (.iastore, 1) := by decide +kernel
theorem d_Matchmaker_sumUp_35 : decode m_Matchmaker_sumUp.2.1 35 = .ok (.iinc 2 1, 3) := by decide +kernel
theorem d_Matchmaker_sumUp_38 : decode m_Matchmaker_sumUp.2.1 38 = .ok (.goto (-36), 3) := by decide +kernel
theorem d_Matchmaker_sumUp_41 : decode m_Matchmaker_sumUp.2.1 41 = .ok (.return_, 1) := by decide +kernel
theorem d_Matchmaker_sumWith_0 : decode m_Matchmaker_sumWith.2.1 0 = .ok (.aload_n 0, 1) := by decide +kernel
