theorem d_Town_open_34 : decode m_Town_open.2.1 34 = .ok (.return_, 1) := by decide +kernel
theorem d_Town_reach_0 : decode m_Town_reach.2.1 0 = .ok (.iconst 0, 1) := by decide +kernel
theorem d_Town_reach_1 : decode m_Town_reach.2.1 1 = .ok (.istore_n 2, 1) := by decide +kernel
theorem d_Town_reach_2 : decode m_Town_reach.2.1 2 = .ok (.iconst 1, 1) := by decide +kernel
theorem d_Town_reach_3 : decode m_Town_reach.2.1 3 = .ok (.iload_n 1, 1) := by decide +kernel
theorem d_Town_reach_4 : decode m_Town_reach.2.1 4 = .ok (.ishl, 1) := by decide +kernel
theorem d_Town_reach_5 : decode m_Town_reach.2.1 5 = .ok (.istore_n 3, 1) := by decide +kernel
theorem d_Town_reach_6 : decode m_Town_reach.2.1 6 = .ok (.iconst 0, 1) := by decide +kernel
theorem d_Town_reach_7 : decode m_Town_reach.2.1 7 = .ok (.istore 4, 2) := by decide +kernel
theorem d_Town_reach_9 : decode m_Town_reach.2.1 9 = .ok (.iload 4, 2) := by decide +kernel
theorem d_Town_reach_11 : decode m_Town_reach.2.1 11 = .ok (.aload_n 0, 1) := by decide +kernel
theorem d_Town_reach_12 : decode m_Town_reach.2.1 12 = .ok (.getfield 31, 3) := by decide +kernel
theorem d_Town_reach_15 : decode m_Town_reach.2.1 15 = .ok (.if_icmp .gt 39, 3) := by decide +kernel
theorem d_Town_reach_18 : decode m_Town_reach.2.1 18 = .ok (.iload_n 3, 1) := by decide +kernel
theorem d_Town_reach_19 : decode m_Town_reach.2.1 19 = .ok (.ifCond .eq 35, 3) := by decide +kernel
theorem d_Town_reach_22 : decode m_Town_reach.2.1 22 = .ok (.iload_n 2, 1) := by decide +kernel
theorem d_Town_reach_23 : decode m_Town_reach.2.1 23 = .ok (.iload_n 3, 1) := by decide +kernel
theorem d_Town_reach_24 : decode m_Town_reach.2.1 24 = .ok (.ior, 1) := by decide +kernel
theorem d_Town_reach_25 : decode m_Town_reach.2.1 25 = .ok (.istore_n 2, 1) := by decide +kernel
theorem d_Town_reach_26 : decode m_Town_reach.2.1 26 = .ok (.aload_n 0, 1) := by decide +kernel
theorem d_Town_reach_27 : decode m_Town_reach.2.1 27 = .ok (.getfield 12, 3) := by decide +kernel
theorem d_Town_reach_30 : decode m_Town_reach.2.1 30 = .ok (.iload_n 3, 1) := by decide +kernel
theorem d_Town_reach_31 : decode m_Town_reach.2.1 31 = .ok (.aload_n 0, 1) := by decide +kernel
theorem d_Town_reach_32 : decode m_Town_reach.2.1 32 = .ok (.getfield 51, 3) := by decide +kernel
theorem d_Town_reach_35 : decode m_Town_reach.2.1 35 = .ok (.iconst 1, 1) := by decide +kernel
theorem d_Town_reach_36 : decode m_Town_reach.2.1 36 = .ok (.if_icmp .ne 7, 3) := by decide +kernel
theorem d_Town_reach_39 : decode m_Town_reach.2.1 39 = .ok (.iconst 1, 1) := by decide +kernel
theorem d_Town_reach_40 : decode m_Town_reach.2.1 40 = .ok (.goto 4, 3) := by decide +kernel
theorem d_Town_reach_43 : decode m_Town_reach.2.1 43 = .ok (.iconst 0, 1) := by decide +kernel
theorem d_Town_reach_44 : decode m_Town_reach.2.1 44 = .ok (.invokevirtual 62, 3) := by decide +kernel
theorem d_Town_reach_47 : decode m_Town_reach.2.1 47 = .ok (.istore_n 3, 1) := by decide +kernel
theorem d_Town_reach_48 : decode m_Town_reach.2.1 48 = .ok (.iinc 4 1, 3) := by decide +kernel
theorem d_Town_reach_51 : decode m_Town_reach.2.1 51 = .ok (.goto (-42), 3) := by decide +kernel
theorem d_Town_reach_54 : decode m_Town_reach.2.1 54 = .ok (.iload_n 2, 1) := by decide +kernel
theorem d_Town_reach_55 : decode m_Town_reach.2.1 55 = .ok (.ireturn, 1) := by decide +kernel
theorem d_Town_taintOf_0 : decode m_Town_taintOf.2.1 0 = .ok (.iconst 0, 1) := by decide +kernel
theorem d_Town_taintOf_1 : decode m_Town_taintOf.2.1 1 = .ok (.istore_n 2, 1) := by decide +kernel
theorem d_Town_taintOf_2 : decode m_Town_taintOf.2.1 2 = .ok (.iconst 0, 1) := by decide +kernel
theorem d_Town_taintOf_3 : decode m_Town_taintOf.2.1 3 = .ok (.istore_n 3, 1) := by decide +kernel
theorem d_Town_taintOf_4 : decode m_Town_taintOf.2.1 4 = .ok (.iload_n 3, 1) := by decide +kernel
theorem d_Town_taintOf_5 : decode m_Town_taintOf.2.1 5 = .ok (.aload_n 0, 1) := by decide +kernel
theorem d_Town_taintOf_6 : decode m_Town_taintOf.2.1 6 = .ok (.getfield 12, 3) := by decide +kernel
theorem d_Town_taintOf_9 : decode m_Town_taintOf.2.1 9 = .ok (.getfield 78, 3) := by decide +kernel
theorem d_Town_taintOf_12 : decode m_Town_taintOf.2.1 12 = .ok (.if_icmp .ge 27, 3) := by decide +kernel
theorem d_Town_taintOf_15 : decode m_Town_taintOf.2.1 15 = .ok (.aload_n 0, 1) := by decide +kernel
theorem d_Town_taintOf_16 : decode m_Town_taintOf.2.1 16 = .ok (.iload_n 3, 1) := by decide +kernel
theorem d_Town_taintOf_17 : decode m_Town_taintOf.2.1 17 = .ok (.invokevirtual 72, 3) := by decide +kernel
theorem d_Town_taintOf_20 : decode m_Town_taintOf.2.1 20 = .ok (.iload_n 1, 1) := by decide +kernel
theorem d_Town_taintOf_21 : decode m_Town_taintOf.2.1 21 = .ok (.invokestatic 54, 3) := by decide +kernel
theorem d_Town_taintOf_24 : decode m_Town_taintOf.2.1 24 = .ok (.ifCond .eq 9, 3) := by decide +kernel
theorem d_Town_taintOf_27 : decode m_Town_taintOf.2.1 27 = .ok (.iload_n 2, 1) := by decide +kernel
theorem d_Town_taintOf_28 : decode m_Town_taintOf.2.1 28 = .ok (.iconst 1, 1) := by decide +kernel
theorem d_Town_taintOf_29 : decode m_Town_taintOf.2.1 29 = .ok (.iload_n 3, 1) := by decide +kernel
theorem d_Town_taintOf_30 : decode m_Town_taintOf.2.1 30 = .ok (.ishl, 1) := by decide +kernel
theorem d_Town_taintOf_31 : decode m_Town_taintOf.2.1 31 = .ok (.ior, 1) := by decide +kernel
theorem d_Town_taintOf_32 : decode m_Town_taintOf.2.1 32 = .ok (.istore_n 2, 1) := by decide +kernel
theorem d_Town_taintOf_33 : decode m_Town_taintOf.2.1 33 = .ok (.iinc 3 1, 3) := by decide +kernel
theorem d_Town_taintOf_36 : decode m_Town_taintOf.2.1 36 = .ok (.goto (-32), 3) := by decide +kernel
theorem d_Town_taintOf_39 : decode m_Town_taintOf.2.1 39 = .ok (.iload_n 2, 1) := by decide +kernel
theorem d_Town_taintOf_40 : decode m_Town_taintOf.2.1 40 = .ok (.ireturn, 1) := by decide +kernel
theorem d_Town_touchers_0 : decode m_Town_touchers.2.1 0 = .ok (.aload_n 0, 1) := by decide +kernel
theorem d_Town_touchers_1 : decode m_Town_touchers.2.1 1 = .ok (.getfield 12, 3) := by decide +kernel
theorem d_Town_touchers_4 : decode m_Town_touchers.2.1 4 = .ok (.aload_n 0, 1) := by decide +kernel
theorem d_Town_touchers_5 : decode m_Town_touchers.2.1 5 = .ok (.iload_n 1, 1) := by decide +kernel
theorem d_Town_touchers_6 : decode m_Town_touchers.2.1 6 = .ok (.invokevirtual 66, 3) := by decide +kernel
theorem d_Town_touchers_9 : decode m_Town_touchers.2.1 9 = .ok (.invokevirtual 69, 3) := by decide +kernel
theorem d_Town_touchers_12 : decode m_Town_touchers.2.1 12 = .ok (.ireturn, 1) := by decide +kernel
theorem d_Town_withPartners_0 : decode m_Town_withPartners.2.1 0 = .ok (.iconst 0, 1) := by decide +kernel
theorem d_Town_withPartners_1 : decode m_Town_withPartners.2.1 1 = .ok (.istore_n 2, 1) := by decide +kernel
theorem d_Town_withPartners_2 : decode m_Town_withPartners.2.1 2 = .ok (.iconst 0, 1) := by decide +kernel
theorem d_Town_withPartners_3 : decode m_Town_withPartners.2.1 3 = .ok (.istore_n 3, 1) := by decide +kernel
theorem d_Town_withPartners_4 : decode m_Town_withPartners.2.1 4 = .ok (.iload_n 3, 1) := by decide +kernel
theorem d_Town_withPartners_5 : decode m_Town_withPartners.2.1 5 = .ok (.bipush 6, 2) := by decide +kernel
theorem d_Town_withPartners_7 : decode m_Town_withPartners.2.1 7 = .ok (.if_icmp .ge 25, 3) := by decide +kernel
theorem d_Town_withPartners_10 : decode m_Town_withPartners.2.1 10 = .ok (.iload_n 1, 1) := by decide +kernel
theorem d_Town_withPartners_11 : decode m_Town_withPartners.2.1 11 = .ok (.iload_n 3, 1) := by decide +kernel
theorem d_Town_withPartners_12 : decode m_Town_withPartners.2.1 12 = .ok (.invokestatic 54, 3) := by decide +kernel
theorem d_Town_withPartners_15 : decode m_Town_withPartners.2.1 15 = .ok (.ifCond .eq 11, 3) := by decide +kernel
theorem d_Town_withPartners_18 : decode m_Town_withPartners.2.1 18 = .ok (.iload_n 2, 1) := by decide +kernel
theorem d_Town_withPartners_19 : decode m_Town_withPartners.2.1 19 = .ok (.aload_n 0, 1) := by decide +kernel
theorem d_Town_withPartners_20 : decode m_Town_withPartners.2.1 20 = .ok (.iload_n 3, 1) := by decide +kernel
theorem d_Town_withPartners_21 : decode m_Town_withPartners.2.1 21 = .ok (.invokevirtual 58, 3) := by decide +kernel
theorem d_Town_withPartners_24 : decode m_Town_withPartners.2.1 24 = .ok (.ior, 1) := by decide +kernel
theorem d_Town_withPartners_25 : decode m_Town_withPartners.2.1 25 = .ok (.istore_n 2, 1) := by decide +kernel
theorem d_Town_withPartners_26 : decode m_Town_withPartners.2.1 26 = .ok (.iinc 3 1, 3) := by decide +kernel
theorem d_Town_withPartners_29 : decode m_Town_withPartners.2.1 29 = .ok (.goto (-25), 3) := by decide +kernel
theorem d_Town_withPartners_32 : decode m_Town_withPartners.2.1 32 = .ok (.iload_n 2, 1) := by decide +kernel
theorem d_Town_withPartners_33 : decode m_Town_withPartners.2.1 33 = .ok (.ireturn, 1) := by decide +kernel
theorem d_X_allBarred_0 : decode m_X_allBarred.2.1 0 = .ok (.iconst 0, 1) := by decide +kernel
theorem d_X_allBarred_1 : decode m_X_allBarred.2.1 1 = .ok (.istore_n 1, 1) := by decide +kernel
theorem d_X_allBarred_2 : decode m_X_allBarred.2.1 2 = .ok (.iconst 0, 1) := by decide +kernel
theorem d_X_allBarred_3 : decode m_X_allBarred.2.1 3 = .ok (.istore_n 2, 1) := by decide +kernel
theorem d_X_allBarred_4 : decode m_X_allBarred.2.1 4 = .ok (.iload_n 2, 1) := by decide +kernel
theorem d_X_allBarred_5 : decode m_X_allBarred.2.1 5 = .ok (.aload_n 0, 1) := by decide +kernel
theorem d_X_allBarred_6 : decode m_X_allBarred.2.1 6 = .ok (.getfield 70, 3) := by decide +kernel
theorem d_X_allBarred_9 : decode m_X_allBarred.2.1 9 = .ok (.if_icmp .ge 20, 3) := by decide +kernel
theorem d_X_allBarred_12 : decode m_X_allBarred.2.1 12 = .ok (.iload_n 1, 1) := by decide +kernel
theorem d_X_allBarred_13 : decode m_X_allBarred.2.1 13 = .ok (.aload_n 0, 1) := by decide +kernel
theorem d_X_allBarred_14 : decode m_X_allBarred.2.1 14 = .ok (.iload_n 2, 1) := by decide +kernel
theorem d_X_allBarred_15 : decode m_X_allBarred.2.1 15 = .ok (.invokevirtual 119, 3) := by decide +kernel
theorem d_X_allBarred_18 : decode m_X_allBarred.2.1 18 = .ok (.invokestatic 109, 3) := by decide +kernel
theorem d_X_allBarred_21 : decode m_X_allBarred.2.1 21 = .ok (.iadd, 1) := by decide +kernel
theorem d_X_allBarred_22 : decode m_X_allBarred.2.1 22 = .ok (.istore_n 1, 1) := by decide +kernel
theorem d_X_allBarred_23 : decode m_X_allBarred.2.1 23 = .ok (.iinc 2 1, 3) := by decide +kernel
theorem d_X_allBarred_26 : decode m_X_allBarred.2.1 26 = .ok (.goto (-22), 3) := by decide +kernel
theorem d_X_allBarred_29 : decode m_X_allBarred.2.1 29 = .ok (.iload_n 1, 1) := by decide +kernel
theorem d_X_allBarred_30 : decode m_X_allBarred.2.1 30 = .ok (.ireturn, 1) := by decide +kernel
theorem d_X_asTold_0 : decode m_X_asTold.2.1 0 = .ok (.iconst 0, 1) := by decide +kernel
theorem d_X_asTold_1 : decode m_X_asTold.2.1 1 = .ok (.istore_n 1, 1) := by decide +kernel
theorem d_X_asTold_2 : decode m_X_asTold.2.1 2 = .ok (.iload_n 1, 1) := by decide +kernel
theorem d_X_asTold_3 : decode m_X_asTold.2.1 3 = .ok (.aload_n 0, 1) := by decide +kernel
theorem d_X_asTold_4 : decode m_X_asTold.2.1 4 = .ok (.getfield 70, 3) := by decide +kernel
theorem d_X_asTold_7 : decode m_X_asTold.2.1 7 = .ok (.if_icmp .ge 23, 3) := by decide +kernel
theorem d_X_asTold_10 : decode m_X_asTold.2.1 10 = .ok (.aload_n 0, 1) := by decide +kernel
theorem d_X_asTold_11 : decode m_X_asTold.2.1 11 = .ok (.getfield 32, 3) := by decide +kernel
theorem d_X_asTold_14 : decode m_X_asTold.2.1 14 = .ok (.iload_n 1, 1) := by decide +kernel
theorem d_X_asTold_15 : decode m_X_asTold.2.1 15 = .ok (.aload_n 0, 1) := by decide +kernel
theorem d_X_asTold_16 : decode m_X_asTold.2.1 16 = .ok (.getfield 23, 3) := by decide +kernel
theorem d_X_asTold_19 : decode m_X_asTold.2.1 19 = .ok (.iconst 5, 1) := by decide +kernel
theorem d_X_asTold_20 : decode m_X_asTold.2.1 20 = .ok (.iload_n 1, 1) := by decide +kernel
theorem d_X_asTold_21 : decode m_X_asTold.2.1 21 = .ok (.imul, 1) := by decide +kernel
theorem d_X_asTold_22 : decode m_X_asTold.2.1 22 = .ok (.iaload, 1) := by decide +kernel
theorem d_X_asTold_23 : decode m_X_asTold.2.1 23 = .ok (.iastore, 1) := by decide +kernel
theorem d_X_asTold_24 : decode m_X_asTold.2.1 24 = .ok (.iinc 1 1, 3) := by decide +kernel
theorem d_X_asTold_27 : decode m_X_asTold.2.1 27 = .ok (.goto (-25), 3) := by decide +kernel
theorem d_X_asTold_30 : decode m_X_asTold.2.1 30 = .ok (.return_, 1) := by decide +kernel
theorem d_X_barredFrom_0 : decode m_X_barredFrom.2.1 0 = .ok (.aload_n 0, 1) := by decide +kernel
theorem d_X_barredFrom_1 : decode m_X_barredFrom.2.1 1 = .ok (.aload_n 0, 1) := by decide +kernel
theorem d_X_barredFrom_2 : decode m_X_barredFrom.2.1 2 = .ok (.iload_n 1, 1) := by decide +kernel
theorem d_X_barredFrom_3 : decode m_X_barredFrom.2.1 3 = .ok (.invokevirtual 102, 3) := by decide +kernel
theorem d_X_barredFrom_6 : decode m_X_barredFrom.2.1 6 = .ok (.invokevirtual 106, 3) := by decide +kernel
theorem d_X_barredFrom_9 : decode m_X_barredFrom.2.1 9 = .ok (.ireturn, 1) := by decide +kernel
theorem d_X_bits_0 : decode m_X_bits.2.1 0 = .ok (.iconst 0, 1) := by decide +kernel
theorem d_X_bits_1 : decode m_X_bits.2.1 1 = .ok (.istore_n 1, 1) := by decide +kernel
theorem d_X_bits_2 : decode m_X_bits.2.1 2 = .ok (.iconst 0, 1) := by decide +kernel
theorem d_X_bits_3 : decode m_X_bits.2.1 3 = .ok (.istore_n 2, 1) := by decide +kernel
theorem d_X_bits_4 : decode m_X_bits.2.1 4 = .ok (.iload_n 2, 1) := by decide +kernel
theorem d_X_bits_5 : decode m_X_bits.2.1 5 = .ok (.bipush 6, 2) := by decide +kernel
theorem d_X_bits_7 : decode m_X_bits.2.1 7 = .ok (.if_icmp .ge 17, 3) := by decide +kernel
theorem d_X_bits_10 : decode m_X_bits.2.1 10 = .ok (.iload_n 1, 1) := by decide +kernel
theorem d_X_bits_11 : decode m_X_bits.2.1 11 = .ok (.iload_n 0, 1) := by decide +kernel
theorem d_X_bits_12 : decode m_X_bits.2.1 12 = .ok (.iload_n 2, 1) := by decide +kernel
theorem d_X_bits_13 : decode m_X_bits.2.1 13 = .ok (.ishr, 1) := by decide +kernel
theorem d_X_bits_14 : decode m_X_bits.2.1 14 = .ok (.iconst 1, 1) := by decide +kernel
theorem d_X_bits_15 : decode m_X_bits.2.1 15 = .ok (.iand, 1) := by decide +kernel
theorem d_X_bits_16 : decode m_X_bits.2.1 16 = .ok (.iadd, 1) := by decide +kernel
theorem d_X_bits_17 : decode m_X_bits.2.1 17 = .ok (.istore_n 1, 1) := by decide +kernel
theorem d_X_bits_18 : decode m_X_bits.2.1 18 = .ok (.iinc 2 1, 3) := by decide +kernel
theorem d_X_bits_21 : decode m_X_bits.2.1 21 = .ok (.goto (-17), 3) := by decide +kernel
theorem d_X_bits_24 : decode m_X_bits.2.1 24 = .ok (.iload_n 1, 1) := by decide +kernel
theorem d_X_bits_25 : decode m_X_bits.2.1 25 = .ok (.ireturn, 1) := by decide +kernel
theorem d_X_book_0 : decode m_X_book.2.1 0 = .ok (.aload_n 0, 1) := by decide +kernel
theorem d_X_book_1 : decode m_X_book.2.1 1 = .ok (.invokevirtual 76, 3) := by decide +kernel
theorem d_X_book_4 : decode m_X_book.2.1 4 = .ok (.ifCond .lt 6, 3) := by decide +kernel
theorem d_X_book_7 : decode m_X_book.2.1 7 = .ok (.bipush (-5), 2) := by decide +kernel
theorem d_X_book_9 : decode m_X_book.2.1 9 = .ok (.ireturn, 1) := by decide +kernel
theorem d_X_book_10 : decode m_X_book.2.1 10 = .ok (.aload_n 0, 1) := by decide +kernel
theorem d_X_book_11 : decode m_X_book.2.1 11 = .ok (.iconst 0, 1) := by decide +kernel
theorem d_X_book_12 : decode m_X_book.2.1 12 = .ok (.putfield 70, 3) := by decide +kernel
theorem d_X_book_15 : decode m_X_book.2.1 15 = .ok (.iconst 0, 1) := by decide +kernel
theorem d_X_book_16 : decode m_X_book.2.1 16 = .ok (.istore_n 1, 1) := by decide +kernel
theorem d_X_book_17 : decode m_X_book.2.1 17 = .ok (.iload_n 1, 1) := by decide +kernel
theorem d_X_book_18 : decode m_X_book.2.1 18 = .ok (.bipush 50, 2) := by decide +kernel
theorem d_X_book_20 : decode m_X_book.2.1 20 = .ok (.if_icmp .ge 34, 3) := by decide +kernel
theorem d_X_book_23 : decode m_X_book.2.1 23 = .ok (.aload_n 0, 1) := by decide +kernel
theorem d_X_book_24 : decode m_X_book.2.1 24 = .ok (.getfield 23, 3) := by decide +kernel
theorem d_X_book_27 : decode m_X_book.2.1 27 = .ok (.iload_n 1, 1) := by decide +kernel
theorem d_X_book_28 : decode m_X_book.2.1 28 = .ok (.iload_n 1, 1) := by decide +kernel
theorem d_X_book_29 : decode m_X_book.2.1 29 = .ok (.iconst 5, 1) := by decide +kernel
theorem d_X_book_30 : decode m_X_book.2.1 30 = .ok (.irem, 1) := by decide +kernel
theorem d_X_book_31 : decode m_X_book.2.1 31 = .ok (.ifCond .eq 10, 3) := by decide +kernel
theorem d_X_book_34 : decode m_X_book.2.1 34 = .ok (.iload_n 1, 1) := by decide +kernel
theorem d_X_book_35 : decode m_X_book.2.1 35 = .ok (.iconst 5, 1) := by decide +kernel
theorem d_X_book_36 : decode m_X_book.2.1 36 = .ok (.irem, 1) := by decide +kernel
theorem d_X_book_37 : decode m_X_book.2.1 37 = .ok (.iconst 4, 1) := by decide +kernel
theorem d_X_book_38 : decode m_X_book.2.1 38 = .ok (.if_icmp .ne 7, 3) := by decide +kernel
theorem d_X_book_41 : decode m_X_book.2.1 41 = .ok (.iconst 0, 1) := by decide +kernel
theorem d_X_book_42 : decode m_X_book.2.1 42 = .ok (.goto 5, 3) := by decide +kernel
theorem d_X_book_45 : decode m_X_book.2.1 45 = .ok (.bipush (-6), 2) := by decide +kernel
theorem d_X_book_47 : decode m_X_book.2.1 47 = .ok (.iastore, 1) := by decide +kernel
theorem d_X_book_48 : decode m_X_book.2.1 48 = .ok (.iinc 1 1, 3) := by decide +kernel
theorem d_X_book_51 : decode m_X_book.2.1 51 = .ok (.goto (-34), 3) := by decide +kernel
theorem d_X_book_54 : decode m_X_book.2.1 54 = .ok (.iconst 0, 1) := by decide +kernel
theorem d_X_book_55 : decode m_X_book.2.1 55 = .ok (.istore_n 1, 1) := by decide +kernel
theorem d_X_book_56 : decode m_X_book.2.1 56 = .ok (.iload_n 1, 1) := by decide +kernel
theorem d_X_book_57 : decode m_X_book.2.1 57 = .ok (.bipush 10, 2) := by decide +kernel
theorem d_X_book_59 : decode m_X_book.2.1 59 = .ok (.if_icmp .ge 16, 3) := by decide +kernel
theorem d_X_book_62 : decode m_X_book.2.1 62 = .ok (.aload_n 0, 1) := by decide +kernel
theorem d_X_book_63 : decode m_X_book.2.1 63 = .ok (.getfield 26, 3) := by decide +kernel
theorem d_X_book_66 : decode m_X_book.2.1 66 = .ok (.iload_n 1, 1) := by decide +kernel
theorem d_X_book_67 : decode m_X_book.2.1 67 = .ok (.iconst 0, 1) := by decide +kernel
theorem d_X_book_68 : decode m_X_book.2.1 68 = .ok (.iastore, 1) := by decide +kernel
theorem d_X_book_69 : decode m_X_book.2.1 69 = .ok (.iinc 1 1, 3) := by decide +kernel
theorem d_X_book_72 : decode m_X_book.2.1 72 = .ok (.goto (-16), 3) := by decide +kernel
theorem d_X_book_75 : decode m_X_book.2.1 75 = .ok (.aload_n 0, 1) := by decide +kernel
theorem d_X_book_76 : decode m_X_book.2.1 76 = .ok (.iconst 0, 1) := by decide +kernel
theorem d_X_book_77 : decode m_X_book.2.1 77 = .ok (.putfield 80, 3) := by decide +kernel
theorem d_X_book_80 : decode m_X_book.2.1 80 = .ok (.iconst 0, 1) := by decide +kernel
theorem d_X_book_81 : decode m_X_book.2.1 81 = .ok (.istore_n 1, 1) := by decide +kernel
theorem d_X_book_82 : decode m_X_book.2.1 82 = .ok (.iconst 0, 1) := by decide +kernel
theorem d_X_book_83 : decode m_X_book.2.1 83 = .ok (.istore_n 2, 1) := by decide +kernel
theorem d_X_book_84 : decode m_X_book.2.1 84 = .ok (.iload_n 2, 1) := by decide +kernel
theorem d_X_book_85 : decode m_X_book.2.1 85 = .ok (.aload_n 0, 1) := by decide +kernel
theorem d_X_book_86 : decode m_X_book.2.1 86 = .ok (.getfield 73, 3) := by decide +kernel
theorem d_X_book_89 : decode m_X_book.2.1 89 = .ok (.if_icmp .ge 151, 3) := by decide +kernel
theorem d_X_book_92 : decode m_X_book.2.1 92 = .ok (.aload_n 0, 1) := by decide +kernel
theorem d_X_book_93 : decode m_X_book.2.1 93 = .ok (.getfield 20, 3) := by decide +kernel
theorem d_X_book_96 : decode m_X_book.2.1 96 = .ok (.iload_n 2, 1) := by decide +kernel
theorem d_X_book_97 : decode m_X_book.2.1 97 = .ok (.iaload, 1) := by decide +kernel
theorem d_X_book_98 : decode m_X_book.2.1 98 = .ok (.istore_n 3, 1) := by decide +kernel
theorem d_X_book_99 : decode m_X_book.2.1 99 = .ok (.iconst 5, 1) := by decide +kernel
theorem d_X_book_100 : decode m_X_book.2.1 100 = .ok (.aload_n 0, 1) := by decide +kernel
theorem d_X_book_101 : decode m_X_book.2.1 101 = .ok (.getfield 70, 3) := by decide +kernel
theorem d_X_book_104 : decode m_X_book.2.1 104 = .ok (.imul, 1) := by decide +kernel
theorem d_X_book_105 : decode m_X_book.2.1 105 = .ok (.istore 4, 2) := by decide +kernel
theorem d_X_book_107 : decode m_X_book.2.1 107 = .ok (.iload_n 3, 1) := by decide +kernel
theorem d_X_book_108 : decode m_X_book.2.1 108 = .ok (.bipush 59, 2) := by decide +kernel
theorem d_X_book_110 : decode m_X_book.2.1 110 = .ok (.if_icmp .ne 16, 3) := by decide +kernel
theorem d_X_book_113 : decode m_X_book.2.1 113 = .ok (.aload_n 0, 1) := by decide +kernel
theorem d_X_book_114 : decode m_X_book.2.1 114 = .ok (.dup, 1) := by decide +kernel
theorem d_X_book_115 : decode m_X_book.2.1 115 = .ok (.getfield 70, 3) := by decide +kernel
theorem d_X_book_118 : decode m_X_book.2.1 118 = .ok (.iconst 1, 1) := by decide +kernel
theorem d_X_book_119 : decode m_X_book.2.1 119 = .ok (.iadd, 1) := by decide +kernel
theorem d_X_book_120 : decode m_X_book.2.1 120 = .ok (.putfield 70, 3) := by decide +kernel
theorem d_X_book_123 : decode m_X_book.2.1 123 = .ok (.goto 99, 3) := by decide +kernel
theorem d_X_book_126 : decode m_X_book.2.1 126 = .ok (.iload_n 3, 1) := by decide +kernel
theorem d_X_book_127 : decode m_X_book.2.1 127 = .ok (.bipush 63, 2) := by decide +kernel
theorem d_X_book_129 : decode m_X_book.2.1 129 = .ok (.if_icmp .ne 16, 3) := by decide +kernel
theorem d_X_book_132 : decode m_X_book.2.1 132 = .ok (.aload_n 0, 1) := by decide +kernel
theorem d_X_book_133 : decode m_X_book.2.1 133 = .ok (.getfield 23, 3) := by decide +kernel
theorem d_X_book_136 : decode m_X_book.2.1 136 = .ok (.iload 4, 2) := by decide +kernel
theorem d_X_book_138 : decode m_X_book.2.1 138 = .ok (.iconst 4, 1) := by decide +kernel
theorem d_X_book_139 : decode m_X_book.2.1 139 = .ok (.iadd, 1) := by decide +kernel
theorem d_X_book_140 : decode m_X_book.2.1 140 = .ok (.iconst 1, 1) := by decide +kernel
theorem d_X_book_141 : decode m_X_book.2.1 141 = .ok (.iastore, 1) := by decide +kernel
theorem d_X_book_142 : decode m_X_book.2.1 142 = .ok (.goto 80, 3) := by decide +kernel
theorem d_X_book_145 : decode m_X_book.2.1 145 = .ok (.iload_n 3, 1) := by decide +kernel
theorem d_X_book_146 : decode m_X_book.2.1 146 = .ok (.bipush 65, 2) := by decide +kernel
theorem d_X_book_148 : decode m_X_book.2.1 148 = .ok (.bipush 70, 2) := by decide +kernel
theorem d_X_book_150 : decode m_X_book.2.1 150 = .ok (.invokestatic 66, 3) := by decide +kernel
theorem d_X_book_153 : decode m_X_book.2.1 153 = .ok (.ifCond .eq 22, 3) := by decide +kernel
theorem d_X_book_156 : decode m_X_book.2.1 156 = .ok (.aload_n 0, 1) := by decide +kernel
theorem d_X_book_157 : decode m_X_book.2.1 157 = .ok (.getfield 23, 3) := by decide +kernel
theorem d_X_book_160 : decode m_X_book.2.1 160 = .ok (.iload 4, 2) := by decide +kernel
theorem d_X_book_162 : decode m_X_book.2.1 162 = .ok (.dup2, 1) := by decide +kernel
theorem d_X_book_163 : decode m_X_book.2.1 163 = .ok (.iaload, 1) := by decide +kernel
theorem d_X_book_164 : decode m_X_book.2.1 164 = .ok (.iconst 1, 1) := by decide +kernel
theorem d_X_book_165 : decode m_X_book.2.1 165 = .ok (.iload_n 3, 1) := by decide +kernel
theorem d_X_book_166 : decode m_X_book.2.1 166 = .ok (.bipush 65, 2) := by decide +kernel
theorem d_X_book_168 : decode m_X_book.2.1 168 = .ok (.isub, 1) := by decide +kernel
theorem d_X_book_169 : decode m_X_book.2.1 169 = .ok (.ishl, 1) := by decide +kernel
theorem d_X_book_170 : decode m_X_book.2.1 170 = .ok (.ior, 1) := by decide +kernel
theorem d_X_book_171 : decode m_X_book.2.1 171 = .ok (.iastore, 1) := by decide +kernel
theorem d_X_book_172 : decode m_X_book.2.1 172 = .ok (.goto 50, 3) := by decide +kernel
theorem d_X_book_175 : decode m_X_book.2.1 175 = .ok (.iload_n 3, 1) := by decide +kernel
theorem d_X_book_176 : decode m_X_book.2.1 176 = .ok (.bipush 43, 2) := by decide +kernel
theorem d_X_book_178 : decode m_X_book.2.1 178 = .ok (.if_icmp .eq 44, 3) := by decide +kernel
theorem d_X_book_181 : decode m_X_book.2.1 181 = .ok (.iload_n 1, 1) := by decide +kernel
theorem d_X_book_182 : decode m_X_book.2.1 182 = .ok (.ifCond .eq 7, 3) := by decide +kernel
theorem d_X_book_185 : decode m_X_book.2.1 185 = .ok (.iconst 3, 1) := by decide +kernel
theorem d_X_book_186 : decode m_X_book.2.1 186 = .ok (.goto 20, 3) := by decide +kernel
theorem d_X_book_189 : decode m_X_book.2.1 189 = .ok (.aload_n 0, 1) := by decide +kernel
theorem d_X_book_190 : decode m_X_book.2.1 190 = .ok (.getfield 23, 3) := by decide +kernel
theorem d_X_book_193 : decode m_X_book.2.1 193 = .ok (.iload 4, 2) := by decide +kernel
theorem d_X_book_195 : decode m_X_book.2.1 195 = .ok (.iconst 1, 1) := by decide +kernel
theorem d_X_book_196 : decode m_X_book.2.1 196 = .ok (.iadd, 1) := by decide +kernel
theorem d_X_book_197 : decode m_X_book.2.1 197 = .ok (.iaload, 1) := by decide +kernel
theorem d_X_book_198 : decode m_X_book.2.1 198 = .ok (.ifCond .ge 7, 3) := by decide +kernel
theorem d_X_book_201 : decode m_X_book.2.1 201 = .ok (.iconst 1, 1) := by decide +kernel
theorem d_X_book_202 : decode m_X_book.2.1 202 = .ok (.goto 4, 3) := by decide +kernel
theorem d_X_book_205 : decode m_X_book.2.1 205 = .ok (.iconst 2, 1) := by decide +kernel
theorem d_X_book_206 : decode m_X_book.2.1 206 = .ok (.istore 5, 2) := by decide +kernel
theorem d_X_book_208 : decode m_X_book.2.1 208 = .ok (.aload_n 0, 1) := by decide +kernel
theorem d_X_book_209 : decode m_X_book.2.1 209 = .ok (.getfield 23, 3) := by decide +kernel
theorem d_X_book_212 : decode m_X_book.2.1 212 = .ok (.iload 4, 2) := by decide +kernel
theorem d_X_book_214 : decode m_X_book.2.1 214 = .ok (.iload 5, 2) := by decide +kernel
theorem d_X_book_216 : decode m_X_book.2.1 216 = .ok (.iadd, 1) := by decide +kernel
theorem d_X_book_217 : decode m_X_book.2.1 217 = .ok (.iload_n 3, 1) := by decide +kernel
theorem d_X_book_218 : decode m_X_book.2.1 218 = .ok (.bipush 97, 2) := by decide +kernel
theorem d_X_book_220 : decode m_X_book.2.1 220 = .ok (.isub, 1) := by decide +kernel
theorem d_X_book_221 : decode m_X_book.2.1 221 = .ok (.iastore, 1) := by decide +kernel
theorem d_X_book_222 : decode m_X_book.2.1 222 = .ok (.iload_n 3, 1) := by decide +kernel
theorem d_X_book_223 : decode m_X_book.2.1 223 = .ok (.bipush 43, 2) := by decide +kernel
theorem d_X_book_225 : decode m_X_book.2.1 225 = .ok (.if_icmp .ne 7, 3) := by decide +kernel
theorem d_X_book_228 : decode m_X_book.2.1 228 = .ok (.iconst 1, 1) := by decide +kernel
theorem d_X_book_229 : decode m_X_book.2.1 229 = .ok (.goto 4, 3) := by decide +kernel
theorem d_X_book_232 : decode m_X_book.2.1 232 = .ok (.iconst 0, 1) := by decide +kernel
theorem d_X_book_233 : decode m_X_book.2.1 233 = .ok (.istore_n 1, 1) := by decide +kernel
theorem d_X_book_234 : decode m_X_book.2.1 234 = .ok (.iinc 2 1, 3) := by decide +kernel
theorem d_X_book_237 : decode m_X_book.2.1 237 = .ok (.goto (-153), 3) := by decide +kernel
theorem d_X_book_240 : decode m_X_book.2.1 240 = .ok (.aload_n 0, 1) := by decide +kernel
theorem d_X_book_241 : decode m_X_book.2.1 241 = .ok (.iconst 0, 1) := by decide +kernel
theorem d_X_book_242 : decode m_X_book.2.1 242 = .ok (.putfield 73, 3) := by decide +kernel
theorem d_X_book_245 : decode m_X_book.2.1 245 = .ok (.aload_n 0, 1) := by decide +kernel
theorem d_X_book_246 : decode m_X_book.2.1 246 = .ok (.getfield 70, 3) := by decide +kernel
theorem d_X_book_249 : decode m_X_book.2.1 249 = .ok (.ireturn, 1) := by decide +kernel
theorem d_X_byTenths_0 : decode m_X_byTenths.2.1 0 = .ok (.iconst 0, 1) := by decide +kernel
theorem d_X_byTenths_1 : decode m_X_byTenths.2.1 1 = .ok (.istore_n 2, 1) := by decide +kernel
theorem d_X_byTenths_2 : decode m_X_byTenths.2.1 2 = .ok (.iconst 0, 1) := by decide +kernel
theorem d_X_byTenths_3 : decode m_X_byTenths.2.1 3 = .ok (.istore_n 3, 1) := by decide +kernel
theorem d_X_byTenths_4 : decode m_X_byTenths.2.1 4 = .ok (.iload_n 3, 1) := by decide +kernel
theorem d_X_byTenths_5 : decode m_X_byTenths.2.1 5 = .ok (.bipush 6, 2) := by decide +kernel
theorem d_X_byTenths_7 : decode m_X_byTenths.2.1 7 = .ok (.if_icmp .ge 48, 3) := by decide +kernel
theorem d_X_byTenths_10 : decode m_X_byTenths.2.1 10 = .ok (.aload_n 0, 1) := by decide +kernel
theorem d_X_byTenths_11 : decode m_X_byTenths.2.1 11 = .ok (.iload_n 1, 1) := by decide +kernel
theorem d_X_byTenths_12 : decode m_X_byTenths.2.1 12 = .ok (.iload_n 3, 1) := by decide +kernel
theorem d_X_byTenths_13 : decode m_X_byTenths.2.1 13 = .ok (.invokevirtual 112, 3) := by decide +kernel
theorem d_X_byTenths_16 : decode m_X_byTenths.2.1 16 = .ok (.istore 4, 2) := by decide +kernel
theorem d_X_byTenths_18 : decode m_X_byTenths.2.1 18 = .ok (.iload_n 2, 1) := by decide +kernel
theorem d_X_byTenths_19 : decode m_X_byTenths.2.1 19 = .ok (.iload 4, 2) := by decide +kernel
theorem d_X_byTenths_21 : decode m_X_byTenths.2.1 21 = .ok (.ifCond .le 25, 3) := by decide +kernel
theorem d_X_byTenths_24 : decode m_X_byTenths.2.1 24 = .ok (.bipush 10, 2) := by decide +kernel
theorem d_X_byTenths_26 : decode m_X_byTenths.2.1 26 = .ok (.iload 4, 2) := by decide +kernel
theorem d_X_byTenths_28 : decode m_X_byTenths.2.1 28 = .ok (.imul, 1) := by decide +kernel
theorem d_X_byTenths_29 : decode m_X_byTenths.2.1 29 = .ok (.aload_n 0, 1) := by decide +kernel
theorem d_X_byTenths_30 : decode m_X_byTenths.2.1 30 = .ok (.getfield 13, 3) := by decide +kernel
theorem d_X_byTenths_33 : decode m_X_byTenths.2.1 33 = .ok (.sipush 3072, 3) := by decide +kernel
theorem d_X_byTenths_36 : decode m_X_byTenths.2.1 36 = .ok (.imul, 1) := by decide +kernel
theorem d_X_byTenths_37 : decode m_X_byTenths.2.1 37 = .ok (.if_icmp .lt 9, 3) := by decide +kernel
theorem d_X_byTenths_40 : decode m_X_byTenths.2.1 40 = .ok (.iconst 1, 1) := by decide +kernel
theorem d_X_byTenths_41 : decode m_X_byTenths.2.1 41 = .ok (.iload_n 3, 1) := by decide +kernel
theorem d_X_byTenths_42 : decode m_X_byTenths.2.1 42 = .ok (.ishl, 1) := by decide +kernel
theorem d_X_byTenths_43 : decode m_X_byTenths.2.1 43 = .ok (.goto 4, 3) := by decide +kernel
theorem d_X_byTenths_46 : decode m_X_byTenths.2.1 46 = .ok (.iconst 0, 1) := by decide +kernel
theorem d_X_byTenths_47 : decode m_X_byTenths.2.1 47 = .ok (.ior, 1) := by decide +kernel
theorem d_X_byTenths_48 : decode m_X_byTenths.2.1 48 = .ok (.istore_n 2, 1) := by decide +kernel
theorem d_X_byTenths_49 : decode m_X_byTenths.2.1 49 = .ok (.iinc 3 1, 3) := by decide +kernel
theorem d_X_byTenths_52 : decode m_X_byTenths.2.1 52 = .ok (.goto (-48), 3) := by decide +kernel
theorem d_X_byTenths_55 : decode m_X_byTenths.2.1 55 = .ok (.aload_n 0, 1) := by decide +kernel
theorem d_X_byTenths_56 : decode m_X_byTenths.2.1 56 = .ok (.iload_n 2, 1) := by decide +kernel
theorem d_X_byTenths_57 : decode m_X_byTenths.2.1 57 = .ok (.invokevirtual 106, 3) := by decide +kernel
theorem d_X_byTenths_60 : decode m_X_byTenths.2.1 60 = .ok (.ireturn, 1) := by decide +kernel
theorem d_X_codes_0 : decode m_X_codes.2.1 0 = .ok (.iconst 1, 1) := by decide +kernel
theorem d_X_codes_1 : decode m_X_codes.2.1 1 = .ok (.istore_n 1, 1) := by decide +kernel
theorem d_X_codes_2 : decode m_X_codes.2.1 2 = .ok (.iconst 0, 1) := by decide +kernel
theorem d_X_codes_3 : decode m_X_codes.2.1 3 = .ok (.istore_n 2, 1) := by decide +kernel
theorem d_X_codes_4 : decode m_X_codes.2.1 4 = .ok (.iload_n 2, 1) := by decide +kernel
theorem d_X_codes_5 : decode m_X_codes.2.1 5 = .ok (.aload_n 0, 1) := by decide +kernel
theorem d_X_codes_6 : decode m_X_codes.2.1 6 = .ok (.invokevirtual 135, 3) := by decide +kernel
theorem d_X_codes_9 : decode m_X_codes.2.1 9 = .ok (.if_icmp .ge 14, 3) := by decide +kernel
theorem d_X_codes_12 : decode m_X_codes.2.1 12 = .ok (.iload_n 1, 1) := by decide +kernel
theorem d_X_codes_13 : decode m_X_codes.2.1 13 = .ok (.bipush 6, 2) := by decide +kernel
theorem d_X_codes_15 : decode m_X_codes.2.1 15 = .ok (.imul, 1) := by decide +kernel
theorem d_X_codes_16 : decode m_X_codes.2.1 16 = .ok (.istore_n 1, 1) := by decide +kernel
theorem d_X_codes_17 : decode m_X_codes.2.1 17 = .ok (.iinc 2 1, 3) := by decide +kernel
theorem d_X_codes_20 : decode m_X_codes.2.1 20 = .ok (.goto (-16), 3) := by decide +kernel
theorem d_X_codes_23 : decode m_X_codes.2.1 23 = .ok (.iload_n 1, 1) := by decide +kernel
theorem d_X_codes_24 : decode m_X_codes.2.1 24 = .ok (.ireturn, 1) := by decide +kernel
theorem d_X_days_0 : decode m_X_days.2.1 0 = .ok (.iload_n 3, 1) := by decide +kernel
theorem d_X_days_1 : decode m_X_days.2.1 1 = .ok (.iconst (-1), 1) := by decide +kernel
theorem d_X_days_2 : decode m_X_days.2.1 2 = .ok (.if_icmp .eq 13, 3) := by decide +kernel
theorem d_X_days_5 : decode m_X_days.2.1 5 = .ok (.aload_n 0, 1) := by decide +kernel
theorem d_X_days_6 : decode m_X_days.2.1 6 = .ok (.iload_n 3, 1) := by decide +kernel
theorem d_X_days_7 : decode m_X_days.2.1 7 = .ok (.invokevirtual 83, 3) := by decide +kernel
theorem d_X_days_10 : decode m_X_days.2.1 10 = .ok (.ifCond .ne 5, 3) := by decide +kernel
theorem d_X_days_13 : decode m_X_days.2.1 13 = .ok (.iconst (-1), 1) := by decide +kernel
theorem d_X_days_14 : decode m_X_days.2.1 14 = .ok (.ireturn, 1) := by decide +kernel
theorem d_X_days_15 : decode m_X_days.2.1 15 = .ok (.iload_n 1, 1) := by decide +kernel
theorem d_X_days_16 : decode m_X_days.2.1 16 = .ok (.iconst 0, 1) := by decide +kernel
theorem d_X_days_17 : decode m_X_days.2.1 17 = .ok (.sipush 9999, 3) := by decide +kernel
theorem d_X_days_20 : decode m_X_days.2.1 20 = .ok (.invokestatic 66, 3) := by decide +kernel
theorem d_X_days_23 : decode m_X_days.2.1 23 = .ok (.ifCond .eq 13, 3) := by decide +kernel
theorem d_X_days_26 : decode m_X_days.2.1 26 = .ok (.iload_n 2, 1) := by decide +kernel
theorem d_X_days_27 : decode m_X_days.2.1 27 = .ok (.iconst 1, 1) := by decide +kernel
theorem d_X_days_28 : decode m_X_days.2.1 28 = .ok (.bipush 99, 2) := by decide +kernel
theorem d_X_days_30 : decode m_X_days.2.1 30 = .ok (.invokestatic 66, 3) := by decide +kernel
theorem d_X_days_33 : decode m_X_days.2.1 33 = .ok (.ifCond .ne 6, 3) := by decide +kernel
theorem d_X_days_36 : decode m_X_days.2.1 36 = .ok (.bipush (-2), 2) := by decide +kernel
theorem d_X_days_38 : decode m_X_days.2.1 38 = .ok (.ireturn, 1) := by decide +kernel
theorem d_X_days_39 : decode m_X_days.2.1 39 = .ok (.aload_n 0, 1) := by decide +kernel
theorem d_X_days_40 : decode m_X_days.2.1 40 = .ok (.invokevirtual 147, 3) := by decide +kernel
theorem d_X_days_43 : decode m_X_days.2.1 43 = .ok (.iconst 0, 1) := by decide +kernel
theorem d_X_days_44 : decode m_X_days.2.1 44 = .ok (.istore 4, 2) := by decide +kernel
theorem d_X_days_46 : decode m_X_days.2.1 46 = .ok (.iload 4, 2) := by decide +kernel
theorem d_X_days_48 : decode m_X_days.2.1 48 = .ok (.aload_n 0, 1) := by decide +kernel
theorem d_X_days_49 : decode m_X_days.2.1 49 = .ok (.getfield 70, 3) := by decide +kernel
theorem d_X_days_52 : decode m_X_days.2.1 52 = .ok (.if_icmp .ge 23, 3) := by decide +kernel
theorem d_X_days_55 : decode m_X_days.2.1 55 = .ok (.aload_n 0, 1) := by decide +kernel
theorem d_X_days_56 : decode m_X_days.2.1 56 = .ok (.getfield 50, 3) := by decide +kernel
theorem d_X_days_59 : decode m_X_days.2.1 59 = .ok (.iload 4, 2) := by decide +kernel
theorem d_X_days_61 : decode m_X_days.2.1 61 = .ok (.aload_n 0, 1) := by decide +kernel
theorem d_X_days_62 : decode m_X_days.2.1 62 = .ok (.getfield 26, 3) := by decide +kernel
theorem d_X_days_65 : decode m_X_days.2.1 65 = .ok (.iload 4, 2) := by decide +kernel
theorem d_X_days_67 : decode m_X_days.2.1 67 = .ok (.iaload, 1) := by decide +kernel
theorem d_X_days_68 : decode m_X_days.2.1 68 = .ok (.iastore, 1) := by decide +kernel
theorem d_X_days_69 : decode m_X_days.2.1 69 = .ok (.iinc 4 1, 3) := by decide +kernel
theorem d_X_days_72 : decode m_X_days.2.1 72 = .ok (.goto (-26), 3) := by decide +kernel
theorem d_X_days_75 : decode m_X_days.2.1 75 = .ok (.iload_n 1, 1) := by decide +kernel
theorem d_X_days_76 : decode m_X_days.2.1 76 = .ok (.istore 4, 2) := by decide +kernel
theorem d_X_days_78 : decode m_X_days.2.1 78 = .ok (.iconst 0, 1) := by decide +kernel
theorem d_X_days_79 : decode m_X_days.2.1 79 = .ok (.istore 5, 2) := by decide +kernel
theorem d_X_days_81 : decode m_X_days.2.1 81 = .ok (.iconst 0, 1) := by decide +kernel
theorem d_X_days_82 : decode m_X_days.2.1 82 = .ok (.istore 6, 2) := by decide +kernel
theorem d_X_days_84 : decode m_X_days.2.1 84 = .ok (.iload 6, 2) := by decide +kernel
theorem d_X_days_86 : decode m_X_days.2.1 86 = .ok (.iload_n 2, 1) := by decide +kernel
theorem d_X_days_87 : decode m_X_days.2.1 87 = .ok (.if_icmp .ge 105, 3) := by decide +kernel
theorem d_X_days_90 : decode m_X_days.2.1 90 = .ok (.bipush 75, 2) := by decide +kernel
theorem d_X_days_92 : decode m_X_days.2.1 92 = .ok (.iload 4, 2) := by decide +kernel
theorem d_X_days_94 : decode m_X_days.2.1 94 = .ok (.imul, 1) := by decide +kernel
theorem d_X_days_95 : decode m_X_days.2.1 95 = .ok (.bipush 74, 2) := by decide +kernel
theorem d_X_days_97 : decode m_X_days.2.1 97 = .ok (.iadd, 1) := by decide +kernel
theorem d_X_days_98 : decode m_X_days.2.1 98 = .ok (.ldc 160, 2) := by decide +kernel
theorem d_X_days_100 : decode m_X_days.2.1 100 = .ok (.irem, 1) := by decide +kernel
theorem d_X_days_101 : decode m_X_days.2.1 101 = .ok (.istore 4, 2) := by decide +kernel
theorem d_X_days_103 : decode m_X_days.2.1 103 = .ok (.iload 4, 2) := by decide +kernel
theorem d_X_days_105 : decode m_X_days.2.1 105 = .ok (.bipush 6, 2) := by decide +kernel
theorem d_X_days_107 : decode m_X_days.2.1 107 = .ok (.irem, 1) := by decide +kernel
theorem d_X_days_108 : decode m_X_days.2.1 108 = .ok (.istore 7, 2) := by decide +kernel
theorem d_X_days_110 : decode m_X_days.2.1 110 = .ok (.bipush (-6), 2) := by decide +kernel
theorem d_X_days_112 : decode m_X_days.2.1 112 = .ok (.istore 8, 2) := by decide +kernel
theorem d_X_days_114 : decode m_X_days.2.1 114 = .ok (.aload_n 0, 1) := by decide +kernel
theorem d_X_days_115 : decode m_X_days.2.1 115 = .ok (.getfield 70, 3) := by decide +kernel
theorem d_X_days_118 : decode m_X_days.2.1 118 = .ok (.iconst 1, 1) := by decide +kernel
theorem d_X_days_119 : decode m_X_days.2.1 119 = .ok (.isub, 1) := by decide +kernel
theorem d_X_days_120 : decode m_X_days.2.1 120 = .ok (.istore 9, 2) := by decide +kernel
theorem d_X_days_122 : decode m_X_days.2.1 122 = .ok (.iload 9, 2) := by decide +kernel
theorem d_X_days_124 : decode m_X_days.2.1 124 = .ok (.ifCond .lt 43, 3) := by decide +kernel
theorem d_X_days_127 : decode m_X_days.2.1 127 = .ok (.aload_n 0, 1) := by decide +kernel
theorem d_X_days_128 : decode m_X_days.2.1 128 = .ok (.getfield 41, 3) := by decide +kernel
theorem d_X_days_131 : decode m_X_days.2.1 131 = .ok (.iload 7, 2) := by decide +kernel
theorem d_X_days_133 : decode m_X_days.2.1 133 = .ok (.iaload, 1) := by decide +kernel
theorem d_X_days_134 : decode m_X_days.2.1 134 = .ok (.iload 9, 2) := by decide +kernel
theorem d_X_days_136 : decode m_X_days.2.1 136 = .ok (.invokestatic 98, 3) := by decide +kernel
theorem d_X_days_139 : decode m_X_days.2.1 139 = .ok (.ifCond .eq 18, 3) := by decide +kernel
theorem d_X_days_142 : decode m_X_days.2.1 142 = .ok (.aload_n 0, 1) := by decide +kernel
theorem d_X_days_143 : decode m_X_days.2.1 143 = .ok (.getfield 50, 3) := by decide +kernel
theorem d_X_days_146 : decode m_X_days.2.1 146 = .ok (.iload 9, 2) := by decide +kernel
theorem d_X_days_148 : decode m_X_days.2.1 148 = .ok (.iaload, 1) := by decide +kernel
theorem d_X_days_149 : decode m_X_days.2.1 149 = .ok (.ifCond .le 8, 3) := by decide +kernel
theorem d_X_days_152 : decode m_X_days.2.1 152 = .ok (.iload 9, 2) := by decide +kernel
theorem d_X_days_154 : decode m_X_days.2.1 154 = .ok (.goto 5, 3) := by decide +kernel
theorem d_X_days_157 : decode m_X_days.2.1 157 = .ok (.iload 8, 2) := by decide +kernel
theorem d_X_days_159 : decode m_X_days.2.1 159 = .ok (.istore 8, 2) := by decide +kernel
theorem d_X_days_161 : decode m_X_days.2.1 161 = .ok (.iinc 9 (-1), 3) := by decide +kernel
theorem d_X_days_164 : decode m_X_days.2.1 164 = .ok (.goto (-42), 3) := by decide +kernel
theorem d_X_days_167 : decode m_X_days.2.1 167 = .ok (.iload 8, 2) := by decide +kernel
theorem d_X_days_169 : decode m_X_days.2.1 169 = .ok (.ifCond .lt 17, 3) := by decide +kernel
theorem d_X_days_172 : decode m_X_days.2.1 172 = .ok (.aload_n 0, 1) := by decide +kernel
theorem d_X_days_173 : decode m_X_days.2.1 173 = .ok (.getfield 50, 3) := by decide +kernel
theorem d_X_days_176 : decode m_X_days.2.1 176 = .ok (.iload 8, 2) := by decide +kernel
theorem d_X_days_178 : decode m_X_days.2.1 178 = .ok (.dup2, 1) := by decide +kernel
theorem d_X_days_179 : decode m_X_days.2.1 179 = .ok (.iaload, 1) := by decide +kernel
theorem d_X_days_180 : decode m_X_days.2.1 180 = .ok (.iconst 1, 1) := by decide +kernel
theorem d_X_days_181 : decode m_X_days.2.1 181 = .ok (.isub, 1) := by decide +kernel
theorem d_X_days_182 : decode m_X_days.2.1 182 = .ok (.iastore, 1) := by decide +kernel
theorem d_X_days_183 : decode m_X_days.2.1 183 = .ok (.iinc 5 1, 3) := by decide +kernel
theorem d_X_days_186 : decode m_X_days.2.1 186 = .ok (.iinc 6 1, 3) := by decide +kernel
theorem d_X_days_189 : decode m_X_days.2.1 189 = .ok (.goto (-105), 3) := by decide +kernel
theorem d_X_days_192 : decode m_X_days.2.1 192 = .ok (.iload_n 3, 1) := by decide +kernel
theorem d_X_days_193 : decode m_X_days.2.1 193 = .ok (.iconst (-1), 1) := by decide +kernel
theorem d_X_days_194 : decode m_X_days.2.1 194 = .ok (.if_icmp .ne 8, 3) := by decide +kernel
theorem d_X_days_197 : decode m_X_days.2.1 197 = .ok (.iload 5, 2) := by decide +kernel
theorem d_X_days_199 : decode m_X_days.2.1 199 = .ok (.goto 9, 3) := by decide +kernel
theorem d_X_days_202 : decode m_X_days.2.1 202 = .ok (.aload_n 0, 1) := by decide +kernel
theorem d_X_days_203 : decode m_X_days.2.1 203 = .ok (.getfield 50, 3) := by decide +kernel
theorem d_X_days_206 : decode m_X_days.2.1 206 = .ok (.iload_n 3, 1) := by decide +kernel
theorem d_X_days_207 : decode m_X_days.2.1 207 = .ok (.iaload, 1) := by decide +kernel
theorem d_X_days_208 : decode m_X_days.2.1 208 = .ok (.ireturn, 1) := by decide +kernel
theorem d_X_fault_0 : decode m_X_fault.2.1 0 = .ok (.aload_n 0, 1) := by decide +kernel
theorem d_X_fault_1 : decode m_X_fault.2.1 1 = .ok (.invokevirtual 76, 3) := by decide +kernel
theorem d_X_fault_4 : decode m_X_fault.2.1 4 = .ok (.ireturn, 1) := by decide +kernel
theorem d_X_faultOf_0 : decode m_X_faultOf.2.1 0 = .ok (.iconst 0, 1) := by decide +kernel
theorem d_X_faultOf_1 : decode m_X_faultOf.2.1 1 = .ok (.istore_n 1, 1) := by decide +kernel
theorem d_X_faultOf_2 : decode m_X_faultOf.2.1 2 = .ok (.iconst 0, 1) := by decide +kernel
theorem d_X_faultOf_3 : decode m_X_faultOf.2.1 3 = .ok (.istore_n 2, 1) := by decide +kernel
theorem d_X_faultOf_4 : decode m_X_faultOf.2.1 4 = .ok (.bipush (-6), 2) := by decide +kernel
theorem d_X_faultOf_6 : decode m_X_faultOf.2.1 6 = .ok (.istore_n 3, 1) := by decide +kernel
theorem d_X_faultOf_7 : decode m_X_faultOf.2.1 7 = .ok (.iconst 0, 1) := by decide +kernel
theorem d_X_faultOf_8 : decode m_X_faultOf.2.1 8 = .ok (.istore 4, 2) := by decide +kernel
theorem d_X_faultOf_10 : decode m_X_faultOf.2.1 10 = .ok (.iconst 0, 1) := by decide +kernel
theorem d_X_faultOf_11 : decode m_X_faultOf.2.1 11 = .ok (.istore 5, 2) := by decide +kernel
theorem d_X_faultOf_13 : decode m_X_faultOf.2.1 13 = .ok (.iconst 0, 1) := by decide +kernel
theorem d_X_faultOf_14 : decode m_X_faultOf.2.1 14 = .ok (.istore 6, 2) := by decide +kernel
theorem d_X_faultOf_16 : decode m_X_faultOf.2.1 16 = .ok (.iload 6, 2) := by decide +kernel
theorem d_X_faultOf_18 : decode m_X_faultOf.2.1 18 = .ok (.aload_n 0, 1) := by decide +kernel
theorem d_X_faultOf_19 : decode m_X_faultOf.2.1 19 = .ok (.getfield 73, 3) := by decide +kernel
theorem d_X_faultOf_22 : decode m_X_faultOf.2.1 22 = .ok (.if_icmp .ge 246, 3) := by decide +kernel
theorem d_X_faultOf_25 : decode m_X_faultOf.2.1 25 = .ok (.aload_n 0, 1) := by decide +kernel
theorem d_X_faultOf_26 : decode m_X_faultOf.2.1 26 = .ok (.getfield 20, 3) := by decide +kernel
theorem d_X_faultOf_29 : decode m_X_faultOf.2.1 29 = .ok (.iload 6, 2) := by decide +kernel
theorem d_X_faultOf_31 : decode m_X_faultOf.2.1 31 = .ok (.iaload, 1) := by decide +kernel
theorem d_X_faultOf_32 : decode m_X_faultOf.2.1 32 = .ok (.istore 7, 2) := by decide +kernel
theorem d_X_faultOf_34 : decode m_X_faultOf.2.1 34 = .ok (.iload 7, 2) := by decide +kernel
theorem d_X_faultOf_36 : decode m_X_faultOf.2.1 36 = .ok (.bipush 97, 2) := by decide +kernel
theorem d_X_faultOf_38 : decode m_X_faultOf.2.1 38 = .ok (.isub, 1) := by decide +kernel
theorem d_X_faultOf_39 : decode m_X_faultOf.2.1 39 = .ok (.istore 8, 2) := by decide +kernel
theorem d_X_faultOf_41 : decode m_X_faultOf.2.1 41 = .ok (.iload 8, 2) := by decide +kernel
theorem d_X_faultOf_43 : decode m_X_faultOf.2.1 43 = .ok (.iconst 0, 1) := by decide +kernel
theorem d_X_faultOf_44 : decode m_X_faultOf.2.1 44 = .ok (.iload_n 2, 1) := by decide +kernel
theorem d_X_faultOf_45 : decode m_X_faultOf.2.1 45 = .ok (.iconst 1, 1) := by decide +kernel
theorem d_X_faultOf_46 : decode m_X_faultOf.2.1 46 = .ok (.isub, 1) := by decide +kernel
theorem d_X_faultOf_47 : decode m_X_faultOf.2.1 47 = .ok (.invokestatic 66, 3) := by decide +kernel
theorem d_X_faultOf_50 : decode m_X_faultOf.2.1 50 = .ok (.istore 9, 2) := by decide +kernel
theorem d_X_faultOf_52 : decode m_X_faultOf.2.1 52 = .ok (.iload_n 2, 1) := by decide +kernel
theorem d_X_faultOf_53 : decode m_X_faultOf.2.1 53 = .ok (.bipush 10, 2) := by decide +kernel
theorem d_X_faultOf_55 : decode m_X_faultOf.2.1 55 = .ok (.if_icmp .ne 9, 3) := by decide +kernel
theorem d_X_faultOf_58 : decode m_X_faultOf.2.1 58 = .ok (.iconst 0, 1) := by decide +kernel
theorem d_X_faultOf_59 : decode m_X_faultOf.2.1 59 = .ok (.istore 10, 2) := by decide +kernel
theorem d_X_faultOf_61 : decode m_X_faultOf.2.1 61 = .ok (.goto 193, 3) := by decide +kernel
theorem d_X_faultOf_64 : decode m_X_faultOf.2.1 64 = .ok (.iload_n 1, 1) := by decide +kernel
theorem d_X_faultOf_65 : decode m_X_faultOf.2.1 65 = .ok (.iconst 2, 1) := by decide +kernel
theorem d_X_faultOf_66 : decode m_X_faultOf.2.1 66 = .ok (.if_icmp .ge 30, 3) := by decide +kernel
theorem d_X_faultOf_69 : decode m_X_faultOf.2.1 69 = .ok (.iload 9, 2) := by decide +kernel
theorem d_X_faultOf_71 : decode m_X_faultOf.2.1 71 = .ok (.ifCond .eq 25, 3) := by decide +kernel
theorem d_X_faultOf_74 : decode m_X_faultOf.2.1 74 = .ok (.iload 8, 2) := by decide +kernel
theorem d_X_faultOf_76 : decode m_X_faultOf.2.1 76 = .ok (.iload_n 3, 1) := by decide +kernel
theorem d_X_faultOf_77 : decode m_X_faultOf.2.1 77 = .ok (.if_icmp .le 7, 3) := by decide +kernel
theorem d_X_faultOf_80 : decode m_X_faultOf.2.1 80 = .ok (.iconst 1, 1) := by decide +kernel
theorem d_X_faultOf_81 : decode m_X_faultOf.2.1 81 = .ok (.goto 4, 3) := by decide +kernel
theorem d_X_faultOf_84 : decode m_X_faultOf.2.1 84 = .ok (.iconst 0, 1) := by decide +kernel
theorem d_X_faultOf_85 : decode m_X_faultOf.2.1 85 = .ok (.istore 10, 2) := by decide +kernel
theorem d_X_faultOf_87 : decode m_X_faultOf.2.1 87 = .ok (.iload 8, 2) := by decide +kernel
theorem d_X_faultOf_89 : decode m_X_faultOf.2.1 89 = .ok (.istore_n 3, 1) := by decide +kernel
theorem d_X_faultOf_90 : decode m_X_faultOf.2.1 90 = .ok (.iinc 1 1, 3) := by decide +kernel
theorem d_X_faultOf_93 : decode m_X_faultOf.2.1 93 = .ok (.goto 161, 3) := by decide +kernel
theorem d_X_faultOf_96 : decode m_X_faultOf.2.1 96 = .ok (.iload_n 1, 1) := by decide +kernel
theorem d_X_faultOf_97 : decode m_X_faultOf.2.1 97 = .ok (.iconst 3, 1) := by decide +kernel
theorem d_X_faultOf_98 : decode m_X_faultOf.2.1 98 = .ok (.if_icmp .ne 12, 3) := by decide +kernel
theorem d_X_faultOf_101 : decode m_X_faultOf.2.1 101 = .ok (.iload 9, 2) := by decide +kernel
theorem d_X_faultOf_103 : decode m_X_faultOf.2.1 103 = .ok (.istore 10, 2) := by decide +kernel
theorem d_X_faultOf_105 : decode m_X_faultOf.2.1 105 = .ok (.iconst 4, 1) := by decide +kernel
theorem d_X_faultOf_106 : decode m_X_faultOf.2.1 106 = .ok (.istore_n 1, 1) := by decide +kernel
theorem d_X_faultOf_107 : decode m_X_faultOf.2.1 107 = .ok (.goto 147, 3) := by decide +kernel
theorem d_X_faultOf_110 : decode m_X_faultOf.2.1 110 = .ok (.iload_n 1, 1) := by decide +kernel
theorem d_X_faultOf_111 : decode m_X_faultOf.2.1 111 = .ok (.iconst 3, 1) := by decide +kernel
theorem d_X_faultOf_112 : decode m_X_faultOf.2.1 112 = .ok (.if_icmp .ge 18, 3) := by decide +kernel
theorem d_X_faultOf_115 : decode m_X_faultOf.2.1 115 = .ok (.iload 7, 2) := by decide +kernel
theorem d_X_faultOf_117 : decode m_X_faultOf.2.1 117 = .ok (.bipush 43, 2) := by decide +kernel
theorem d_X_faultOf_119 : decode m_X_faultOf.2.1 119 = .ok (.if_icmp .ne 11, 3) := by decide +kernel
theorem d_X_faultOf_122 : decode m_X_faultOf.2.1 122 = .ok (.iconst 1, 1) := by decide +kernel
theorem d_X_faultOf_123 : decode m_X_faultOf.2.1 123 = .ok (.istore 10, 2) := by decide +kernel
theorem d_X_faultOf_125 : decode m_X_faultOf.2.1 125 = .ok (.iconst 3, 1) := by decide +kernel
theorem d_X_faultOf_126 : decode m_X_faultOf.2.1 126 = .ok (.istore_n 1, 1) := by decide +kernel
theorem d_X_faultOf_127 : decode m_X_faultOf.2.1 127 = .ok (.goto 127, 3) := by decide +kernel
theorem d_X_faultOf_130 : decode m_X_faultOf.2.1 130 = .ok (.iload_n 1, 1) := by decide +kernel
theorem d_X_faultOf_131 : decode m_X_faultOf.2.1 131 = .ok (.bipush 6, 2) := by decide +kernel
theorem d_X_faultOf_133 : decode m_X_faultOf.2.1 133 = .ok (.if_icmp .eq 50, 3) := by decide +kernel
theorem d_X_faultOf_136 : decode m_X_faultOf.2.1 136 = .ok (.iload 7, 2) := by decide +kernel
theorem d_X_faultOf_138 : decode m_X_faultOf.2.1 138 = .ok (.bipush 65, 2) := by decide +kernel
theorem d_X_faultOf_140 : decode m_X_faultOf.2.1 140 = .ok (.bipush 70, 2) := by decide +kernel
theorem d_X_faultOf_142 : decode m_X_faultOf.2.1 142 = .ok (.invokestatic 66, 3) := by decide +kernel
theorem d_X_faultOf_145 : decode m_X_faultOf.2.1 145 = .ok (.ifCond .eq 38, 3) := by decide +kernel
theorem d_X_faultOf_148 : decode m_X_faultOf.2.1 148 = .ok (.iload 4, 2) := by decide +kernel
theorem d_X_faultOf_150 : decode m_X_faultOf.2.1 150 = .ok (.iconst 3, 1) := by decide +kernel
theorem d_X_faultOf_151 : decode m_X_faultOf.2.1 151 = .ok (.if_icmp .ge 18, 3) := by decide +kernel
theorem d_X_faultOf_154 : decode m_X_faultOf.2.1 154 = .ok (.iload 4, 2) := by decide +kernel
theorem d_X_faultOf_156 : decode m_X_faultOf.2.1 156 = .ok (.ifCond .eq 9, 3) := by decide +kernel
theorem d_X_faultOf_159 : decode m_X_faultOf.2.1 159 = .ok (.iload 7, 2) := by decide +kernel
theorem d_X_faultOf_161 : decode m_X_faultOf.2.1 161 = .ok (.iload_n 3, 1) := by decide +kernel
theorem d_X_faultOf_162 : decode m_X_faultOf.2.1 162 = .ok (.if_icmp .le 7, 3) := by decide +kernel
theorem d_X_faultOf_165 : decode m_X_faultOf.2.1 165 = .ok (.iconst 1, 1) := by decide +kernel
theorem d_X_faultOf_166 : decode m_X_faultOf.2.1 166 = .ok (.goto 4, 3) := by decide +kernel
theorem d_X_faultOf_169 : decode m_X_faultOf.2.1 169 = .ok (.iconst 0, 1) := by decide +kernel
theorem d_X_faultOf_170 : decode m_X_faultOf.2.1 170 = .ok (.istore 10, 2) := by decide +kernel
theorem d_X_faultOf_172 : decode m_X_faultOf.2.1 172 = .ok (.iload 7, 2) := by decide +kernel
theorem d_X_faultOf_174 : decode m_X_faultOf.2.1 174 = .ok (.istore_n 3, 1) := by decide +kernel
theorem d_X_faultOf_175 : decode m_X_faultOf.2.1 175 = .ok (.iinc 4 1, 3) := by decide +kernel
theorem d_X_faultOf_178 : decode m_X_faultOf.2.1 178 = .ok (.iconst 5, 1) := by decide +kernel
theorem d_X_faultOf_179 : decode m_X_faultOf.2.1 179 = .ok (.istore_n 1, 1) := by decide +kernel
theorem d_X_faultOf_180 : decode m_X_faultOf.2.1 180 = .ok (.goto 74, 3) := by decide +kernel
theorem d_X_faultOf_183 : decode m_X_faultOf.2.1 183 = .ok (.iload_n 1, 1) := by decide +kernel
theorem d_X_faultOf_184 : decode m_X_faultOf.2.1 184 = .ok (.bipush 6, 2) := by decide +kernel
theorem d_X_faultOf_186 : decode m_X_faultOf.2.1 186 = .ok (.if_icmp .eq 38, 3) := by decide +kernel
theorem d_X_faultOf_189 : decode m_X_faultOf.2.1 189 = .ok (.iload 7, 2) := by decide +kernel
theorem d_X_faultOf_191 : decode m_X_faultOf.2.1 191 = .ok (.bipush 63, 2) := by decide +kernel
theorem d_X_faultOf_193 : decode m_X_faultOf.2.1 193 = .ok (.if_icmp .ne 31, 3) := by decide +kernel
theorem d_X_faultOf_196 : decode m_X_faultOf.2.1 196 = .ok (.iload 4, 2) := by decide +kernel
theorem d_X_faultOf_198 : decode m_X_faultOf.2.1 198 = .ok (.iconst 3, 1) := by decide +kernel
theorem d_X_faultOf_199 : decode m_X_faultOf.2.1 199 = .ok (.if_icmp .ge 13, 3) := by decide +kernel
theorem d_X_faultOf_202 : decode m_X_faultOf.2.1 202 = .ok (.iload 5, 2) := by decide +kernel
theorem d_X_faultOf_204 : decode m_X_faultOf.2.1 204 = .ok (.iconst 4, 1) := by decide +kernel
theorem d_X_faultOf_205 : decode m_X_faultOf.2.1 205 = .ok (.if_icmp .ge 7, 3) := by decide +kernel
theorem d_X_faultOf_208 : decode m_X_faultOf.2.1 208 = .ok (.iconst 1, 1) := by decide +kernel
theorem d_X_faultOf_209 : decode m_X_faultOf.2.1 209 = .ok (.goto 4, 3) := by decide +kernel
theorem d_X_faultOf_212 : decode m_X_faultOf.2.1 212 = .ok (.iconst 0, 1) := by decide +kernel
theorem d_X_faultOf_213 : decode m_X_faultOf.2.1 213 = .ok (.istore 10, 2) := by decide +kernel
theorem d_X_faultOf_215 : decode m_X_faultOf.2.1 215 = .ok (.iinc 5 1, 3) := by decide +kernel
theorem d_X_faultOf_218 : decode m_X_faultOf.2.1 218 = .ok (.bipush 6, 2) := by decide +kernel
theorem d_X_faultOf_220 : decode m_X_faultOf.2.1 220 = .ok (.istore_n 1, 1) := by decide +kernel
theorem d_X_faultOf_221 : decode m_X_faultOf.2.1 221 = .ok (.goto 33, 3) := by decide +kernel
theorem d_X_faultOf_224 : decode m_X_faultOf.2.1 224 = .ok (.iload 7, 2) := by decide +kernel
theorem d_X_faultOf_226 : decode m_X_faultOf.2.1 226 = .ok (.bipush 59, 2) := by decide +kernel
theorem d_X_faultOf_228 : decode m_X_faultOf.2.1 228 = .ok (.if_icmp .ne 12, 3) := by decide +kernel
theorem d_X_faultOf_231 : decode m_X_faultOf.2.1 231 = .ok (.iload_n 1, 1) := by decide +kernel
theorem d_X_faultOf_232 : decode m_X_faultOf.2.1 232 = .ok (.iconst 4, 1) := by decide +kernel
theorem d_X_faultOf_233 : decode m_X_faultOf.2.1 233 = .ok (.if_icmp .le 7, 3) := by decide +kernel
theorem d_X_faultOf_236 : decode m_X_faultOf.2.1 236 = .ok (.iconst 1, 1) := by decide +kernel
theorem d_X_faultOf_237 : decode m_X_faultOf.2.1 237 = .ok (.goto 4, 3) := by decide +kernel
theorem d_X_faultOf_240 : decode m_X_faultOf.2.1 240 = .ok (.iconst 0, 1) := by decide +kernel
theorem d_X_faultOf_241 : decode m_X_faultOf.2.1 241 = .ok (.istore 10, 2) := by decide +kernel
theorem d_X_faultOf_243 : decode m_X_faultOf.2.1 243 = .ok (.iinc 2 1, 3) := by decide +kernel
theorem d_X_faultOf_246 : decode m_X_faultOf.2.1 246 = .ok (.iconst 0, 1) := by decide +kernel
theorem d_X_faultOf_247 : decode m_X_faultOf.2.1 247 = .ok (.istore_n 1, 1) := by decide +kernel
theorem d_X_faultOf_248 : decode m_X_faultOf.2.1 248 = .ok (.bipush (-6), 2) := by decide +kernel
theorem d_X_faultOf_250 : decode m_X_faultOf.2.1 250 = .ok (.istore_n 3, 1) := by decide +kernel
theorem d_X_faultOf_251 : decode m_X_faultOf.2.1 251 = .ok (.iconst 0, 1) := by decide +kernel
theorem d_X_faultOf_252 : decode m_X_faultOf.2.1 252 = .ok (.istore 4, 2) := by decide +kernel
theorem d_X_faultOf_254 : decode m_X_faultOf.2.1 254 = .ok (.iload 10, 2) := by decide +kernel
theorem d_X_faultOf_256 : decode m_X_faultOf.2.1 256 = .ok (.ifCond .ne 6, 3) := by decide +kernel
theorem d_X_faultOf_259 : decode m_X_faultOf.2.1 259 = .ok (.iload 6, 2) := by decide +kernel
theorem d_X_faultOf_261 : decode m_X_faultOf.2.1 261 = .ok (.ireturn, 1) := by decide +kernel
theorem d_X_faultOf_262 : decode m_X_faultOf.2.1 262 = .ok (.iinc 6 1, 3) := by decide +kernel
theorem d_X_faultOf_265 : decode m_X_faultOf.2.1 265 = .ok (.goto (-249), 3) := by decide +kernel
theorem d_X_faultOf_268 : decode m_X_faultOf.2.1 268 = .ok (.iload_n 1, 1) := by decide +kernel
theorem d_X_faultOf_269 : decode m_X_faultOf.2.1 269 = .ok (.ifCond .ne 8, 3) := by decide +kernel
theorem d_X_faultOf_272 : decode m_X_faultOf.2.1 272 = .ok (.bipush (-6), 2) := by decide +kernel
theorem d_X_faultOf_274 : decode m_X_faultOf.2.1 274 = .ok (.goto 7, 3) := by decide +kernel
theorem d_X_faultOf_277 : decode m_X_faultOf.2.1 277 = .ok (.aload_n 0, 1) := by decide +kernel
theorem d_X_faultOf_278 : decode m_X_faultOf.2.1 278 = .ok (.getfield 73, 3) := by decide +kernel
theorem d_X_faultOf_281 : decode m_X_faultOf.2.1 281 = .ok (.ireturn, 1) := by decide +kernel
theorem d_X_fed_0 : decode m_X_fed.2.1 0 = .ok (.aload_n 0, 1) := by decide +kernel
theorem d_X_fed_1 : decode m_X_fed.2.1 1 = .ok (.invokevirtual 147, 3) := by decide +kernel
theorem d_X_fed_4 : decode m_X_fed.2.1 4 = .ok (.bipush (-6), 2) := by decide +kernel
theorem d_X_fed_6 : decode m_X_fed.2.1 6 = .ok (.istore_n 2, 1) := by decide +kernel
theorem d_X_fed_7 : decode m_X_fed.2.1 7 = .ok (.iconst 0, 1) := by decide +kernel
theorem d_X_fed_8 : decode m_X_fed.2.1 8 = .ok (.istore_n 3, 1) := by decide +kernel
theorem d_X_fed_9 : decode m_X_fed.2.1 9 = .ok (.iload_n 3, 1) := by decide +kernel
theorem d_X_fed_10 : decode m_X_fed.2.1 10 = .ok (.aload_n 0, 1) := by decide +kernel
theorem d_X_fed_11 : decode m_X_fed.2.1 11 = .ok (.getfield 70, 3) := by decide +kernel
theorem d_X_fed_14 : decode m_X_fed.2.1 14 = .ok (.if_icmp .ge 21, 3) := by decide +kernel
theorem d_X_fed_17 : decode m_X_fed.2.1 17 = .ok (.aload_n 0, 1) := by decide +kernel
theorem d_X_fed_18 : decode m_X_fed.2.1 18 = .ok (.getfield 50, 3) := by decide +kernel
theorem d_X_fed_21 : decode m_X_fed.2.1 21 = .ok (.iload_n 3, 1) := by decide +kernel
theorem d_X_fed_22 : decode m_X_fed.2.1 22 = .ok (.aload_n 0, 1) := by decide +kernel
theorem d_X_fed_23 : decode m_X_fed.2.1 23 = .ok (.getfield 26, 3) := by decide +kernel
theorem d_X_fed_26 : decode m_X_fed.2.1 26 = .ok (.iload_n 3, 1) := by decide +kernel
theorem d_X_fed_27 : decode m_X_fed.2.1 27 = .ok (.iaload, 1) := by decide +kernel
theorem d_X_fed_28 : decode m_X_fed.2.1 28 = .ok (.iastore, 1) := by decide +kernel
theorem d_X_fed_29 : decode m_X_fed.2.1 29 = .ok (.iinc 3 1, 3) := by decide +kernel
theorem d_X_fed_32 : decode m_X_fed.2.1 32 = .ok (.goto (-23), 3) := by decide +kernel
theorem d_X_fed_35 : decode m_X_fed.2.1 35 = .ok (.iconst 0, 1) := by decide +kernel
theorem d_X_fed_36 : decode m_X_fed.2.1 36 = .ok (.istore_n 3, 1) := by decide +kernel
theorem d_X_fed_37 : decode m_X_fed.2.1 37 = .ok (.iload_n 3, 1) := by decide +kernel
theorem d_X_fed_38 : decode m_X_fed.2.1 38 = .ok (.bipush 6, 2) := by decide +kernel
theorem d_X_fed_40 : decode m_X_fed.2.1 40 = .ok (.if_icmp .ge 16, 3) := by decide +kernel
theorem d_X_fed_43 : decode m_X_fed.2.1 43 = .ok (.aload_n 0, 1) := by decide +kernel
theorem d_X_fed_44 : decode m_X_fed.2.1 44 = .ok (.getfield 44, 3) := by decide +kernel
theorem d_X_fed_47 : decode m_X_fed.2.1 47 = .ok (.iload_n 3, 1) := by decide +kernel
theorem d_X_fed_48 : decode m_X_fed.2.1 48 = .ok (.iconst (-1), 1) := by decide +kernel
theorem d_X_fed_49 : decode m_X_fed.2.1 49 = .ok (.iastore, 1) := by decide +kernel
theorem d_X_fed_50 : decode m_X_fed.2.1 50 = .ok (.iinc 3 1, 3) := by decide +kernel
theorem d_X_fed_53 : decode m_X_fed.2.1 53 = .ok (.goto (-16), 3) := by decide +kernel
theorem d_X_fed_56 : decode m_X_fed.2.1 56 = .ok (.iconst 0, 1) := by decide +kernel
theorem d_X_fed_57 : decode m_X_fed.2.1 57 = .ok (.istore_n 3, 1) := by decide +kernel
theorem d_X_fed_58 : decode m_X_fed.2.1 58 = .ok (.iconst 0, 1) := by decide +kernel
theorem d_X_fed_59 : decode m_X_fed.2.1 59 = .ok (.istore 4, 2) := by decide +kernel
theorem d_X_fed_61 : decode m_X_fed.2.1 61 = .ok (.iload_n 3, 1) := by decide +kernel
theorem d_X_fed_62 : decode m_X_fed.2.1 62 = .ok (.ifCond .lt 232, 3) := by decide +kernel
theorem d_X_fed_65 : decode m_X_fed.2.1 65 = .ok (.iload_n 3, 1) := by decide +kernel
theorem d_X_fed_66 : decode m_X_fed.2.1 66 = .ok (.bipush 6, 2) := by decide +kernel
theorem d_X_fed_68 : decode m_X_fed.2.1 68 = .ok (.if_icmp .ne 67, 3) := by decide +kernel
theorem d_X_fed_71 : decode m_X_fed.2.1 71 = .ok (.iload 4, 2) := by decide +kernel
theorem d_X_fed_73 : decode m_X_fed.2.1 73 = .ok (.iload_n 2, 1) := by decide +kernel
theorem d_X_fed_74 : decode m_X_fed.2.1 74 = .ok (.if_icmp .le 55, 3) := by decide +kernel
theorem d_X_fed_77 : decode m_X_fed.2.1 77 = .ok (.iload 4, 2) := by decide +kernel
theorem d_X_fed_79 : decode m_X_fed.2.1 79 = .ok (.istore_n 2, 1) := by decide +kernel
theorem d_X_fed_80 : decode m_X_fed.2.1 80 = .ok (.iconst 0, 1) := by decide +kernel
theorem d_X_fed_81 : decode m_X_fed.2.1 81 = .ok (.istore 5, 2) := by decide +kernel
theorem d_X_fed_83 : decode m_X_fed.2.1 83 = .ok (.iload 5, 2) := by decide +kernel
theorem d_X_fed_85 : decode m_X_fed.2.1 85 = .ok (.bipush 6, 2) := by decide +kernel
theorem d_X_fed_87 : decode m_X_fed.2.1 87 = .ok (.if_icmp .ge 42, 3) := by decide +kernel
theorem d_X_fed_90 : decode m_X_fed.2.1 90 = .ok (.aload_n 0, 1) := by decide +kernel
theorem d_X_fed_91 : decode m_X_fed.2.1 91 = .ok (.getfield 47, 3) := by decide +kernel
theorem d_X_fed_94 : decode m_X_fed.2.1 94 = .ok (.iload 5, 2) := by decide +kernel
theorem d_X_fed_96 : decode m_X_fed.2.1 96 = .ok (.aload_n 0, 1) := by decide +kernel
theorem d_X_fed_97 : decode m_X_fed.2.1 97 = .ok (.getfield 44, 3) := by decide +kernel
theorem d_X_fed_100 : decode m_X_fed.2.1 100 = .ok (.iload 5, 2) := by decide +kernel
theorem d_X_fed_102 : decode m_X_fed.2.1 102 = .ok (.iaload, 1) := by decide +kernel
theorem d_X_fed_103 : decode m_X_fed.2.1 103 = .ok (.aload_n 0, 1) := by decide +kernel
theorem d_X_fed_104 : decode m_X_fed.2.1 104 = .ok (.getfield 70, 3) := by decide +kernel
theorem d_X_fed_107 : decode m_X_fed.2.1 107 = .ok (.if_icmp .ne 8, 3) := by decide +kernel
theorem d_X_fed_110 : decode m_X_fed.2.1 110 = .ok (.bipush (-6), 2) := by decide +kernel
theorem d_X_fed_112 : decode m_X_fed.2.1 112 = .ok (.goto 10, 3) := by decide +kernel
theorem d_X_fed_115 : decode m_X_fed.2.1 115 = .ok (.aload_n 0, 1) := by decide +kernel
theorem d_X_fed_116 : decode m_X_fed.2.1 116 = .ok (.getfield 44, 3) := by decide +kernel
theorem d_X_fed_119 : decode m_X_fed.2.1 119 = .ok (.iload 5, 2) := by decide +kernel
theorem d_X_fed_121 : decode m_X_fed.2.1 121 = .ok (.iaload, 1) := by decide +kernel
theorem d_X_fed_122 : decode m_X_fed.2.1 122 = .ok (.iastore, 1) := by decide +kernel
theorem d_X_fed_123 : decode m_X_fed.2.1 123 = .ok (.iinc 5 1, 3) := by decide +kernel
theorem d_X_fed_126 : decode m_X_fed.2.1 126 = .ok (.goto (-43), 3) := by decide +kernel
theorem d_X_fed_129 : decode m_X_fed.2.1 129 = .ok (.iinc 3 (-1), 3) := by decide +kernel
theorem d_X_fed_132 : decode m_X_fed.2.1 132 = .ok (.goto (-71), 3) := by decide +kernel
theorem d_X_fed_135 : decode m_X_fed.2.1 135 = .ok (.aload_n 0, 1) := by decide +kernel
theorem d_X_fed_136 : decode m_X_fed.2.1 136 = .ok (.getfield 44, 3) := by decide +kernel
theorem d_X_fed_139 : decode m_X_fed.2.1 139 = .ok (.iload_n 3, 1) := by decide +kernel
theorem d_X_fed_140 : decode m_X_fed.2.1 140 = .ok (.iaload, 1) := by decide +kernel
theorem d_X_fed_141 : decode m_X_fed.2.1 141 = .ok (.ifCond .lt 34, 3) := by decide +kernel
theorem d_X_fed_144 : decode m_X_fed.2.1 144 = .ok (.aload_n 0, 1) := by decide +kernel
theorem d_X_fed_145 : decode m_X_fed.2.1 145 = .ok (.getfield 44, 3) := by decide +kernel
theorem d_X_fed_148 : decode m_X_fed.2.1 148 = .ok (.iload_n 3, 1) := by decide +kernel
theorem d_X_fed_149 : decode m_X_fed.2.1 149 = .ok (.iaload, 1) := by decide +kernel
theorem d_X_fed_150 : decode m_X_fed.2.1 150 = .ok (.aload_n 0, 1) := by decide +kernel
theorem d_X_fed_151 : decode m_X_fed.2.1 151 = .ok (.getfield 70, 3) := by decide +kernel
theorem d_X_fed_154 : decode m_X_fed.2.1 154 = .ok (.if_icmp .ge 21, 3) := by decide +kernel
theorem d_X_fed_157 : decode m_X_fed.2.1 157 = .ok (.aload_n 0, 1) := by decide +kernel
theorem d_X_fed_158 : decode m_X_fed.2.1 158 = .ok (.getfield 50, 3) := by decide +kernel
theorem d_X_fed_161 : decode m_X_fed.2.1 161 = .ok (.aload_n 0, 1) := by decide +kernel
theorem d_X_fed_162 : decode m_X_fed.2.1 162 = .ok (.getfield 44, 3) := by decide +kernel
theorem d_X_fed_165 : decode m_X_fed.2.1 165 = .ok (.iload_n 3, 1) := by decide +kernel
theorem d_X_fed_166 : decode m_X_fed.2.1 166 = .ok (.iaload, 1) := by decide +kernel
theorem d_X_fed_167 : decode m_X_fed.2.1 167 = .ok (.dup2, 1) := by decide +kernel
theorem d_X_fed_168 : decode m_X_fed.2.1 168 = .ok (.iaload, 1) := by decide +kernel
theorem d_X_fed_169 : decode m_X_fed.2.1 169 = .ok (.iconst 1, 1) := by decide +kernel
theorem d_X_fed_170 : decode m_X_fed.2.1 170 = .ok (.iadd, 1) := by decide +kernel
theorem d_X_fed_171 : decode m_X_fed.2.1 171 = .ok (.iastore, 1) := by decide +kernel
theorem d_X_fed_172 : decode m_X_fed.2.1 172 = .ok (.iinc 4 (-1), 3) := by decide +kernel
theorem d_X_fed_175 : decode m_X_fed.2.1 175 = .ok (.aload_n 0, 1) := by decide +kernel
theorem d_X_fed_176 : decode m_X_fed.2.1 176 = .ok (.getfield 44, 3) := by decide +kernel
theorem d_X_fed_179 : decode m_X_fed.2.1 179 = .ok (.iload_n 3, 1) := by decide +kernel
theorem d_X_fed_180 : decode m_X_fed.2.1 180 = .ok (.iaload, 1) := by decide +kernel
theorem d_X_fed_181 : decode m_X_fed.2.1 181 = .ok (.iconst 1, 1) := by decide +kernel
theorem d_X_fed_182 : decode m_X_fed.2.1 182 = .ok (.iadd, 1) := by decide +kernel
theorem d_X_fed_183 : decode m_X_fed.2.1 183 = .ok (.istore 5, 2) := by decide +kernel
theorem d_X_fed_185 : decode m_X_fed.2.1 185 = .ok (.iload 5, 2) := by decide +kernel
theorem d_X_fed_187 : decode m_X_fed.2.1 187 = .ok (.aload_n 0, 1) := by decide +kernel
theorem d_X_fed_188 : decode m_X_fed.2.1 188 = .ok (.getfield 70, 3) := by decide +kernel
theorem d_X_fed_191 : decode m_X_fed.2.1 191 = .ok (.if_icmp .ge 33, 3) := by decide +kernel
theorem d_X_fed_194 : decode m_X_fed.2.1 194 = .ok (.aload_n 0, 1) := by decide +kernel
theorem d_X_fed_195 : decode m_X_fed.2.1 195 = .ok (.getfield 41, 3) := by decide +kernel
theorem d_X_fed_198 : decode m_X_fed.2.1 198 = .ok (.iload_n 3, 1) := by decide +kernel
theorem d_X_fed_199 : decode m_X_fed.2.1 199 = .ok (.iaload, 1) := by decide +kernel
theorem d_X_fed_200 : decode m_X_fed.2.1 200 = .ok (.iload 5, 2) := by decide +kernel
theorem d_X_fed_202 : decode m_X_fed.2.1 202 = .ok (.invokestatic 98, 3) := by decide +kernel
theorem d_X_fed_205 : decode m_X_fed.2.1 205 = .ok (.ifCond .eq 13, 3) := by decide +kernel
theorem d_X_fed_208 : decode m_X_fed.2.1 208 = .ok (.aload_n 0, 1) := by decide +kernel
theorem d_X_fed_209 : decode m_X_fed.2.1 209 = .ok (.getfield 50, 3) := by decide +kernel
theorem d_X_fed_212 : decode m_X_fed.2.1 212 = .ok (.iload 5, 2) := by decide +kernel
theorem d_X_fed_214 : decode m_X_fed.2.1 214 = .ok (.iaload, 1) := by decide +kernel
theorem d_X_fed_215 : decode m_X_fed.2.1 215 = .ok (.ifCond .ne 9, 3) := by decide +kernel
theorem d_X_fed_218 : decode m_X_fed.2.1 218 = .ok (.iinc 5 1, 3) := by decide +kernel
theorem d_X_fed_221 : decode m_X_fed.2.1 221 = .ok (.goto (-36), 3) := by decide +kernel
theorem d_X_fed_224 : decode m_X_fed.2.1 224 = .ok (.iload 5, 2) := by decide +kernel
theorem d_X_fed_226 : decode m_X_fed.2.1 226 = .ok (.aload_n 0, 1) := by decide +kernel
theorem d_X_fed_227 : decode m_X_fed.2.1 227 = .ok (.getfield 70, 3) := by decide +kernel
theorem d_X_fed_230 : decode m_X_fed.2.1 230 = .ok (.if_icmp .gt 14, 3) := by decide +kernel
theorem d_X_fed_233 : decode m_X_fed.2.1 233 = .ok (.iload 4, 2) := by decide +kernel
theorem d_X_fed_235 : decode m_X_fed.2.1 235 = .ok (.bipush 6, 2) := by decide +kernel
theorem d_X_fed_237 : decode m_X_fed.2.1 237 = .ok (.iadd, 1) := by decide +kernel
theorem d_X_fed_238 : decode m_X_fed.2.1 238 = .ok (.iload_n 3, 1) := by decide +kernel
theorem d_X_fed_239 : decode m_X_fed.2.1 239 = .ok (.isub, 1) := by decide +kernel
theorem d_X_fed_240 : decode m_X_fed.2.1 240 = .ok (.iload_n 2, 1) := by decide +kernel
theorem d_X_fed_241 : decode m_X_fed.2.1 241 = .ok (.if_icmp .gt 16, 3) := by decide +kernel
theorem d_X_fed_244 : decode m_X_fed.2.1 244 = .ok (.aload_n 0, 1) := by decide +kernel
theorem d_X_fed_245 : decode m_X_fed.2.1 245 = .ok (.getfield 44, 3) := by decide +kernel
theorem d_X_fed_248 : decode m_X_fed.2.1 248 = .ok (.iload_n 3, 1) := by decide +kernel
theorem d_X_fed_249 : decode m_X_fed.2.1 249 = .ok (.iconst (-1), 1) := by decide +kernel
theorem d_X_fed_250 : decode m_X_fed.2.1 250 = .ok (.iastore, 1) := by decide +kernel
theorem d_X_fed_251 : decode m_X_fed.2.1 251 = .ok (.iinc 3 (-1), 3) := by decide +kernel
theorem d_X_fed_254 : decode m_X_fed.2.1 254 = .ok (.goto (-193), 3) := by decide +kernel
theorem d_X_fed_257 : decode m_X_fed.2.1 257 = .ok (.aload_n 0, 1) := by decide +kernel
theorem d_X_fed_258 : decode m_X_fed.2.1 258 = .ok (.getfield 44, 3) := by decide +kernel
theorem d_X_fed_261 : decode m_X_fed.2.1 261 = .ok (.iload_n 3, 1) := by decide +kernel
theorem d_X_fed_262 : decode m_X_fed.2.1 262 = .ok (.iload 5, 2) := by decide +kernel
theorem d_X_fed_264 : decode m_X_fed.2.1 264 = .ok (.iastore, 1) := by decide +kernel
theorem d_X_fed_265 : decode m_X_fed.2.1 265 = .ok (.iload 5, 2) := by decide +kernel
theorem d_X_fed_267 : decode m_X_fed.2.1 267 = .ok (.aload_n 0, 1) := by decide +kernel
theorem d_X_fed_268 : decode m_X_fed.2.1 268 = .ok (.getfield 70, 3) := by decide +kernel
theorem d_X_fed_271 : decode m_X_fed.2.1 271 = .ok (.if_icmp .ge 17, 3) := by decide +kernel
theorem d_X_fed_274 : decode m_X_fed.2.1 274 = .ok (.aload_n 0, 1) := by decide +kernel
theorem d_X_fed_275 : decode m_X_fed.2.1 275 = .ok (.getfield 50, 3) := by decide +kernel
theorem d_X_fed_278 : decode m_X_fed.2.1 278 = .ok (.iload 5, 2) := by decide +kernel
theorem d_X_fed_280 : decode m_X_fed.2.1 280 = .ok (.dup2, 1) := by decide +kernel
theorem d_X_fed_281 : decode m_X_fed.2.1 281 = .ok (.iaload, 1) := by decide +kernel
theorem d_X_fed_282 : decode m_X_fed.2.1 282 = .ok (.iconst 1, 1) := by decide +kernel
theorem d_X_fed_283 : decode m_X_fed.2.1 283 = .ok (.isub, 1) := by decide +kernel
theorem d_X_fed_284 : decode m_X_fed.2.1 284 = .ok (.iastore, 1) := by decide +kernel
theorem d_X_fed_285 : decode m_X_fed.2.1 285 = .ok (.iinc 4 1, 3) := by decide +kernel
theorem d_X_fed_288 : decode m_X_fed.2.1 288 = .ok (.iinc 3 1, 3) := by decide +kernel
theorem d_X_fed_291 : decode m_X_fed.2.1 291 = .ok (.goto (-230), 3) := by decide +kernel
theorem d_X_fed_294 : decode m_X_fed.2.1 294 = .ok (.iload_n 1, 1) := by decide +kernel
theorem d_X_fed_295 : decode m_X_fed.2.1 295 = .ok (.iconst (-1), 1) := by decide +kernel
theorem d_X_fed_296 : decode m_X_fed.2.1 296 = .ok (.if_icmp .ne 7, 3) := by decide +kernel
theorem d_X_fed_299 : decode m_X_fed.2.1 299 = .ok (.iload_n 2, 1) := by decide +kernel
theorem d_X_fed_300 : decode m_X_fed.2.1 300 = .ok (.goto 21, 3) := by decide +kernel
theorem d_X_fed_303 : decode m_X_fed.2.1 303 = .ok (.iload_n 1, 1) := by decide +kernel
theorem d_X_fed_304 : decode m_X_fed.2.1 304 = .ok (.invokestatic 87, 3) := by decide +kernel
theorem d_X_fed_307 : decode m_X_fed.2.1 307 = .ok (.ifCond .eq 12, 3) := by decide +kernel
theorem d_X_fed_310 : decode m_X_fed.2.1 310 = .ok (.aload_n 0, 1) := by decide +kernel
theorem d_X_fed_311 : decode m_X_fed.2.1 311 = .ok (.getfield 47, 3) := by decide +kernel
theorem d_X_fed_314 : decode m_X_fed.2.1 314 = .ok (.iload_n 1, 1) := by decide +kernel
theorem d_X_fed_315 : decode m_X_fed.2.1 315 = .ok (.iaload, 1) := by decide +kernel
theorem d_X_fed_316 : decode m_X_fed.2.1 316 = .ok (.goto 5, 3) := by decide +kernel
theorem d_X_fed_319 : decode m_X_fed.2.1 319 = .ok (.bipush (-6), 2) := by decide +kernel
theorem d_X_fed_321 : decode m_X_fed.2.1 321 = .ok (.ireturn, 1) := by decide +kernel
theorem d_X_feeds_0 : decode m_X_feeds.2.1 0 = .ok (.iconst 1, 1) := by decide +kernel
theorem d_X_feeds_1 : decode m_X_feeds.2.1 1 = .ok (.istore_n 3, 1) := by decide +kernel
theorem d_X_feeds_2 : decode m_X_feeds.2.1 2 = .ok (.iload_n 3, 1) := by decide +kernel
theorem d_X_feeds_3 : decode m_X_feeds.2.1 3 = .ok (.bipush 64, 2) := by decide +kernel
theorem d_X_feeds_5 : decode m_X_feeds.2.1 5 = .ok (.if_icmp .ge 99, 3) := by decide +kernel
theorem d_X_feeds_8 : decode m_X_feeds.2.1 8 = .ok (.iconst 0, 1) := by decide +kernel
theorem d_X_feeds_9 : decode m_X_feeds.2.1 9 = .ok (.istore 4, 2) := by decide +kernel
theorem d_X_feeds_11 : decode m_X_feeds.2.1 11 = .ok (.iconst 0, 1) := by decide +kernel
theorem d_X_feeds_12 : decode m_X_feeds.2.1 12 = .ok (.istore 5, 2) := by decide +kernel
theorem d_X_feeds_14 : decode m_X_feeds.2.1 14 = .ok (.iload 5, 2) := by decide +kernel
theorem d_X_feeds_16 : decode m_X_feeds.2.1 16 = .ok (.bipush 6, 2) := by decide +kernel
theorem d_X_feeds_18 : decode m_X_feeds.2.1 18 = .ok (.if_icmp .ge 69, 3) := by decide +kernel
theorem d_X_feeds_21 : decode m_X_feeds.2.1 21 = .ok (.iload_n 3, 1) := by decide +kernel
theorem d_X_feeds_22 : decode m_X_feeds.2.1 22 = .ok (.iconst 1, 1) := by decide +kernel
theorem d_X_feeds_23 : decode m_X_feeds.2.1 23 = .ok (.iload 5, 2) := by decide +kernel
theorem d_X_feeds_25 : decode m_X_feeds.2.1 25 = .ok (.ishl, 1) := by decide +kernel
theorem d_X_feeds_26 : decode m_X_feeds.2.1 26 = .ok (.iconst (-1), 1) := by decide +kernel
theorem d_X_feeds_27 : decode m_X_feeds.2.1 27 = .ok (.ixor, 1) := by decide +kernel
theorem d_X_feeds_28 : decode m_X_feeds.2.1 28 = .ok (.iand, 1) := by decide +kernel
theorem d_X_feeds_29 : decode m_X_feeds.2.1 29 = .ok (.aload_n 0, 1) := by decide +kernel
theorem d_X_feeds_30 : decode m_X_feeds.2.1 30 = .ok (.getfield 16, 3) := by decide +kernel
theorem d_X_feeds_33 : decode m_X_feeds.2.1 33 = .ok (.iload 5, 2) := by decide +kernel
theorem d_X_feeds_35 : decode m_X_feeds.2.1 35 = .ok (.iaload, 1) := by decide +kernel
theorem d_X_feeds_36 : decode m_X_feeds.2.1 36 = .ok (.ifCond .lt 15, 3) := by decide +kernel
theorem d_X_feeds_39 : decode m_X_feeds.2.1 39 = .ok (.iconst 1, 1) := by decide +kernel
theorem d_X_feeds_40 : decode m_X_feeds.2.1 40 = .ok (.aload_n 0, 1) := by decide +kernel
theorem d_X_feeds_41 : decode m_X_feeds.2.1 41 = .ok (.getfield 16, 3) := by decide +kernel
theorem d_X_feeds_44 : decode m_X_feeds.2.1 44 = .ok (.iload 5, 2) := by decide +kernel
theorem d_X_feeds_46 : decode m_X_feeds.2.1 46 = .ok (.iaload, 1) := by decide +kernel
theorem d_X_feeds_47 : decode m_X_feeds.2.1 47 = .ok (.ishl, 1) := by decide +kernel
theorem d_X_feeds_48 : decode m_X_feeds.2.1 48 = .ok (.goto 4, 3) := by decide +kernel
theorem d_X_feeds_51 : decode m_X_feeds.2.1 51 = .ok (.iconst 0, 1) := by decide +kernel
theorem d_X_feeds_52 : decode m_X_feeds.2.1 52 = .ok (.iconst (-1), 1) := by decide +kernel
theorem d_X_feeds_53 : decode m_X_feeds.2.1 53 = .ok (.ixor, 1) := by decide +kernel
theorem d_X_feeds_54 : decode m_X_feeds.2.1 54 = .ok (.iand, 1) := by decide +kernel
theorem d_X_feeds_55 : decode m_X_feeds.2.1 55 = .ok (.istore 6, 2) := by decide +kernel
theorem d_X_feeds_57 : decode m_X_feeds.2.1 57 = .ok (.iload 4, 2) := by decide +kernel
theorem d_X_feeds_59 : decode m_X_feeds.2.1 59 = .ok (.iload_n 1, 1) := by decide +kernel
theorem d_X_feeds_60 : decode m_X_feeds.2.1 60 = .ok (.iload 5, 2) := by decide +kernel
theorem d_X_feeds_62 : decode m_X_feeds.2.1 62 = .ok (.invokestatic 98, 3) := by decide +kernel
theorem d_X_feeds_65 : decode m_X_feeds.2.1 65 = .ok (.ifCond .eq 12, 3) := by decide +kernel
theorem d_X_feeds_68 : decode m_X_feeds.2.1 68 = .ok (.iload 6, 2) := by decide +kernel
theorem d_X_feeds_70 : decode m_X_feeds.2.1 70 = .ok (.ifCond .eq 7, 3) := by decide +kernel
theorem d_X_feeds_73 : decode m_X_feeds.2.1 73 = .ok (.iload_n 2, 1) := by decide +kernel
theorem d_X_feeds_74 : decode m_X_feeds.2.1 74 = .ok (.goto 4, 3) := by decide +kernel
theorem d_X_feeds_77 : decode m_X_feeds.2.1 77 = .ok (.iconst 0, 1) := by decide +kernel
theorem d_X_feeds_78 : decode m_X_feeds.2.1 78 = .ok (.iadd, 1) := by decide +kernel
theorem d_X_feeds_79 : decode m_X_feeds.2.1 79 = .ok (.istore 4, 2) := by decide +kernel
theorem d_X_feeds_81 : decode m_X_feeds.2.1 81 = .ok (.iinc 5 1, 3) := by decide +kernel
theorem d_X_feeds_84 : decode m_X_feeds.2.1 84 = .ok (.goto (-70), 3) := by decide +kernel
theorem d_X_feeds_87 : decode m_X_feeds.2.1 87 = .ok (.iload 4, 2) := by decide +kernel
theorem d_X_feeds_89 : decode m_X_feeds.2.1 89 = .ok (.iload_n 3, 1) := by decide +kernel
theorem d_X_feeds_90 : decode m_X_feeds.2.1 90 = .ok (.invokestatic 109, 3) := by decide +kernel
theorem d_X_feeds_93 : decode m_X_feeds.2.1 93 = .ok (.if_icmp .ge 5, 3) := by decide +kernel
theorem d_X_feeds_96 : decode m_X_feeds.2.1 96 = .ok (.iconst 0, 1) := by decide +kernel
theorem d_X_feeds_97 : decode m_X_feeds.2.1 97 = .ok (.ireturn, 1) := by decide +kernel
theorem d_X_feeds_98 : decode m_X_feeds.2.1 98 = .ok (.iinc 3 1, 3) := by decide +kernel
theorem d_X_feeds_101 : decode m_X_feeds.2.1 101 = .ok (.goto (-99), 3) := by decide +kernel
theorem d_X_feeds_104 : decode m_X_feeds.2.1 104 = .ok (.iconst 1, 1) := by decide +kernel
theorem d_X_feeds_105 : decode m_X_feeds.2.1 105 = .ok (.ireturn, 1) := by decide +kernel
theorem d_X_fill_0 : decode m_X_fill.2.1 0 = .ok (.aload_n 0, 1) := by decide +kernel
theorem d_X_fill_1 : decode m_X_fill.2.1 1 = .ok (.invokevirtual 116, 3) := by decide +kernel
theorem d_X_fill_4 : decode m_X_fill.2.1 4 = .ok (.iconst 0, 1) := by decide +kernel
theorem d_X_fill_5 : decode m_X_fill.2.1 5 = .ok (.istore_n 2, 1) := by decide +kernel
theorem d_X_fill_6 : decode m_X_fill.2.1 6 = .ok (.iconst 1, 1) := by decide +kernel
theorem d_X_fill_7 : decode m_X_fill.2.1 7 = .ok (.istore_n 3, 1) := by decide +kernel
theorem d_X_fill_8 : decode m_X_fill.2.1 8 = .ok (.iconst 0, 1) := by decide +kernel
theorem d_X_fill_9 : decode m_X_fill.2.1 9 = .ok (.istore 4, 2) := by decide +kernel
theorem d_X_fill_11 : decode m_X_fill.2.1 11 = .ok (.iload 4, 2) := by decide +kernel
theorem d_X_fill_13 : decode m_X_fill.2.1 13 = .ok (.aload_n 0, 1) := by decide +kernel
theorem d_X_fill_14 : decode m_X_fill.2.1 14 = .ok (.getfield 70, 3) := by decide +kernel
theorem d_X_fill_17 : decode m_X_fill.2.1 17 = .ok (.if_icmp .ge 74, 3) := by decide +kernel
theorem d_X_fill_20 : decode m_X_fill.2.1 20 = .ok (.aload_n 0, 1) := by decide +kernel
theorem d_X_fill_21 : decode m_X_fill.2.1 21 = .ok (.getfield 23, 3) := by decide +kernel
