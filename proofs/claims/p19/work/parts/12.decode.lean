theorem d_Matchmaker_sumWith_1 : decode m_Matchmaker_sumWith.2.1 1 = .ok (.getfield 9, 3) := by decide +kernel
theorem d_Matchmaker_sumWith_4 : decode m_Matchmaker_sumWith.2.1 4 = .ok (.iload_n 2, 1) := by decide +kernel
theorem d_Matchmaker_sumWith_5 : decode m_Matchmaker_sumWith.2.1 5 = .ok (.iaload, 1) := by decide +kernel
theorem d_Matchmaker_sumWith_6 : decode m_Matchmaker_sumWith.2.1 6 = .ok (.aload_n 0, 1) := by decide +kernel
theorem d_Matchmaker_sumWith_7 : decode m_Matchmaker_sumWith.2.1 7 = .ok (.getfield 9, 3) := by decide +kernel
theorem d_Matchmaker_sumWith_10 : decode m_Matchmaker_sumWith.2.1 10 = .ok (.iload_n 3, 1) := by decide +kernel
theorem d_Matchmaker_sumWith_11 : decode m_Matchmaker_sumWith.2.1 11 = .ok (.iaload, 1) := by decide +kernel
theorem d_Matchmaker_sumWith_12 : decode m_Matchmaker_sumWith.2.1 12 = .ok (.ixor, 1) := by decide +kernel
theorem d_Matchmaker_sumWith_13 : decode m_Matchmaker_sumWith.2.1 13 = .ok (.invokestatic 37, 3) := by decide +kernel
theorem d_Matchmaker_sumWith_16 : decode m_Matchmaker_sumWith.2.1 16 = .ok (.istore 4, 2) := by decide +kernel
theorem d_Matchmaker_sumWith_18 : decode m_Matchmaker_sumWith.2.1 18 = .ok (.iload 4, 2) := by decide +kernel
theorem d_Matchmaker_sumWith_20 : decode m_Matchmaker_sumWith.2.1 20 = .ok (.aload_n 0, 1) := by decide +kernel
theorem d_Matchmaker_sumWith_21 : decode m_Matchmaker_sumWith.2.1 21 = .ok (.getfield 15, 3) := by decide +kernel
theorem d_Matchmaker_sumWith_24 : decode m_Matchmaker_sumWith.2.1 24 = .ok (.iload_n 1, 1) := by decide +kernel
theorem d_Matchmaker_sumWith_25 : decode m_Matchmaker_sumWith.2.1 25 = .ok (.iconst 1, 1) := by decide +kernel
theorem d_Matchmaker_sumWith_26 : decode m_Matchmaker_sumWith.2.1 26 = .ok (.iload_n 2, 1) := by decide +kernel
theorem d_Matchmaker_sumWith_27 : decode m_Matchmaker_sumWith.2.1 27 = .ok (.ishl, 1) := by decide +kernel
theorem d_Matchmaker_sumWith_28 : decode m_Matchmaker_sumWith.2.1 28 = .ok (.iconst (-1), 1) := by decide +kernel
theorem d_Matchmaker_sumWith_29 : decode m_Matchmaker_sumWith.2.1 29 = .ok (.ixor, 1) := by decide +kernel
theorem d_Matchmaker_sumWith_30 : decode m_Matchmaker_sumWith.2.1 30 = .ok (.iand, 1) := by decide +kernel
theorem d_Matchmaker_sumWith_31 : decode m_Matchmaker_sumWith.2.1 31 = .ok (.iconst 1, 1) := by decide +kernel
theorem d_Matchmaker_sumWith_32 : decode m_Matchmaker_sumWith.2.1 32 = .ok (.iload_n 3, 1) := by decide +kernel
theorem d_Matchmaker_sumWith_33 : decode m_Matchmaker_sumWith.2.1 33 = .ok (.ishl, 1) := by decide +kernel
theorem d_Matchmaker_sumWith_34 : decode m_Matchmaker_sumWith.2.1 34 = .ok (.iconst (-1), 1) := by decide +kernel
theorem d_Matchmaker_sumWith_35 : decode m_Matchmaker_sumWith.2.1 35 = .ok (.ixor, 1) := by decide +kernel
theorem d_Matchmaker_sumWith_36 : decode m_Matchmaker_sumWith.2.1 36 = .ok (.iand, 1) := by decide +kernel
theorem d_Matchmaker_sumWith_37 : decode m_Matchmaker_sumWith.2.1 37 = .ok (.iaload, 1) := by decide +kernel
theorem d_Matchmaker_sumWith_38 : decode m_Matchmaker_sumWith.2.1 38 = .ok (.iadd, 1) := by decide +kernel
theorem d_Matchmaker_sumWith_39 : decode m_Matchmaker_sumWith.2.1 39 = .ok (.ireturn, 1) := by decide +kernel
theorem d_O_book_0 : decode m_O_book.2.1 0 = .ok (.aload_n 0, 1) := by decide +kernel
theorem d_O_book_1 : decode m_O_book.2.1 1 = .ok (.getfield 19, 3) := by decide +kernel
theorem d_O_book_4 : decode m_O_book.2.1 4 = .ok (.aload_n 0, 1) := by decide +kernel
theorem d_O_book_5 : decode m_O_book.2.1 5 = .ok (.getfield 12, 3) := by decide +kernel
theorem d_O_book_8 : decode m_O_book.2.1 8 = .ok (.invokevirtual 70, 3) := by decide +kernel
theorem d_O_book_11 : decode m_O_book.2.1 11 = .ok (.bipush (-6), 2) := by decide +kernel
theorem d_O_book_13 : decode m_O_book.2.1 13 = .ok (.if_icmp .eq 6, 3) := by decide +kernel
theorem d_O_book_16 : decode m_O_book.2.1 16 = .ok (.bipush (-5), 2) := by decide +kernel
theorem d_O_book_18 : decode m_O_book.2.1 18 = .ok (.ireturn, 1) := by decide +kernel
theorem d_O_book_19 : decode m_O_book.2.1 19 = .ok (.aload_n 0, 1) := by decide +kernel
theorem d_O_book_20 : decode m_O_book.2.1 20 = .ok (.getfield 12, 3) := by decide +kernel
theorem d_O_book_23 : decode m_O_book.2.1 23 = .ok (.invokevirtual 66, 3) := by decide +kernel
theorem d_O_book_26 : decode m_O_book.2.1 26 = .ok (.pop, 1) := by decide +kernel
theorem d_O_book_27 : decode m_O_book.2.1 27 = .ok (.aload_n 0, 1) := by decide +kernel
theorem d_O_book_28 : decode m_O_book.2.1 28 = .ok (.getfield 26, 3) := by decide +kernel
theorem d_O_book_31 : decode m_O_book.2.1 31 = .ok (.aload_n 0, 1) := by decide +kernel
theorem d_O_book_32 : decode m_O_book.2.1 32 = .ok (.getfield 19, 3) := by decide +kernel
theorem d_O_book_35 : decode m_O_book.2.1 35 = .ok (.getfield 74, 3) := by decide +kernel
theorem d_O_book_38 : decode m_O_book.2.1 38 = .ok (.invokevirtual 78, 3) := by decide +kernel
theorem d_O_book_41 : decode m_O_book.2.1 41 = .ok (.aload_n 0, 1) := by decide +kernel
theorem d_O_book_42 : decode m_O_book.2.1 42 = .ok (.getfield 26, 3) := by decide +kernel
theorem d_O_book_45 : decode m_O_book.2.1 45 = .ok (.getfield 82, 3) := by decide +kernel
theorem d_O_book_48 : decode m_O_book.2.1 48 = .ok (.getfield 85, 3) := by decide +kernel
theorem d_O_book_51 : decode m_O_book.2.1 51 = .ok (.ireturn, 1) := by decide +kernel
theorem d_O_days_0 : decode m_O_days.2.1 0 = .ok (.iload_n 3, 1) := by decide +kernel
theorem d_O_days_1 : decode m_O_days.2.1 1 = .ok (.iconst (-1), 1) := by decide +kernel
theorem d_O_days_2 : decode m_O_days.2.1 2 = .ok (.if_icmp .eq 13, 3) := by decide +kernel
theorem d_O_days_5 : decode m_O_days.2.1 5 = .ok (.aload_n 0, 1) := by decide +kernel
theorem d_O_days_6 : decode m_O_days.2.1 6 = .ok (.iload_n 3, 1) := by decide +kernel
theorem d_O_days_7 : decode m_O_days.2.1 7 = .ok (.invokevirtual 91, 3) := by decide +kernel
theorem d_O_days_10 : decode m_O_days.2.1 10 = .ok (.ifCond .ne 5, 3) := by decide +kernel
theorem d_O_days_13 : decode m_O_days.2.1 13 = .ok (.iconst (-1), 1) := by decide +kernel
theorem d_O_days_14 : decode m_O_days.2.1 14 = .ok (.ireturn, 1) := by decide +kernel
theorem d_O_days_15 : decode m_O_days.2.1 15 = .ok (.iload_n 1, 1) := by decide +kernel
theorem d_O_days_16 : decode m_O_days.2.1 16 = .ok (.ifCond .lt 21, 3) := by decide +kernel
theorem d_O_days_19 : decode m_O_days.2.1 19 = .ok (.iload_n 1, 1) := by decide +kernel
theorem d_O_days_20 : decode m_O_days.2.1 20 = .ok (.sipush 9999, 3) := by decide +kernel
theorem d_O_days_23 : decode m_O_days.2.1 23 = .ok (.if_icmp .gt 14, 3) := by decide +kernel
theorem d_O_days_26 : decode m_O_days.2.1 26 = .ok (.iload_n 2, 1) := by decide +kernel
theorem d_O_days_27 : decode m_O_days.2.1 27 = .ok (.iconst 1, 1) := by decide +kernel
theorem d_O_days_28 : decode m_O_days.2.1 28 = .ok (.if_icmp .lt 9, 3) := by decide +kernel
theorem d_O_days_31 : decode m_O_days.2.1 31 = .ok (.iload_n 2, 1) := by decide +kernel
theorem d_O_days_32 : decode m_O_days.2.1 32 = .ok (.bipush 99, 2) := by decide +kernel
theorem d_O_days_34 : decode m_O_days.2.1 34 = .ok (.if_icmp .le 6, 3) := by decide +kernel
theorem d_O_days_37 : decode m_O_days.2.1 37 = .ok (.bipush (-2), 2) := by decide +kernel
theorem d_O_days_39 : decode m_O_days.2.1 39 = .ok (.ireturn, 1) := by decide +kernel
theorem d_O_days_40 : decode m_O_days.2.1 40 = .ok (.aload_n 0, 1) := by decide +kernel
theorem d_O_days_41 : decode m_O_days.2.1 41 = .ok (.getfield 51, 3) := by decide +kernel
theorem d_O_days_44 : decode m_O_days.2.1 44 = .ok (.aload_n 0, 1) := by decide +kernel
theorem d_O_days_45 : decode m_O_days.2.1 45 = .ok (.getfield 26, 3) := by decide +kernel
theorem d_O_days_48 : decode m_O_days.2.1 48 = .ok (.invokevirtual 186, 3) := by decide +kernel
theorem d_O_days_51 : decode m_O_days.2.1 51 = .ok (.aload_n 0, 1) := by decide +kernel
theorem d_O_days_52 : decode m_O_days.2.1 52 = .ok (.getfield 51, 3) := by decide +kernel
theorem d_O_days_55 : decode m_O_days.2.1 55 = .ok (.iload_n 1, 1) := by decide +kernel
theorem d_O_days_56 : decode m_O_days.2.1 56 = .ok (.iload_n 2, 1) := by decide +kernel
theorem d_O_days_57 : decode m_O_days.2.1 57 = .ok (.invokevirtual 226, 3) := by decide +kernel
theorem d_O_days_60 : decode m_O_days.2.1 60 = .ok (.istore 4, 2) := by decide +kernel
theorem d_O_days_62 : decode m_O_days.2.1 62 = .ok (.iload_n 3, 1) := by decide +kernel
theorem d_O_days_63 : decode m_O_days.2.1 63 = .ok (.iconst (-1), 1) := by decide +kernel
theorem d_O_days_64 : decode m_O_days.2.1 64 = .ok (.if_icmp .ne 8, 3) := by decide +kernel
theorem d_O_days_67 : decode m_O_days.2.1 67 = .ok (.iload 4, 2) := by decide +kernel
theorem d_O_days_69 : decode m_O_days.2.1 69 = .ok (.goto 12, 3) := by decide +kernel
theorem d_O_days_72 : decode m_O_days.2.1 72 = .ok (.aload_n 0, 1) := by decide +kernel
theorem d_O_days_73 : decode m_O_days.2.1 73 = .ok (.getfield 51, 3) := by decide +kernel
theorem d_O_days_76 : decode m_O_days.2.1 76 = .ok (.getfield 229, 3) := by decide +kernel
theorem d_O_days_79 : decode m_O_days.2.1 79 = .ok (.iload_n 3, 1) := by decide +kernel
theorem d_O_days_80 : decode m_O_days.2.1 80 = .ok (.iaload, 1) := by decide +kernel
theorem d_O_days_81 : decode m_O_days.2.1 81 = .ok (.ireturn, 1) := by decide +kernel
theorem d_O_fault_0 : decode m_O_fault.2.1 0 = .ok (.aload_n 0, 1) := by decide +kernel
theorem d_O_fault_1 : decode m_O_fault.2.1 1 = .ok (.getfield 19, 3) := by decide +kernel
theorem d_O_fault_4 : decode m_O_fault.2.1 4 = .ok (.aload_n 0, 1) := by decide +kernel
theorem d_O_fault_5 : decode m_O_fault.2.1 5 = .ok (.getfield 12, 3) := by decide +kernel
theorem d_O_fault_8 : decode m_O_fault.2.1 8 = .ok (.invokevirtual 70, 3) := by decide +kernel
theorem d_O_fault_11 : decode m_O_fault.2.1 11 = .ok (.ireturn, 1) := by decide +kernel
theorem d_O_fed_0 : decode m_O_fed.2.1 0 = .ok (.aload_n 0, 1) := by decide +kernel
theorem d_O_fed_1 : decode m_O_fed.2.1 1 = .ok (.getfield 51, 3) := by decide +kernel
theorem d_O_fed_4 : decode m_O_fed.2.1 4 = .ok (.aload_n 0, 1) := by decide +kernel
theorem d_O_fed_5 : decode m_O_fed.2.1 5 = .ok (.getfield 26, 3) := by decide +kernel
theorem d_O_fed_8 : decode m_O_fed.2.1 8 = .ok (.invokevirtual 186, 3) := by decide +kernel
theorem d_O_fed_11 : decode m_O_fed.2.1 11 = .ok (.aload_n 0, 1) := by decide +kernel
theorem d_O_fed_12 : decode m_O_fed.2.1 12 = .ok (.getfield 51, 3) := by decide +kernel
theorem d_O_fed_15 : decode m_O_fed.2.1 15 = .ok (.invokevirtual 189, 3) := by decide +kernel
theorem d_O_fed_18 : decode m_O_fed.2.1 18 = .ok (.istore_n 2, 1) := by decide +kernel
theorem d_O_fed_19 : decode m_O_fed.2.1 19 = .ok (.iload_n 1, 1) := by decide +kernel
theorem d_O_fed_20 : decode m_O_fed.2.1 20 = .ok (.iconst (-1), 1) := by decide +kernel
theorem d_O_fed_21 : decode m_O_fed.2.1 21 = .ok (.if_icmp .ne 5, 3) := by decide +kernel
theorem d_O_fed_24 : decode m_O_fed.2.1 24 = .ok (.iload_n 2, 1) := by decide +kernel
theorem d_O_fed_25 : decode m_O_fed.2.1 25 = .ok (.ireturn, 1) := by decide +kernel
theorem d_O_fed_26 : decode m_O_fed.2.1 26 = .ok (.iload_n 1, 1) := by decide +kernel
theorem d_O_fed_27 : decode m_O_fed.2.1 27 = .ok (.invokestatic 111, 3) := by decide +kernel
theorem d_O_fed_30 : decode m_O_fed.2.1 30 = .ok (.ifCond .eq 15, 3) := by decide +kernel
theorem d_O_fed_33 : decode m_O_fed.2.1 33 = .ok (.aload_n 0, 1) := by decide +kernel
theorem d_O_fed_34 : decode m_O_fed.2.1 34 = .ok (.getfield 51, 3) := by decide +kernel
theorem d_O_fed_37 : decode m_O_fed.2.1 37 = .ok (.getfield 192, 3) := by decide +kernel
theorem d_O_fed_40 : decode m_O_fed.2.1 40 = .ok (.iload_n 1, 1) := by decide +kernel
theorem d_O_fed_41 : decode m_O_fed.2.1 41 = .ok (.iaload, 1) := by decide +kernel
theorem d_O_fed_42 : decode m_O_fed.2.1 42 = .ok (.goto 5, 3) := by decide +kernel
theorem d_O_fed_45 : decode m_O_fed.2.1 45 = .ok (.bipush (-6), 2) := by decide +kernel
theorem d_O_fed_47 : decode m_O_fed.2.1 47 = .ok (.ireturn, 1) := by decide +kernel
theorem d_O_filled_0 : decode m_O_filled.2.1 0 = .ok (.aload_n 0, 1) := by decide +kernel
theorem d_O_filled_1 : decode m_O_filled.2.1 1 = .ok (.getfield 44, 3) := by decide +kernel
theorem d_O_filled_4 : decode m_O_filled.2.1 4 = .ok (.aload_n 0, 1) := by decide +kernel
theorem d_O_filled_5 : decode m_O_filled.2.1 5 = .ok (.getfield 26, 3) := by decide +kernel
theorem d_O_filled_8 : decode m_O_filled.2.1 8 = .ok (.invokevirtual 169, 3) := by decide +kernel
theorem d_O_filled_11 : decode m_O_filled.2.1 11 = .ok (.iload_n 1, 1) := by decide +kernel
theorem d_O_filled_12 : decode m_O_filled.2.1 12 = .ok (.iconst (-1), 1) := by decide +kernel
theorem d_O_filled_13 : decode m_O_filled.2.1 13 = .ok (.if_icmp .ne 11, 3) := by decide +kernel
theorem d_O_filled_16 : decode m_O_filled.2.1 16 = .ok (.aload_n 0, 1) := by decide +kernel
theorem d_O_filled_17 : decode m_O_filled.2.1 17 = .ok (.getfield 44, 3) := by decide +kernel
theorem d_O_filled_20 : decode m_O_filled.2.1 20 = .ok (.invokevirtual 173, 3) := by decide +kernel
theorem d_O_filled_23 : decode m_O_filled.2.1 23 = .ok (.ireturn, 1) := by decide +kernel
theorem d_O_filled_24 : decode m_O_filled.2.1 24 = .ok (.aload_n 0, 1) := by decide +kernel
theorem d_O_filled_25 : decode m_O_filled.2.1 25 = .ok (.getfield 44, 3) := by decide +kernel
theorem d_O_filled_28 : decode m_O_filled.2.1 28 = .ok (.iload_n 1, 1) := by decide +kernel
theorem d_O_filled_29 : decode m_O_filled.2.1 29 = .ok (.invokevirtual 176, 3) := by decide +kernel
theorem d_O_filled_32 : decode m_O_filled.2.1 32 = .ok (.ireturn, 1) := by decide +kernel
theorem d_O_forget_0 : decode m_O_forget.2.1 0 = .ok (.aload_n 0, 1) := by decide +kernel
theorem d_O_forget_1 : decode m_O_forget.2.1 1 = .ok (.getfield 26, 3) := by decide +kernel
theorem d_O_forget_4 : decode m_O_forget.2.1 4 = .ok (.invokevirtual 166, 3) := by decide +kernel
theorem d_O_forget_7 : decode m_O_forget.2.1 7 = .ok (.ireturn, 1) := by decide +kernel
theorem d_O_has_0 : decode m_O_has.2.1 0 = .ok (.iload_n 0, 1) := by decide +kernel
theorem d_O_has_1 : decode m_O_has.2.1 1 = .ok (.iload_n 1, 1) := by decide +kernel
theorem d_O_has_2 : decode m_O_has.2.1 2 = .ok (.ishr, 1) := by decide +kernel
theorem d_O_has_3 : decode m_O_has.2.1 3 = .ok (.iconst 1, 1) := by decide +kernel
theorem d_O_has_4 : decode m_O_has.2.1 4 = .ok (.iand, 1) := by decide +kernel
theorem d_O_has_5 : decode m_O_has.2.1 5 = .ok (.ifCond .eq 7, 3) := by decide +kernel
theorem d_O_has_8 : decode m_O_has.2.1 8 = .ok (.iconst 1, 1) := by decide +kernel
theorem d_O_has_9 : decode m_O_has.2.1 9 = .ok (.goto 4, 3) := by decide +kernel
theorem d_O_has_12 : decode m_O_has.2.1 12 = .ok (.iconst 0, 1) := by decide +kernel
theorem d_O_has_13 : decode m_O_has.2.1 13 = .ok (.ireturn, 1) := by decide +kernel
theorem d_O_image_0 : decode m_O_image.2.1 0 = .ok (.iload_n 1, 1) := by decide +kernel
theorem d_O_image_1 : decode m_O_image.2.1 1 = .ok (.ifCond .lt 8, 3) := by decide +kernel
theorem d_O_image_4 : decode m_O_image.2.1 4 = .ok (.iload_n 1, 1) := by decide +kernel
theorem d_O_image_5 : decode m_O_image.2.1 5 = .ok (.iconst 2, 1) := by decide +kernel
theorem d_O_image_6 : decode m_O_image.2.1 6 = .ok (.if_icmp .lt 6, 3) := by decide +kernel
theorem d_O_image_9 : decode m_O_image.2.1 9 = .ok (.bipush (-2), 2) := by decide +kernel
theorem d_O_image_11 : decode m_O_image.2.1 11 = .ok (.ireturn, 1) := by decide +kernel
theorem d_O_image_12 : decode m_O_image.2.1 12 = .ok (.aload_n 0, 1) := by decide +kernel
theorem d_O_image_13 : decode m_O_image.2.1 13 = .ok (.getfield 30, 3) := by decide +kernel
theorem d_O_image_16 : decode m_O_image.2.1 16 = .ok (.iload_n 1, 1) := by decide +kernel
theorem d_O_image_17 : decode m_O_image.2.1 17 = .ok (.aaload, 1) := by decide +kernel
theorem d_O_image_18 : decode m_O_image.2.1 18 = .ok (.astore_n 2, 1) := by decide +kernel
theorem d_O_image_19 : decode m_O_image.2.1 19 = .ok (.aload_n 2, 1) := by decide +kernel
theorem d_O_image_20 : decode m_O_image.2.1 20 = .ok (.ifnonnull 18, 3) := by decide +kernel
theorem d_O_image_23 : decode m_O_image.2.1 23 = .ok (.new 23, 3) := by decide +kernel
theorem d_O_image_26 : decode m_O_image.2.1 26 = .ok (.dup, 1) := by decide +kernel
theorem d_O_image_27 : decode m_O_image.2.1 27 = .ok (.invokespecial 25, 3) := by decide +kernel
theorem d_O_image_30 : decode m_O_image.2.1 30 = .ok (.astore_n 2, 1) := by decide +kernel
theorem d_O_image_31 : decode m_O_image.2.1 31 = .ok (.aload_n 0, 1) := by decide +kernel
theorem d_O_image_32 : decode m_O_image.2.1 32 = .ok (.getfield 30, 3) := by decide +kernel
theorem d_O_image_35 : decode m_O_image.2.1 35 = .ok (.iload_n 1, 1) := by decide +kernel
theorem d_O_image_36 : decode m_O_image.2.1 36 = .ok (.aload_n 2, 1) := by decide +kernel
theorem d_O_image_37 : decode m_O_image.2.1 37 = .ok (.aastore, 1) := by decide +kernel
theorem d_O_image_38 : decode m_O_image.2.1 38 = .ok (.aload_n 2, 1) := by decide +kernel
theorem d_O_image_39 : decode m_O_image.2.1 39 = .ok (.aload_n 0, 1) := by decide +kernel
theorem d_O_image_40 : decode m_O_image.2.1 40 = .ok (.getfield 26, 3) := by decide +kernel
theorem d_O_image_43 : decode m_O_image.2.1 43 = .ok (.invokevirtual 232, 3) := by decide +kernel
theorem d_O_image_46 : decode m_O_image.2.1 46 = .ok (.iconst 1, 1) := by decide +kernel
theorem d_O_image_47 : decode m_O_image.2.1 47 = .ok (.ireturn, 1) := by decide +kernel
theorem d_O_init_0 : decode m_O_init.2.1 0 = .ok (.aload_n 0, 1) := by decide +kernel
theorem d_O_init_1 : decode m_O_init.2.1 1 = .ok (.invokespecial 3, 3) := by decide +kernel
theorem d_O_init_4 : decode m_O_init.2.1 4 = .ok (.aload_n 0, 1) := by decide +kernel
theorem d_O_init_5 : decode m_O_init.2.1 5 = .ok (.new 9, 3) := by decide +kernel
theorem d_O_init_8 : decode m_O_init.2.1 8 = .ok (.dup, 1) := by decide +kernel
theorem d_O_init_9 : decode m_O_init.2.1 9 = .ok (.invokespecial 11, 3) := by decide +kernel
theorem d_O_init_12 : decode m_O_init.2.1 12 = .ok (.putfield 12, 3) := by decide +kernel
theorem d_O_init_15 : decode m_O_init.2.1 15 = .ok (.aload_n 0, 1) := by decide +kernel
theorem d_O_init_16 : decode m_O_init.2.1 16 = .ok (.new 16, 3) := by decide +kernel
theorem d_O_init_19 : decode m_O_init.2.1 19 = .ok (.dup, 1) := by decide +kernel
theorem d_O_init_20 : decode m_O_init.2.1 20 = .ok (.invokespecial 18, 3) := by decide +kernel
theorem d_O_init_23 : decode m_O_init.2.1 23 = .ok (.putfield 19, 3) := by decide +kernel
theorem d_O_init_26 : decode m_O_init.2.1 26 = .ok (.aload_n 0, 1) := by decide +kernel
theorem d_O_init_27 : decode m_O_init.2.1 27 = .ok (.new 23, 3) := by decide +kernel
theorem d_O_init_30 : decode m_O_init.2.1 30 = .ok (.dup, 1) := by decide +kernel
theorem d_O_init_31 : decode m_O_init.2.1 31 = .ok (.invokespecial 25, 3) := by decide +kernel
theorem d_O_init_34 : decode m_O_init.2.1 34 = .ok (.putfield 26, 3) := by decide +kernel
theorem d_O_init_37 : decode m_O_init.2.1 37 = .ok (.aload_n 0, 1) := by decide +kernel
theorem d_O_init_38 : decode m_O_init.2.1 38 = .ok (.iconst 2, 1) := by decide +kernel
theorem d_O_init_39 : decode m_O_init.2.1 39 = .ok (.anewarray 23, 3) := by decide +kernel
theorem d_O_init_42 : decode m_O_init.2.1 42 = .ok (.putfield 30, 3) := by decide +kernel
theorem d_O_init_45 : decode m_O_init.2.1 45 = .ok (.aload_n 0, 1) := by decide +kernel
theorem d_O_init_46 : decode m_O_init.2.1 46 = .ok (.new 34, 3) := by decide +kernel
theorem d_O_init_49 : decode m_O_init.2.1 49 = .ok (.dup, 1) := by decide +kernel
theorem d_O_init_50 : decode m_O_init.2.1 50 = .ok (.invokespecial 36, 3) := by decide +kernel
theorem d_O_init_53 : decode m_O_init.2.1 53 = .ok (.putfield 37, 3) := by decide +kernel
theorem d_O_init_56 : decode m_O_init.2.1 56 = .ok (.aload_n 0, 1) := by decide +kernel
theorem d_O_init_57 : decode m_O_init.2.1 57 = .ok (.new 41, 3) := by decide +kernel
theorem d_O_init_60 : decode m_O_init.2.1 60 = .ok (.dup, 1) := by decide +kernel
theorem d_O_init_61 : decode m_O_init.2.1 61 = .ok (.invokespecial 43, 3) := by decide +kernel
theorem d_O_init_64 : decode m_O_init.2.1 64 = .ok (.putfield 44, 3) := by decide +kernel
theorem d_O_init_67 : decode m_O_init.2.1 67 = .ok (.aload_n 0, 1) := by decide +kernel
theorem d_O_init_68 : decode m_O_init.2.1 68 = .ok (.new 48, 3) := by decide +kernel
theorem d_O_init_71 : decode m_O_init.2.1 71 = .ok (.dup, 1) := by decide +kernel
theorem d_O_init_72 : decode m_O_init.2.1 72 = .ok (.invokespecial 50, 3) := by decide +kernel
theorem d_O_init_75 : decode m_O_init.2.1 75 = .ok (.putfield 51, 3) := by decide +kernel
theorem d_O_init_78 : decode m_O_init.2.1 78 = .ok (.aload_n 0, 1) := by decide +kernel
theorem d_O_init_79 : decode m_O_init.2.1 79 = .ok (.new 55, 3) := by decide +kernel
theorem d_O_init_82 : decode m_O_init.2.1 82 = .ok (.dup, 1) := by decide +kernel
theorem d_O_init_83 : decode m_O_init.2.1 83 = .ok (.invokespecial 57, 3) := by decide +kernel
theorem d_O_init_86 : decode m_O_init.2.1 86 = .ok (.putfield 58, 3) := by decide +kernel
theorem d_O_init_89 : decode m_O_init.2.1 89 = .ok (.return_, 1) := by decide +kernel
theorem d_O_isMan_0 : decode m_O_isMan.2.1 0 = .ok (.iload_n 0, 1) := by decide +kernel
theorem d_O_isMan_1 : decode m_O_isMan.2.1 1 = .ok (.ifCond .lt 13, 3) := by decide +kernel
theorem d_O_isMan_4 : decode m_O_isMan.2.1 4 = .ok (.iload_n 0, 1) := by decide +kernel
theorem d_O_isMan_5 : decode m_O_isMan.2.1 5 = .ok (.bipush 6, 2) := by decide +kernel
theorem d_O_isMan_7 : decode m_O_isMan.2.1 7 = .ok (.if_icmp .ge 7, 3) := by decide +kernel
theorem d_O_isMan_10 : decode m_O_isMan.2.1 10 = .ok (.iconst 1, 1) := by decide +kernel
theorem d_O_isMan_11 : decode m_O_isMan.2.1 11 = .ok (.goto 4, 3) := by decide +kernel
theorem d_O_isMan_14 : decode m_O_isMan.2.1 14 = .ok (.iconst 0, 1) := by decide +kernel
theorem d_O_isMan_15 : decode m_O_isMan.2.1 15 = .ok (.ireturn, 1) := by decide +kernel
theorem d_O_isThing_0 : decode m_O_isThing.2.1 0 = .ok (.iload_n 1, 1) := by decide +kernel
theorem d_O_isThing_1 : decode m_O_isThing.2.1 1 = .ok (.ifCond .lt 21, 3) := by decide +kernel
theorem d_O_isThing_4 : decode m_O_isThing.2.1 4 = .ok (.iload_n 1, 1) := by decide +kernel
theorem d_O_isThing_5 : decode m_O_isThing.2.1 5 = .ok (.aload_n 0, 1) := by decide +kernel
theorem d_O_isThing_6 : decode m_O_isThing.2.1 6 = .ok (.getfield 26, 3) := by decide +kernel
theorem d_O_isThing_9 : decode m_O_isThing.2.1 9 = .ok (.getfield 82, 3) := by decide +kernel
theorem d_O_isThing_12 : decode m_O_isThing.2.1 12 = .ok (.getfield 85, 3) := by decide +kernel
theorem d_O_isThing_15 : decode m_O_isThing.2.1 15 = .ok (.if_icmp .ge 7, 3) := by decide +kernel
theorem d_O_isThing_18 : decode m_O_isThing.2.1 18 = .ok (.iconst 1, 1) := by decide +kernel
theorem d_O_isThing_19 : decode m_O_isThing.2.1 19 = .ok (.goto 4, 3) := by decide +kernel
theorem d_O_isThing_22 : decode m_O_isThing.2.1 22 = .ok (.iconst 0, 1) := by decide +kernel
theorem d_O_isThing_23 : decode m_O_isThing.2.1 23 = .ok (.ireturn, 1) := by decide +kernel
theorem d_O_join_0 : decode m_O_join.2.1 0 = .ok (.iload_n 1, 1) := by decide +kernel
theorem d_O_join_1 : decode m_O_join.2.1 1 = .ok (.invokestatic 111, 3) := by decide +kernel
theorem d_O_join_4 : decode m_O_join.2.1 4 = .ok (.ifCond .eq 15, 3) := by decide +kernel
theorem d_O_join_7 : decode m_O_join.2.1 7 = .ok (.iload_n 2, 1) := by decide +kernel
theorem d_O_join_8 : decode m_O_join.2.1 8 = .ok (.invokestatic 111, 3) := by decide +kernel
theorem d_O_join_11 : decode m_O_join.2.1 11 = .ok (.ifCond .eq 8, 3) := by decide +kernel
theorem d_O_join_14 : decode m_O_join.2.1 14 = .ok (.iload_n 1, 1) := by decide +kernel
theorem d_O_join_15 : decode m_O_join.2.1 15 = .ok (.iload_n 2, 1) := by decide +kernel
theorem d_O_join_16 : decode m_O_join.2.1 16 = .ok (.if_icmp .ne 5, 3) := by decide +kernel
theorem d_O_join_19 : decode m_O_join.2.1 19 = .ok (.iconst (-1), 1) := by decide +kernel
theorem d_O_join_20 : decode m_O_join.2.1 20 = .ok (.ireturn, 1) := by decide +kernel
theorem d_O_join_21 : decode m_O_join.2.1 21 = .ok (.aload_n 0, 1) := by decide +kernel
theorem d_O_join_22 : decode m_O_join.2.1 22 = .ok (.getfield 26, 3) := by decide +kernel
theorem d_O_join_25 : decode m_O_join.2.1 25 = .ok (.getfield 114, 3) := by decide +kernel
theorem d_O_join_28 : decode m_O_join.2.1 28 = .ok (.iload_n 1, 1) := by decide +kernel
theorem d_O_join_29 : decode m_O_join.2.1 29 = .ok (.iaload, 1) := by decide +kernel
theorem d_O_join_30 : decode m_O_join.2.1 30 = .ok (.bipush (-6), 2) := by decide +kernel
theorem d_O_join_32 : decode m_O_join.2.1 32 = .ok (.if_icmp .ne 17, 3) := by decide +kernel
theorem d_O_join_35 : decode m_O_join.2.1 35 = .ok (.aload_n 0, 1) := by decide +kernel
theorem d_O_join_36 : decode m_O_join.2.1 36 = .ok (.getfield 26, 3) := by decide +kernel
theorem d_O_join_39 : decode m_O_join.2.1 39 = .ok (.getfield 114, 3) := by decide +kernel
theorem d_O_join_42 : decode m_O_join.2.1 42 = .ok (.iload_n 2, 1) := by decide +kernel
theorem d_O_join_43 : decode m_O_join.2.1 43 = .ok (.iaload, 1) := by decide +kernel
theorem d_O_join_44 : decode m_O_join.2.1 44 = .ok (.bipush (-6), 2) := by decide +kernel
theorem d_O_join_46 : decode m_O_join.2.1 46 = .ok (.if_icmp .eq 6, 3) := by decide +kernel
theorem d_O_join_49 : decode m_O_join.2.1 49 = .ok (.bipush (-3), 2) := by decide +kernel
theorem d_O_join_51 : decode m_O_join.2.1 51 = .ok (.ireturn, 1) := by decide +kernel
theorem d_O_join_52 : decode m_O_join.2.1 52 = .ok (.aload_n 0, 1) := by decide +kernel
theorem d_O_join_53 : decode m_O_join.2.1 53 = .ok (.getfield 26, 3) := by decide +kernel
theorem d_O_join_56 : decode m_O_join.2.1 56 = .ok (.getfield 114, 3) := by decide +kernel
theorem d_O_join_59 : decode m_O_join.2.1 59 = .ok (.iload_n 1, 1) := by decide +kernel
theorem d_O_join_60 : decode m_O_join.2.1 60 = .ok (.iload_n 2, 1) := by decide +kernel
theorem d_O_join_61 : decode m_O_join.2.1 61 = .ok (.iastore, 1) := by decide +kernel
theorem d_O_join_62 : decode m_O_join.2.1 62 = .ok (.aload_n 0, 1) := by decide +kernel
theorem d_O_join_63 : decode m_O_join.2.1 63 = .ok (.getfield 26, 3) := by decide +kernel
theorem d_O_join_66 : decode m_O_join.2.1 66 = .ok (.getfield 114, 3) := by decide +kernel
theorem d_O_join_69 : decode m_O_join.2.1 69 = .ok (.iload_n 2, 1) := by decide +kernel
theorem d_O_join_70 : decode m_O_join.2.1 70 = .ok (.iload_n 1, 1) := by decide +kernel
theorem d_O_join_71 : decode m_O_join.2.1 71 = .ok (.iastore, 1) := by decide +kernel
theorem d_O_join_72 : decode m_O_join.2.1 72 = .ok (.iconst 1, 1) := by decide +kernel
theorem d_O_join_73 : decode m_O_join.2.1 73 = .ok (.ireturn, 1) := by decide +kernel
theorem d_O_lack_0 : decode m_O_lack.2.1 0 = .ok (.aload_n 0, 1) := by decide +kernel
theorem d_O_lack_1 : decode m_O_lack.2.1 1 = .ok (.getfield 51, 3) := by decide +kernel
theorem d_O_lack_4 : decode m_O_lack.2.1 4 = .ok (.aload_n 0, 1) := by decide +kernel
theorem d_O_lack_5 : decode m_O_lack.2.1 5 = .ok (.getfield 26, 3) := by decide +kernel
theorem d_O_lack_8 : decode m_O_lack.2.1 8 = .ok (.invokevirtual 186, 3) := by decide +kernel
theorem d_O_lack_11 : decode m_O_lack.2.1 11 = .ok (.aload_n 0, 1) := by decide +kernel
theorem d_O_lack_12 : decode m_O_lack.2.1 12 = .ok (.getfield 51, 3) := by decide +kernel
theorem d_O_lack_15 : decode m_O_lack.2.1 15 = .ok (.invokevirtual 195, 3) := by decide +kernel
theorem d_O_lack_18 : decode m_O_lack.2.1 18 = .ok (.ireturn, 1) := by decide +kernel
theorem d_O_leastOf_0 : decode m_O_leastOf.2.1 0 = .ok (.iconst 0, 1) := by decide +kernel
theorem d_O_leastOf_1 : decode m_O_leastOf.2.1 1 = .ok (.istore_n 1, 1) := by decide +kernel
theorem d_O_leastOf_2 : decode m_O_leastOf.2.1 2 = .ok (.iload_n 1, 1) := by decide +kernel
theorem d_O_leastOf_3 : decode m_O_leastOf.2.1 3 = .ok (.bipush 10, 2) := by decide +kernel
theorem d_O_leastOf_5 : decode m_O_leastOf.2.1 5 = .ok (.if_icmp .ge 19, 3) := by decide +kernel
theorem d_O_leastOf_8 : decode m_O_leastOf.2.1 8 = .ok (.iload_n 0, 1) := by decide +kernel
theorem d_O_leastOf_9 : decode m_O_leastOf.2.1 9 = .ok (.iload_n 1, 1) := by decide +kernel
theorem d_O_leastOf_10 : decode m_O_leastOf.2.1 10 = .ok (.invokestatic 242, 3) := by decide +kernel
theorem d_O_leastOf_13 : decode m_O_leastOf.2.1 13 = .ok (.ifCond .eq 5, 3) := by decide +kernel
theorem d_O_leastOf_16 : decode m_O_leastOf.2.1 16 = .ok (.iload_n 1, 1) := by decide +kernel
theorem d_O_leastOf_17 : decode m_O_leastOf.2.1 17 = .ok (.ireturn, 1) := by decide +kernel
theorem d_O_leastOf_18 : decode m_O_leastOf.2.1 18 = .ok (.iinc 1 1, 3) := by decide +kernel
theorem d_O_leastOf_21 : decode m_O_leastOf.2.1 21 = .ok (.goto (-19), 3) := by decide +kernel
theorem d_O_leastOf_24 : decode m_O_leastOf.2.1 24 = .ok (.bipush (-6), 2) := by decide +kernel
theorem d_O_leastOf_26 : decode m_O_leastOf.2.1 26 = .ok (.ireturn, 1) := by decide +kernel
theorem d_O_loaves_0 : decode m_O_loaves.2.1 0 = .ok (.aload_n 0, 1) := by decide +kernel
theorem d_O_loaves_1 : decode m_O_loaves.2.1 1 = .ok (.iload_n 1, 1) := by decide +kernel
theorem d_O_loaves_2 : decode m_O_loaves.2.1 2 = .ok (.invokevirtual 91, 3) := by decide +kernel
theorem d_O_loaves_5 : decode m_O_loaves.2.1 5 = .ok (.ifCond .ne 5, 3) := by decide +kernel
theorem d_O_loaves_8 : decode m_O_loaves.2.1 8 = .ok (.iconst (-1), 1) := by decide +kernel
theorem d_O_loaves_9 : decode m_O_loaves.2.1 9 = .ok (.ireturn, 1) := by decide +kernel
theorem d_O_loaves_10 : decode m_O_loaves.2.1 10 = .ok (.iload_n 2, 1) := by decide +kernel
theorem d_O_loaves_11 : decode m_O_loaves.2.1 11 = .ok (.ifCond .lt 9, 3) := by decide +kernel
theorem d_O_loaves_14 : decode m_O_loaves.2.1 14 = .ok (.iload_n 2, 1) := by decide +kernel
theorem d_O_loaves_15 : decode m_O_loaves.2.1 15 = .ok (.bipush 9, 2) := by decide +kernel
theorem d_O_loaves_17 : decode m_O_loaves.2.1 17 = .ok (.if_icmp .le 6, 3) := by decide +kernel
theorem d_O_loaves_20 : decode m_O_loaves.2.1 20 = .ok (.bipush (-2), 2) := by decide +kernel
theorem d_O_loaves_22 : decode m_O_loaves.2.1 22 = .ok (.ireturn, 1) := by decide +kernel
theorem d_O_loaves_23 : decode m_O_loaves.2.1 23 = .ok (.aload_n 0, 1) := by decide +kernel
theorem d_O_loaves_24 : decode m_O_loaves.2.1 24 = .ok (.getfield 26, 3) := by decide +kernel
theorem d_O_loaves_27 : decode m_O_loaves.2.1 27 = .ok (.getfield 124, 3) := by decide +kernel
theorem d_O_loaves_30 : decode m_O_loaves.2.1 30 = .ok (.iload_n 1, 1) := by decide +kernel
theorem d_O_loaves_31 : decode m_O_loaves.2.1 31 = .ok (.iaload, 1) := by decide +kernel
theorem d_O_loaves_32 : decode m_O_loaves.2.1 32 = .ok (.istore_n 3, 1) := by decide +kernel
theorem d_O_loaves_33 : decode m_O_loaves.2.1 33 = .ok (.aload_n 0, 1) := by decide +kernel
theorem d_O_loaves_34 : decode m_O_loaves.2.1 34 = .ok (.getfield 26, 3) := by decide +kernel
theorem d_O_loaves_37 : decode m_O_loaves.2.1 37 = .ok (.getfield 124, 3) := by decide +kernel
theorem d_O_loaves_40 : decode m_O_loaves.2.1 40 = .ok (.iload_n 1, 1) := by decide +kernel
theorem d_O_loaves_41 : decode m_O_loaves.2.1 41 = .ok (.iload_n 2, 1) := by decide +kernel
theorem d_O_loaves_42 : decode m_O_loaves.2.1 42 = .ok (.iastore, 1) := by decide +kernel
theorem d_O_loaves_43 : decode m_O_loaves.2.1 43 = .ok (.iload_n 3, 1) := by decide +kernel
theorem d_O_loaves_44 : decode m_O_loaves.2.1 44 = .ok (.ireturn, 1) := by decide +kernel
theorem d_O_makers_0 : decode m_O_makers.2.1 0 = .ok (.iload_n 1, 1) := by decide +kernel
theorem d_O_makers_1 : decode m_O_makers.2.1 1 = .ok (.iconst 1, 1) := by decide +kernel
theorem d_O_makers_2 : decode m_O_makers.2.1 2 = .ok (.if_icmp .lt 18, 3) := by decide +kernel
theorem d_O_makers_5 : decode m_O_makers.2.1 5 = .ok (.iload_n 1, 1) := by decide +kernel
theorem d_O_makers_6 : decode m_O_makers.2.1 6 = .ok (.bipush 6, 2) := by decide +kernel
theorem d_O_makers_8 : decode m_O_makers.2.1 8 = .ok (.if_icmp .gt 12, 3) := by decide +kernel
theorem d_O_makers_11 : decode m_O_makers.2.1 11 = .ok (.iload_n 2, 1) := by decide +kernel
theorem d_O_makers_12 : decode m_O_makers.2.1 12 = .ok (.ifCond .lt 8, 3) := by decide +kernel
theorem d_O_makers_15 : decode m_O_makers.2.1 15 = .ok (.iload_n 2, 1) := by decide +kernel
theorem d_O_makers_16 : decode m_O_makers.2.1 16 = .ok (.iconst 1, 1) := by decide +kernel
theorem d_O_makers_17 : decode m_O_makers.2.1 17 = .ok (.if_icmp .le 6, 3) := by decide +kernel
theorem d_O_makers_20 : decode m_O_makers.2.1 20 = .ok (.bipush (-2), 2) := by decide +kernel
theorem d_O_makers_22 : decode m_O_makers.2.1 22 = .ok (.ireturn, 1) := by decide +kernel
theorem d_O_makers_23 : decode m_O_makers.2.1 23 = .ok (.aload_n 0, 1) := by decide +kernel
theorem d_O_makers_24 : decode m_O_makers.2.1 24 = .ok (.getfield 26, 3) := by decide +kernel
theorem d_O_makers_27 : decode m_O_makers.2.1 27 = .ok (.iload_n 1, 1) := by decide +kernel
theorem d_O_makers_28 : decode m_O_makers.2.1 28 = .ok (.invokestatic 198, 3) := by decide +kernel
theorem d_O_makers_31 : decode m_O_makers.2.1 31 = .ok (.istore_n 3, 1) := by decide +kernel
theorem d_O_makers_32 : decode m_O_makers.2.1 32 = .ok (.iload_n 2, 1) := by decide +kernel
theorem d_O_makers_33 : decode m_O_makers.2.1 33 = .ok (.iconst 1, 1) := by decide +kernel
theorem d_O_makers_34 : decode m_O_makers.2.1 34 = .ok (.if_icmp .eq 9, 3) := by decide +kernel
theorem d_O_makers_37 : decode m_O_makers.2.1 37 = .ok (.iload_n 3, 1) := by decide +kernel
theorem d_O_makers_38 : decode m_O_makers.2.1 38 = .ok (.bipush (-6), 2) := by decide +kernel
theorem d_O_makers_40 : decode m_O_makers.2.1 40 = .ok (.if_icmp .ne 7, 3) := by decide +kernel
theorem d_O_makers_43 : decode m_O_makers.2.1 43 = .ok (.iload_n 3, 1) := by decide +kernel
theorem d_O_makers_44 : decode m_O_makers.2.1 44 = .ok (.goto 7, 3) := by decide +kernel
theorem d_O_makers_47 : decode m_O_makers.2.1 47 = .ok (.iload_n 3, 1) := by decide +kernel
theorem d_O_makers_48 : decode m_O_makers.2.1 48 = .ok (.invokestatic 203, 3) := by decide +kernel
theorem d_O_makers_51 : decode m_O_makers.2.1 51 = .ok (.ireturn, 1) := by decide +kernel
theorem d_O_married_0 : decode m_O_married.2.1 0 = .ok (.aload_n 0, 1) := by decide +kernel
theorem d_O_married_1 : decode m_O_married.2.1 1 = .ok (.getfield 58, 3) := by decide +kernel
theorem d_O_married_4 : decode m_O_married.2.1 4 = .ok (.aload_n 0, 1) := by decide +kernel
theorem d_O_married_5 : decode m_O_married.2.1 5 = .ok (.getfield 26, 3) := by decide +kernel
theorem d_O_married_8 : decode m_O_married.2.1 8 = .ok (.invokevirtual 219, 3) := by decide +kernel
theorem d_O_married_11 : decode m_O_married.2.1 11 = .ok (.istore_n 2, 1) := by decide +kernel
theorem d_O_married_12 : decode m_O_married.2.1 12 = .ok (.iload_n 1, 1) := by decide +kernel
theorem d_O_married_13 : decode m_O_married.2.1 13 = .ok (.iconst (-1), 1) := by decide +kernel
theorem d_O_married_14 : decode m_O_married.2.1 14 = .ok (.if_icmp .ne 5, 3) := by decide +kernel
theorem d_O_married_17 : decode m_O_married.2.1 17 = .ok (.iload_n 2, 1) := by decide +kernel
theorem d_O_married_18 : decode m_O_married.2.1 18 = .ok (.ireturn, 1) := by decide +kernel
theorem d_O_married_19 : decode m_O_married.2.1 19 = .ok (.iload_n 1, 1) := by decide +kernel
theorem d_O_married_20 : decode m_O_married.2.1 20 = .ok (.invokestatic 111, 3) := by decide +kernel
theorem d_O_married_23 : decode m_O_married.2.1 23 = .ok (.ifCond .eq 15, 3) := by decide +kernel
theorem d_O_married_26 : decode m_O_married.2.1 26 = .ok (.aload_n 0, 1) := by decide +kernel
theorem d_O_married_27 : decode m_O_married.2.1 27 = .ok (.getfield 58, 3) := by decide +kernel
theorem d_O_married_30 : decode m_O_married.2.1 30 = .ok (.getfield 223, 3) := by decide +kernel
theorem d_O_married_33 : decode m_O_married.2.1 33 = .ok (.iload_n 1, 1) := by decide +kernel
theorem d_O_married_34 : decode m_O_married.2.1 34 = .ok (.iaload, 1) := by decide +kernel
theorem d_O_married_35 : decode m_O_married.2.1 35 = .ok (.goto 5, 3) := by decide +kernel
theorem d_O_married_38 : decode m_O_married.2.1 38 = .ok (.bipush (-6), 2) := by decide +kernel
theorem d_O_married_40 : decode m_O_married.2.1 40 = .ok (.ireturn, 1) := by decide +kernel
theorem d_O_may_0 : decode m_O_may.2.1 0 = .ok (.iload_n 1, 1) := by decide +kernel
theorem d_O_may_1 : decode m_O_may.2.1 1 = .ok (.invokestatic 111, 3) := by decide +kernel
theorem d_O_may_4 : decode m_O_may.2.1 4 = .ok (.ifCond .ne 5, 3) := by decide +kernel
theorem d_O_may_7 : decode m_O_may.2.1 7 = .ok (.iconst (-1), 1) := by decide +kernel
theorem d_O_may_8 : decode m_O_may.2.1 8 = .ok (.ireturn, 1) := by decide +kernel
theorem d_O_may_9 : decode m_O_may.2.1 9 = .ok (.iload_n 2, 1) := by decide +kernel
theorem d_O_may_10 : decode m_O_may.2.1 10 = .ok (.lookupswitch 44 #[(0, 26), (1, 35)], 26) := by decide +kernel
theorem d_O_may_36 : decode m_O_may.2.1 36 = .ok (.aload_n 0, 1) := by decide +kernel
theorem d_O_may_37 : decode m_O_may.2.1 37 = .ok (.getfield 26, 3) := by decide +kernel
theorem d_O_may_40 : decode m_O_may.2.1 40 = .ok (.iload_n 1, 1) := by decide +kernel
theorem d_O_may_41 : decode m_O_may.2.1 41 = .ok (.invokevirtual 143, 3) := by decide +kernel
theorem d_O_may_44 : decode m_O_may.2.1 44 = .ok (.ireturn, 1) := by decide +kernel
theorem d_O_may_45 : decode m_O_may.2.1 45 = .ok (.aload_n 0, 1) := by decide +kernel
theorem d_O_may_46 : decode m_O_may.2.1 46 = .ok (.getfield 26, 3) := by decide +kernel
theorem d_O_may_49 : decode m_O_may.2.1 49 = .ok (.iload_n 1, 1) := by decide +kernel
theorem d_O_may_50 : decode m_O_may.2.1 50 = .ok (.invokevirtual 146, 3) := by decide +kernel
theorem d_O_may_53 : decode m_O_may.2.1 53 = .ok (.ireturn, 1) := by decide +kernel
theorem d_O_may_54 : decode m_O_may.2.1 54 = .ok (.bipush (-2), 2) := by decide +kernel
theorem d_O_may_56 : decode m_O_may.2.1 56 = .ok (.ireturn, 1) := by decide +kernel
theorem d_O_near_0 : decode m_O_near.2.1 0 = .ok (.aload_n 0, 1) := by decide +kernel
theorem d_O_near_1 : decode m_O_near.2.1 1 = .ok (.iload_n 1, 1) := by decide +kernel
theorem d_O_near_2 : decode m_O_near.2.1 2 = .ok (.invokevirtual 91, 3) := by decide +kernel
theorem d_O_near_5 : decode m_O_near.2.1 5 = .ok (.ifCond .eq 10, 3) := by decide +kernel
theorem d_O_near_8 : decode m_O_near.2.1 8 = .ok (.iload_n 2, 1) := by decide +kernel
theorem d_O_near_9 : decode m_O_near.2.1 9 = .ok (.invokestatic 111, 3) := by decide +kernel
theorem d_O_near_12 : decode m_O_near.2.1 12 = .ok (.ifCond .ne 5, 3) := by decide +kernel
theorem d_O_near_15 : decode m_O_near.2.1 15 = .ok (.iconst (-1), 1) := by decide +kernel
theorem d_O_near_16 : decode m_O_near.2.1 16 = .ok (.ireturn, 1) := by decide +kernel
theorem d_O_near_17 : decode m_O_near.2.1 17 = .ok (.aload_n 0, 1) := by decide +kernel
theorem d_O_near_18 : decode m_O_near.2.1 18 = .ok (.getfield 26, 3) := by decide +kernel
theorem d_O_near_21 : decode m_O_near.2.1 21 = .ok (.iload_n 1, 1) := by decide +kernel
theorem d_O_near_22 : decode m_O_near.2.1 22 = .ok (.iconst 1, 1) := by decide +kernel
theorem d_O_near_23 : decode m_O_near.2.1 23 = .ok (.iload_n 2, 1) := by decide +kernel
theorem d_O_near_24 : decode m_O_near.2.1 24 = .ok (.ishl, 1) := by decide +kernel
theorem d_O_near_25 : decode m_O_near.2.1 25 = .ok (.invokevirtual 149, 3) := by decide +kernel
theorem d_O_near_28 : decode m_O_near.2.1 28 = .ok (.ireturn, 1) := by decide +kernel
theorem d_O_part_0 : decode m_O_part.2.1 0 = .ok (.iload_n 1, 1) := by decide +kernel
theorem d_O_part_1 : decode m_O_part.2.1 1 = .ok (.invokestatic 111, 3) := by decide +kernel
theorem d_O_part_4 : decode m_O_part.2.1 4 = .ok (.ifCond .ne 5, 3) := by decide +kernel
theorem d_O_part_7 : decode m_O_part.2.1 7 = .ok (.iconst (-1), 1) := by decide +kernel
theorem d_O_part_8 : decode m_O_part.2.1 8 = .ok (.ireturn, 1) := by decide +kernel
theorem d_O_part_9 : decode m_O_part.2.1 9 = .ok (.aload_n 0, 1) := by decide +kernel
theorem d_O_part_10 : decode m_O_part.2.1 10 = .ok (.getfield 26, 3) := by decide +kernel
theorem d_O_part_13 : decode m_O_part.2.1 13 = .ok (.getfield 114, 3) := by decide +kernel
theorem d_O_part_16 : decode m_O_part.2.1 16 = .ok (.iload_n 1, 1) := by decide +kernel
theorem d_O_part_17 : decode m_O_part.2.1 17 = .ok (.iaload, 1) := by decide +kernel
theorem d_O_part_18 : decode m_O_part.2.1 18 = .ok (.istore_n 2, 1) := by decide +kernel
theorem d_O_part_19 : decode m_O_part.2.1 19 = .ok (.aload_n 0, 1) := by decide +kernel
theorem d_O_part_20 : decode m_O_part.2.1 20 = .ok (.getfield 26, 3) := by decide +kernel
theorem d_O_part_23 : decode m_O_part.2.1 23 = .ok (.getfield 114, 3) := by decide +kernel
theorem d_O_part_26 : decode m_O_part.2.1 26 = .ok (.iload_n 1, 1) := by decide +kernel
theorem d_O_part_27 : decode m_O_part.2.1 27 = .ok (.bipush (-6), 2) := by decide +kernel
theorem d_O_part_29 : decode m_O_part.2.1 29 = .ok (.iastore, 1) := by decide +kernel
theorem d_O_part_30 : decode m_O_part.2.1 30 = .ok (.iload_n 2, 1) := by decide +kernel
theorem d_O_part_31 : decode m_O_part.2.1 31 = .ok (.invokestatic 111, 3) := by decide +kernel
theorem d_O_part_34 : decode m_O_part.2.1 34 = .ok (.ifCond .eq 14, 3) := by decide +kernel
theorem d_O_part_37 : decode m_O_part.2.1 37 = .ok (.aload_n 0, 1) := by decide +kernel
theorem d_O_part_38 : decode m_O_part.2.1 38 = .ok (.getfield 26, 3) := by decide +kernel
theorem d_O_part_41 : decode m_O_part.2.1 41 = .ok (.getfield 114, 3) := by decide +kernel
theorem d_O_part_44 : decode m_O_part.2.1 44 = .ok (.iload_n 2, 1) := by decide +kernel
theorem d_O_part_45 : decode m_O_part.2.1 45 = .ok (.bipush (-6), 2) := by decide +kernel
theorem d_O_part_47 : decode m_O_part.2.1 47 = .ok (.iastore, 1) := by decide +kernel
theorem d_O_part_48 : decode m_O_part.2.1 48 = .ok (.iload_n 2, 1) := by decide +kernel
theorem d_O_part_49 : decode m_O_part.2.1 49 = .ok (.ireturn, 1) := by decide +kernel
theorem d_O_restore_0 : decode m_O_restore.2.1 0 = .ok (.iload_n 1, 1) := by decide +kernel
theorem d_O_restore_1 : decode m_O_restore.2.1 1 = .ok (.ifCond .lt 8, 3) := by decide +kernel
theorem d_O_restore_4 : decode m_O_restore.2.1 4 = .ok (.iload_n 1, 1) := by decide +kernel
theorem d_O_restore_5 : decode m_O_restore.2.1 5 = .ok (.iconst 2, 1) := by decide +kernel
theorem d_O_restore_6 : decode m_O_restore.2.1 6 = .ok (.if_icmp .lt 6, 3) := by decide +kernel
theorem d_O_restore_9 : decode m_O_restore.2.1 9 = .ok (.bipush (-2), 2) := by decide +kernel
theorem d_O_restore_11 : decode m_O_restore.2.1 11 = .ok (.ireturn, 1) := by decide +kernel
theorem d_O_restore_12 : decode m_O_restore.2.1 12 = .ok (.aload_n 0, 1) := by decide +kernel
theorem d_O_restore_13 : decode m_O_restore.2.1 13 = .ok (.getfield 30, 3) := by decide +kernel
theorem d_O_restore_16 : decode m_O_restore.2.1 16 = .ok (.iload_n 1, 1) := by decide +kernel
theorem d_O_restore_17 : decode m_O_restore.2.1 17 = .ok (.aaload, 1) := by decide +kernel
theorem d_O_restore_18 : decode m_O_restore.2.1 18 = .ok (.astore_n 2, 1) := by decide +kernel
theorem d_O_restore_19 : decode m_O_restore.2.1 19 = .ok (.aload_n 2, 1) := by decide +kernel
theorem d_O_restore_20 : decode m_O_restore.2.1 20 = .ok (.ifnonnull 6, 3) := by decide +kernel
theorem d_O_restore_23 : decode m_O_restore.2.1 23 = .ok (.bipush (-3), 2) := by decide +kernel
theorem d_O_restore_25 : decode m_O_restore.2.1 25 = .ok (.ireturn, 1) := by decide +kernel
theorem d_O_restore_26 : decode m_O_restore.2.1 26 = .ok (.aload_n 0, 1) := by decide +kernel
theorem d_O_restore_27 : decode m_O_restore.2.1 27 = .ok (.getfield 26, 3) := by decide +kernel
theorem d_O_restore_30 : decode m_O_restore.2.1 30 = .ok (.aload_n 2, 1) := by decide +kernel
theorem d_O_restore_31 : decode m_O_restore.2.1 31 = .ok (.invokevirtual 232, 3) := by decide +kernel
theorem d_O_restore_34 : decode m_O_restore.2.1 34 = .ok (.iconst 1, 1) := by decide +kernel
theorem d_O_restore_35 : decode m_O_restore.2.1 35 = .ok (.ireturn, 1) := by decide +kernel
theorem d_O_say_0 : decode m_O_say.2.1 0 = .ok (.iload_n 1, 1) := by decide +kernel
theorem d_O_say_1 : decode m_O_say.2.1 1 = .ok (.bipush 33, 2) := by decide +kernel
theorem d_O_say_3 : decode m_O_say.2.1 3 = .ok (.if_icmp .lt 9, 3) := by decide +kernel
theorem d_O_say_6 : decode m_O_say.2.1 6 = .ok (.iload_n 1, 1) := by decide +kernel
theorem d_O_say_7 : decode m_O_say.2.1 7 = .ok (.bipush 126, 2) := by decide +kernel
theorem d_O_say_9 : decode m_O_say.2.1 9 = .ok (.if_icmp .le 6, 3) := by decide +kernel
theorem d_O_say_12 : decode m_O_say.2.1 12 = .ok (.bipush (-2), 2) := by decide +kernel
theorem d_O_say_14 : decode m_O_say.2.1 14 = .ok (.ireturn, 1) := by decide +kernel
theorem d_O_say_15 : decode m_O_say.2.1 15 = .ok (.aload_n 0, 1) := by decide +kernel
theorem d_O_say_16 : decode m_O_say.2.1 16 = .ok (.getfield 12, 3) := by decide +kernel
theorem d_O_say_19 : decode m_O_say.2.1 19 = .ok (.iload_n 1, 1) := by decide +kernel
theorem d_O_say_20 : decode m_O_say.2.1 20 = .ok (.invokevirtual 62, 3) := by decide +kernel
theorem d_O_say_23 : decode m_O_say.2.1 23 = .ok (.ireturn, 1) := by decide +kernel
theorem d_O_seen_0 : decode m_O_seen.2.1 0 = .ok (.iload_n 1, 1) := by decide +kernel
theorem d_O_seen_1 : decode m_O_seen.2.1 1 = .ok (.invokestatic 111, 3) := by decide +kernel
theorem d_O_seen_4 : decode m_O_seen.2.1 4 = .ok (.ifCond .eq 11, 3) := by decide +kernel
theorem d_O_seen_7 : decode m_O_seen.2.1 7 = .ok (.aload_n 0, 1) := by decide +kernel
theorem d_O_seen_8 : decode m_O_seen.2.1 8 = .ok (.iload_n 2, 1) := by decide +kernel
theorem d_O_seen_9 : decode m_O_seen.2.1 9 = .ok (.invokevirtual 91, 3) := by decide +kernel
theorem d_O_seen_12 : decode m_O_seen.2.1 12 = .ok (.ifCond .ne 5, 3) := by decide +kernel
theorem d_O_seen_15 : decode m_O_seen.2.1 15 = .ok (.iconst (-1), 1) := by decide +kernel
theorem d_O_seen_16 : decode m_O_seen.2.1 16 = .ok (.ireturn, 1) := by decide +kernel
theorem d_O_seen_17 : decode m_O_seen.2.1 17 = .ok (.aload_n 0, 1) := by decide +kernel
theorem d_O_seen_18 : decode m_O_seen.2.1 18 = .ok (.getfield 26, 3) := by decide +kernel
theorem d_O_seen_21 : decode m_O_seen.2.1 21 = .ok (.iload_n 1, 1) := by decide +kernel
theorem d_O_seen_22 : decode m_O_seen.2.1 22 = .ok (.iload_n 2, 1) := by decide +kernel
theorem d_O_seen_23 : decode m_O_seen.2.1 23 = .ok (.invokevirtual 163, 3) := by decide +kernel
theorem d_O_seen_26 : decode m_O_seen.2.1 26 = .ok (.ireturn, 1) := by decide +kernel
theorem d_O_set_0 : decode m_O_set.2.1 0 = .ok (.iload_n 1, 1) := by decide +kernel
theorem d_O_set_1 : decode m_O_set.2.1 1 = .ok (.ifCond .lt 20, 3) := by decide +kernel
theorem d_O_set_4 : decode m_O_set.2.1 4 = .ok (.iload_n 1, 1) := by decide +kernel
theorem d_O_set_5 : decode m_O_set.2.1 5 = .ok (.iconst 2, 1) := by decide +kernel
theorem d_O_set_6 : decode m_O_set.2.1 6 = .ok (.if_icmp .gt 15, 3) := by decide +kernel
theorem d_O_set_9 : decode m_O_set.2.1 9 = .ok (.iload_n 2, 1) := by decide +kernel
theorem d_O_set_10 : decode m_O_set.2.1 10 = .ok (.ifCond .lt 11, 3) := by decide +kernel
theorem d_O_set_13 : decode m_O_set.2.1 13 = .ok (.iload_n 2, 1) := by decide +kernel
theorem d_O_set_14 : decode m_O_set.2.1 14 = .ok (.iload_n 1, 1) := by decide +kernel
theorem d_O_set_15 : decode m_O_set.2.1 15 = .ok (.invokestatic 117, 3) := by decide +kernel
theorem d_O_set_18 : decode m_O_set.2.1 18 = .ok (.if_icmp .le 6, 3) := by decide +kernel
theorem d_O_set_21 : decode m_O_set.2.1 21 = .ok (.bipush (-2), 2) := by decide +kernel
theorem d_O_set_23 : decode m_O_set.2.1 23 = .ok (.ireturn, 1) := by decide +kernel
theorem d_O_set_24 : decode m_O_set.2.1 24 = .ok (.aload_n 0, 1) := by decide +kernel
theorem d_O_set_25 : decode m_O_set.2.1 25 = .ok (.getfield 26, 3) := by decide +kernel
theorem d_O_set_28 : decode m_O_set.2.1 28 = .ok (.iload_n 1, 1) := by decide +kernel
theorem d_O_set_29 : decode m_O_set.2.1 29 = .ok (.iload_n 2, 1) := by decide +kernel
theorem d_O_set_30 : decode m_O_set.2.1 30 = .ok (.invokevirtual 120, 3) := by decide +kernel
theorem d_O_set_33 : decode m_O_set.2.1 33 = .ok (.ireturn, 1) := by decide +kernel
theorem d_O_share_0 : decode m_O_share.2.1 0 = .ok (.aload_n 0, 1) := by decide +kernel
theorem d_O_share_1 : decode m_O_share.2.1 1 = .ok (.iload_n 1, 1) := by decide +kernel
theorem d_O_share_2 : decode m_O_share.2.1 2 = .ok (.invokevirtual 91, 3) := by decide +kernel
theorem d_O_share_5 : decode m_O_share.2.1 5 = .ok (.ifCond .eq 10, 3) := by decide +kernel
theorem d_O_share_8 : decode m_O_share.2.1 8 = .ok (.iload_n 2, 1) := by decide +kernel
theorem d_O_share_9 : decode m_O_share.2.1 9 = .ok (.invokestatic 111, 3) := by decide +kernel
theorem d_O_share_12 : decode m_O_share.2.1 12 = .ok (.ifCond .ne 7, 3) := by decide +kernel
theorem d_O_share_15 : decode m_O_share.2.1 15 = .ok (.ldc2_w 152, 3) := by decide +kernel
theorem d_O_share_18 : decode m_O_share.2.1 18 = .ok (.lreturn, 1) := by decide +kernel
theorem d_O_share_19 : decode m_O_share.2.1 19 = .ok (.iload_n 3, 1) := by decide +kernel
theorem d_O_share_20 : decode m_O_share.2.1 20 = .ok (.ifCond .lt 8, 3) := by decide +kernel
theorem d_O_share_23 : decode m_O_share.2.1 23 = .ok (.iload_n 3, 1) := by decide +kernel
theorem d_O_share_24 : decode m_O_share.2.1 24 = .ok (.iconst 1, 1) := by decide +kernel
theorem d_O_share_25 : decode m_O_share.2.1 25 = .ok (.if_icmp .le 7, 3) := by decide +kernel
theorem d_O_share_28 : decode m_O_share.2.1 28 = .ok (.ldc2_w 154, 3) := by decide +kernel
theorem d_O_share_31 : decode m_O_share.2.1 31 = .ok (.lreturn, 1) := by decide +kernel
theorem d_O_share_32 : decode m_O_share.2.1 32 = .ok (.aload_n 0, 1) := by decide +kernel
theorem d_O_share_33 : decode m_O_share.2.1 33 = .ok (.getfield 37, 3) := by decide +kernel
theorem d_O_share_36 : decode m_O_share.2.1 36 = .ok (.aload_n 0, 1) := by decide +kernel
theorem d_O_share_37 : decode m_O_share.2.1 37 = .ok (.getfield 26, 3) := by decide +kernel
theorem d_O_share_40 : decode m_O_share.2.1 40 = .ok (.getfield 82, 3) := by decide +kernel
theorem d_O_share_43 : decode m_O_share.2.1 43 = .ok (.iload_n 1, 1) := by decide +kernel
theorem d_O_share_44 : decode m_O_share.2.1 44 = .ok (.iload_n 2, 1) := by decide +kernel
theorem d_O_share_45 : decode m_O_share.2.1 45 = .ok (.invokevirtual 156, 3) := by decide +kernel
theorem d_O_share_48 : decode m_O_share.2.1 48 = .ok (.istore 4, 2) := by decide +kernel
theorem d_O_share_50 : decode m_O_share.2.1 50 = .ok (.iload 4, 2) := by decide +kernel
theorem d_O_share_52 : decode m_O_share.2.1 52 = .ok (.sipush 6144, 3) := by decide +kernel
theorem d_O_share_55 : decode m_O_share.2.1 55 = .ok (.iload_n 3, 1) := by decide +kernel
theorem d_O_share_56 : decode m_O_share.2.1 56 = .ok (.invokestatic 159, 3) := by decide +kernel
theorem d_O_share_59 : decode m_O_share.2.1 59 = .ok (.i2l, 1) := by decide +kernel
theorem d_O_share_60 : decode m_O_share.2.1 60 = .ok (.lreturn, 1) := by decide +kernel
theorem d_O_sure_0 : decode m_O_sure.2.1 0 = .ok (.aload_n 0, 1) := by decide +kernel
theorem d_O_sure_1 : decode m_O_sure.2.1 1 = .ok (.iload_n 1, 1) := by decide +kernel
theorem d_O_sure_2 : decode m_O_sure.2.1 2 = .ok (.invokevirtual 91, 3) := by decide +kernel
theorem d_O_sure_5 : decode m_O_sure.2.1 5 = .ok (.ifCond .ne 5, 3) := by decide +kernel
theorem d_O_sure_8 : decode m_O_sure.2.1 8 = .ok (.iconst (-1), 1) := by decide +kernel
theorem d_O_sure_9 : decode m_O_sure.2.1 9 = .ok (.ireturn, 1) := by decide +kernel
theorem d_O_sure_10 : decode m_O_sure.2.1 10 = .ok (.iload_n 2, 1) := by decide +kernel
theorem d_O_sure_11 : decode m_O_sure.2.1 11 = .ok (.ifCond .lt 8, 3) := by decide +kernel
theorem d_O_sure_14 : decode m_O_sure.2.1 14 = .ok (.iload_n 2, 1) := by decide +kernel
theorem d_O_sure_15 : decode m_O_sure.2.1 15 = .ok (.iconst 1, 1) := by decide +kernel
theorem d_O_sure_16 : decode m_O_sure.2.1 16 = .ok (.if_icmp .le 6, 3) := by decide +kernel
theorem d_O_sure_19 : decode m_O_sure.2.1 19 = .ok (.bipush (-2), 2) := by decide +kernel
theorem d_O_sure_21 : decode m_O_sure.2.1 21 = .ok (.ireturn, 1) := by decide +kernel
theorem d_O_sure_22 : decode m_O_sure.2.1 22 = .ok (.aload_n 0, 1) := by decide +kernel
theorem d_O_sure_23 : decode m_O_sure.2.1 23 = .ok (.getfield 44, 3) := by decide +kernel
theorem d_O_sure_26 : decode m_O_sure.2.1 26 = .ok (.aload_n 0, 1) := by decide +kernel
theorem d_O_sure_27 : decode m_O_sure.2.1 27 = .ok (.getfield 26, 3) := by decide +kernel
theorem d_O_sure_30 : decode m_O_sure.2.1 30 = .ok (.invokevirtual 169, 3) := by decide +kernel
theorem d_O_sure_33 : decode m_O_sure.2.1 33 = .ok (.aload_n 0, 1) := by decide +kernel
theorem d_O_sure_34 : decode m_O_sure.2.1 34 = .ok (.getfield 44, 3) := by decide +kernel
theorem d_O_sure_37 : decode m_O_sure.2.1 37 = .ok (.invokevirtual 173, 3) := by decide +kernel
theorem d_O_sure_40 : decode m_O_sure.2.1 40 = .ok (.ifCond .ne 6, 3) := by decide +kernel
theorem d_O_sure_43 : decode m_O_sure.2.1 43 = .ok (.bipush (-3), 2) := by decide +kernel
theorem d_O_sure_45 : decode m_O_sure.2.1 45 = .ok (.ireturn, 1) := by decide +kernel
theorem d_O_sure_46 : decode m_O_sure.2.1 46 = .ok (.iload_n 2, 1) := by decide +kernel
theorem d_O_sure_47 : decode m_O_sure.2.1 47 = .ok (.ifCond .ne 18, 3) := by decide +kernel
theorem d_O_sure_50 : decode m_O_sure.2.1 50 = .ok (.aload_n 0, 1) := by decide +kernel
theorem d_O_sure_51 : decode m_O_sure.2.1 51 = .ok (.getfield 44, 3) := by decide +kernel
theorem d_O_sure_54 : decode m_O_sure.2.1 54 = .ok (.aload_n 0, 1) := by decide +kernel
theorem d_O_sure_55 : decode m_O_sure.2.1 55 = .ok (.getfield 26, 3) := by decide +kernel
theorem d_O_sure_58 : decode m_O_sure.2.1 58 = .ok (.iload_n 1, 1) := by decide +kernel
theorem d_O_sure_59 : decode m_O_sure.2.1 59 = .ok (.invokevirtual 179, 3) := by decide +kernel
theorem d_O_sure_62 : decode m_O_sure.2.1 62 = .ok (.goto 15, 3) := by decide +kernel
theorem d_O_sure_65 : decode m_O_sure.2.1 65 = .ok (.aload_n 0, 1) := by decide +kernel
theorem d_O_sure_66 : decode m_O_sure.2.1 66 = .ok (.getfield 44, 3) := by decide +kernel
theorem d_O_sure_69 : decode m_O_sure.2.1 69 = .ok (.aload_n 0, 1) := by decide +kernel
theorem d_O_sure_70 : decode m_O_sure.2.1 70 = .ok (.getfield 26, 3) := by decide +kernel
theorem d_O_sure_73 : decode m_O_sure.2.1 73 = .ok (.iload_n 1, 1) := by decide +kernel
theorem d_O_sure_74 : decode m_O_sure.2.1 74 = .ok (.invokevirtual 183, 3) := by decide +kernel
theorem d_O_sure_77 : decode m_O_sure.2.1 77 = .ok (.ireturn, 1) := by decide +kernel
theorem d_O_thing_0 : decode m_O_thing.2.1 0 = .ok (.aload_n 0, 1) := by decide +kernel
theorem d_O_thing_1 : decode m_O_thing.2.1 1 = .ok (.iload_n 1, 1) := by decide +kernel
theorem d_O_thing_2 : decode m_O_thing.2.1 2 = .ok (.invokevirtual 91, 3) := by decide +kernel
theorem d_O_thing_5 : decode m_O_thing.2.1 5 = .ok (.ifCond .ne 5, 3) := by decide +kernel
theorem d_O_thing_8 : decode m_O_thing.2.1 8 = .ok (.iconst (-1), 1) := by decide +kernel
theorem d_O_thing_9 : decode m_O_thing.2.1 9 = .ok (.ireturn, 1) := by decide +kernel
theorem d_O_thing_10 : decode m_O_thing.2.1 10 = .ok (.iload_n 2, 1) := by decide +kernel
theorem d_O_thing_11 : decode m_O_thing.2.1 11 = .ok (.tableswitch 98 0 4 #[33, 46, 59, 72, 85], 33) := by decide +kernel
theorem d_O_thing_44 : decode m_O_thing.2.1 44 = .ok (.aload_n 0, 1) := by decide +kernel
theorem d_O_thing_45 : decode m_O_thing.2.1 45 = .ok (.getfield 26, 3) := by decide +kernel
theorem d_O_thing_48 : decode m_O_thing.2.1 48 = .ok (.getfield 82, 3) := by decide +kernel
theorem d_O_thing_51 : decode m_O_thing.2.1 51 = .ok (.getfield 95, 3) := by decide +kernel
theorem d_O_thing_54 : decode m_O_thing.2.1 54 = .ok (.iload_n 1, 1) := by decide +kernel
theorem d_O_thing_55 : decode m_O_thing.2.1 55 = .ok (.iaload, 1) := by decide +kernel
theorem d_O_thing_56 : decode m_O_thing.2.1 56 = .ok (.ireturn, 1) := by decide +kernel
theorem d_O_thing_57 : decode m_O_thing.2.1 57 = .ok (.aload_n 0, 1) := by decide +kernel
theorem d_O_thing_58 : decode m_O_thing.2.1 58 = .ok (.getfield 26, 3) := by decide +kernel
theorem d_O_thing_61 : decode m_O_thing.2.1 61 = .ok (.getfield 82, 3) := by decide +kernel
theorem d_O_thing_64 : decode m_O_thing.2.1 64 = .ok (.getfield 99, 3) := by decide +kernel
theorem d_O_thing_67 : decode m_O_thing.2.1 67 = .ok (.iload_n 1, 1) := by decide +kernel
theorem d_O_thing_68 : decode m_O_thing.2.1 68 = .ok (.iaload, 1) := by decide +kernel
theorem d_O_thing_69 : decode m_O_thing.2.1 69 = .ok (.ireturn, 1) := by decide +kernel
theorem d_O_thing_70 : decode m_O_thing.2.1 70 = .ok (.aload_n 0, 1) := by decide +kernel
theorem d_O_thing_71 : decode m_O_thing.2.1 71 = .ok (.getfield 26, 3) := by decide +kernel
theorem d_O_thing_74 : decode m_O_thing.2.1 74 = .ok (.getfield 82, 3) := by decide +kernel
theorem d_O_thing_77 : decode m_O_thing.2.1 77 = .ok (.getfield 102, 3) := by decide +kernel
theorem d_O_thing_80 : decode m_O_thing.2.1 80 = .ok (.iload_n 1, 1) := by decide +kernel
theorem d_O_thing_81 : decode m_O_thing.2.1 81 = .ok (.iaload, 1) := by decide +kernel
theorem d_O_thing_82 : decode m_O_thing.2.1 82 = .ok (.ireturn, 1) := by decide +kernel
theorem d_O_thing_83 : decode m_O_thing.2.1 83 = .ok (.aload_n 0, 1) := by decide +kernel
theorem d_O_thing_84 : decode m_O_thing.2.1 84 = .ok (.getfield 26, 3) := by decide +kernel
theorem d_O_thing_87 : decode m_O_thing.2.1 87 = .ok (.getfield 82, 3) := by decide +kernel
theorem d_O_thing_90 : decode m_O_thing.2.1 90 = .ok (.getfield 105, 3) := by decide +kernel
theorem d_O_thing_93 : decode m_O_thing.2.1 93 = .ok (.iload_n 1, 1) := by decide +kernel
theorem d_O_thing_94 : decode m_O_thing.2.1 94 = .ok (.iaload, 1) := by decide +kernel
theorem d_O_thing_95 : decode m_O_thing.2.1 95 = .ok (.ireturn, 1) := by decide +kernel
theorem d_O_thing_96 : decode m_O_thing.2.1 96 = .ok (.aload_n 0, 1) := by decide +kernel
theorem d_O_thing_97 : decode m_O_thing.2.1 97 = .ok (.getfield 26, 3) := by decide +kernel
theorem d_O_thing_100 : decode m_O_thing.2.1 100 = .ok (.getfield 82, 3) := by decide +kernel
theorem d_O_thing_103 : decode m_O_thing.2.1 103 = .ok (.getfield 108, 3) := by decide +kernel
theorem d_O_thing_106 : decode m_O_thing.2.1 106 = .ok (.iload_n 1, 1) := by decide +kernel
theorem d_O_thing_107 : decode m_O_thing.2.1 107 = .ok (.iaload, 1) := by decide +kernel
theorem d_O_thing_108 : decode m_O_thing.2.1 108 = .ok (.ireturn, 1) := by decide +kernel
theorem d_O_thing_109 : decode m_O_thing.2.1 109 = .ok (.bipush (-2), 2) := by decide +kernel
theorem d_O_thing_111 : decode m_O_thing.2.1 111 = .ok (.ireturn, 1) := by decide +kernel
theorem d_O_told_0 : decode m_O_told.2.1 0 = .ok (.iload_n 1, 1) := by decide +kernel
theorem d_O_told_1 : decode m_O_told.2.1 1 = .ok (.bipush 10, 2) := by decide +kernel
theorem d_O_told_3 : decode m_O_told.2.1 3 = .ok (.if_icmp .lt 22, 3) := by decide +kernel
theorem d_O_told_6 : decode m_O_told.2.1 6 = .ok (.iload_n 1, 1) := by decide +kernel
theorem d_O_told_7 : decode m_O_told.2.1 7 = .ok (.bipush 16, 2) := by decide +kernel
theorem d_O_told_9 : decode m_O_told.2.1 9 = .ok (.if_icmp .ge 16, 3) := by decide +kernel
theorem d_O_told_12 : decode m_O_told.2.1 12 = .ok (.aload_n 0, 1) := by decide +kernel
theorem d_O_told_13 : decode m_O_told.2.1 13 = .ok (.getfield 26, 3) := by decide +kernel
theorem d_O_told_16 : decode m_O_told.2.1 16 = .ok (.getfield 114, 3) := by decide +kernel
theorem d_O_told_19 : decode m_O_told.2.1 19 = .ok (.iload_n 1, 1) := by decide +kernel
theorem d_O_told_20 : decode m_O_told.2.1 20 = .ok (.bipush 10, 2) := by decide +kernel
theorem d_O_told_22 : decode m_O_told.2.1 22 = .ok (.isub, 1) := by decide +kernel
theorem d_O_told_23 : decode m_O_told.2.1 23 = .ok (.iaload, 1) := by decide +kernel
theorem d_O_told_24 : decode m_O_told.2.1 24 = .ok (.ireturn, 1) := by decide +kernel
theorem d_O_told_25 : decode m_O_told.2.1 25 = .ok (.iload_n 1, 1) := by decide +kernel
theorem d_O_told_26 : decode m_O_told.2.1 26 = .ok (.bipush 20, 2) := by decide +kernel
theorem d_O_told_28 : decode m_O_told.2.1 28 = .ok (.if_icmp .lt 27, 3) := by decide +kernel
theorem d_O_told_31 : decode m_O_told.2.1 31 = .ok (.aload_n 0, 1) := by decide +kernel
theorem d_O_told_32 : decode m_O_told.2.1 32 = .ok (.iload_n 1, 1) := by decide +kernel
theorem d_O_told_33 : decode m_O_told.2.1 33 = .ok (.bipush 20, 2) := by decide +kernel
theorem d_O_told_35 : decode m_O_told.2.1 35 = .ok (.isub, 1) := by decide +kernel
theorem d_O_told_36 : decode m_O_told.2.1 36 = .ok (.invokevirtual 91, 3) := by decide +kernel
theorem d_O_told_39 : decode m_O_told.2.1 39 = .ok (.ifCond .eq 16, 3) := by decide +kernel
theorem d_O_told_42 : decode m_O_told.2.1 42 = .ok (.aload_n 0, 1) := by decide +kernel
theorem d_O_told_43 : decode m_O_told.2.1 43 = .ok (.getfield 26, 3) := by decide +kernel
theorem d_O_told_46 : decode m_O_told.2.1 46 = .ok (.getfield 124, 3) := by decide +kernel
theorem d_O_told_49 : decode m_O_told.2.1 49 = .ok (.iload_n 1, 1) := by decide +kernel
theorem d_O_told_50 : decode m_O_told.2.1 50 = .ok (.bipush 20, 2) := by decide +kernel
theorem d_O_told_52 : decode m_O_told.2.1 52 = .ok (.isub, 1) := by decide +kernel
theorem d_O_told_53 : decode m_O_told.2.1 53 = .ok (.iaload, 1) := by decide +kernel
theorem d_O_told_54 : decode m_O_told.2.1 54 = .ok (.ireturn, 1) := by decide +kernel
theorem d_O_told_55 : decode m_O_told.2.1 55 = .ok (.iload_n 1, 1) := by decide +kernel
theorem d_O_told_56 : decode m_O_told.2.1 56 = .ok (.tableswitch 91 0 5 #[40, 48, 59, 67, 75, 83], 40) := by decide +kernel
theorem d_O_told_96 : decode m_O_told.2.1 96 = .ok (.aload_n 0, 1) := by decide +kernel
theorem d_O_told_97 : decode m_O_told.2.1 97 = .ok (.getfield 12, 3) := by decide +kernel
theorem d_O_told_100 : decode m_O_told.2.1 100 = .ok (.getfield 235, 3) := by decide +kernel
theorem d_O_told_103 : decode m_O_told.2.1 103 = .ok (.ireturn, 1) := by decide +kernel
theorem d_O_told_104 : decode m_O_told.2.1 104 = .ok (.aload_n 0, 1) := by decide +kernel
theorem d_O_told_105 : decode m_O_told.2.1 105 = .ok (.getfield 26, 3) := by decide +kernel
theorem d_O_told_108 : decode m_O_told.2.1 108 = .ok (.getfield 82, 3) := by decide +kernel
theorem d_O_told_111 : decode m_O_told.2.1 111 = .ok (.getfield 85, 3) := by decide +kernel
theorem d_O_told_114 : decode m_O_told.2.1 114 = .ok (.ireturn, 1) := by decide +kernel
theorem d_O_told_115 : decode m_O_told.2.1 115 = .ok (.aload_n 0, 1) := by decide +kernel
theorem d_O_told_116 : decode m_O_told.2.1 116 = .ok (.getfield 26, 3) := by decide +kernel
theorem d_O_told_119 : decode m_O_told.2.1 119 = .ok (.getfield 211, 3) := by decide +kernel
theorem d_O_told_122 : decode m_O_told.2.1 122 = .ok (.ireturn, 1) := by decide +kernel
theorem d_O_told_123 : decode m_O_told.2.1 123 = .ok (.aload_n 0, 1) := by decide +kernel
theorem d_O_told_124 : decode m_O_told.2.1 124 = .ok (.getfield 26, 3) := by decide +kernel
theorem d_O_told_127 : decode m_O_told.2.1 127 = .ok (.getfield 236, 3) := by decide +kernel
theorem d_O_told_130 : decode m_O_told.2.1 130 = .ok (.ireturn, 1) := by decide +kernel
theorem d_O_told_131 : decode m_O_told.2.1 131 = .ok (.aload_n 0, 1) := by decide +kernel
theorem d_O_told_132 : decode m_O_told.2.1 132 = .ok (.getfield 26, 3) := by decide +kernel
theorem d_O_told_135 : decode m_O_told.2.1 135 = .ok (.getfield 133, 3) := by decide +kernel
theorem d_O_told_138 : decode m_O_told.2.1 138 = .ok (.ireturn, 1) := by decide +kernel
theorem d_O_told_139 : decode m_O_told.2.1 139 = .ok (.aload_n 0, 1) := by decide +kernel
theorem d_O_told_140 : decode m_O_told.2.1 140 = .ok (.getfield 26, 3) := by decide +kernel
theorem d_O_told_143 : decode m_O_told.2.1 143 = .ok (.getfield 239, 3) := by decide +kernel
theorem d_O_told_146 : decode m_O_told.2.1 146 = .ok (.ireturn, 1) := by decide +kernel
theorem d_O_told_147 : decode m_O_told.2.1 147 = .ok (.bipush (-2), 2) := by decide +kernel
theorem d_O_told_149 : decode m_O_told.2.1 149 = .ok (.ireturn, 1) := by decide +kernel
theorem d_O_touched_0 : decode m_O_touched.2.1 0 = .ok (.aload_n 0, 1) := by decide +kernel
theorem d_O_touched_1 : decode m_O_touched.2.1 1 = .ok (.iload_n 1, 1) := by decide +kernel
theorem d_O_touched_2 : decode m_O_touched.2.1 2 = .ok (.invokevirtual 91, 3) := by decide +kernel
theorem d_O_touched_5 : decode m_O_touched.2.1 5 = .ok (.ifCond .ne 5, 3) := by decide +kernel
theorem d_O_touched_8 : decode m_O_touched.2.1 8 = .ok (.iconst (-1), 1) := by decide +kernel
theorem d_O_touched_9 : decode m_O_touched.2.1 9 = .ok (.ireturn, 1) := by decide +kernel
theorem d_O_touched_10 : decode m_O_touched.2.1 10 = .ok (.iload_n 2, 1) := by decide +kernel
theorem d_O_touched_11 : decode m_O_touched.2.1 11 = .ok (.tableswitch 73 0 2 #[25, 34, 43], 25) := by decide +kernel
theorem d_O_touched_36 : decode m_O_touched.2.1 36 = .ok (.aload_n 0, 1) := by decide +kernel
theorem d_O_touched_37 : decode m_O_touched.2.1 37 = .ok (.getfield 26, 3) := by decide +kernel
theorem d_O_touched_40 : decode m_O_touched.2.1 40 = .ok (.iload_n 1, 1) := by decide +kernel
theorem d_O_touched_41 : decode m_O_touched.2.1 41 = .ok (.invokevirtual 127, 3) := by decide +kernel
theorem d_O_touched_44 : decode m_O_touched.2.1 44 = .ok (.ireturn, 1) := by decide +kernel
theorem d_O_touched_45 : decode m_O_touched.2.1 45 = .ok (.aload_n 0, 1) := by decide +kernel
theorem d_O_touched_46 : decode m_O_touched.2.1 46 = .ok (.getfield 26, 3) := by decide +kernel
theorem d_O_touched_49 : decode m_O_touched.2.1 49 = .ok (.iload_n 1, 1) := by decide +kernel
theorem d_O_touched_50 : decode m_O_touched.2.1 50 = .ok (.invokevirtual 130, 3) := by decide +kernel
theorem d_O_touched_53 : decode m_O_touched.2.1 53 = .ok (.ireturn, 1) := by decide +kernel
theorem d_O_touched_54 : decode m_O_touched.2.1 54 = .ok (.aload_n 0, 1) := by decide +kernel
theorem d_O_touched_55 : decode m_O_touched.2.1 55 = .ok (.getfield 26, 3) := by decide +kernel
theorem d_O_touched_58 : decode m_O_touched.2.1 58 = .ok (.aload_n 0, 1) := by decide +kernel
theorem d_O_touched_59 : decode m_O_touched.2.1 59 = .ok (.getfield 37, 3) := by decide +kernel
theorem d_O_touched_62 : decode m_O_touched.2.1 62 = .ok (.aload_n 0, 1) := by decide +kernel
theorem d_O_touched_63 : decode m_O_touched.2.1 63 = .ok (.getfield 26, 3) := by decide +kernel
theorem d_O_touched_66 : decode m_O_touched.2.1 66 = .ok (.getfield 82, 3) := by decide +kernel
theorem d_O_touched_69 : decode m_O_touched.2.1 69 = .ok (.iload_n 1, 1) := by decide +kernel
theorem d_O_touched_70 : decode m_O_touched.2.1 70 = .ok (.aload_n 0, 1) := by decide +kernel
theorem d_O_touched_71 : decode m_O_touched.2.1 71 = .ok (.getfield 26, 3) := by decide +kernel
theorem d_O_touched_74 : decode m_O_touched.2.1 74 = .ok (.getfield 133, 3) := by decide +kernel
theorem d_O_touched_77 : decode m_O_touched.2.1 77 = .ok (.invokevirtual 136, 3) := by decide +kernel
theorem d_O_touched_80 : decode m_O_touched.2.1 80 = .ok (.invokevirtual 140, 3) := by decide +kernel
theorem d_O_touched_83 : decode m_O_touched.2.1 83 = .ok (.ireturn, 1) := by decide +kernel
theorem d_O_touched_84 : decode m_O_touched.2.1 84 = .ok (.bipush (-2), 2) := by decide +kernel
theorem d_O_touched_86 : decode m_O_touched.2.1 86 = .ok (.ireturn, 1) := by decide +kernel
theorem d_O_washed_0 : decode m_O_washed.2.1 0 = .ok (.aload_n 0, 1) := by decide +kernel
theorem d_O_washed_1 : decode m_O_washed.2.1 1 = .ok (.iload_n 1, 1) := by decide +kernel
theorem d_O_washed_2 : decode m_O_washed.2.1 2 = .ok (.invokevirtual 91, 3) := by decide +kernel
theorem d_O_washed_5 : decode m_O_washed.2.1 5 = .ok (.ifCond .eq 10, 3) := by decide +kernel
theorem d_O_washed_8 : decode m_O_washed.2.1 8 = .ok (.iload_n 2, 1) := by decide +kernel
theorem d_O_washed_9 : decode m_O_washed.2.1 9 = .ok (.invokestatic 111, 3) := by decide +kernel
theorem d_O_washed_12 : decode m_O_washed.2.1 12 = .ok (.ifCond .ne 5, 3) := by decide +kernel
theorem d_O_washed_15 : decode m_O_washed.2.1 15 = .ok (.iconst (-1), 1) := by decide +kernel
theorem d_O_washed_16 : decode m_O_washed.2.1 16 = .ok (.ireturn, 1) := by decide +kernel
theorem d_O_washed_17 : decode m_O_washed.2.1 17 = .ok (.aload_n 0, 1) := by decide +kernel
theorem d_O_washed_18 : decode m_O_washed.2.1 18 = .ok (.getfield 26, 3) := by decide +kernel
theorem d_O_washed_21 : decode m_O_washed.2.1 21 = .ok (.iload_n 1, 1) := by decide +kernel
theorem d_O_washed_22 : decode m_O_washed.2.1 22 = .ok (.aload_n 0, 1) := by decide +kernel
theorem d_O_washed_23 : decode m_O_washed.2.1 23 = .ok (.getfield 26, 3) := by decide +kernel
theorem d_O_washed_26 : decode m_O_washed.2.1 26 = .ok (.iload_n 2, 1) := by decide +kernel
theorem d_O_washed_27 : decode m_O_washed.2.1 27 = .ok (.invokevirtual 208, 3) := by decide +kernel
theorem d_O_washed_30 : decode m_O_washed.2.1 30 = .ok (.invokevirtual 149, 3) := by decide +kernel
theorem d_O_washed_33 : decode m_O_washed.2.1 33 = .ok (.istore_n 3, 1) := by decide +kernel
theorem d_O_washed_34 : decode m_O_washed.2.1 34 = .ok (.iload_n 3, 1) := by decide +kernel
theorem d_O_washed_35 : decode m_O_washed.2.1 35 = .ok (.bipush (-6), 2) := by decide +kernel
theorem d_O_washed_37 : decode m_O_washed.2.1 37 = .ok (.if_icmp .ne 7, 3) := by decide +kernel
theorem d_O_washed_40 : decode m_O_washed.2.1 40 = .ok (.iconst 0, 1) := by decide +kernel
theorem d_O_washed_41 : decode m_O_washed.2.1 41 = .ok (.goto 18, 3) := by decide +kernel
theorem d_O_washed_44 : decode m_O_washed.2.1 44 = .ok (.iconst 0, 1) := by decide +kernel
theorem d_O_washed_45 : decode m_O_washed.2.1 45 = .ok (.aload_n 0, 1) := by decide +kernel
theorem d_O_washed_46 : decode m_O_washed.2.1 46 = .ok (.getfield 26, 3) := by decide +kernel
theorem d_O_washed_49 : decode m_O_washed.2.1 49 = .ok (.getfield 211, 3) := by decide +kernel
theorem d_O_washed_52 : decode m_O_washed.2.1 52 = .ok (.iconst 1, 1) := by decide +kernel
theorem d_O_washed_53 : decode m_O_washed.2.1 53 = .ok (.iadd, 1) := by decide +kernel
theorem d_O_washed_54 : decode m_O_washed.2.1 54 = .ok (.iload_n 3, 1) := by decide +kernel
theorem d_O_washed_55 : decode m_O_washed.2.1 55 = .ok (.isub, 1) := by decide +kernel
theorem d_O_washed_56 : decode m_O_washed.2.1 56 = .ok (.invokestatic 214, 3) := by decide +kernel
theorem d_O_washed_59 : decode m_O_washed.2.1 59 = .ok (.ireturn, 1) := by decide +kernel
theorem d_O_wipe_0 : decode m_O_wipe.2.1 0 = .ok (.aload_n 0, 1) := by decide +kernel
theorem d_O_wipe_1 : decode m_O_wipe.2.1 1 = .ok (.getfield 12, 3) := by decide +kernel
theorem d_O_wipe_4 : decode m_O_wipe.2.1 4 = .ok (.invokevirtual 66, 3) := by decide +kernel
theorem d_O_wipe_7 : decode m_O_wipe.2.1 7 = .ok (.ireturn, 1) := by decide +kernel
theorem d_Pad_clear_0 : decode m_Pad_clear.2.1 0 = .ok (.aload_n 0, 1) := by decide +kernel
theorem d_Pad_clear_1 : decode m_Pad_clear.2.1 1 = .ok (.getfield 15, 3) := by decide +kernel
theorem d_Pad_clear_4 : decode m_Pad_clear.2.1 4 = .ok (.istore_n 1, 1) := by decide +kernel
theorem d_Pad_clear_5 : decode m_Pad_clear.2.1 5 = .ok (.aload_n 0, 1) := by decide +kernel
theorem d_Pad_clear_6 : decode m_Pad_clear.2.1 6 = .ok (.iconst 0, 1) := by decide +kernel
theorem d_Pad_clear_7 : decode m_Pad_clear.2.1 7 = .ok (.putfield 15, 3) := by decide +kernel
theorem d_Pad_clear_10 : decode m_Pad_clear.2.1 10 = .ok (.iload_n 1, 1) := by decide +kernel
theorem d_Pad_clear_11 : decode m_Pad_clear.2.1 11 = .ok (.ireturn, 1) := by decide +kernel
theorem d_Pad_init_0 : decode m_Pad_init.2.1 0 = .ok (.aload_n 0, 1) := by decide +kernel
theorem d_Pad_init_1 : decode m_Pad_init.2.1 1 = .ok (.invokespecial 3, 3) := by decide +kernel
theorem d_Pad_init_4 : decode m_Pad_init.2.1 4 = .ok (.aload_n 0, 1) := by decide +kernel
theorem d_Pad_init_5 : decode m_Pad_init.2.1 5 = .ok (.bipush 60, 2) := by decide +kernel
theorem d_Pad_init_7 : decode m_Pad_init.2.1 7 = .ok (.newarray .int, 2) := by decide +kernel
theorem d_Pad_init_9 : decode m_Pad_init.2.1 9 = .ok (.putfield 9, 3) := by decide +kernel
theorem d_Pad_init_12 : decode m_Pad_init.2.1 12 = .ok (.return_, 1) := by decide +kernel
theorem d_Pad_put_0 : decode m_Pad_put.2.1 0 = .ok (.aload_n 0, 1) := by decide +kernel
theorem d_Pad_put_1 : decode m_Pad_put.2.1 1 = .ok (.getfield 15, 3) := by decide +kernel
theorem d_Pad_put_4 : decode m_Pad_put.2.1 4 = .ok (.bipush 60, 2) := by decide +kernel
theorem d_Pad_put_6 : decode m_Pad_put.2.1 6 = .ok (.if_icmp .lt 6, 3) := by decide +kernel
theorem d_Pad_put_9 : decode m_Pad_put.2.1 9 = .ok (.bipush (-4), 2) := by decide +kernel
theorem d_Pad_put_11 : decode m_Pad_put.2.1 11 = .ok (.ireturn, 1) := by decide +kernel
theorem d_Pad_put_12 : decode m_Pad_put.2.1 12 = .ok (.aload_n 0, 1) := by decide +kernel
theorem d_Pad_put_13 : decode m_Pad_put.2.1 13 = .ok (.getfield 9, 3) := by decide +kernel
theorem d_Pad_put_16 : decode m_Pad_put.2.1 16 = .ok (.aload_n 0, 1) := by decide +kernel
theorem d_Pad_put_17 : decode m_Pad_put.2.1 17 = .ok (.getfield 15, 3) := by decide +kernel
theorem d_Pad_put_20 : decode m_Pad_put.2.1 20 = .ok (.iload_n 1, 1) := by decide +kernel
theorem d_Pad_put_21 : decode m_Pad_put.2.1 21 = .ok (.iastore, 1) := by decide +kernel
theorem d_Pad_put_22 : decode m_Pad_put.2.1 22 = .ok (.aload_n 0, 1) := by decide +kernel
theorem d_Pad_put_23 : decode m_Pad_put.2.1 23 = .ok (.dup, 1) := by decide +kernel
theorem d_Pad_put_24 : decode m_Pad_put.2.1 24 = .ok (.getfield 15, 3) := by decide +kernel
theorem d_Pad_put_27 : decode m_Pad_put.2.1 27 = .ok (.iconst 1, 1) := by decide +kernel
theorem d_Pad_put_28 : decode m_Pad_put.2.1 28 = .ok (.iadd, 1) := by decide +kernel
theorem d_Pad_put_29 : decode m_Pad_put.2.1 29 = .ok (.putfield 15, 3) := by decide +kernel
theorem d_Pad_put_32 : decode m_Pad_put.2.1 32 = .ok (.aload_n 0, 1) := by decide +kernel
theorem d_Pad_put_33 : decode m_Pad_put.2.1 33 = .ok (.getfield 15, 3) := by decide +kernel
theorem d_Pad_put_36 : decode m_Pad_put.2.1 36 = .ok (.ireturn, 1) := by decide +kernel
theorem d_Pages_become_0 : decode m_Pages_become.2.1 0 = .ok (.aload_n 1, 1) := by decide +kernel
theorem d_Pages_become_1 : decode m_Pages_become.2.1 1 = .ok (.getfield 9, 3) := by decide +kernel
theorem d_Pages_become_4 : decode m_Pages_become.2.1 4 = .ok (.iconst 0, 1) := by decide +kernel
theorem d_Pages_become_5 : decode m_Pages_become.2.1 5 = .ok (.aload_n 0, 1) := by decide +kernel
theorem d_Pages_become_6 : decode m_Pages_become.2.1 6 = .ok (.getfield 9, 3) := by decide +kernel
theorem d_Pages_become_9 : decode m_Pages_become.2.1 9 = .ok (.iconst 0, 1) := by decide +kernel
theorem d_Pages_become_10 : decode m_Pages_become.2.1 10 = .ok (.bipush 10, 2) := by decide +kernel
theorem d_Pages_become_12 : decode m_Pages_become.2.1 12 = .ok (.invokestatic 27, 3) := by decide +kernel
theorem d_Pages_become_15 : decode m_Pages_become.2.1 15 = .ok (.aload_n 1, 1) := by decide +kernel
theorem d_Pages_become_16 : decode m_Pages_become.2.1 16 = .ok (.getfield 15, 3) := by decide +kernel
theorem d_Pages_become_19 : decode m_Pages_become.2.1 19 = .ok (.iconst 0, 1) := by decide +kernel
theorem d_Pages_become_20 : decode m_Pages_become.2.1 20 = .ok (.aload_n 0, 1) := by decide +kernel
theorem d_Pages_become_21 : decode m_Pages_become.2.1 21 = .ok (.getfield 15, 3) := by decide +kernel
theorem d_Pages_become_24 : decode m_Pages_become.2.1 24 = .ok (.iconst 0, 1) := by decide +kernel
theorem d_Pages_become_25 : decode m_Pages_become.2.1 25 = .ok (.bipush 10, 2) := by decide +kernel
theorem d_Pages_become_27 : decode m_Pages_become.2.1 27 = .ok (.invokestatic 27, 3) := by decide +kernel
theorem d_Pages_become_30 : decode m_Pages_become.2.1 30 = .ok (.aload_n 1, 1) := by decide +kernel
theorem d_Pages_become_31 : decode m_Pages_become.2.1 31 = .ok (.getfield 18, 3) := by decide +kernel
theorem d_Pages_become_34 : decode m_Pages_become.2.1 34 = .ok (.iconst 0, 1) := by decide +kernel
theorem d_Pages_become_35 : decode m_Pages_become.2.1 35 = .ok (.aload_n 0, 1) := by decide +kernel
theorem d_Pages_become_36 : decode m_Pages_become.2.1 36 = .ok (.getfield 18, 3) := by decide +kernel
theorem d_Pages_become_39 : decode m_Pages_become.2.1 39 = .ok (.iconst 0, 1) := by decide +kernel
theorem d_Pages_become_40 : decode m_Pages_become.2.1 40 = .ok (.bipush 10, 2) := by decide +kernel
theorem d_Pages_become_42 : decode m_Pages_become.2.1 42 = .ok (.invokestatic 27, 3) := by decide +kernel
theorem d_Pages_become_45 : decode m_Pages_become.2.1 45 = .ok (.aload_n 1, 1) := by decide +kernel
theorem d_Pages_become_46 : decode m_Pages_become.2.1 46 = .ok (.getfield 21, 3) := by decide +kernel
theorem d_Pages_become_49 : decode m_Pages_become.2.1 49 = .ok (.iconst 0, 1) := by decide +kernel
theorem d_Pages_become_50 : decode m_Pages_become.2.1 50 = .ok (.aload_n 0, 1) := by decide +kernel
theorem d_Pages_become_51 : decode m_Pages_become.2.1 51 = .ok (.getfield 21, 3) := by decide +kernel
theorem d_Pages_become_54 : decode m_Pages_become.2.1 54 = .ok (.iconst 0, 1) := by decide +kernel
theorem d_Pages_become_55 : decode m_Pages_become.2.1 55 = .ok (.bipush 10, 2) := by decide +kernel
theorem d_Pages_become_57 : decode m_Pages_become.2.1 57 = .ok (.invokestatic 27, 3) := by decide +kernel
theorem d_Pages_become_60 : decode m_Pages_become.2.1 60 = .ok (.aload_n 1, 1) := by decide +kernel
theorem d_Pages_become_61 : decode m_Pages_become.2.1 61 = .ok (.getfield 24, 3) := by decide +kernel
theorem d_Pages_become_64 : decode m_Pages_become.2.1 64 = .ok (.iconst 0, 1) := by decide +kernel
theorem d_Pages_become_65 : decode m_Pages_become.2.1 65 = .ok (.aload_n 0, 1) := by decide +kernel
theorem d_Pages_become_66 : decode m_Pages_become.2.1 66 = .ok (.getfield 24, 3) := by decide +kernel
theorem d_Pages_become_69 : decode m_Pages_become.2.1 69 = .ok (.iconst 0, 1) := by decide +kernel
theorem d_Pages_become_70 : decode m_Pages_become.2.1 70 = .ok (.bipush 10, 2) := by decide +kernel
theorem d_Pages_become_72 : decode m_Pages_become.2.1 72 = .ok (.invokestatic 27, 3) := by decide +kernel
theorem d_Pages_become_75 : decode m_Pages_become.2.1 75 = .ok (.aload_n 0, 1) := by decide +kernel
theorem d_Pages_become_76 : decode m_Pages_become.2.1 76 = .ok (.aload_n 1, 1) := by decide +kernel
theorem d_Pages_become_77 : decode m_Pages_become.2.1 77 = .ok (.getfield 33, 3) := by decide +kernel
theorem d_Pages_become_80 : decode m_Pages_become.2.1 80 = .ok (.putfield 33, 3) := by decide +kernel
theorem d_Pages_become_83 : decode m_Pages_become.2.1 83 = .ok (.return_, 1) := by decide +kernel
theorem d_Pages_behind_0 : decode m_Pages_behind.2.1 0 = .ok (.iconst 0, 1) := by decide +kernel
theorem d_Pages_behind_1 : decode m_Pages_behind.2.1 1 = .ok (.istore_n 3, 1) := by decide +kernel
theorem d_Pages_behind_2 : decode m_Pages_behind.2.1 2 = .ok (.iconst 0, 1) := by decide +kernel
