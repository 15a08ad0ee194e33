theorem dX10_call_1 : decode cX10_call 1 = .ok (.iload_n 1, 1) := by decide +kernel
theorem dX10_call_2 : decode cX10_call 2 = .ok (.invokevirtual 271, 3) := by decide +kernel
theorem dX10_call_5 : decode cX10_call 5 = .ok (.ifCond .eq 14, 3) := by decide +kernel
theorem dX10_call_8 : decode cX10_call 8 = .ok (.iload_n 2, 1) := by decide +kernel
theorem dX10_call_9 : decode cX10_call 9 = .ok (.iconst 1, 1) := by decide +kernel
theorem dX10_call_10 : decode cX10_call 10 = .ok (.sipush 9999, 3) := by decide +kernel
theorem dX10_call_13 : decode cX10_call 13 = .ok (.invokestatic 120, 3) := by decide +kernel
theorem dX10_call_16 : decode cX10_call 16 = .ok (.ifCond .ne 5, 3) := by decide +kernel
theorem dX10_call_19 : decode cX10_call 19 = .ok (.iconst (-1), 1) := by decide +kernel
theorem dX10_call_20 : decode cX10_call 20 = .ok (.ireturn, 1) := by decide +kernel
theorem dX10_call_21 : decode cX10_call 21 = .ok (.aload_n 0, 1) := by decide +kernel
theorem dX10_call_22 : decode cX10_call 22 = .ok (.getfield 41, 3) := by decide +kernel
theorem dX10_call_25 : decode cX10_call 25 = .ok (.iconst 0, 1) := by decide +kernel
theorem dX10_call_26 : decode cX10_call 26 = .ok (.iaload, 1) := by decide +kernel
theorem dX10_call_27 : decode cX10_call 27 = .ok (.ifCond .lt 25, 3) := by decide +kernel
theorem dX10_call_30 : decode cX10_call 30 = .ok (.iload_n 2, 1) := by decide +kernel
theorem dX10_call_31 : decode cX10_call 31 = .ok (.aload_n 0, 1) := by decide +kernel
theorem dX10_call_32 : decode cX10_call 32 = .ok (.getfield 41, 3) := by decide +kernel
theorem dX10_call_35 : decode cX10_call 35 = .ok (.iconst 3, 1) := by decide +kernel
theorem dX10_call_36 : decode cX10_call 36 = .ok (.iaload, 1) := by decide +kernel
theorem dX10_call_37 : decode cX10_call 37 = .ok (.if_icmp .le 15, 3) := by decide +kernel
theorem dX10_call_40 : decode cX10_call 40 = .ok (.iload_n 2, 1) := by decide +kernel
theorem dX10_call_41 : decode cX10_call 41 = .ok (.aload_n 0, 1) := by decide +kernel
theorem dX10_call_42 : decode cX10_call 42 = .ok (.getfield 41, 3) := by decide +kernel
theorem dX10_call_45 : decode cX10_call 45 = .ok (.iconst 5, 1) := by decide +kernel
theorem dX10_call_46 : decode cX10_call 46 = .ok (.iload_n 1, 1) := by decide +kernel
theorem dX10_call_47 : decode cX10_call 47 = .ok (.iadd, 1) := by decide +kernel
theorem dX10_call_48 : decode cX10_call 48 = .ok (.iaload, 1) := by decide +kernel
theorem dX10_call_49 : decode cX10_call 49 = .ok (.if_icmp .le 6, 3) := by decide +kernel
theorem dX10_call_52 : decode cX10_call 52 = .ok (.bipush (-4), 2) := by decide +kernel
theorem dX10_call_54 : decode cX10_call 54 = .ok (.ireturn, 1) := by decide +kernel
theorem dX10_call_55 : decode cX10_call 55 = .ok (.aload_n 0, 1) := by decide +kernel
theorem dX10_call_56 : decode cX10_call 56 = .ok (.getfield 41, 3) := by decide +kernel
theorem dX10_call_59 : decode cX10_call 59 = .ok (.iconst 3, 1) := by decide +kernel
theorem dX10_call_60 : decode cX10_call 60 = .ok (.iaload, 1) := by decide +kernel
theorem dX10_call_61 : decode cX10_call 61 = .ok (.istore_n 3, 1) := by decide +kernel
theorem dX10_call_62 : decode cX10_call 62 = .ok (.aload_n 0, 1) := by decide +kernel
theorem dX10_call_63 : decode cX10_call 63 = .ok (.getfield 41, 3) := by decide +kernel
theorem dX10_call_66 : decode cX10_call 66 = .ok (.iconst 3, 1) := by decide +kernel
theorem dX10_call_67 : decode cX10_call 67 = .ok (.iload_n 2, 1) := by decide +kernel
theorem dX10_call_68 : decode cX10_call 68 = .ok (.iastore, 1) := by decide +kernel
theorem dX10_call_69 : decode cX10_call 69 = .ok (.aload_n 0, 1) := by decide +kernel
theorem dX10_call_70 : decode cX10_call 70 = .ok (.getfield 41, 3) := by decide +kernel
theorem dX10_call_73 : decode cX10_call 73 = .ok (.iconst 4, 1) := by decide +kernel
theorem dX10_call_74 : decode cX10_call 74 = .ok (.iload_n 1, 1) := by decide +kernel
theorem dX10_call_75 : decode cX10_call 75 = .ok (.iastore, 1) := by decide +kernel
theorem dX10_call_76 : decode cX10_call 76 = .ok (.iload_n 3, 1) := by decide +kernel
theorem dX10_call_77 : decode cX10_call 77 = .ok (.ireturn, 1) := by decide +kernel
theorem dX10_snuff_0 : decode cX10_snuff 0 = .ok (.aload_n 0, 1) := by decide +kernel
theorem dX10_snuff_1 : decode cX10_snuff 1 = .ok (.getfield 41, 3) := by decide +kernel
theorem dX10_snuff_4 : decode cX10_snuff 4 = .ok (.iconst 0, 1) := by decide +kernel
theorem dX10_snuff_5 : decode cX10_snuff 5 = .ok (.iaload, 1) := by decide +kernel
theorem dX10_snuff_6 : decode cX10_snuff 6 = .ok (.ifCond .ge 8, 3) := by decide +kernel
theorem dX10_snuff_9 : decode cX10_snuff 9 = .ok (.bipush (-4), 2) := by decide +kernel
theorem dX10_snuff_11 : decode cX10_snuff 11 = .ok (.goto 7, 3) := by decide +kernel
theorem dX10_snuff_14 : decode cX10_snuff 14 = .ok (.aload_n 0, 1) := by decide +kernel
theorem dX10_snuff_15 : decode cX10_snuff 15 = .ok (.invokevirtual 317, 3) := by decide +kernel
theorem dX10_snuff_18 : decode cX10_snuff 18 = .ok (.ireturn, 1) := by decide +kernel
theorem dX10_back_0 : decode cX10_back 0 = .ok (.aload_n 0, 1) := by decide +kernel
theorem dX10_back_1 : decode cX10_back 1 = .ok (.iload_n 1, 1) := by decide +kernel
theorem dX10_back_2 : decode cX10_back 2 = .ok (.invokevirtual 124, 3) := by decide +kernel
theorem dX10_back_5 : decode cX10_back 5 = .ok (.ifCond .ne 5, 3) := by decide +kernel
theorem dX10_back_8 : decode cX10_back 8 = .ok (.iconst (-1), 1) := by decide +kernel
theorem dX10_back_9 : decode cX10_back 9 = .ok (.ireturn, 1) := by decide +kernel
theorem dX10_back_10 : decode cX10_back 10 = .ok (.aload_n 0, 1) := by decide +kernel
theorem dX10_back_11 : decode cX10_back 11 = .ok (.getfield 16, 3) := by decide +kernel
theorem dX10_back_14 : decode cX10_back 14 = .ok (.iload_n 1, 1) := by decide +kernel
theorem dX10_back_15 : decode cX10_back 15 = .ok (.iaload, 1) := by decide +kernel
theorem dX10_back_16 : decode cX10_back 16 = .ok (.ifCond .ne 6, 3) := by decide +kernel
theorem dX10_back_19 : decode cX10_back 19 = .ok (.bipush (-4), 2) := by decide +kernel
theorem dX10_back_21 : decode cX10_back 21 = .ok (.ireturn, 1) := by decide +kernel
theorem dX10_back_22 : decode cX10_back 22 = .ok (.aload_n 0, 1) := by decide +kernel
theorem dX10_back_23 : decode cX10_back 23 = .ok (.getfield 16, 3) := by decide +kernel
theorem dX10_back_26 : decode cX10_back 26 = .ok (.iload_n 1, 1) := by decide +kernel
theorem dX10_back_27 : decode cX10_back 27 = .ok (.iconst 0, 1) := by decide +kernel
theorem dX10_back_28 : decode cX10_back 28 = .ok (.iastore, 1) := by decide +kernel
theorem dX10_back_29 : decode cX10_back 29 = .ok (.aload_n 0, 1) := by decide +kernel
theorem dX10_back_30 : decode cX10_back 30 = .ok (.getfield 22, 3) := by decide +kernel
theorem dX10_back_33 : decode cX10_back 33 = .ok (.iload_n 1, 1) := by decide +kernel
theorem dX10_back_34 : decode cX10_back 34 = .ok (.iaload, 1) := by decide +kernel
theorem dX10_back_35 : decode cX10_back 35 = .ok (.istore_n 2, 1) := by decide +kernel
theorem dX10_back_36 : decode cX10_back 36 = .ok (.iload_n 2, 1) := by decide +kernel
theorem dX10_back_37 : decode cX10_back 37 = .ok (.ifCond .lt 41, 3) := by decide +kernel
theorem dX10_back_40 : decode cX10_back 40 = .ok (.aload_n 0, 1) := by decide +kernel
theorem dX10_back_41 : decode cX10_back 41 = .ok (.getfield 41, 3) := by decide +kernel
theorem dX10_back_44 : decode cX10_back 44 = .ok (.iconst 5, 1) := by decide +kernel
theorem dX10_back_45 : decode cX10_back 45 = .ok (.iload_n 2, 1) := by decide +kernel
theorem dX10_back_46 : decode cX10_back 46 = .ok (.iadd, 1) := by decide +kernel
theorem dX10_back_47 : decode cX10_back 47 = .ok (.iaload, 1) := by decide +kernel
theorem dX10_back_48 : decode cX10_back 48 = .ok (.aload_n 0, 1) := by decide +kernel
theorem dX10_back_49 : decode cX10_back 49 = .ok (.getfield 19, 3) := by decide +kernel
theorem dX10_back_52 : decode cX10_back 52 = .ok (.iload_n 1, 1) := by decide +kernel
theorem dX10_back_53 : decode cX10_back 53 = .ok (.iaload, 1) := by decide +kernel
theorem dX10_back_54 : decode cX10_back 54 = .ok (.iadd, 1) := by decide +kernel
theorem dX10_back_55 : decode cX10_back 55 = .ok (.istore_n 3, 1) := by decide +kernel
theorem dX10_back_56 : decode cX10_back 56 = .ok (.aload_n 0, 1) := by decide +kernel
theorem dX10_back_57 : decode cX10_back 57 = .ok (.getfield 41, 3) := by decide +kernel
theorem dX10_back_60 : decode cX10_back 60 = .ok (.iconst 5, 1) := by decide +kernel
theorem dX10_back_61 : decode cX10_back 61 = .ok (.iload_n 2, 1) := by decide +kernel
theorem dX10_back_62 : decode cX10_back 62 = .ok (.iadd, 1) := by decide +kernel
theorem dX10_back_63 : decode cX10_back 63 = .ok (.iload_n 3, 1) := by decide +kernel
theorem dX10_back_64 : decode cX10_back 64 = .ok (.sipush 9999, 3) := by decide +kernel
theorem dX10_back_67 : decode cX10_back 67 = .ok (.if_icmp .le 9, 3) := by decide +kernel
theorem dX10_back_70 : decode cX10_back 70 = .ok (.sipush 9999, 3) := by decide +kernel
theorem dX10_back_73 : decode cX10_back 73 = .ok (.goto 4, 3) := by decide +kernel
theorem dX10_back_76 : decode cX10_back 76 = .ok (.iload_n 3, 1) := by decide +kernel
theorem dX10_back_77 : decode cX10_back 77 = .ok (.iastore, 1) := by decide +kernel
theorem dX10_back_78 : decode cX10_back 78 = .ok (.iconst 1, 1) := by decide +kernel
theorem dX10_back_79 : decode cX10_back 79 = .ok (.ireturn, 1) := by decide +kernel
theorem dX10_lends_0 : decode cX10_lends 0 = .ok (.aload_n 0, 1) := by decide +kernel
theorem dX10_lends_1 : decode cX10_lends 1 = .ok (.iconst 0, 1) := by decide +kernel
theorem dX10_lends_2 : decode cX10_lends 2 = .ok (.putfield 131, 3) := by decide +kernel
theorem dX10_lends_5 : decode cX10_lends 5 = .ok (.iconst 0, 1) := by decide +kernel
theorem dX10_lends_6 : decode cX10_lends 6 = .ok (.istore_n 1, 1) := by decide +kernel
theorem dX10_lends_7 : decode cX10_lends 7 = .ok (.iload_n 1, 1) := by decide +kernel
theorem dX10_lends_8 : decode cX10_lends 8 = .ok (.bipush 11, 2) := by decide +kernel
theorem dX10_lends_10 : decode cX10_lends 10 = .ok (.if_icmp .ge 24, 3) := by decide +kernel
theorem dX10_lends_13 : decode cX10_lends 13 = .ok (.aload_n 0, 1) := by decide +kernel
theorem dX10_lends_14 : decode cX10_lends 14 = .ok (.getfield 41, 3) := by decide +kernel
theorem dX10_lends_17 : decode cX10_lends 17 = .ok (.bipush 11, 2) := by decide +kernel
theorem dX10_lends_19 : decode cX10_lends 19 = .ok (.iload_n 1, 1) := by decide +kernel
theorem dX10_lends_20 : decode cX10_lends 20 = .ok (.iadd, 1) := by decide +kernel
theorem dX10_lends_21 : decode cX10_lends 21 = .ok (.aload_n 0, 1) := by decide +kernel
theorem dX10_lends_22 : decode cX10_lends 22 = .ok (.getfield 41, 3) := by decide +kernel
theorem dX10_lends_25 : decode cX10_lends 25 = .ok (.iload_n 1, 1) := by decide +kernel
theorem dX10_lends_26 : decode cX10_lends 26 = .ok (.iaload, 1) := by decide +kernel
theorem dX10_lends_27 : decode cX10_lends 27 = .ok (.iastore, 1) := by decide +kernel
theorem dX10_lends_28 : decode cX10_lends 28 = .ok (.iinc 1 1, 3) := by decide +kernel
theorem dX10_lends_31 : decode cX10_lends 31 = .ok (.goto (-24), 3) := by decide +kernel
theorem dX10_lends_34 : decode cX10_lends 34 = .ok (.aload_n 0, 1) := by decide +kernel
theorem dX10_lends_35 : decode cX10_lends 35 = .ok (.bipush 11, 2) := by decide +kernel
theorem dX10_lends_37 : decode cX10_lends 37 = .ok (.putfield 131, 3) := by decide +kernel
theorem dX10_lends_40 : decode cX10_lends 40 = .ok (.return_, 1) := by decide +kernel
theorem dX10_burnsOut_0 : decode cX10_burnsOut 0 = .ok (.aload_n 0, 1) := by decide +kernel
theorem dX10_burnsOut_1 : decode cX10_burnsOut 1 = .ok (.iload_n 1, 1) := by decide +kernel
theorem dX10_burnsOut_2 : decode cX10_burnsOut 2 = .ok (.invokevirtual 304, 3) := by decide +kernel
theorem dX10_burnsOut_5 : decode cX10_burnsOut 5 = .ok (.iconst 1, 1) := by decide +kernel
theorem dX10_burnsOut_6 : decode cX10_burnsOut 6 = .ok (.istore_n 2, 1) := by decide +kernel
theorem dX10_burnsOut_7 : decode cX10_burnsOut 7 = .ok (.aload_n 0, 1) := by decide +kernel
theorem dX10_burnsOut_8 : decode cX10_burnsOut 8 = .ok (.invokevirtual 313, 3) := by decide +kernel
theorem dX10_burnsOut_11 : decode cX10_burnsOut 11 = .ok (.ifCond .ne 9, 3) := by decide +kernel
theorem dX10_burnsOut_14 : decode cX10_burnsOut 14 = .ok (.iinc 2 1, 3) := by decide +kernel
theorem dX10_burnsOut_17 : decode cX10_burnsOut 17 = .ok (.goto (-10), 3) := by decide +kernel
theorem dX10_burnsOut_20 : decode cX10_burnsOut 20 = .ok (.iload_n 2, 1) := by decide +kernel
theorem dX10_burnsOut_21 : decode cX10_burnsOut 21 = .ok (.ireturn, 1) := by decide +kernel
theorem dX10_tries_0 : decode cX10_tries 0 = .ok (.aload_n 0, 1) := by decide +kernel
theorem dX10_tries_1 : decode cX10_tries 1 = .ok (.iconst 0, 1) := by decide +kernel
theorem dX10_tries_2 : decode cX10_tries 2 = .ok (.putfield 295, 3) := by decide +kernel
theorem dX10_tries_5 : decode cX10_tries 5 = .ok (.aload_n 0, 1) := by decide +kernel
theorem dX10_tries_6 : decode cX10_tries 6 = .ok (.invokevirtual 320, 3) := by decide +kernel
theorem dX10_tries_9 : decode cX10_tries 9 = .ok (.aload_n 0, 1) := by decide +kernel
theorem dX10_tries_10 : decode cX10_tries 10 = .ok (.aload_n 0, 1) := by decide +kernel
theorem dX10_tries_11 : decode cX10_tries 11 = .ok (.iload_n 1, 1) := by decide +kernel
theorem dX10_tries_12 : decode cX10_tries 12 = .ok (.invokevirtual 323, 3) := by decide +kernel
theorem dX10_tries_15 : decode cX10_tries 15 = .ok (.putfield 326, 3) := by decide +kernel
theorem dX10_tries_18 : decode cX10_tries 18 = .ok (.aload_n 0, 1) := by decide +kernel
theorem dX10_tries_19 : decode cX10_tries 19 = .ok (.aload_n 0, 1) := by decide +kernel
theorem dX10_tries_20 : decode cX10_tries 20 = .ok (.iconst 4, 1) := by decide +kernel
theorem dX10_tries_21 : decode cX10_tries 21 = .ok (.invokevirtual 277, 3) := by decide +kernel
theorem dX10_tries_24 : decode cX10_tries 24 = .ok (.putfield 329, 3) := by decide +kernel
theorem dX10_tries_27 : decode cX10_tries 27 = .ok (.aload_n 0, 1) := by decide +kernel
theorem dX10_tries_28 : decode cX10_tries 28 = .ok (.aload_n 0, 1) := by decide +kernel
theorem dX10_tries_29 : decode cX10_tries 29 = .ok (.getfield 329, 3) := by decide +kernel
theorem dX10_tries_32 : decode cX10_tries 32 = .ok (.ifCond .ge 7, 3) := by decide +kernel
theorem dX10_tries_35 : decode cX10_tries 35 = .ok (.iconst 0, 1) := by decide +kernel
theorem dX10_tries_36 : decode cX10_tries 36 = .ok (.goto 8, 3) := by decide +kernel
theorem dX10_tries_39 : decode cX10_tries 39 = .ok (.aload_n 0, 1) := by decide +kernel
theorem dX10_tries_40 : decode cX10_tries 40 = .ok (.iconst 3, 1) := by decide +kernel
theorem dX10_tries_41 : decode cX10_tries 41 = .ok (.invokevirtual 277, 3) := by decide +kernel
theorem dX10_tries_44 : decode cX10_tries 44 = .ok (.putfield 332, 3) := by decide +kernel
theorem dX10_tries_47 : decode cX10_tries 47 = .ok (.aload_n 0, 1) := by decide +kernel
theorem dX10_tries_48 : decode cX10_tries 48 = .ok (.iconst 0, 1) := by decide +kernel
theorem dX10_tries_49 : decode cX10_tries 49 = .ok (.putfield 131, 3) := by decide +kernel
theorem dX10_tries_52 : decode cX10_tries 52 = .ok (.return_, 1) := by decide +kernel
theorem dX10_end_0 : decode cX10_end 0 = .ok (.aload_n 0, 1) := by decide +kernel
theorem dX10_end_1 : decode cX10_end 1 = .ok (.iload_n 1, 1) := by decide +kernel
theorem dX10_end_2 : decode cX10_end 2 = .ok (.invokevirtual 335, 3) := by decide +kernel
theorem dX10_end_5 : decode cX10_end 5 = .ok (.ifCond .ne 5, 3) := by decide +kernel
theorem dX10_end_8 : decode cX10_end 8 = .ok (.iconst (-1), 1) := by decide +kernel
theorem dX10_end_9 : decode cX10_end 9 = .ok (.ireturn, 1) := by decide +kernel
theorem dX10_end_10 : decode cX10_end 10 = .ok (.aload_n 0, 1) := by decide +kernel
theorem dX10_end_11 : decode cX10_end 11 = .ok (.iload_n 1, 1) := by decide +kernel
theorem dX10_end_12 : decode cX10_end 12 = .ok (.invokevirtual 338, 3) := by decide +kernel
theorem dX10_end_15 : decode cX10_end 15 = .ok (.aload_n 0, 1) := by decide +kernel
theorem dX10_end_16 : decode cX10_end 16 = .ok (.getfield 326, 3) := by decide +kernel
theorem dX10_end_19 : decode cX10_end 19 = .ok (.ireturn, 1) := by decide +kernel
theorem dX10_wins_0 : decode cX10_wins 0 = .ok (.aload_n 0, 1) := by decide +kernel
theorem dX10_wins_1 : decode cX10_wins 1 = .ok (.iload_n 1, 1) := by decide +kernel
theorem dX10_wins_2 : decode cX10_wins 2 = .ok (.invokevirtual 335, 3) := by decide +kernel
theorem dX10_wins_5 : decode cX10_wins 5 = .ok (.ifCond .eq 10, 3) := by decide +kernel
theorem dX10_wins_8 : decode cX10_wins 8 = .ok (.iload_n 2, 1) := by decide +kernel
theorem dX10_wins_9 : decode cX10_wins 9 = .ok (.invokestatic 265, 3) := by decide +kernel
theorem dX10_wins_12 : decode cX10_wins 12 = .ok (.ifCond .ne 5, 3) := by decide +kernel
theorem dX10_wins_15 : decode cX10_wins 15 = .ok (.iconst (-1), 1) := by decide +kernel
theorem dX10_wins_16 : decode cX10_wins 16 = .ok (.ireturn, 1) := by decide +kernel
theorem dX10_wins_17 : decode cX10_wins 17 = .ok (.aload_n 0, 1) := by decide +kernel
theorem dX10_wins_18 : decode cX10_wins 18 = .ok (.iload_n 1, 1) := by decide +kernel
theorem dX10_wins_19 : decode cX10_wins 19 = .ok (.invokevirtual 338, 3) := by decide +kernel
theorem dX10_wins_22 : decode cX10_wins 22 = .ok (.iload_n 2, 1) := by decide +kernel
theorem dX10_wins_23 : decode cX10_wins 23 = .ok (.ifCond .ne 13, 3) := by decide +kernel
theorem dX10_wins_26 : decode cX10_wins 26 = .ok (.aload_n 0, 1) := by decide +kernel
theorem dX10_wins_27 : decode cX10_wins 27 = .ok (.getfield 329, 3) := by decide +kernel
theorem dX10_wins_30 : decode cX10_wins 30 = .ok (.invokestatic 307, 3) := by decide +kernel
theorem dX10_wins_33 : decode cX10_wins 33 = .ok (.goto 7, 3) := by decide +kernel
theorem dX10_wins_36 : decode cX10_wins 36 = .ok (.aload_n 0, 1) := by decide +kernel
theorem dX10_wins_37 : decode cX10_wins 37 = .ok (.getfield 332, 3) := by decide +kernel
theorem dX10_wins_40 : decode cX10_wins 40 = .ok (.ireturn, 1) := by decide +kernel
theorem dX10_patience_0 : decode cX10_patience 0 = .ok (.aload_n 0, 1) := by decide +kernel
theorem dX10_patience_1 : decode cX10_patience 1 = .ok (.iload_n 1, 1) := by decide +kernel
theorem dX10_patience_2 : decode cX10_patience 2 = .ok (.invokevirtual 271, 3) := by decide +kernel
theorem dX10_patience_5 : decode cX10_patience 5 = .ok (.ifCond .eq 11, 3) := by decide +kernel
theorem dX10_patience_8 : decode cX10_patience 8 = .ok (.aload_n 0, 1) := by decide +kernel
theorem dX10_patience_9 : decode cX10_patience 9 = .ok (.iload_n 2, 1) := by decide +kernel
theorem dX10_patience_10 : decode cX10_patience 10 = .ok (.invokevirtual 335, 3) := by decide +kernel
theorem dX10_patience_13 : decode cX10_patience 13 = .ok (.ifCond .ne 5, 3) := by decide +kernel
theorem dX10_patience_16 : decode cX10_patience 16 = .ok (.iconst (-1), 1) := by decide +kernel
theorem dX10_patience_17 : decode cX10_patience 17 = .ok (.ireturn, 1) := by decide +kernel
theorem dX10_patience_18 : decode cX10_patience 18 = .ok (.aload_n 0, 1) := by decide +kernel
theorem dX10_patience_19 : decode cX10_patience 19 = .ok (.getfield 35, 3) := by decide +kernel
theorem dX10_patience_22 : decode cX10_patience 22 = .ok (.iload_n 1, 1) := by decide +kernel
theorem dX10_patience_23 : decode cX10_patience 23 = .ok (.iaload, 1) := by decide +kernel
theorem dX10_patience_24 : decode cX10_patience 24 = .ok (.istore_n 3, 1) := by decide +kernel
theorem dX10_patience_25 : decode cX10_patience 25 = .ok (.bipush (-3), 2) := by decide +kernel
theorem dX10_patience_27 : decode cX10_patience 27 = .ok (.istore 4, 2) := by decide +kernel
theorem dX10_patience_29 : decode cX10_patience 29 = .ok (.iconst 0, 1) := by decide +kernel
theorem dX10_patience_30 : decode cX10_patience 30 = .ok (.istore 5, 2) := by decide +kernel
theorem dX10_patience_32 : decode cX10_patience 32 = .ok (.iconst 0, 1) := by decide +kernel
theorem dX10_patience_33 : decode cX10_patience 33 = .ok (.istore 6, 2) := by decide +kernel
theorem dX10_patience_35 : decode cX10_patience 35 = .ok (.iload 6, 2) := by decide +kernel
theorem dX10_patience_37 : decode cX10_patience 37 = .ok (.bipush 10, 2) := by decide +kernel
theorem dX10_patience_39 : decode cX10_patience 39 = .ok (.if_icmp .ge 54, 3) := by decide +kernel
theorem dX10_patience_42 : decode cX10_patience 42 = .ok (.aload_n 0, 1) := by decide +kernel
theorem dX10_patience_43 : decode cX10_patience 43 = .ok (.getfield 35, 3) := by decide +kernel
theorem dX10_patience_46 : decode cX10_patience 46 = .ok (.iload_n 1, 1) := by decide +kernel
theorem dX10_patience_47 : decode cX10_patience 47 = .ok (.iload 6, 2) := by decide +kernel
theorem dX10_patience_49 : decode cX10_patience 49 = .ok (.iastore, 1) := by decide +kernel
theorem dX10_patience_50 : decode cX10_patience 50 = .ok (.aload_n 0, 1) := by decide +kernel
theorem dX10_patience_51 : decode cX10_patience 51 = .ok (.iload_n 2, 1) := by decide +kernel
theorem dX10_patience_52 : decode cX10_patience 52 = .ok (.invokevirtual 338, 3) := by decide +kernel
theorem dX10_patience_55 : decode cX10_patience 55 = .ok (.aload_n 0, 1) := by decide +kernel
theorem dX10_patience_56 : decode cX10_patience 56 = .ok (.getfield 329, 3) := by decide +kernel
theorem dX10_patience_59 : decode cX10_patience 59 = .ok (.iload_n 1, 1) := by decide +kernel
theorem dX10_patience_60 : decode cX10_patience 60 = .ok (.if_icmp .ne 27, 3) := by decide +kernel
theorem dX10_patience_63 : decode cX10_patience 63 = .ok (.iload 4, 2) := by decide +kernel
theorem dX10_patience_65 : decode cX10_patience 65 = .ok (.ifCond .lt 12, 3) := by decide +kernel
theorem dX10_patience_68 : decode cX10_patience 68 = .ok (.aload_n 0, 1) := by decide +kernel
theorem dX10_patience_69 : decode cX10_patience 69 = .ok (.getfield 332, 3) := by decide +kernel
theorem dX10_patience_72 : decode cX10_patience 72 = .ok (.iload 5, 2) := by decide +kernel
theorem dX10_patience_74 : decode cX10_patience 74 = .ok (.if_icmp .ge 13, 3) := by decide +kernel
theorem dX10_patience_77 : decode cX10_patience 77 = .ok (.iload 6, 2) := by decide +kernel
theorem dX10_patience_79 : decode cX10_patience 79 = .ok (.istore 4, 2) := by decide +kernel
theorem dX10_patience_81 : decode cX10_patience 81 = .ok (.aload_n 0, 1) := by decide +kernel
theorem dX10_patience_82 : decode cX10_patience 82 = .ok (.getfield 332, 3) := by decide +kernel
theorem dX10_patience_85 : decode cX10_patience 85 = .ok (.istore 5, 2) := by decide +kernel
theorem dX10_patience_87 : decode cX10_patience 87 = .ok (.iinc 6 1, 3) := by decide +kernel
theorem dX10_patience_90 : decode cX10_patience 90 = .ok (.goto (-55), 3) := by decide +kernel
theorem dX10_patience_93 : decode cX10_patience 93 = .ok (.aload_n 0, 1) := by decide +kernel
theorem dX10_patience_94 : decode cX10_patience 94 = .ok (.getfield 35, 3) := by decide +kernel
theorem dX10_patience_97 : decode cX10_patience 97 = .ok (.iload_n 1, 1) := by decide +kernel
theorem dX10_patience_98 : decode cX10_patience 98 = .ok (.iload_n 3, 1) := by decide +kernel
theorem dX10_patience_99 : decode cX10_patience 99 = .ok (.iastore, 1) := by decide +kernel
theorem dX10_patience_100 : decode cX10_patience 100 = .ok (.iload 4, 2) := by decide +kernel
theorem dX10_patience_102 : decode cX10_patience 102 = .ok (.ireturn, 1) := by decide +kernel
theorem dX10_gust_0 : decode cX10_gust 0 = .ok (.aload_n 0, 1) := by decide +kernel
theorem dX10_gust_1 : decode cX10_gust 1 = .ok (.iload_n 1, 1) := by decide +kernel
theorem dX10_gust_2 : decode cX10_gust 2 = .ok (.invokevirtual 271, 3) := by decide +kernel
theorem dX10_gust_5 : decode cX10_gust 5 = .ok (.ifCond .eq 11, 3) := by decide +kernel
theorem dX10_gust_8 : decode cX10_gust 8 = .ok (.aload_n 0, 1) := by decide +kernel
theorem dX10_gust_9 : decode cX10_gust 9 = .ok (.iload_n 2, 1) := by decide +kernel
theorem dX10_gust_10 : decode cX10_gust 10 = .ok (.invokevirtual 335, 3) := by decide +kernel
theorem dX10_gust_13 : decode cX10_gust 13 = .ok (.ifCond .ne 5, 3) := by decide +kernel
theorem dX10_gust_16 : decode cX10_gust 16 = .ok (.iconst (-1), 1) := by decide +kernel
theorem dX10_gust_17 : decode cX10_gust 17 = .ok (.ireturn, 1) := by decide +kernel
theorem dX10_gust_18 : decode cX10_gust 18 = .ok (.bipush (-3), 2) := by decide +kernel
theorem dX10_gust_20 : decode cX10_gust 20 = .ok (.istore_n 3, 1) := by decide +kernel
theorem dX10_gust_21 : decode cX10_gust 21 = .ok (.iconst 0, 1) := by decide +kernel
theorem dX10_gust_22 : decode cX10_gust 22 = .ok (.istore 4, 2) := by decide +kernel
theorem dX10_gust_24 : decode cX10_gust 24 = .ok (.iconst 0, 1) := by decide +kernel
theorem dX10_gust_25 : decode cX10_gust 25 = .ok (.istore 5, 2) := by decide +kernel
theorem dX10_gust_27 : decode cX10_gust 27 = .ok (.iload 5, 2) := by decide +kernel
theorem dX10_gust_29 : decode cX10_gust 29 = .ok (.bipush 12, 2) := by decide +kernel
theorem dX10_gust_31 : decode cX10_gust 31 = .ok (.if_icmp .ge 92, 3) := by decide +kernel
theorem dX10_gust_34 : decode cX10_gust 34 = .ok (.aload_n 0, 1) := by decide +kernel
theorem dX10_gust_35 : decode cX10_gust 35 = .ok (.getfield 25, 3) := by decide +kernel
theorem dX10_gust_38 : decode cX10_gust 38 = .ok (.iload 5, 2) := by decide +kernel
theorem dX10_gust_40 : decode cX10_gust 40 = .ok (.iaload, 1) := by decide +kernel
theorem dX10_gust_41 : decode cX10_gust 41 = .ok (.istore 6, 2) := by decide +kernel
theorem dX10_gust_43 : decode cX10_gust 43 = .ok (.iconst 0, 1) := by decide +kernel
theorem dX10_gust_44 : decode cX10_gust 44 = .ok (.istore 7, 2) := by decide +kernel
theorem dX10_gust_46 : decode cX10_gust 46 = .ok (.iload 7, 2) := by decide +kernel
theorem dX10_gust_48 : decode cX10_gust 48 = .ok (.iconst 4, 1) := by decide +kernel
theorem dX10_gust_49 : decode cX10_gust 49 = .ok (.if_icmp .ge 59, 3) := by decide +kernel
theorem dX10_gust_52 : decode cX10_gust 52 = .ok (.aload_n 0, 1) := by decide +kernel
theorem dX10_gust_53 : decode cX10_gust 53 = .ok (.getfield 25, 3) := by decide +kernel
theorem dX10_gust_56 : decode cX10_gust 56 = .ok (.iload 5, 2) := by decide +kernel
theorem dX10_gust_58 : decode cX10_gust 58 = .ok (.iload 7, 2) := by decide +kernel
theorem dX10_gust_60 : decode cX10_gust 60 = .ok (.iastore, 1) := by decide +kernel
theorem dX10_gust_61 : decode cX10_gust 61 = .ok (.aload_n 0, 1) := by decide +kernel
theorem dX10_gust_62 : decode cX10_gust 62 = .ok (.iload_n 2, 1) := by decide +kernel
theorem dX10_gust_63 : decode cX10_gust 63 = .ok (.invokevirtual 338, 3) := by decide +kernel
theorem dX10_gust_66 : decode cX10_gust 66 = .ok (.aload_n 0, 1) := by decide +kernel
theorem dX10_gust_67 : decode cX10_gust 67 = .ok (.getfield 329, 3) := by decide +kernel
theorem dX10_gust_70 : decode cX10_gust 70 = .ok (.iload_n 1, 1) := by decide +kernel
theorem dX10_gust_71 : decode cX10_gust 71 = .ok (.if_icmp .ne 31, 3) := by decide +kernel
theorem dX10_gust_74 : decode cX10_gust 74 = .ok (.iload_n 3, 1) := by decide +kernel
theorem dX10_gust_75 : decode cX10_gust 75 = .ok (.ifCond .lt 12, 3) := by decide +kernel
theorem dX10_gust_78 : decode cX10_gust 78 = .ok (.aload_n 0, 1) := by decide +kernel
theorem dX10_gust_79 : decode cX10_gust 79 = .ok (.getfield 332, 3) := by decide +kernel
theorem dX10_gust_82 : decode cX10_gust 82 = .ok (.iload 4, 2) := by decide +kernel
theorem dX10_gust_84 : decode cX10_gust 84 = .ok (.if_icmp .ge 18, 3) := by decide +kernel
theorem dX10_gust_87 : decode cX10_gust 87 = .ok (.bipush 10, 2) := by decide +kernel
theorem dX10_gust_89 : decode cX10_gust 89 = .ok (.iload 5, 2) := by decide +kernel
theorem dX10_gust_91 : decode cX10_gust 91 = .ok (.imul, 1) := by decide +kernel
theorem dX10_gust_92 : decode cX10_gust 92 = .ok (.iload 7, 2) := by decide +kernel
theorem dX10_gust_94 : decode cX10_gust 94 = .ok (.iadd, 1) := by decide +kernel
theorem dX10_gust_95 : decode cX10_gust 95 = .ok (.istore_n 3, 1) := by decide +kernel
theorem dX10_gust_96 : decode cX10_gust 96 = .ok (.aload_n 0, 1) := by decide +kernel
theorem dX10_gust_97 : decode cX10_gust 97 = .ok (.getfield 332, 3) := by decide +kernel
theorem dX10_gust_100 : decode cX10_gust 100 = .ok (.istore 4, 2) := by decide +kernel
theorem dX10_gust_102 : decode cX10_gust 102 = .ok (.iinc 7 1, 3) := by decide +kernel
theorem dX10_gust_105 : decode cX10_gust 105 = .ok (.goto (-59), 3) := by decide +kernel
theorem dX10_gust_108 : decode cX10_gust 108 = .ok (.aload_n 0, 1) := by decide +kernel
theorem dX10_gust_109 : decode cX10_gust 109 = .ok (.getfield 25, 3) := by decide +kernel
theorem dX10_gust_112 : decode cX10_gust 112 = .ok (.iload 5, 2) := by decide +kernel
theorem dX10_gust_114 : decode cX10_gust 114 = .ok (.iload 6, 2) := by decide +kernel
theorem dX10_gust_116 : decode cX10_gust 116 = .ok (.iastore, 1) := by decide +kernel
theorem dX10_gust_117 : decode cX10_gust 117 = .ok (.iinc 5 1, 3) := by decide +kernel
theorem dX10_gust_120 : decode cX10_gust 120 = .ok (.goto (-93), 3) := by decide +kernel
theorem dX10_gust_123 : decode cX10_gust 123 = .ok (.iload_n 3, 1) := by decide +kernel
theorem dX10_gust_124 : decode cX10_gust 124 = .ok (.ireturn, 1) := by decide +kernel
theorem dX10_wax_0 : decode cX10_wax 0 = .ok (.aload_n 0, 1) := by decide +kernel
theorem dX10_wax_1 : decode cX10_wax 1 = .ok (.iload_n 1, 1) := by decide +kernel
theorem dX10_wax_2 : decode cX10_wax 2 = .ok (.invokevirtual 335, 3) := by decide +kernel
theorem dX10_wax_5 : decode cX10_wax 5 = .ok (.ifCond .eq 10, 3) := by decide +kernel
theorem dX10_wax_8 : decode cX10_wax 8 = .ok (.iload_n 2, 1) := by decide +kernel
theorem dX10_wax_9 : decode cX10_wax 9 = .ok (.invokestatic 265, 3) := by decide +kernel
theorem dX10_wax_12 : decode cX10_wax 12 = .ok (.ifCond .ne 5, 3) := by decide +kernel
theorem dX10_wax_15 : decode cX10_wax 15 = .ok (.iconst (-1), 1) := by decide +kernel
theorem dX10_wax_16 : decode cX10_wax 16 = .ok (.ireturn, 1) := by decide +kernel
theorem dX10_wax_17 : decode cX10_wax 17 = .ok (.aload_n 0, 1) := by decide +kernel
theorem dX10_wax_18 : decode cX10_wax 18 = .ok (.getfield 7, 3) := by decide +kernel
theorem dX10_wax_21 : decode cX10_wax 21 = .ok (.iload_n 1, 1) := by decide +kernel
theorem dX10_wax_22 : decode cX10_wax 22 = .ok (.iaload, 1) := by decide +kernel
theorem dX10_wax_23 : decode cX10_wax 23 = .ok (.istore_n 3, 1) := by decide +kernel
theorem dX10_wax_24 : decode cX10_wax 24 = .ok (.iconst 1, 1) := by decide +kernel
theorem dX10_wax_25 : decode cX10_wax 25 = .ok (.istore 4, 2) := by decide +kernel
theorem dX10_wax_27 : decode cX10_wax 27 = .ok (.iconst (-1), 1) := by decide +kernel
theorem dX10_wax_28 : decode cX10_wax 28 = .ok (.istore 5, 2) := by decide +kernel
theorem dX10_wax_30 : decode cX10_wax 30 = .ok (.iconst 1, 1) := by decide +kernel
theorem dX10_wax_31 : decode cX10_wax 31 = .ok (.istore 6, 2) := by decide +kernel
theorem dX10_wax_33 : decode cX10_wax 33 = .ok (.iload 6, 2) := by decide +kernel
theorem dX10_wax_35 : decode cX10_wax 35 = .ok (.bipush 60, 2) := by decide +kernel
theorem dX10_wax_37 : decode cX10_wax 37 = .ok (.if_icmp .gt 60, 3) := by decide +kernel
theorem dX10_wax_40 : decode cX10_wax 40 = .ok (.aload_n 0, 1) := by decide +kernel
theorem dX10_wax_41 : decode cX10_wax 41 = .ok (.getfield 7, 3) := by decide +kernel
theorem dX10_wax_44 : decode cX10_wax 44 = .ok (.iload_n 1, 1) := by decide +kernel
theorem dX10_wax_45 : decode cX10_wax 45 = .ok (.iload 6, 2) := by decide +kernel
theorem dX10_wax_47 : decode cX10_wax 47 = .ok (.iastore, 1) := by decide +kernel
theorem dX10_wax_48 : decode cX10_wax 48 = .ok (.aload_n 0, 1) := by decide +kernel
theorem dX10_wax_49 : decode cX10_wax 49 = .ok (.iload_n 1, 1) := by decide +kernel
theorem dX10_wax_50 : decode cX10_wax 50 = .ok (.invokevirtual 338, 3) := by decide +kernel
theorem dX10_wax_53 : decode cX10_wax 53 = .ok (.aload_n 0, 1) := by decide +kernel
theorem dX10_wax_54 : decode cX10_wax 54 = .ok (.getfield 332, 3) := by decide +kernel
theorem dX10_wax_57 : decode cX10_wax 57 = .ok (.iload 5, 2) := by decide +kernel
theorem dX10_wax_59 : decode cX10_wax 59 = .ok (.if_icmp .le 8, 3) := by decide +kernel
theorem dX10_wax_62 : decode cX10_wax 62 = .ok (.iload 6, 2) := by decide +kernel
theorem dX10_wax_64 : decode cX10_wax 64 = .ok (.goto 5, 3) := by decide +kernel
theorem dX10_wax_67 : decode cX10_wax 67 = .ok (.iload 4, 2) := by decide +kernel
theorem dX10_wax_69 : decode cX10_wax 69 = .ok (.istore 4, 2) := by decide +kernel
theorem dX10_wax_71 : decode cX10_wax 71 = .ok (.aload_n 0, 1) := by decide +kernel
theorem dX10_wax_72 : decode cX10_wax 72 = .ok (.getfield 332, 3) := by decide +kernel
theorem dX10_wax_75 : decode cX10_wax 75 = .ok (.iload 5, 2) := by decide +kernel
theorem dX10_wax_77 : decode cX10_wax 77 = .ok (.if_icmp .le 10, 3) := by decide +kernel
theorem dX10_wax_80 : decode cX10_wax 80 = .ok (.aload_n 0, 1) := by decide +kernel
theorem dX10_wax_81 : decode cX10_wax 81 = .ok (.getfield 332, 3) := by decide +kernel
theorem dX10_wax_84 : decode cX10_wax 84 = .ok (.goto 5, 3) := by decide +kernel
theorem dX10_wax_87 : decode cX10_wax 87 = .ok (.iload 5, 2) := by decide +kernel
theorem dX10_wax_89 : decode cX10_wax 89 = .ok (.istore 5, 2) := by decide +kernel
theorem dX10_wax_91 : decode cX10_wax 91 = .ok (.iinc 6 1, 3) := by decide +kernel
theorem dX10_wax_94 : decode cX10_wax 94 = .ok (.goto (-61), 3) := by decide +kernel
theorem dX10_wax_97 : decode cX10_wax 97 = .ok (.aload_n 0, 1) := by decide +kernel
theorem dX10_wax_98 : decode cX10_wax 98 = .ok (.getfield 7, 3) := by decide +kernel
theorem dX10_wax_101 : decode cX10_wax 101 = .ok (.iload_n 1, 1) := by decide +kernel
theorem dX10_wax_102 : decode cX10_wax 102 = .ok (.iload_n 3, 1) := by decide +kernel
theorem dX10_wax_103 : decode cX10_wax 103 = .ok (.iastore, 1) := by decide +kernel
theorem dX10_wax_104 : decode cX10_wax 104 = .ok (.iload_n 2, 1) := by decide +kernel
theorem dX10_wax_105 : decode cX10_wax 105 = .ok (.ifCond .ne 8, 3) := by decide +kernel
theorem dX10_wax_108 : decode cX10_wax 108 = .ok (.iload 4, 2) := by decide +kernel
theorem dX10_wax_110 : decode cX10_wax 110 = .ok (.goto 5, 3) := by decide +kernel
theorem dX10_wax_113 : decode cX10_wax 113 = .ok (.iload 5, 2) := by decide +kernel
theorem dX10_wax_115 : decode cX10_wax 115 = .ok (.ireturn, 1) := by decide +kernel
theorem dX10_silent_0 : decode cX10_silent 0 = .ok (.aload_n 0, 1) := by decide +kernel
theorem dX10_silent_1 : decode cX10_silent 1 = .ok (.iload_n 1, 1) := by decide +kernel
theorem dX10_silent_2 : decode cX10_silent 2 = .ok (.invokevirtual 335, 3) := by decide +kernel
theorem dX10_silent_5 : decode cX10_silent 5 = .ok (.ifCond .ne 5, 3) := by decide +kernel
theorem dX10_silent_8 : decode cX10_silent 8 = .ok (.iconst (-1), 1) := by decide +kernel
theorem dX10_silent_9 : decode cX10_silent 9 = .ok (.ireturn, 1) := by decide +kernel
theorem dX10_silent_10 : decode cX10_silent 10 = .ok (.bipush (-3), 2) := by decide +kernel
theorem dX10_silent_12 : decode cX10_silent 12 = .ok (.istore_n 2, 1) := by decide +kernel
theorem dX10_silent_13 : decode cX10_silent 13 = .ok (.iconst 0, 1) := by decide +kernel
theorem dX10_silent_14 : decode cX10_silent 14 = .ok (.istore_n 3, 1) := by decide +kernel
theorem dX10_silent_15 : decode cX10_silent 15 = .ok (.iconst 0, 1) := by decide +kernel
theorem dX10_silent_16 : decode cX10_silent 16 = .ok (.istore 4, 2) := by decide +kernel
theorem dX10_silent_18 : decode cX10_silent 18 = .ok (.iload 4, 2) := by decide +kernel
theorem dX10_silent_20 : decode cX10_silent 20 = .ok (.aload_n 0, 1) := by decide +kernel
theorem dX10_silent_21 : decode cX10_silent 21 = .ok (.getfield 128, 3) := by decide +kernel
theorem dX10_silent_24 : decode cX10_silent 24 = .ok (.if_icmp .ge 47, 3) := by decide +kernel
theorem dX10_silent_27 : decode cX10_silent 27 = .ok (.aload_n 0, 1) := by decide +kernel
theorem dX10_silent_28 : decode cX10_silent 28 = .ok (.iload 4, 2) := by decide +kernel
theorem dX10_silent_30 : decode cX10_silent 30 = .ok (.putfield 71, 3) := by decide +kernel
theorem dX10_silent_33 : decode cX10_silent 33 = .ok (.aload_n 0, 1) := by decide +kernel
theorem dX10_silent_34 : decode cX10_silent 34 = .ok (.iload_n 1, 1) := by decide +kernel
theorem dX10_silent_35 : decode cX10_silent 35 = .ok (.invokevirtual 338, 3) := by decide +kernel
theorem dX10_silent_38 : decode cX10_silent 38 = .ok (.aload_n 0, 1) := by decide +kernel
theorem dX10_silent_39 : decode cX10_silent 39 = .ok (.getfield 329, 3) := by decide +kernel
theorem dX10_silent_42 : decode cX10_silent 42 = .ok (.ifCond .lt 23, 3) := by decide +kernel
theorem dX10_silent_45 : decode cX10_silent 45 = .ok (.iload_n 2, 1) := by decide +kernel
theorem dX10_silent_46 : decode cX10_silent 46 = .ok (.ifCond .lt 11, 3) := by decide +kernel
theorem dX10_silent_49 : decode cX10_silent 49 = .ok (.aload_n 0, 1) := by decide +kernel
theorem dX10_silent_50 : decode cX10_silent 50 = .ok (.getfield 332, 3) := by decide +kernel
theorem dX10_silent_53 : decode cX10_silent 53 = .ok (.iload_n 3, 1) := by decide +kernel
theorem dX10_silent_54 : decode cX10_silent 54 = .ok (.if_icmp .ge 11, 3) := by decide +kernel
theorem dX10_silent_57 : decode cX10_silent 57 = .ok (.iload 4, 2) := by decide +kernel
theorem dX10_silent_59 : decode cX10_silent 59 = .ok (.istore_n 2, 1) := by decide +kernel
theorem dX10_silent_60 : decode cX10_silent 60 = .ok (.aload_n 0, 1) := by decide +kernel
theorem dX10_silent_61 : decode cX10_silent 61 = .ok (.getfield 332, 3) := by decide +kernel
theorem dX10_silent_64 : decode cX10_silent 64 = .ok (.istore_n 3, 1) := by decide +kernel
theorem dX10_silent_65 : decode cX10_silent 65 = .ok (.iinc 4 1, 3) := by decide +kernel
theorem dX10_silent_68 : decode cX10_silent 68 = .ok (.goto (-50), 3) := by decide +kernel
theorem dX10_silent_71 : decode cX10_silent 71 = .ok (.aload_n 0, 1) := by decide +kernel
theorem dX10_silent_72 : decode cX10_silent 72 = .ok (.iconst (-1), 1) := by decide +kernel
theorem dX10_silent_73 : decode cX10_silent 73 = .ok (.putfield 71, 3) := by decide +kernel
theorem dX10_silent_76 : decode cX10_silent 76 = .ok (.iload_n 2, 1) := by decide +kernel
theorem dX10_silent_77 : decode cX10_silent 77 = .ok (.ireturn, 1) := by decide +kernel
theorem dX10_findOrder_0 : decode cX10_findOrder 0 = .ok (.iload_n 1, 1) := by decide +kernel
theorem dX10_findOrder_1 : decode cX10_findOrder 1 = .ok (.istore_n 2, 1) := by decide +kernel
theorem dX10_findOrder_2 : decode cX10_findOrder 2 = .ok (.iconst 0, 1) := by decide +kernel
theorem dX10_findOrder_3 : decode cX10_findOrder 3 = .ok (.istore_n 3, 1) := by decide +kernel
theorem dX10_findOrder_4 : decode cX10_findOrder 4 = .ok (.iconst 1, 1) := by decide +kernel
theorem dX10_findOrder_5 : decode cX10_findOrder 5 = .ok (.istore 4, 2) := by decide +kernel
theorem dX10_findOrder_7 : decode cX10_findOrder 7 = .ok (.iconst 2, 1) := by decide +kernel
theorem dX10_findOrder_8 : decode cX10_findOrder 8 = .ok (.istore 5, 2) := by decide +kernel
theorem dX10_findOrder_10 : decode cX10_findOrder 10 = .ok (.iload 5, 2) := by decide +kernel
theorem dX10_findOrder_12 : decode cX10_findOrder 12 = .ok (.aload_n 0, 1) := by decide +kernel
theorem dX10_findOrder_13 : decode cX10_findOrder 13 = .ok (.getfield 341, 3) := by decide +kernel
theorem dX10_findOrder_16 : decode cX10_findOrder 16 = .ok (.if_icmp .ge 16, 3) := by decide +kernel
theorem dX10_findOrder_19 : decode cX10_findOrder 19 = .ok (.iload 4, 2) := by decide +kernel
theorem dX10_findOrder_21 : decode cX10_findOrder 21 = .ok (.iload 5, 2) := by decide +kernel
theorem dX10_findOrder_23 : decode cX10_findOrder 23 = .ok (.imul, 1) := by decide +kernel
theorem dX10_findOrder_24 : decode cX10_findOrder 24 = .ok (.istore 4, 2) := by decide +kernel
theorem dX10_findOrder_26 : decode cX10_findOrder 26 = .ok (.iinc 5 1, 3) := by decide +kernel
theorem dX10_findOrder_29 : decode cX10_findOrder 29 = .ok (.goto (-19), 3) := by decide +kernel
theorem dX10_findOrder_32 : decode cX10_findOrder 32 = .ok (.iconst 0, 1) := by decide +kernel
theorem dX10_findOrder_33 : decode cX10_findOrder 33 = .ok (.istore 5, 2) := by decide +kernel
theorem dX10_findOrder_35 : decode cX10_findOrder 35 = .ok (.iload 5, 2) := by decide +kernel
theorem dX10_findOrder_37 : decode cX10_findOrder 37 = .ok (.aload_n 0, 1) := by decide +kernel
theorem dX10_findOrder_38 : decode cX10_findOrder 38 = .ok (.getfield 341, 3) := by decide +kernel
theorem dX10_findOrder_41 : decode cX10_findOrder 41 = .ok (.if_icmp .ge 116, 3) := by decide +kernel
theorem dX10_findOrder_44 : decode cX10_findOrder 44 = .ok (.iload_n 2, 1) := by decide +kernel
theorem dX10_findOrder_45 : decode cX10_findOrder 45 = .ok (.iload 4, 2) := by decide +kernel
theorem dX10_findOrder_47 : decode cX10_findOrder 47 = .ok (.idiv, 1) := by decide +kernel
theorem dX10_findOrder_48 : decode cX10_findOrder 48 = .ok (.istore 6, 2) := by decide +kernel
theorem dX10_findOrder_50 : decode cX10_findOrder 50 = .ok (.iload_n 2, 1) := by decide +kernel
theorem dX10_findOrder_51 : decode cX10_findOrder 51 = .ok (.iload 4, 2) := by decide +kernel
theorem dX10_findOrder_53 : decode cX10_findOrder 53 = .ok (.irem, 1) := by decide +kernel
theorem dX10_findOrder_54 : decode cX10_findOrder 54 = .ok (.istore_n 2, 1) := by decide +kernel
theorem dX10_findOrder_55 : decode cX10_findOrder 55 = .ok (.aload_n 0, 1) := by decide +kernel
theorem dX10_findOrder_56 : decode cX10_findOrder 56 = .ok (.getfield 341, 3) := by decide +kernel
theorem dX10_findOrder_59 : decode cX10_findOrder 59 = .ok (.iconst 1, 1) := by decide +kernel
theorem dX10_findOrder_60 : decode cX10_findOrder 60 = .ok (.isub, 1) := by decide +kernel
theorem dX10_findOrder_61 : decode cX10_findOrder 61 = .ok (.iload 5, 2) := by decide +kernel
theorem dX10_findOrder_63 : decode cX10_findOrder 63 = .ok (.isub, 1) := by decide +kernel
theorem dX10_findOrder_64 : decode cX10_findOrder 64 = .ok (.iconst 1, 1) := by decide +kernel
theorem dX10_findOrder_65 : decode cX10_findOrder 65 = .ok (.if_icmp .le 18, 3) := by decide +kernel
theorem dX10_findOrder_68 : decode cX10_findOrder 68 = .ok (.iload 4, 2) := by decide +kernel
theorem dX10_findOrder_70 : decode cX10_findOrder 70 = .ok (.aload_n 0, 1) := by decide +kernel
theorem dX10_findOrder_71 : decode cX10_findOrder 71 = .ok (.getfield 341, 3) := by decide +kernel
theorem dX10_findOrder_74 : decode cX10_findOrder 74 = .ok (.iconst 1, 1) := by decide +kernel
theorem dX10_findOrder_75 : decode cX10_findOrder 75 = .ok (.isub, 1) := by decide +kernel
theorem dX10_findOrder_76 : decode cX10_findOrder 76 = .ok (.iload 5, 2) := by decide +kernel
theorem dX10_findOrder_78 : decode cX10_findOrder 78 = .ok (.isub, 1) := by decide +kernel
theorem dX10_findOrder_79 : decode cX10_findOrder 79 = .ok (.idiv, 1) := by decide +kernel
theorem dX10_findOrder_80 : decode cX10_findOrder 80 = .ok (.goto 4, 3) := by decide +kernel
theorem dX10_findOrder_83 : decode cX10_findOrder 83 = .ok (.iconst 1, 1) := by decide +kernel
theorem dX10_findOrder_84 : decode cX10_findOrder 84 = .ok (.istore 4, 2) := by decide +kernel
theorem dX10_findOrder_86 : decode cX10_findOrder 86 = .ok (.iconst 0, 1) := by decide +kernel
theorem dX10_findOrder_87 : decode cX10_findOrder 87 = .ok (.istore 7, 2) := by decide +kernel
theorem dX10_findOrder_89 : decode cX10_findOrder 89 = .ok (.iload_n 3, 1) := by decide +kernel
theorem dX10_findOrder_90 : decode cX10_findOrder 90 = .ok (.iload 7, 2) := by decide +kernel
theorem dX10_findOrder_92 : decode cX10_findOrder 92 = .ok (.ishr, 1) := by decide +kernel
theorem dX10_findOrder_93 : decode cX10_findOrder 93 = .ok (.iconst 1, 1) := by decide +kernel
theorem dX10_findOrder_94 : decode cX10_findOrder 94 = .ok (.iand, 1) := by decide +kernel
theorem dX10_findOrder_95 : decode cX10_findOrder 95 = .ok (.iconst 1, 1) := by decide +kernel
theorem dX10_findOrder_96 : decode cX10_findOrder 96 = .ok (.if_icmp .eq 8, 3) := by decide +kernel
theorem dX10_findOrder_99 : decode cX10_findOrder 99 = .ok (.iload 6, 2) := by decide +kernel
theorem dX10_findOrder_101 : decode cX10_findOrder 101 = .ok (.ifCond .le 29, 3) := by decide +kernel
theorem dX10_findOrder_104 : decode cX10_findOrder 104 = .ok (.iload 6, 2) := by decide +kernel
theorem dX10_findOrder_106 : decode cX10_findOrder 106 = .ok (.iload_n 3, 1) := by decide +kernel
theorem dX10_findOrder_107 : decode cX10_findOrder 107 = .ok (.iload 7, 2) := by decide +kernel
theorem dX10_findOrder_109 : decode cX10_findOrder 109 = .ok (.ishr, 1) := by decide +kernel
theorem dX10_findOrder_110 : decode cX10_findOrder 110 = .ok (.iconst 1, 1) := by decide +kernel
theorem dX10_findOrder_111 : decode cX10_findOrder 111 = .ok (.iand, 1) := by decide +kernel
theorem dX10_findOrder_112 : decode cX10_findOrder 112 = .ok (.iconst 1, 1) := by decide +kernel
theorem dX10_findOrder_113 : decode cX10_findOrder 113 = .ok (.if_icmp .ne 7, 3) := by decide +kernel
theorem dX10_findOrder_116 : decode cX10_findOrder 116 = .ok (.iconst 0, 1) := by decide +kernel
theorem dX10_findOrder_117 : decode cX10_findOrder 117 = .ok (.goto 4, 3) := by decide +kernel
theorem dX10_findOrder_120 : decode cX10_findOrder 120 = .ok (.iconst 1, 1) := by decide +kernel
theorem dX10_findOrder_121 : decode cX10_findOrder 121 = .ok (.isub, 1) := by decide +kernel
theorem dX10_findOrder_122 : decode cX10_findOrder 122 = .ok (.istore 6, 2) := by decide +kernel
theorem dX10_findOrder_124 : decode cX10_findOrder 124 = .ok (.iinc 7 1, 3) := by decide +kernel
theorem dX10_findOrder_127 : decode cX10_findOrder 127 = .ok (.goto (-38), 3) := by decide +kernel
theorem dX10_findOrder_130 : decode cX10_findOrder 130 = .ok (.iload_n 3, 1) := by decide +kernel
theorem dX10_findOrder_131 : decode cX10_findOrder 131 = .ok (.iconst 1, 1) := by decide +kernel
theorem dX10_findOrder_132 : decode cX10_findOrder 132 = .ok (.iload 7, 2) := by decide +kernel
theorem dX10_findOrder_134 : decode cX10_findOrder 134 = .ok (.ishl, 1) := by decide +kernel
theorem dX10_findOrder_135 : decode cX10_findOrder 135 = .ok (.ior, 1) := by decide +kernel
theorem dX10_findOrder_136 : decode cX10_findOrder 136 = .ok (.istore_n 3, 1) := by decide +kernel
theorem dX10_findOrder_137 : decode cX10_findOrder 137 = .ok (.aload_n 0, 1) := by decide +kernel
theorem dX10_findOrder_138 : decode cX10_findOrder 138 = .ok (.getfield 80, 3) := by decide +kernel
theorem dX10_findOrder_141 : decode cX10_findOrder 141 = .ok (.iload 5, 2) := by decide +kernel
theorem dX10_findOrder_143 : decode cX10_findOrder 143 = .ok (.aload_n 0, 1) := by decide +kernel
theorem dX10_findOrder_144 : decode cX10_findOrder 144 = .ok (.getfield 77, 3) := by decide +kernel
theorem dX10_findOrder_147 : decode cX10_findOrder 147 = .ok (.iload 7, 2) := by decide +kernel
theorem dX10_findOrder_149 : decode cX10_findOrder 149 = .ok (.iaload, 1) := by decide +kernel
theorem dX10_findOrder_150 : decode cX10_findOrder 150 = .ok (.iastore, 1) := by decide +kernel
theorem dX10_findOrder_151 : decode cX10_findOrder 151 = .ok (.iinc 5 1, 3) := by decide +kernel
theorem dX10_findOrder_154 : decode cX10_findOrder 154 = .ok (.goto (-119), 3) := by decide +kernel
theorem dX10_findOrder_157 : decode cX10_findOrder 157 = .ok (.return_, 1) := by decide +kernel
theorem dX10_sumOf_0 : decode cX10_sumOf 0 = .ok (.aload_n 0, 1) := by decide +kernel
theorem dX10_sumOf_1 : decode cX10_sumOf 1 = .ok (.invokevirtual 320, 3) := by decide +kernel
theorem dX10_sumOf_4 : decode cX10_sumOf 4 = .ok (.iconst 0, 1) := by decide +kernel
theorem dX10_sumOf_5 : decode cX10_sumOf 5 = .ok (.istore_n 1, 1) := by decide +kernel
theorem dX10_sumOf_6 : decode cX10_sumOf 6 = .ok (.iconst 0, 1) := by decide +kernel
theorem dX10_sumOf_7 : decode cX10_sumOf 7 = .ok (.istore_n 2, 1) := by decide +kernel
theorem dX10_sumOf_8 : decode cX10_sumOf 8 = .ok (.iload_n 2, 1) := by decide +kernel
theorem dX10_sumOf_9 : decode cX10_sumOf 9 = .ok (.aload_n 0, 1) := by decide +kernel
theorem dX10_sumOf_10 : decode cX10_sumOf 10 = .ok (.getfield 341, 3) := by decide +kernel
theorem dX10_sumOf_13 : decode cX10_sumOf 13 = .ok (.if_icmp .ge 44, 3) := by decide +kernel
theorem dX10_sumOf_16 : decode cX10_sumOf 16 = .ok (.aload_n 0, 1) := by decide +kernel
theorem dX10_sumOf_17 : decode cX10_sumOf 17 = .ok (.aload_n 0, 1) := by decide +kernel
theorem dX10_sumOf_18 : decode cX10_sumOf 18 = .ok (.getfield 80, 3) := by decide +kernel
theorem dX10_sumOf_21 : decode cX10_sumOf 21 = .ok (.iload_n 2, 1) := by decide +kernel
theorem dX10_sumOf_22 : decode cX10_sumOf 22 = .ok (.iaload, 1) := by decide +kernel
theorem dX10_sumOf_23 : decode cX10_sumOf 23 = .ok (.invokevirtual 323, 3) := by decide +kernel
theorem dX10_sumOf_26 : decode cX10_sumOf 26 = .ok (.istore_n 3, 1) := by decide +kernel
theorem dX10_sumOf_27 : decode cX10_sumOf 27 = .ok (.iload_n 1, 1) := by decide +kernel
theorem dX10_sumOf_28 : decode cX10_sumOf 28 = .ok (.aload_n 0, 1) := by decide +kernel
theorem dX10_sumOf_29 : decode cX10_sumOf 29 = .ok (.iconst 4, 1) := by decide +kernel
theorem dX10_sumOf_30 : decode cX10_sumOf 30 = .ok (.invokevirtual 277, 3) := by decide +kernel
theorem dX10_sumOf_33 : decode cX10_sumOf 33 = .ok (.ifCond .ge 7, 3) := by decide +kernel
theorem dX10_sumOf_36 : decode cX10_sumOf 36 = .ok (.iconst 0, 1) := by decide +kernel
theorem dX10_sumOf_37 : decode cX10_sumOf 37 = .ok (.goto 8, 3) := by decide +kernel
theorem dX10_sumOf_40 : decode cX10_sumOf 40 = .ok (.aload_n 0, 1) := by decide +kernel
theorem dX10_sumOf_41 : decode cX10_sumOf 41 = .ok (.iconst 3, 1) := by decide +kernel
theorem dX10_sumOf_42 : decode cX10_sumOf 42 = .ok (.invokevirtual 277, 3) := by decide +kernel
theorem dX10_sumOf_45 : decode cX10_sumOf 45 = .ok (.iadd, 1) := by decide +kernel
theorem dX10_sumOf_46 : decode cX10_sumOf 46 = .ok (.istore_n 1, 1) := by decide +kernel
theorem dX10_sumOf_47 : decode cX10_sumOf 47 = .ok (.aload_n 0, 1) := by decide +kernel
theorem dX10_sumOf_48 : decode cX10_sumOf 48 = .ok (.invokevirtual 310, 3) := by decide +kernel
theorem dX10_sumOf_51 : decode cX10_sumOf 51 = .ok (.iinc 2 1, 3) := by decide +kernel
theorem dX10_sumOf_54 : decode cX10_sumOf 54 = .ok (.goto (-46), 3) := by decide +kernel
theorem dX10_sumOf_57 : decode cX10_sumOf 57 = .ok (.aload_n 0, 1) := by decide +kernel
theorem dX10_sumOf_58 : decode cX10_sumOf 58 = .ok (.iconst 0, 1) := by decide +kernel
theorem dX10_sumOf_59 : decode cX10_sumOf 59 = .ok (.putfield 131, 3) := by decide +kernel
theorem dX10_sumOf_62 : decode cX10_sumOf 62 = .ok (.iload_n 1, 1) := by decide +kernel
theorem dX10_sumOf_63 : decode cX10_sumOf 63 = .ok (.ireturn, 1) := by decide +kernel
theorem dX10_findBest_0 : decode cX10_findBest 0 = .ok (.aload_n 0, 1) := by decide +kernel
theorem dX10_findBest_1 : decode cX10_findBest 1 = .ok (.iconst 0, 1) := by decide +kernel
theorem dX10_findBest_2 : decode cX10_findBest 2 = .ok (.putfield 341, 3) := by decide +kernel
theorem dX10_findBest_5 : decode cX10_findBest 5 = .ok (.iconst 0, 1) := by decide +kernel
theorem dX10_findBest_6 : decode cX10_findBest 6 = .ok (.istore_n 1, 1) := by decide +kernel
theorem dX10_findBest_7 : decode cX10_findBest 7 = .ok (.iload_n 1, 1) := by decide +kernel
theorem dX10_findBest_8 : decode cX10_findBest 8 = .ok (.aload_n 0, 1) := by decide +kernel
theorem dX10_findBest_9 : decode cX10_findBest 9 = .ok (.getfield 117, 3) := by decide +kernel
theorem dX10_findBest_12 : decode cX10_findBest 12 = .ok (.if_icmp .ge 38, 3) := by decide +kernel
theorem dX10_findBest_15 : decode cX10_findBest 15 = .ok (.aload_n 0, 1) := by decide +kernel
theorem dX10_findBest_16 : decode cX10_findBest 16 = .ok (.getfield 16, 3) := by decide +kernel
theorem dX10_findBest_19 : decode cX10_findBest 19 = .ok (.iload_n 1, 1) := by decide +kernel
theorem dX10_findBest_20 : decode cX10_findBest 20 = .ok (.iaload, 1) := by decide +kernel
theorem dX10_findBest_21 : decode cX10_findBest 21 = .ok (.ifCond .ne 23, 3) := by decide +kernel
theorem dX10_findBest_24 : decode cX10_findBest 24 = .ok (.aload_n 0, 1) := by decide +kernel
theorem dX10_findBest_25 : decode cX10_findBest 25 = .ok (.getfield 77, 3) := by decide +kernel
theorem dX10_findBest_28 : decode cX10_findBest 28 = .ok (.aload_n 0, 1) := by decide +kernel
theorem dX10_findBest_29 : decode cX10_findBest 29 = .ok (.getfield 341, 3) := by decide +kernel
theorem dX10_findBest_32 : decode cX10_findBest 32 = .ok (.iload_n 1, 1) := by decide +kernel
theorem dX10_findBest_33 : decode cX10_findBest 33 = .ok (.iastore, 1) := by decide +kernel
theorem dX10_findBest_34 : decode cX10_findBest 34 = .ok (.aload_n 0, 1) := by decide +kernel
theorem dX10_findBest_35 : decode cX10_findBest 35 = .ok (.dup, 1) := by decide +kernel
theorem dX10_findBest_36 : decode cX10_findBest 36 = .ok (.getfield 341, 3) := by decide +kernel
theorem dX10_findBest_39 : decode cX10_findBest 39 = .ok (.iconst 1, 1) := by decide +kernel
theorem dX10_findBest_40 : decode cX10_findBest 40 = .ok (.iadd, 1) := by decide +kernel
theorem dX10_findBest_41 : decode cX10_findBest 41 = .ok (.putfield 341, 3) := by decide +kernel
theorem dX10_findBest_44 : decode cX10_findBest 44 = .ok (.iinc 1 1, 3) := by decide +kernel
theorem dX10_findBest_47 : decode cX10_findBest 47 = .ok (.goto (-40), 3) := by decide +kernel
theorem dX10_findBest_50 : decode cX10_findBest 50 = .ok (.iconst 1, 1) := by decide +kernel
theorem dX10_findBest_51 : decode cX10_findBest 51 = .ok (.istore_n 1, 1) := by decide +kernel
theorem dX10_findBest_52 : decode cX10_findBest 52 = .ok (.iconst 2, 1) := by decide +kernel
theorem dX10_findBest_53 : decode cX10_findBest 53 = .ok (.istore_n 2, 1) := by decide +kernel
theorem dX10_findBest_54 : decode cX10_findBest 54 = .ok (.iload_n 2, 1) := by decide +kernel
theorem dX10_findBest_55 : decode cX10_findBest 55 = .ok (.aload_n 0, 1) := by decide +kernel
theorem dX10_findBest_56 : decode cX10_findBest 56 = .ok (.getfield 341, 3) := by decide +kernel
theorem dX10_findBest_59 : decode cX10_findBest 59 = .ok (.if_icmp .gt 13, 3) := by decide +kernel
theorem dX10_findBest_62 : decode cX10_findBest 62 = .ok (.iload_n 1, 1) := by decide +kernel
theorem dX10_findBest_63 : decode cX10_findBest 63 = .ok (.iload_n 2, 1) := by decide +kernel
theorem dX10_findBest_64 : decode cX10_findBest 64 = .ok (.imul, 1) := by decide +kernel
theorem dX10_findBest_65 : decode cX10_findBest 65 = .ok (.istore_n 1, 1) := by decide +kernel
theorem dX10_findBest_66 : decode cX10_findBest 66 = .ok (.iinc 2 1, 3) := by decide +kernel
theorem dX10_findBest_69 : decode cX10_findBest 69 = .ok (.goto (-15), 3) := by decide +kernel
theorem dX10_findBest_72 : decode cX10_findBest 72 = .ok (.aload_n 0, 1) := by decide +kernel
theorem dX10_findBest_73 : decode cX10_findBest 73 = .ok (.iconst (-1), 1) := by decide +kernel
theorem dX10_findBest_74 : decode cX10_findBest 74 = .ok (.putfield 344, 3) := by decide +kernel
theorem dX10_findBest_77 : decode cX10_findBest 77 = .ok (.iconst 0, 1) := by decide +kernel
theorem dX10_findBest_78 : decode cX10_findBest 78 = .ok (.istore_n 2, 1) := by decide +kernel
theorem dX10_findBest_79 : decode cX10_findBest 79 = .ok (.iload_n 2, 1) := by decide +kernel
theorem dX10_findBest_80 : decode cX10_findBest 80 = .ok (.iload_n 1, 1) := by decide +kernel
theorem dX10_findBest_81 : decode cX10_findBest 81 = .ok (.if_icmp .ge 64, 3) := by decide +kernel
theorem dX10_findBest_84 : decode cX10_findBest 84 = .ok (.aload_n 0, 1) := by decide +kernel
theorem dX10_findBest_85 : decode cX10_findBest 85 = .ok (.iload_n 2, 1) := by decide +kernel
theorem dX10_findBest_86 : decode cX10_findBest 86 = .ok (.invokevirtual 347, 3) := by decide +kernel
theorem dX10_findBest_89 : decode cX10_findBest 89 = .ok (.aload_n 0, 1) := by decide +kernel
theorem dX10_findBest_90 : decode cX10_findBest 90 = .ok (.invokevirtual 350, 3) := by decide +kernel
theorem dX10_findBest_93 : decode cX10_findBest 93 = .ok (.istore_n 3, 1) := by decide +kernel
theorem dX10_findBest_94 : decode cX10_findBest 94 = .ok (.iload_n 3, 1) := by decide +kernel
theorem dX10_findBest_95 : decode cX10_findBest 95 = .ok (.aload_n 0, 1) := by decide +kernel
theorem dX10_findBest_96 : decode cX10_findBest 96 = .ok (.getfield 344, 3) := by decide +kernel
theorem dX10_findBest_99 : decode cX10_findBest 99 = .ok (.if_icmp .le 40, 3) := by decide +kernel
theorem dX10_findBest_102 : decode cX10_findBest 102 = .ok (.aload_n 0, 1) := by decide +kernel
theorem dX10_findBest_103 : decode cX10_findBest 103 = .ok (.iload_n 3, 1) := by decide +kernel
theorem dX10_findBest_104 : decode cX10_findBest 104 = .ok (.putfield 344, 3) := by decide +kernel
theorem dX10_findBest_107 : decode cX10_findBest 107 = .ok (.iconst 0, 1) := by decide +kernel
theorem dX10_findBest_108 : decode cX10_findBest 108 = .ok (.istore 4, 2) := by decide +kernel
theorem dX10_findBest_110 : decode cX10_findBest 110 = .ok (.iload 4, 2) := by decide +kernel
theorem dX10_findBest_112 : decode cX10_findBest 112 = .ok (.aload_n 0, 1) := by decide +kernel
theorem dX10_findBest_113 : decode cX10_findBest 113 = .ok (.getfield 341, 3) := by decide +kernel
theorem dX10_findBest_116 : decode cX10_findBest 116 = .ok (.if_icmp .ge 23, 3) := by decide +kernel
theorem dX10_findBest_119 : decode cX10_findBest 119 = .ok (.aload_n 0, 1) := by decide +kernel
theorem dX10_findBest_120 : decode cX10_findBest 120 = .ok (.getfield 83, 3) := by decide +kernel
theorem dX10_findBest_123 : decode cX10_findBest 123 = .ok (.iload 4, 2) := by decide +kernel
theorem dX10_findBest_125 : decode cX10_findBest 125 = .ok (.aload_n 0, 1) := by decide +kernel
theorem dX10_findBest_126 : decode cX10_findBest 126 = .ok (.getfield 80, 3) := by decide +kernel
theorem dX10_findBest_129 : decode cX10_findBest 129 = .ok (.iload 4, 2) := by decide +kernel
theorem dX10_findBest_131 : decode cX10_findBest 131 = .ok (.iaload, 1) := by decide +kernel
theorem dX10_findBest_132 : decode cX10_findBest 132 = .ok (.iastore, 1) := by decide +kernel
theorem dX10_findBest_133 : decode cX10_findBest 133 = .ok (.iinc 4 1, 3) := by decide +kernel
theorem dX10_findBest_136 : decode cX10_findBest 136 = .ok (.goto (-26), 3) := by decide +kernel
theorem dX10_findBest_139 : decode cX10_findBest 139 = .ok (.iinc 2 1, 3) := by decide +kernel
theorem dX10_findBest_142 : decode cX10_findBest 142 = .ok (.goto (-63), 3) := by decide +kernel
theorem dX10_findBest_145 : decode cX10_findBest 145 = .ok (.return_, 1) := by decide +kernel
theorem dX10_order_0 : decode cX10_order 0 = .ok (.iload_n 1, 1) := by decide +kernel
theorem dX10_order_1 : decode cX10_order 1 = .ok (.ifCond .eq 16, 3) := by decide +kernel
theorem dX10_order_4 : decode cX10_order 4 = .ok (.iload_n 1, 1) := by decide +kernel
theorem dX10_order_5 : decode cX10_order 5 = .ok (.bipush 10, 2) := by decide +kernel
theorem dX10_order_7 : decode cX10_order 7 = .ok (.bipush 14, 2) := by decide +kernel
theorem dX10_order_9 : decode cX10_order 9 = .ok (.invokestatic 120, 3) := by decide +kernel
theorem dX10_order_12 : decode cX10_order 12 = .ok (.ifCond .ne 5, 3) := by decide +kernel
theorem dX10_order_15 : decode cX10_order 15 = .ok (.iconst (-1), 1) := by decide +kernel
theorem dX10_order_16 : decode cX10_order 16 = .ok (.ireturn, 1) := by decide +kernel
theorem dX10_order_17 : decode cX10_order 17 = .ok (.aload_n 0, 1) := by decide +kernel
theorem dX10_order_18 : decode cX10_order 18 = .ok (.invokevirtual 353, 3) := by decide +kernel
theorem dX10_order_21 : decode cX10_order 21 = .ok (.aload_n 0, 1) := by decide +kernel
theorem dX10_order_22 : decode cX10_order 22 = .ok (.getfield 341, 3) := by decide +kernel
theorem dX10_order_25 : decode cX10_order 25 = .ok (.ifCond .ne 6, 3) := by decide +kernel
theorem dX10_order_28 : decode cX10_order 28 = .ok (.bipush (-3), 2) := by decide +kernel
theorem dX10_order_30 : decode cX10_order 30 = .ok (.ireturn, 1) := by decide +kernel
theorem dX10_order_31 : decode cX10_order 31 = .ok (.iload_n 1, 1) := by decide +kernel
theorem dX10_order_32 : decode cX10_order 32 = .ok (.ifCond .ne 10, 3) := by decide +kernel
theorem dX10_order_35 : decode cX10_order 35 = .ok (.aload_n 0, 1) := by decide +kernel
theorem dX10_order_36 : decode cX10_order 36 = .ok (.getfield 344, 3) := by decide +kernel
theorem dX10_order_39 : decode cX10_order 39 = .ok (.goto 28, 3) := by decide +kernel
theorem dX10_order_42 : decode cX10_order 42 = .ok (.iload_n 1, 1) := by decide +kernel
theorem dX10_order_43 : decode cX10_order 43 = .ok (.bipush 10, 2) := by decide +kernel
theorem dX10_order_45 : decode cX10_order 45 = .ok (.isub, 1) := by decide +kernel
theorem dX10_order_46 : decode cX10_order 46 = .ok (.aload_n 0, 1) := by decide +kernel
theorem dX10_order_47 : decode cX10_order 47 = .ok (.getfield 341, 3) := by decide +kernel
theorem dX10_order_50 : decode cX10_order 50 = .ok (.if_icmp .ge 15, 3) := by decide +kernel
theorem dX10_order_53 : decode cX10_order 53 = .ok (.aload_n 0, 1) := by decide +kernel
theorem dX10_order_54 : decode cX10_order 54 = .ok (.getfield 83, 3) := by decide +kernel
theorem dX10_order_57 : decode cX10_order 57 = .ok (.iload_n 1, 1) := by decide +kernel
theorem dX10_order_58 : decode cX10_order 58 = .ok (.bipush 10, 2) := by decide +kernel
theorem dX10_order_60 : decode cX10_order 60 = .ok (.isub, 1) := by decide +kernel
theorem dX10_order_61 : decode cX10_order 61 = .ok (.iaload, 1) := by decide +kernel
theorem dX10_order_62 : decode cX10_order 62 = .ok (.goto 5, 3) := by decide +kernel
theorem dX10_order_65 : decode cX10_order 65 = .ok (.bipush (-3), 2) := by decide +kernel
theorem dX10_order_67 : decode cX10_order 67 = .ok (.ireturn, 1) := by decide +kernel
theorem dX10_most_0 : decode cX10_most 0 = .ok (.aload_n 0, 1) := by decide +kernel
theorem dX10_most_1 : decode cX10_most 1 = .ok (.iload_n 1, 1) := by decide +kernel
theorem dX10_most_2 : decode cX10_most 2 = .ok (.invokevirtual 124, 3) := by decide +kernel
theorem dX10_most_5 : decode cX10_most 5 = .ok (.ifCond .ne 5, 3) := by decide +kernel
theorem dX10_most_8 : decode cX10_most 8 = .ok (.iconst (-1), 1) := by decide +kernel
theorem dX10_most_9 : decode cX10_most 9 = .ok (.ireturn, 1) := by decide +kernel
theorem dX10_most_10 : decode cX10_most 10 = .ok (.bipush (-3), 2) := by decide +kernel
theorem dX10_most_12 : decode cX10_most 12 = .ok (.istore_n 2, 1) := by decide +kernel
theorem dX10_most_13 : decode cX10_most 13 = .ok (.iconst 0, 1) := by decide +kernel
theorem dX10_most_14 : decode cX10_most 14 = .ok (.istore_n 3, 1) := by decide +kernel
theorem dX10_most_15 : decode cX10_most 15 = .ok (.iload_n 3, 1) := by decide +kernel
theorem dX10_most_16 : decode cX10_most 16 = .ok (.aload_n 0, 1) := by decide +kernel
theorem dX10_most_17 : decode cX10_most 17 = .ok (.getfield 128, 3) := by decide +kernel
theorem dX10_most_20 : decode cX10_most 20 = .ok (.if_icmp .ge 34, 3) := by decide +kernel
theorem dX10_most_23 : decode cX10_most 23 = .ok (.iload_n 2, 1) := by decide +kernel
theorem dX10_most_24 : decode cX10_most 24 = .ok (.ifCond .lt 18, 3) := by decide +kernel
theorem dX10_most_27 : decode cX10_most 27 = .ok (.aload_n 0, 1) := by decide +kernel
theorem dX10_most_28 : decode cX10_most 28 = .ok (.iload_n 3, 1) := by decide +kernel
theorem dX10_most_29 : decode cX10_most 29 = .ok (.iload_n 1, 1) := by decide +kernel
theorem dX10_most_30 : decode cX10_most 30 = .ok (.invokevirtual 280, 3) := by decide +kernel
theorem dX10_most_33 : decode cX10_most 33 = .ok (.aload_n 0, 1) := by decide +kernel
theorem dX10_most_34 : decode cX10_most 34 = .ok (.iload_n 2, 1) := by decide +kernel
theorem dX10_most_35 : decode cX10_most 35 = .ok (.iload_n 1, 1) := by decide +kernel
theorem dX10_most_36 : decode cX10_most 36 = .ok (.invokevirtual 280, 3) := by decide +kernel
theorem dX10_most_39 : decode cX10_most 39 = .ok (.if_icmp .le 7, 3) := by decide +kernel
theorem dX10_most_42 : decode cX10_most 42 = .ok (.iload_n 3, 1) := by decide +kernel
theorem dX10_most_43 : decode cX10_most 43 = .ok (.goto 4, 3) := by decide +kernel
theorem dX10_most_46 : decode cX10_most 46 = .ok (.iload_n 2, 1) := by decide +kernel
theorem dX10_most_47 : decode cX10_most 47 = .ok (.istore_n 2, 1) := by decide +kernel
theorem dX10_most_48 : decode cX10_most 48 = .ok (.iinc 3 1, 3) := by decide +kernel
theorem dX10_most_51 : decode cX10_most 51 = .ok (.goto (-36), 3) := by decide +kernel
theorem dX10_most_54 : decode cX10_most 54 = .ok (.iload_n 2, 1) := by decide +kernel
theorem dX10_most_55 : decode cX10_most 55 = .ok (.ireturn, 1) := by decide +kernel
theorem dX10_owed_0 : decode cX10_owed 0 = .ok (.iconst 0, 1) := by decide +kernel
theorem dX10_owed_1 : decode cX10_owed 1 = .ok (.istore_n 2, 1) := by decide +kernel
theorem dX10_owed_2 : decode cX10_owed 2 = .ok (.iload_n 1, 1) := by decide +kernel
theorem dX10_owed_3 : decode cX10_owed 3 = .ok (.tableswitch 140 0 2 #[25, 66, 95], 25) := by decide +kernel
theorem dX10_owed_28 : decode cX10_owed 28 = .ok (.iconst 0, 1) := by decide +kernel
theorem dX10_owed_29 : decode cX10_owed 29 = .ok (.istore_n 3, 1) := by decide +kernel
theorem dX10_owed_30 : decode cX10_owed 30 = .ok (.iload_n 3, 1) := by decide +kernel
theorem dX10_owed_31 : decode cX10_owed 31 = .ok (.aload_n 0, 1) := by decide +kernel
theorem dX10_owed_32 : decode cX10_owed 32 = .ok (.getfield 117, 3) := by decide +kernel
theorem dX10_owed_35 : decode cX10_owed 35 = .ok (.if_icmp .ge 32, 3) := by decide +kernel
theorem dX10_owed_38 : decode cX10_owed 38 = .ok (.iload_n 2, 1) := by decide +kernel
theorem dX10_owed_39 : decode cX10_owed 39 = .ok (.aload_n 0, 1) := by decide +kernel
theorem dX10_owed_40 : decode cX10_owed 40 = .ok (.getfield 16, 3) := by decide +kernel
theorem dX10_owed_43 : decode cX10_owed 43 = .ok (.iload_n 3, 1) := by decide +kernel
theorem dX10_owed_44 : decode cX10_owed 44 = .ok (.iaload, 1) := by decide +kernel
theorem dX10_owed_45 : decode cX10_owed 45 = .ok (.iconst 1, 1) := by decide +kernel
theorem dX10_owed_46 : decode cX10_owed 46 = .ok (.if_icmp .ne 12, 3) := by decide +kernel
theorem dX10_owed_49 : decode cX10_owed 49 = .ok (.aload_n 0, 1) := by decide +kernel
theorem dX10_owed_50 : decode cX10_owed 50 = .ok (.getfield 19, 3) := by decide +kernel
theorem dX10_owed_53 : decode cX10_owed 53 = .ok (.iload_n 3, 1) := by decide +kernel
theorem dX10_owed_54 : decode cX10_owed 54 = .ok (.iaload, 1) := by decide +kernel
theorem dX10_owed_55 : decode cX10_owed 55 = .ok (.goto 4, 3) := by decide +kernel
theorem dX10_owed_58 : decode cX10_owed 58 = .ok (.iconst 0, 1) := by decide +kernel
theorem dX10_owed_59 : decode cX10_owed 59 = .ok (.iadd, 1) := by decide +kernel
theorem dX10_owed_60 : decode cX10_owed 60 = .ok (.istore_n 2, 1) := by decide +kernel
theorem dX10_owed_61 : decode cX10_owed 61 = .ok (.iinc 3 1, 3) := by decide +kernel
theorem dX10_owed_64 : decode cX10_owed 64 = .ok (.goto (-34), 3) := by decide +kernel
theorem dX10_owed_67 : decode cX10_owed 67 = .ok (.iload_n 2, 1) := by decide +kernel
theorem dX10_owed_68 : decode cX10_owed 68 = .ok (.ireturn, 1) := by decide +kernel
theorem dX10_owed_69 : decode cX10_owed 69 = .ok (.iconst 0, 1) := by decide +kernel
theorem dX10_owed_70 : decode cX10_owed 70 = .ok (.istore_n 3, 1) := by decide +kernel
theorem dX10_owed_71 : decode cX10_owed 71 = .ok (.iload_n 3, 1) := by decide +kernel
theorem dX10_owed_72 : decode cX10_owed 72 = .ok (.aload_n 0, 1) := by decide +kernel
theorem dX10_owed_73 : decode cX10_owed 73 = .ok (.getfield 128, 3) := by decide +kernel
theorem dX10_owed_76 : decode cX10_owed 76 = .ok (.if_icmp .ge 20, 3) := by decide +kernel
theorem dX10_owed_79 : decode cX10_owed 79 = .ok (.iload_n 2, 1) := by decide +kernel
theorem dX10_owed_80 : decode cX10_owed 80 = .ok (.aload_n 0, 1) := by decide +kernel
theorem dX10_owed_81 : decode cX10_owed 81 = .ok (.getfield 41, 3) := by decide +kernel
theorem dX10_owed_84 : decode cX10_owed 84 = .ok (.iconst 5, 1) := by decide +kernel
theorem dX10_owed_85 : decode cX10_owed 85 = .ok (.iload_n 3, 1) := by decide +kernel
theorem dX10_owed_86 : decode cX10_owed 86 = .ok (.iadd, 1) := by decide +kernel
theorem dX10_owed_87 : decode cX10_owed 87 = .ok (.iaload, 1) := by decide +kernel
theorem dX10_owed_88 : decode cX10_owed 88 = .ok (.iadd, 1) := by decide +kernel
theorem dX10_owed_89 : decode cX10_owed 89 = .ok (.istore_n 2, 1) := by decide +kernel
theorem dX10_owed_90 : decode cX10_owed 90 = .ok (.iinc 3 1, 3) := by decide +kernel
theorem dX10_owed_93 : decode cX10_owed 93 = .ok (.goto (-22), 3) := by decide +kernel
theorem dX10_owed_96 : decode cX10_owed 96 = .ok (.iload_n 2, 1) := by decide +kernel
theorem dX10_owed_97 : decode cX10_owed 97 = .ok (.ireturn, 1) := by decide +kernel
theorem dX10_owed_98 : decode cX10_owed 98 = .ok (.iconst 0, 1) := by decide +kernel
theorem dX10_owed_99 : decode cX10_owed 99 = .ok (.istore_n 3, 1) := by decide +kernel
theorem dX10_owed_100 : decode cX10_owed 100 = .ok (.iload_n 3, 1) := by decide +kernel
theorem dX10_owed_101 : decode cX10_owed 101 = .ok (.aload_n 0, 1) := by decide +kernel
theorem dX10_owed_102 : decode cX10_owed 102 = .ok (.getfield 117, 3) := by decide +kernel
theorem dX10_owed_105 : decode cX10_owed 105 = .ok (.if_icmp .ge 36, 3) := by decide +kernel
theorem dX10_owed_108 : decode cX10_owed 108 = .ok (.iload_n 2, 1) := by decide +kernel
theorem dX10_owed_109 : decode cX10_owed 109 = .ok (.aload_n 0, 1) := by decide +kernel
theorem dX10_owed_110 : decode cX10_owed 110 = .ok (.getfield 16, 3) := by decide +kernel
theorem dX10_owed_113 : decode cX10_owed 113 = .ok (.iload_n 3, 1) := by decide +kernel
theorem dX10_owed_114 : decode cX10_owed 114 = .ok (.iaload, 1) := by decide +kernel
theorem dX10_owed_115 : decode cX10_owed 115 = .ok (.iconst 1, 1) := by decide +kernel
theorem dX10_owed_116 : decode cX10_owed 116 = .ok (.if_icmp .ne 16, 3) := by decide +kernel
theorem dX10_owed_119 : decode cX10_owed 119 = .ok (.aload_n 0, 1) := by decide +kernel
theorem dX10_owed_120 : decode cX10_owed 120 = .ok (.getfield 22, 3) := by decide +kernel
theorem dX10_owed_123 : decode cX10_owed 123 = .ok (.iload_n 3, 1) := by decide +kernel
theorem dX10_owed_124 : decode cX10_owed 124 = .ok (.iaload, 1) := by decide +kernel
theorem dX10_owed_125 : decode cX10_owed 125 = .ok (.ifCond .ge 7, 3) := by decide +kernel
theorem dX10_owed_128 : decode cX10_owed 128 = .ok (.iconst 1, 1) := by decide +kernel
theorem dX10_owed_129 : decode cX10_owed 129 = .ok (.goto 4, 3) := by decide +kernel
theorem dX10_owed_132 : decode cX10_owed 132 = .ok (.iconst 0, 1) := by decide +kernel
theorem dX10_owed_133 : decode cX10_owed 133 = .ok (.iadd, 1) := by decide +kernel
theorem dX10_owed_134 : decode cX10_owed 134 = .ok (.istore_n 2, 1) := by decide +kernel
theorem dX10_owed_135 : decode cX10_owed 135 = .ok (.iinc 3 1, 3) := by decide +kernel
theorem dX10_owed_138 : decode cX10_owed 138 = .ok (.goto (-38), 3) := by decide +kernel
theorem dX10_owed_141 : decode cX10_owed 141 = .ok (.iload_n 2, 1) := by decide +kernel
theorem dX10_owed_142 : decode cX10_owed 142 = .ok (.ireturn, 1) := by decide +kernel
theorem dX10_owed_143 : decode cX10_owed 143 = .ok (.iconst (-1), 1) := by decide +kernel
theorem dX10_owed_144 : decode cX10_owed 144 = .ok (.ireturn, 1) := by decide +kernel
theorem dX10_seed_0 : decode cX10_seed 0 = .ok (.aload_n 0, 1) := by decide +kernel
theorem dX10_seed_1 : decode cX10_seed 1 = .ok (.getfield 44, 3) := by decide +kernel
theorem dX10_seed_4 : decode cX10_seed 4 = .ok (.istore_n 2, 1) := by decide +kernel
theorem dX10_seed_5 : decode cX10_seed 5 = .ok (.aload_n 0, 1) := by decide +kernel
theorem dX10_seed_6 : decode cX10_seed 6 = .ok (.iload_n 1, 1) := by decide +kernel
theorem dX10_seed_7 : decode cX10_seed 7 = .ok (.putfield 44, 3) := by decide +kernel
theorem dX10_seed_10 : decode cX10_seed 10 = .ok (.iload_n 2, 1) := by decide +kernel
theorem dX10_seed_11 : decode cX10_seed 11 = .ok (.ireturn, 1) := by decide +kernel
theorem dX10_draw_0 : decode cX10_draw 0 = .ok (.iload_n 1, 1) := by decide +kernel
theorem dX10_draw_1 : decode cX10_draw 1 = .ok (.invokestatic 268, 3) := by decide +kernel
theorem dX10_draw_4 : decode cX10_draw 4 = .ok (.ifCond .ne 5, 3) := by decide +kernel
theorem dX10_draw_7 : decode cX10_draw 7 = .ok (.iconst (-1), 1) := by decide +kernel
theorem dX10_draw_8 : decode cX10_draw 8 = .ok (.ireturn, 1) := by decide +kernel
theorem dX10_draw_9 : decode cX10_draw 9 = .ok (.aload_n 0, 1) := by decide +kernel
theorem dX10_draw_10 : decode cX10_draw 10 = .ok (.aload_n 0, 1) := by decide +kernel
theorem dX10_draw_11 : decode cX10_draw 11 = .ok (.getfield 44, 3) := by decide +kernel
theorem dX10_draw_14 : decode cX10_draw 14 = .ok (.ldc_w 356, 3) := by decide +kernel
theorem dX10_draw_17 : decode cX10_draw 17 = .ok (.imul, 1) := by decide +kernel
theorem dX10_draw_18 : decode cX10_draw 18 = .ok (.sipush 12345, 3) := by decide +kernel
theorem dX10_draw_21 : decode cX10_draw 21 = .ok (.iadd, 1) := by decide +kernel
theorem dX10_draw_22 : decode cX10_draw 22 = .ok (.putfield 44, 3) := by decide +kernel
theorem dX10_draw_25 : decode cX10_draw 25 = .ok (.aload_n 0, 1) := by decide +kernel
theorem dX10_draw_26 : decode cX10_draw 26 = .ok (.getfield 25, 3) := by decide +kernel
theorem dX10_draw_29 : decode cX10_draw 29 = .ok (.iload_n 1, 1) := by decide +kernel
theorem dX10_draw_30 : decode cX10_draw 30 = .ok (.aload_n 0, 1) := by decide +kernel
theorem dX10_draw_31 : decode cX10_draw 31 = .ok (.getfield 44, 3) := by decide +kernel
theorem dX10_draw_34 : decode cX10_draw 34 = .ok (.bipush 16, 2) := by decide +kernel
theorem dX10_draw_36 : decode cX10_draw 36 = .ok (.iushr, 1) := by decide +kernel
theorem dX10_draw_37 : decode cX10_draw 37 = .ok (.iconst 4, 1) := by decide +kernel
theorem dX10_draw_38 : decode cX10_draw 38 = .ok (.irem, 1) := by decide +kernel
theorem dX10_draw_39 : decode cX10_draw 39 = .ok (.iastore, 1) := by decide +kernel
theorem dX10_draw_40 : decode cX10_draw 40 = .ok (.aload_n 0, 1) := by decide +kernel
theorem dX10_draw_41 : decode cX10_draw 41 = .ok (.getfield 25, 3) := by decide +kernel
theorem dX10_draw_44 : decode cX10_draw 44 = .ok (.iload_n 1, 1) := by decide +kernel
theorem dX10_draw_45 : decode cX10_draw 45 = .ok (.iaload, 1) := by decide +kernel
theorem dX10_draw_46 : decode cX10_draw 46 = .ok (.ireturn, 1) := by decide +kernel
theorem dX10_prove_0 : decode cX10_prove 0 = .ok (.aload_n 0, 1) := by decide +kernel
theorem dX10_prove_1 : decode cX10_prove 1 = .ok (.iload_n 1, 1) := by decide +kernel
theorem dX10_prove_2 : decode cX10_prove 2 = .ok (.invokevirtual 335, 3) := by decide +kernel
theorem dX10_prove_5 : decode cX10_prove 5 = .ok (.ifCond .ne 5, 3) := by decide +kernel
theorem dX10_prove_8 : decode cX10_prove 8 = .ok (.iconst (-1), 1) := by decide +kernel
theorem dX10_prove_9 : decode cX10_prove 9 = .ok (.ireturn, 1) := by decide +kernel
theorem dX10_prove_10 : decode cX10_prove 10 = .ok (.aload_n 0, 1) := by decide +kernel
theorem dX10_prove_11 : decode cX10_prove 11 = .ok (.iload_n 1, 1) := by decide +kernel
theorem dX10_prove_12 : decode cX10_prove 12 = .ok (.invokevirtual 338, 3) := by decide +kernel
theorem dX10_prove_15 : decode cX10_prove 15 = .ok (.aload_n 0, 1) := by decide +kernel
theorem dX10_prove_16 : decode cX10_prove 16 = .ok (.aload_n 0, 1) := by decide +kernel
theorem dX10_prove_17 : decode cX10_prove 17 = .ok (.getfield 295, 3) := by decide +kernel
theorem dX10_prove_20 : decode cX10_prove 20 = .ok (.putfield 249, 3) := by decide +kernel
theorem dX10_prove_23 : decode cX10_prove 23 = .ok (.iconst 0, 1) := by decide +kernel
theorem dX10_prove_24 : decode cX10_prove 24 = .ok (.istore_n 2, 1) := by decide +kernel
theorem dX10_prove_25 : decode cX10_prove 25 = .ok (.iload_n 2, 1) := by decide +kernel
theorem dX10_prove_26 : decode cX10_prove 26 = .ok (.iconst 3, 1) := by decide +kernel
theorem dX10_prove_27 : decode cX10_prove 27 = .ok (.aload_n 0, 1) := by decide +kernel
theorem dX10_prove_28 : decode cX10_prove 28 = .ok (.getfield 249, 3) := by decide +kernel
theorem dX10_prove_31 : decode cX10_prove 31 = .ok (.imul, 1) := by decide +kernel
theorem dX10_prove_32 : decode cX10_prove 32 = .ok (.if_icmp .ge 21, 3) := by decide +kernel
theorem dX10_prove_35 : decode cX10_prove 35 = .ok (.aload_n 0, 1) := by decide +kernel
theorem dX10_prove_36 : decode cX10_prove 36 = .ok (.getfield 86, 3) := by decide +kernel
theorem dX10_prove_39 : decode cX10_prove 39 = .ok (.iload_n 2, 1) := by decide +kernel
theorem dX10_prove_40 : decode cX10_prove 40 = .ok (.aload_n 0, 1) := by decide +kernel
theorem dX10_prove_41 : decode cX10_prove 41 = .ok (.getfield 74, 3) := by decide +kernel
theorem dX10_prove_44 : decode cX10_prove 44 = .ok (.iload_n 2, 1) := by decide +kernel
theorem dX10_prove_45 : decode cX10_prove 45 = .ok (.iaload, 1) := by decide +kernel
theorem dX10_prove_46 : decode cX10_prove 46 = .ok (.iastore, 1) := by decide +kernel
theorem dX10_prove_47 : decode cX10_prove 47 = .ok (.iinc 2 1, 3) := by decide +kernel
theorem dX10_prove_50 : decode cX10_prove 50 = .ok (.goto (-25), 3) := by decide +kernel
theorem dX10_prove_53 : decode cX10_prove 53 = .ok (.aload_n 0, 1) := by decide +kernel
theorem dX10_prove_54 : decode cX10_prove 54 = .ok (.getfield 249, 3) := by decide +kernel
theorem dX10_prove_57 : decode cX10_prove 57 = .ok (.ireturn, 1) := by decide +kernel
theorem dX10_isRow_0 : decode cX10_isRow 0 = .ok (.iload_n 1, 1) := by decide +kernel
theorem dX10_isRow_1 : decode cX10_isRow 1 = .ok (.iconst 0, 1) := by decide +kernel
theorem dX10_isRow_2 : decode cX10_isRow 2 = .ok (.aload_n 0, 1) := by decide +kernel
theorem dX10_isRow_3 : decode cX10_isRow 3 = .ok (.getfield 249, 3) := by decide +kernel
theorem dX10_isRow_6 : decode cX10_isRow 6 = .ok (.iconst 1, 1) := by decide +kernel
theorem dX10_isRow_7 : decode cX10_isRow 7 = .ok (.isub, 1) := by decide +kernel
theorem dX10_isRow_8 : decode cX10_isRow 8 = .ok (.invokestatic 120, 3) := by decide +kernel
theorem dX10_isRow_11 : decode cX10_isRow 11 = .ok (.ifCond .eq 16, 3) := by decide +kernel
theorem dX10_isRow_14 : decode cX10_isRow 14 = .ok (.iload_n 2, 1) := by decide +kernel
theorem dX10_isRow_15 : decode cX10_isRow 15 = .ok (.iconst 0, 1) := by decide +kernel
theorem dX10_isRow_16 : decode cX10_isRow 16 = .ok (.iconst 2, 1) := by decide +kernel
theorem dX10_isRow_17 : decode cX10_isRow 17 = .ok (.invokestatic 120, 3) := by decide +kernel
theorem dX10_isRow_20 : decode cX10_isRow 20 = .ok (.ifCond .eq 7, 3) := by decide +kernel
theorem dX10_isRow_23 : decode cX10_isRow 23 = .ok (.iconst 1, 1) := by decide +kernel
theorem dX10_isRow_24 : decode cX10_isRow 24 = .ok (.goto 4, 3) := by decide +kernel
theorem dX10_isRow_27 : decode cX10_isRow 27 = .ok (.iconst 0, 1) := by decide +kernel
theorem dX10_isRow_28 : decode cX10_isRow 28 = .ok (.ireturn, 1) := by decide +kernel
theorem dX10_row_0 : decode cX10_row 0 = .ok (.aload_n 0, 1) := by decide +kernel
theorem dX10_row_1 : decode cX10_row 1 = .ok (.iload_n 1, 1) := by decide +kernel
theorem dX10_row_2 : decode cX10_row 2 = .ok (.iload_n 2, 1) := by decide +kernel
theorem dX10_row_3 : decode cX10_row 3 = .ok (.invokevirtual 357, 3) := by decide +kernel
theorem dX10_row_6 : decode cX10_row 6 = .ok (.ifCond .eq 16, 3) := by decide +kernel
theorem dX10_row_9 : decode cX10_row 9 = .ok (.aload_n 0, 1) := by decide +kernel
theorem dX10_row_10 : decode cX10_row 10 = .ok (.getfield 86, 3) := by decide +kernel
theorem dX10_row_13 : decode cX10_row 13 = .ok (.iconst 3, 1) := by decide +kernel
theorem dX10_row_14 : decode cX10_row 14 = .ok (.iload_n 1, 1) := by decide +kernel
theorem dX10_row_15 : decode cX10_row 15 = .ok (.imul, 1) := by decide +kernel
theorem dX10_row_16 : decode cX10_row 16 = .ok (.iload_n 2, 1) := by decide +kernel
theorem dX10_row_17 : decode cX10_row 17 = .ok (.iadd, 1) := by decide +kernel
theorem dX10_row_18 : decode cX10_row 18 = .ok (.iaload, 1) := by decide +kernel
theorem dX10_row_19 : decode cX10_row 19 = .ok (.goto 5, 3) := by decide +kernel
theorem dX10_row_22 : decode cX10_row 22 = .ok (.bipush (-9), 2) := by decide +kernel
theorem dX10_row_24 : decode cX10_row 24 = .ok (.ireturn, 1) := by decide +kernel
theorem dX10_alterRow_0 : decode cX10_alterRow 0 = .ok (.aload_n 0, 1) := by decide +kernel
theorem dX10_alterRow_1 : decode cX10_alterRow 1 = .ok (.iload_n 1, 1) := by decide +kernel
theorem dX10_alterRow_2 : decode cX10_alterRow 2 = .ok (.iload_n 2, 1) := by decide +kernel
theorem dX10_alterRow_3 : decode cX10_alterRow 3 = .ok (.invokevirtual 357, 3) := by decide +kernel
theorem dX10_alterRow_6 : decode cX10_alterRow 6 = .ok (.ifCond .ne 6, 3) := by decide +kernel
theorem dX10_alterRow_9 : decode cX10_alterRow 9 = .ok (.bipush (-9), 2) := by decide +kernel
theorem dX10_alterRow_11 : decode cX10_alterRow 11 = .ok (.ireturn, 1) := by decide +kernel
theorem dX10_alterRow_12 : decode cX10_alterRow 12 = .ok (.aload_n 0, 1) := by decide +kernel
theorem dX10_alterRow_13 : decode cX10_alterRow 13 = .ok (.getfield 86, 3) := by decide +kernel
theorem dX10_alterRow_16 : decode cX10_alterRow 16 = .ok (.iconst 3, 1) := by decide +kernel
theorem dX10_alterRow_17 : decode cX10_alterRow 17 = .ok (.iload_n 1, 1) := by decide +kernel
theorem dX10_alterRow_18 : decode cX10_alterRow 18 = .ok (.imul, 1) := by decide +kernel
theorem dX10_alterRow_19 : decode cX10_alterRow 19 = .ok (.iload_n 2, 1) := by decide +kernel
theorem dX10_alterRow_20 : decode cX10_alterRow 20 = .ok (.iadd, 1) := by decide +kernel
theorem dX10_alterRow_21 : decode cX10_alterRow 21 = .ok (.iaload, 1) := by decide +kernel
theorem dX10_alterRow_22 : decode cX10_alterRow 22 = .ok (.istore 4, 2) := by decide +kernel
theorem dX10_alterRow_24 : decode cX10_alterRow 24 = .ok (.aload_n 0, 1) := by decide +kernel
theorem dX10_alterRow_25 : decode cX10_alterRow 25 = .ok (.getfield 86, 3) := by decide +kernel
theorem dX10_alterRow_28 : decode cX10_alterRow 28 = .ok (.iconst 3, 1) := by decide +kernel
theorem dX10_alterRow_29 : decode cX10_alterRow 29 = .ok (.iload_n 1, 1) := by decide +kernel
theorem dX10_alterRow_30 : decode cX10_alterRow 30 = .ok (.imul, 1) := by decide +kernel
theorem dX10_alterRow_31 : decode cX10_alterRow 31 = .ok (.iload_n 2, 1) := by decide +kernel
theorem dX10_alterRow_32 : decode cX10_alterRow 32 = .ok (.iadd, 1) := by decide +kernel
theorem dX10_alterRow_33 : decode cX10_alterRow 33 = .ok (.iload_n 3, 1) := by decide +kernel
theorem dX10_alterRow_34 : decode cX10_alterRow 34 = .ok (.iastore, 1) := by decide +kernel
theorem dX10_alterRow_35 : decode cX10_alterRow 35 = .ok (.iload 4, 2) := by decide +kernel
theorem dX10_alterRow_37 : decode cX10_alterRow 37 = .ok (.ireturn, 1) := by decide +kernel
theorem dX10_judge_0 : decode cX10_judge 0 = .ok (.aload_n 0, 1) := by decide +kernel
theorem dX10_judge_1 : decode cX10_judge 1 = .ok (.iload_n 1, 1) := by decide +kernel
theorem dX10_judge_2 : decode cX10_judge 2 = .ok (.invokevirtual 335, 3) := by decide +kernel
theorem dX10_judge_5 : decode cX10_judge 5 = .ok (.ifCond .ne 5, 3) := by decide +kernel
theorem dX10_judge_8 : decode cX10_judge 8 = .ok (.iconst (-1), 1) := by decide +kernel
theorem dX10_judge_9 : decode cX10_judge 9 = .ok (.ireturn, 1) := by decide +kernel
theorem dX10_judge_10 : decode cX10_judge 10 = .ok (.aload_n 0, 1) := by decide +kernel
theorem dX10_judge_11 : decode cX10_judge 11 = .ok (.iload_n 1, 1) := by decide +kernel
theorem dX10_judge_12 : decode cX10_judge 12 = .ok (.invokevirtual 338, 3) := by decide +kernel
theorem dX10_judge_15 : decode cX10_judge 15 = .ok (.iconst 0, 1) := by decide +kernel
theorem dX10_judge_16 : decode cX10_judge 16 = .ok (.istore_n 2, 1) := by decide +kernel
theorem dX10_judge_17 : decode cX10_judge 17 = .ok (.iload_n 2, 1) := by decide +kernel
theorem dX10_judge_18 : decode cX10_judge 18 = .ok (.aload_n 0, 1) := by decide +kernel
theorem dX10_judge_19 : decode cX10_judge 19 = .ok (.getfield 249, 3) := by decide +kernel
theorem dX10_judge_22 : decode cX10_judge 22 = .ok (.if_icmp .ge 81, 3) := by decide +kernel
theorem dX10_judge_25 : decode cX10_judge 25 = .ok (.iload_n 2, 1) := by decide +kernel
theorem dX10_judge_26 : decode cX10_judge 26 = .ok (.aload_n 0, 1) := by decide +kernel
theorem dX10_judge_27 : decode cX10_judge 27 = .ok (.getfield 295, 3) := by decide +kernel
theorem dX10_judge_30 : decode cX10_judge 30 = .ok (.if_icmp .ge 7, 3) := by decide +kernel
theorem dX10_judge_33 : decode cX10_judge 33 = .ok (.iconst 1, 1) := by decide +kernel
theorem dX10_judge_34 : decode cX10_judge 34 = .ok (.goto 4, 3) := by decide +kernel
theorem dX10_judge_37 : decode cX10_judge 37 = .ok (.iconst 0, 1) := by decide +kernel
theorem dX10_judge_38 : decode cX10_judge 38 = .ok (.istore_n 3, 1) := by decide +kernel
theorem dX10_judge_39 : decode cX10_judge 39 = .ok (.iconst 0, 1) := by decide +kernel
theorem dX10_judge_40 : decode cX10_judge 40 = .ok (.istore 4, 2) := by decide +kernel
theorem dX10_judge_42 : decode cX10_judge 42 = .ok (.iload 4, 2) := by decide +kernel
theorem dX10_judge_44 : decode cX10_judge 44 = .ok (.iconst 3, 1) := by decide +kernel
theorem dX10_judge_45 : decode cX10_judge 45 = .ok (.if_icmp .ge 44, 3) := by decide +kernel
theorem dX10_judge_48 : decode cX10_judge 48 = .ok (.iload_n 3, 1) := by decide +kernel
theorem dX10_judge_49 : decode cX10_judge 49 = .ok (.ifCond .eq 40, 3) := by decide +kernel
theorem dX10_judge_52 : decode cX10_judge 52 = .ok (.aload_n 0, 1) := by decide +kernel
theorem dX10_judge_53 : decode cX10_judge 53 = .ok (.getfield 86, 3) := by decide +kernel
theorem dX10_judge_56 : decode cX10_judge 56 = .ok (.iconst 3, 1) := by decide +kernel
theorem dX10_judge_57 : decode cX10_judge 57 = .ok (.iload_n 2, 1) := by decide +kernel
theorem dX10_judge_58 : decode cX10_judge 58 = .ok (.imul, 1) := by decide +kernel
theorem dX10_judge_59 : decode cX10_judge 59 = .ok (.iload 4, 2) := by decide +kernel
theorem dX10_judge_61 : decode cX10_judge 61 = .ok (.iadd, 1) := by decide +kernel
theorem dX10_judge_62 : decode cX10_judge 62 = .ok (.iaload, 1) := by decide +kernel
theorem dX10_judge_63 : decode cX10_judge 63 = .ok (.aload_n 0, 1) := by decide +kernel
theorem dX10_judge_64 : decode cX10_judge 64 = .ok (.getfield 74, 3) := by decide +kernel
theorem dX10_judge_67 : decode cX10_judge 67 = .ok (.iconst 3, 1) := by decide +kernel
theorem dX10_judge_68 : decode cX10_judge 68 = .ok (.iload_n 2, 1) := by decide +kernel
theorem dX10_judge_69 : decode cX10_judge 69 = .ok (.imul, 1) := by decide +kernel
theorem dX10_judge_70 : decode cX10_judge 70 = .ok (.iload 4, 2) := by decide +kernel
theorem dX10_judge_72 : decode cX10_judge 72 = .ok (.iadd, 1) := by decide +kernel
theorem dX10_judge_73 : decode cX10_judge 73 = .ok (.iaload, 1) := by decide +kernel
theorem dX10_judge_74 : decode cX10_judge 74 = .ok (.if_icmp .ne 7, 3) := by decide +kernel
theorem dX10_judge_77 : decode cX10_judge 77 = .ok (.iconst 1, 1) := by decide +kernel
theorem dX10_judge_78 : decode cX10_judge 78 = .ok (.goto 4, 3) := by decide +kernel
theorem dX10_judge_81 : decode cX10_judge 81 = .ok (.iconst 0, 1) := by decide +kernel
theorem dX10_judge_82 : decode cX10_judge 82 = .ok (.istore_n 3, 1) := by decide +kernel
theorem dX10_judge_83 : decode cX10_judge 83 = .ok (.iinc 4 1, 3) := by decide +kernel
theorem dX10_judge_86 : decode cX10_judge 86 = .ok (.goto (-44), 3) := by decide +kernel
theorem dX10_judge_89 : decode cX10_judge 89 = .ok (.iload_n 3, 1) := by decide +kernel
theorem dX10_judge_90 : decode cX10_judge 90 = .ok (.ifCond .ne 7, 3) := by decide +kernel
theorem dX10_judge_93 : decode cX10_judge 93 = .ok (.iload_n 2, 1) := by decide +kernel
theorem dX10_judge_94 : decode cX10_judge 94 = .ok (.iconst 1, 1) := by decide +kernel
theorem dX10_judge_95 : decode cX10_judge 95 = .ok (.iadd, 1) := by decide +kernel
theorem dX10_judge_96 : decode cX10_judge 96 = .ok (.ireturn, 1) := by decide +kernel
theorem dX10_judge_97 : decode cX10_judge 97 = .ok (.iinc 2 1, 3) := by decide +kernel
theorem dX10_judge_100 : decode cX10_judge 100 = .ok (.goto (-83), 3) := by decide +kernel
theorem dX10_judge_103 : decode cX10_judge 103 = .ok (.aload_n 0, 1) := by decide +kernel
theorem dX10_judge_104 : decode cX10_judge 104 = .ok (.getfield 249, 3) := by decide +kernel
theorem dX10_judge_107 : decode cX10_judge 107 = .ok (.aload_n 0, 1) := by decide +kernel
theorem dX10_judge_108 : decode cX10_judge 108 = .ok (.getfield 295, 3) := by decide +kernel
theorem dX10_judge_111 : decode cX10_judge 111 = .ok (.if_icmp .ge 9, 3) := by decide +kernel
theorem dX10_judge_114 : decode cX10_judge 114 = .ok (.sipush 222, 3) := by decide +kernel
theorem dX10_judge_117 : decode cX10_judge 117 = .ok (.goto 4, 3) := by decide +kernel
theorem dX10_judge_120 : decode cX10_judge 120 = .ok (.iconst 0, 1) := by decide +kernel
theorem dX10_judge_121 : decode cX10_judge 121 = .ok (.ireturn, 1) := by decide +kernel
theorem dX10_draughts_0 : decode cX10_draughts 0 = .ok (.iload_n 1, 1) := by decide +kernel
theorem dX10_draughts_1 : decode cX10_draughts 1 = .ok (.invokestatic 361, 3) := by decide +kernel
theorem dX10_draughts_4 : decode cX10_draughts 4 = .ok (.ifCond .eq 30, 3) := by decide +kernel
theorem dX10_draughts_7 : decode cX10_draughts 7 = .ok (.iload_n 3, 1) := by decide +kernel
theorem dX10_draughts_8 : decode cX10_draughts 8 = .ok (.invokestatic 268, 3) := by decide +kernel
theorem dX10_draughts_11 : decode cX10_draughts 11 = .ok (.ifCond .eq 23, 3) := by decide +kernel
theorem dX10_draughts_14 : decode cX10_draughts 14 = .ok (.iload 4, 2) := by decide +kernel
theorem dX10_draughts_16 : decode cX10_draughts 16 = .ok (.iconst 0, 1) := by decide +kernel
theorem dX10_draughts_17 : decode cX10_draughts 17 = .ok (.bipush 12, 2) := by decide +kernel
theorem dX10_draughts_19 : decode cX10_draughts 19 = .ok (.invokestatic 120, 3) := by decide +kernel
theorem dX10_draughts_22 : decode cX10_draughts 22 = .ok (.ifCond .eq 12, 3) := by decide +kernel
theorem dX10_draughts_25 : decode cX10_draughts 25 = .ok (.iload_n 3, 1) := by decide +kernel
theorem dX10_draughts_26 : decode cX10_draughts 26 = .ok (.iload 4, 2) := by decide +kernel
theorem dX10_draughts_28 : decode cX10_draughts 28 = .ok (.iadd, 1) := by decide +kernel
theorem dX10_draughts_29 : decode cX10_draughts 29 = .ok (.bipush 12, 2) := by decide +kernel
theorem dX10_draughts_31 : decode cX10_draughts 31 = .ok (.if_icmp .le 5, 3) := by decide +kernel
theorem dX10_draughts_34 : decode cX10_draughts 34 = .ok (.iconst (-1), 1) := by decide +kernel
theorem dX10_draughts_35 : decode cX10_draughts 35 = .ok (.ireturn, 1) := by decide +kernel
theorem dX10_draughts_36 : decode cX10_draughts 36 = .ok (.aload_n 0, 1) := by decide +kernel
theorem dX10_draughts_37 : decode cX10_draughts 37 = .ok (.iload_n 1, 1) := by decide +kernel
theorem dX10_draughts_38 : decode cX10_draughts 38 = .ok (.iconst 0, 1) := by decide +kernel
theorem dX10_draughts_39 : decode cX10_draughts 39 = .ok (.invokevirtual 364, 3) := by decide +kernel
theorem dX10_draughts_42 : decode cX10_draughts 42 = .ok (.istore 5, 2) := by decide +kernel
theorem dX10_draughts_44 : decode cX10_draughts 44 = .ok (.iload 5, 2) := by decide +kernel
theorem dX10_draughts_46 : decode cX10_draughts 46 = .ok (.ifCond .eq 6, 3) := by decide +kernel
theorem dX10_draughts_49 : decode cX10_draughts 49 = .ok (.iload 5, 2) := by decide +kernel
theorem dX10_draughts_51 : decode cX10_draughts 51 = .ok (.ireturn, 1) := by decide +kernel
theorem dX10_draughts_52 : decode cX10_draughts 52 = .ok (.iload_n 2, 1) := by decide +kernel
theorem dX10_draughts_53 : decode cX10_draughts 53 = .ok (.ifCond .lt 16, 3) := by decide +kernel
theorem dX10_draughts_56 : decode cX10_draughts 56 = .ok (.iload_n 2, 1) := by decide +kernel
theorem dX10_draughts_57 : decode cX10_draughts 57 = .ok (.aload_n 0, 1) := by decide +kernel
theorem dX10_draughts_58 : decode cX10_draughts 58 = .ok (.getfield 92, 3) := by decide +kernel
theorem dX10_draughts_61 : decode cX10_draughts 61 = .ok (.iload_n 1, 1) := by decide +kernel
theorem dX10_draughts_62 : decode cX10_draughts 62 = .ok (.iaload, 1) := by decide +kernel
theorem dX10_draughts_63 : decode cX10_draughts 63 = .ok (.iload 4, 2) := by decide +kernel
theorem dX10_draughts_65 : decode cX10_draughts 65 = .ok (.isub, 1) := by decide +kernel
theorem dX10_draughts_66 : decode cX10_draughts 66 = .ok (.if_icmp .le 6, 3) := by decide +kernel
theorem dX10_draughts_69 : decode cX10_draughts 69 = .ok (.bipush (-12), 2) := by decide +kernel
theorem dX10_draughts_71 : decode cX10_draughts 71 = .ok (.ireturn, 1) := by decide +kernel
theorem dX10_draughts_72 : decode cX10_draughts 72 = .ok (.iconst 0, 1) := by decide +kernel
theorem dX10_draughts_73 : decode cX10_draughts 73 = .ok (.istore 6, 2) := by decide +kernel
theorem dX10_draughts_75 : decode cX10_draughts 75 = .ok (.iload 6, 2) := by decide +kernel
theorem dX10_draughts_77 : decode cX10_draughts 77 = .ok (.iload 4, 2) := by decide +kernel
theorem dX10_draughts_79 : decode cX10_draughts 79 = .ok (.if_icmp .ge 61, 3) := by decide +kernel
theorem dX10_draughts_82 : decode cX10_draughts 82 = .ok (.aload_n 0, 1) := by decide +kernel
theorem dX10_draughts_83 : decode cX10_draughts 83 = .ok (.getfield 95, 3) := by decide +kernel
theorem dX10_draughts_86 : decode cX10_draughts 86 = .ok (.bipush 40, 2) := by decide +kernel
theorem dX10_draughts_88 : decode cX10_draughts 88 = .ok (.iload_n 1, 1) := by decide +kernel
theorem dX10_draughts_89 : decode cX10_draughts 89 = .ok (.imul, 1) := by decide +kernel
theorem dX10_draughts_90 : decode cX10_draughts 90 = .ok (.iload_n 2, 1) := by decide +kernel
theorem dX10_draughts_91 : decode cX10_draughts 91 = .ok (.iadd, 1) := by decide +kernel
theorem dX10_draughts_92 : decode cX10_draughts 92 = .ok (.iload 6, 2) := by decide +kernel
theorem dX10_draughts_94 : decode cX10_draughts 94 = .ok (.iadd, 1) := by decide +kernel
theorem dX10_draughts_95 : decode cX10_draughts 95 = .ok (.laload, 1) := by decide +kernel
theorem dX10_draughts_96 : decode cX10_draughts 96 = .ok (.lstore 7, 2) := by decide +kernel
theorem dX10_draughts_98 : decode cX10_draughts 98 = .ok (.aload_n 0, 1) := by decide +kernel
theorem dX10_draughts_99 : decode cX10_draughts 99 = .ok (.getfield 25, 3) := by decide +kernel
theorem dX10_draughts_102 : decode cX10_draughts 102 = .ok (.iload_n 3, 1) := by decide +kernel
theorem dX10_draughts_103 : decode cX10_draughts 103 = .ok (.iload 6, 2) := by decide +kernel
theorem dX10_draughts_105 : decode cX10_draughts 105 = .ok (.iadd, 1) := by decide +kernel
theorem dX10_draughts_106 : decode cX10_draughts 106 = .ok (.lload 7, 2) := by decide +kernel
theorem dX10_draughts_108 : decode cX10_draughts 108 = .ok (.lconst 0, 1) := by decide +kernel
theorem dX10_draughts_109 : decode cX10_draughts 109 = .ok (.lcmp, 1) := by decide +kernel
theorem dX10_draughts_110 : decode cX10_draughts 110 = .ok (.ifCond .ge 7, 3) := by decide +kernel
theorem dX10_draughts_113 : decode cX10_draughts 113 = .ok (.iconst 0, 1) := by decide +kernel
theorem dX10_draughts_114 : decode cX10_draughts 114 = .ok (.goto 19, 3) := by decide +kernel
theorem dX10_draughts_117 : decode cX10_draughts 117 = .ok (.lload 7, 2) := by decide +kernel
theorem dX10_draughts_119 : decode cX10_draughts 119 = .ok (.ldc2_w 367, 3) := by decide +kernel
theorem dX10_draughts_122 : decode cX10_draughts 122 = .ok (.lcmp, 1) := by decide +kernel
theorem dX10_draughts_123 : decode cX10_draughts 123 = .ok (.ifCond .le 7, 3) := by decide +kernel
theorem dX10_draughts_126 : decode cX10_draughts 126 = .ok (.iconst 3, 1) := by decide +kernel
theorem dX10_draughts_127 : decode cX10_draughts 127 = .ok (.goto 6, 3) := by decide +kernel
theorem dX10_draughts_130 : decode cX10_draughts 130 = .ok (.lload 7, 2) := by decide +kernel
theorem dX10_draughts_132 : decode cX10_draughts 132 = .ok (.l2i, 1) := by decide +kernel
theorem dX10_draughts_133 : decode cX10_draughts 133 = .ok (.iastore, 1) := by decide +kernel
theorem dX10_draughts_134 : decode cX10_draughts 134 = .ok (.iinc 6 1, 3) := by decide +kernel
theorem dX10_draughts_137 : decode cX10_draughts 137 = .ok (.goto (-62), 3) := by decide +kernel
theorem dX10_draughts_140 : decode cX10_draughts 140 = .ok (.iload 4, 2) := by decide +kernel
theorem dX10_draughts_142 : decode cX10_draughts 142 = .ok (.ireturn, 1) := by decide +kernel
theorem dX10_isShelf_0 : decode cX10_isShelf 0 = .ok (.iload_n 0, 1) := by decide +kernel
theorem dX10_isShelf_1 : decode cX10_isShelf 1 = .ok (.iconst 0, 1) := by decide +kernel
theorem dX10_isShelf_2 : decode cX10_isShelf 2 = .ok (.iconst 3, 1) := by decide +kernel
theorem dX10_isShelf_3 : decode cX10_isShelf 3 = .ok (.invokestatic 120, 3) := by decide +kernel
theorem dX10_isShelf_6 : decode cX10_isShelf 6 = .ok (.ireturn, 1) := by decide +kernel
theorem dX10_sheet_0 : decode cX10_sheet 0 = .ok (.iload_n 1, 1) := by decide +kernel
theorem dX10_sheet_1 : decode cX10_sheet 1 = .ok (.invokestatic 361, 3) := by decide +kernel
theorem dX10_sheet_4 : decode cX10_sheet 4 = .ok (.ifCond .eq 22, 3) := by decide +kernel
theorem dX10_sheet_7 : decode cX10_sheet 7 = .ok (.iload_n 2, 1) := by decide +kernel
theorem dX10_sheet_8 : decode cX10_sheet 8 = .ok (.iconst (-1), 1) := by decide +kernel
theorem dX10_sheet_9 : decode cX10_sheet 9 = .ok (.iconst 3, 1) := by decide +kernel
theorem dX10_sheet_10 : decode cX10_sheet 10 = .ok (.invokestatic 120, 3) := by decide +kernel
theorem dX10_sheet_13 : decode cX10_sheet 13 = .ok (.ifCond .eq 13, 3) := by decide +kernel
theorem dX10_sheet_16 : decode cX10_sheet 16 = .ok (.iload_n 2, 1) := by decide +kernel
theorem dX10_sheet_17 : decode cX10_sheet 17 = .ok (.ifCond .lt 11, 3) := by decide +kernel
theorem dX10_sheet_20 : decode cX10_sheet 20 = .ok (.iload_n 3, 1) := by decide +kernel
theorem dX10_sheet_21 : decode cX10_sheet 21 = .ok (.bipush 40, 2) := by decide +kernel
theorem dX10_sheet_23 : decode cX10_sheet 23 = .ok (.if_icmp .le 5, 3) := by decide +kernel
theorem dX10_sheet_26 : decode cX10_sheet 26 = .ok (.iconst (-1), 1) := by decide +kernel
theorem dX10_sheet_27 : decode cX10_sheet 27 = .ok (.ireturn, 1) := by decide +kernel
theorem dX10_sheet_28 : decode cX10_sheet 28 = .ok (.iload_n 2, 1) := by decide +kernel
theorem dX10_sheet_29 : decode cX10_sheet 29 = .ok (.ifCond .lt 10, 3) := by decide +kernel
theorem dX10_sheet_32 : decode cX10_sheet 32 = .ok (.iload_n 3, 1) := by decide +kernel
theorem dX10_sheet_33 : decode cX10_sheet 33 = .ok (.ifCond .ge 6, 3) := by decide +kernel
theorem dX10_sheet_36 : decode cX10_sheet 36 = .ok (.bipush (-14), 2) := by decide +kernel
theorem dX10_sheet_38 : decode cX10_sheet 38 = .ok (.ireturn, 1) := by decide +kernel
theorem dX10_sheet_39 : decode cX10_sheet 39 = .ok (.aload_n 0, 1) := by decide +kernel
theorem dX10_sheet_40 : decode cX10_sheet 40 = .ok (.getfield 89, 3) := by decide +kernel
theorem dX10_sheet_43 : decode cX10_sheet 43 = .ok (.iload_n 1, 1) := by decide +kernel
theorem dX10_sheet_44 : decode cX10_sheet 44 = .ok (.iload_n 2, 1) := by decide +kernel
theorem dX10_sheet_45 : decode cX10_sheet 45 = .ok (.iastore, 1) := by decide +kernel
theorem dX10_sheet_46 : decode cX10_sheet 46 = .ok (.aload_n 0, 1) := by decide +kernel
theorem dX10_sheet_47 : decode cX10_sheet 47 = .ok (.getfield 92, 3) := by decide +kernel
theorem dX10_sheet_50 : decode cX10_sheet 50 = .ok (.iload_n 1, 1) := by decide +kernel
theorem dX10_sheet_51 : decode cX10_sheet 51 = .ok (.iload_n 2, 1) := by decide +kernel
theorem dX10_sheet_52 : decode cX10_sheet 52 = .ok (.ifCond .ge 7, 3) := by decide +kernel
theorem dX10_sheet_55 : decode cX10_sheet 55 = .ok (.iconst 0, 1) := by decide +kernel
theorem dX10_sheet_56 : decode cX10_sheet 56 = .ok (.goto 4, 3) := by decide +kernel
theorem dX10_sheet_59 : decode cX10_sheet 59 = .ok (.iload_n 3, 1) := by decide +kernel
theorem dX10_sheet_60 : decode cX10_sheet 60 = .ok (.iastore, 1) := by decide +kernel
theorem dX10_sheet_61 : decode cX10_sheet 61 = .ok (.iconst 0, 1) := by decide +kernel
theorem dX10_sheet_62 : decode cX10_sheet 62 = .ok (.istore 4, 2) := by decide +kernel
theorem dX10_sheet_64 : decode cX10_sheet 64 = .ok (.iload 4, 2) := by decide +kernel
theorem dX10_sheet_66 : decode cX10_sheet 66 = .ok (.bipush 40, 2) := by decide +kernel
theorem dX10_sheet_68 : decode cX10_sheet 68 = .ok (.if_icmp .ge 22, 3) := by decide +kernel
theorem dX10_sheet_71 : decode cX10_sheet 71 = .ok (.aload_n 0, 1) := by decide +kernel
theorem dX10_sheet_72 : decode cX10_sheet 72 = .ok (.getfield 95, 3) := by decide +kernel
theorem dX10_sheet_75 : decode cX10_sheet 75 = .ok (.bipush 40, 2) := by decide +kernel
theorem dX10_sheet_77 : decode cX10_sheet 77 = .ok (.iload_n 1, 1) := by decide +kernel
theorem dX10_sheet_78 : decode cX10_sheet 78 = .ok (.imul, 1) := by decide +kernel
theorem dX10_sheet_79 : decode cX10_sheet 79 = .ok (.iload 4, 2) := by decide +kernel
theorem dX10_sheet_81 : decode cX10_sheet 81 = .ok (.iadd, 1) := by decide +kernel
theorem dX10_sheet_82 : decode cX10_sheet 82 = .ok (.lconst 0, 1) := by decide +kernel
theorem dX10_sheet_83 : decode cX10_sheet 83 = .ok (.lastore, 1) := by decide +kernel
theorem dX10_sheet_84 : decode cX10_sheet 84 = .ok (.iinc 4 1, 3) := by decide +kernel
theorem dX10_sheet_87 : decode cX10_sheet 87 = .ok (.goto (-23), 3) := by decide +kernel
theorem dX10_sheet_90 : decode cX10_sheet 90 = .ok (.iconst 1, 1) := by decide +kernel
theorem dX10_sheet_91 : decode cX10_sheet 91 = .ok (.ireturn, 1) := by decide +kernel
theorem dX10_put_0 : decode cX10_put 0 = .ok (.iload_n 1, 1) := by decide +kernel
theorem dX10_put_1 : decode cX10_put 1 = .ok (.invokestatic 361, 3) := by decide +kernel
theorem dX10_put_4 : decode cX10_put 4 = .ok (.ifCond .ne 5, 3) := by decide +kernel
theorem dX10_put_7 : decode cX10_put 7 = .ok (.iconst (-1), 1) := by decide +kernel
theorem dX10_put_8 : decode cX10_put 8 = .ok (.ireturn, 1) := by decide +kernel
theorem dX10_put_9 : decode cX10_put 9 = .ok (.aload_n 0, 1) := by decide +kernel
theorem dX10_put_10 : decode cX10_put 10 = .ok (.getfield 89, 3) := by decide +kernel
theorem dX10_put_13 : decode cX10_put 13 = .ok (.iload_n 1, 1) := by decide +kernel
theorem dX10_put_14 : decode cX10_put 14 = .ok (.iaload, 1) := by decide +kernel
theorem dX10_put_15 : decode cX10_put 15 = .ok (.ifCond .ge 6, 3) := by decide +kernel
theorem dX10_put_18 : decode cX10_put 18 = .ok (.bipush (-11), 2) := by decide +kernel
theorem dX10_put_20 : decode cX10_put 20 = .ok (.ireturn, 1) := by decide +kernel
theorem dX10_put_21 : decode cX10_put 21 = .ok (.iload_n 2, 1) := by decide +kernel
theorem dX10_put_22 : decode cX10_put 22 = .ok (.iconst 0, 1) := by decide +kernel
theorem dX10_put_23 : decode cX10_put 23 = .ok (.aload_n 0, 1) := by decide +kernel
theorem dX10_put_24 : decode cX10_put 24 = .ok (.getfield 92, 3) := by decide +kernel
theorem dX10_put_27 : decode cX10_put 27 = .ok (.iload_n 1, 1) := by decide +kernel
theorem dX10_put_28 : decode cX10_put 28 = .ok (.iaload, 1) := by decide +kernel
theorem dX10_put_29 : decode cX10_put 29 = .ok (.iconst 1, 1) := by decide +kernel
theorem dX10_put_30 : decode cX10_put 30 = .ok (.isub, 1) := by decide +kernel
theorem dX10_put_31 : decode cX10_put 31 = .ok (.invokestatic 120, 3) := by decide +kernel
theorem dX10_put_34 : decode cX10_put 34 = .ok (.ifCond .ne 6, 3) := by decide +kernel
theorem dX10_put_37 : decode cX10_put 37 = .ok (.bipush (-12), 2) := by decide +kernel
theorem dX10_put_39 : decode cX10_put 39 = .ok (.ireturn, 1) := by decide +kernel
theorem dX10_put_40 : decode cX10_put 40 = .ok (.aload_n 0, 1) := by decide +kernel
theorem dX10_put_41 : decode cX10_put 41 = .ok (.getfield 95, 3) := by decide +kernel
theorem dX10_put_44 : decode cX10_put 44 = .ok (.bipush 40, 2) := by decide +kernel
theorem dX10_put_46 : decode cX10_put 46 = .ok (.iload_n 1, 1) := by decide +kernel
theorem dX10_put_47 : decode cX10_put 47 = .ok (.imul, 1) := by decide +kernel
theorem dX10_put_48 : decode cX10_put 48 = .ok (.iload_n 2, 1) := by decide +kernel
theorem dX10_put_49 : decode cX10_put 49 = .ok (.iadd, 1) := by decide +kernel
theorem dX10_put_50 : decode cX10_put 50 = .ok (.aload_n 0, 1) := by decide +kernel
theorem dX10_put_51 : decode cX10_put 51 = .ok (.getfield 89, 3) := by decide +kernel
theorem dX10_put_54 : decode cX10_put 54 = .ok (.iload_n 1, 1) := by decide +kernel
theorem dX10_put_55 : decode cX10_put 55 = .ok (.iaload, 1) := by decide +kernel
theorem dX10_put_56 : decode cX10_put 56 = .ok (.ifCond .ne 9, 3) := by decide +kernel
theorem dX10_put_59 : decode cX10_put 59 = .ok (.iload_n 3, 1) := by decide +kernel
theorem dX10_put_60 : decode cX10_put 60 = .ok (.i2b, 1) := by decide +kernel
theorem dX10_put_61 : decode cX10_put 61 = .ok (.i2l, 1) := by decide +kernel
theorem dX10_put_62 : decode cX10_put 62 = .ok (.goto 21, 3) := by decide +kernel
theorem dX10_put_65 : decode cX10_put 65 = .ok (.aload_n 0, 1) := by decide +kernel
theorem dX10_put_66 : decode cX10_put 66 = .ok (.getfield 89, 3) := by decide +kernel
theorem dX10_put_69 : decode cX10_put 69 = .ok (.iload_n 1, 1) := by decide +kernel
theorem dX10_put_70 : decode cX10_put 70 = .ok (.iaload, 1) := by decide +kernel
theorem dX10_put_71 : decode cX10_put 71 = .ok (.iconst 1, 1) := by decide +kernel
theorem dX10_put_72 : decode cX10_put 72 = .ok (.if_icmp .ne 9, 3) := by decide +kernel
theorem dX10_put_75 : decode cX10_put 75 = .ok (.iload_n 3, 1) := by decide +kernel
theorem dX10_put_76 : decode cX10_put 76 = .ok (.i2s, 1) := by decide +kernel
theorem dX10_put_77 : decode cX10_put 77 = .ok (.i2l, 1) := by decide +kernel
theorem dX10_put_78 : decode cX10_put 78 = .ok (.goto 5, 3) := by decide +kernel
theorem dX10_put_81 : decode cX10_put 81 = .ok (.iload_n 3, 1) := by decide +kernel
theorem dX10_put_82 : decode cX10_put 82 = .ok (.i2l, 1) := by decide +kernel
theorem dX10_put_83 : decode cX10_put 83 = .ok (.lastore, 1) := by decide +kernel
theorem dX10_put_84 : decode cX10_put 84 = .ok (.iconst 1, 1) := by decide +kernel
theorem dX10_put_85 : decode cX10_put 85 = .ok (.ireturn, 1) := by decide +kernel
theorem dX10_lacksSort_0 : decode cX10_lacksSort 0 = .ok (.aload_n 0, 1) := by decide +kernel
theorem dX10_lacksSort_1 : decode cX10_lacksSort 1 = .ok (.getfield 89, 3) := by decide +kernel
theorem dX10_lacksSort_4 : decode cX10_lacksSort 4 = .ok (.iload_n 1, 1) := by decide +kernel
theorem dX10_lacksSort_5 : decode cX10_lacksSort 5 = .ok (.iaload, 1) := by decide +kernel
theorem dX10_lacksSort_6 : decode cX10_lacksSort 6 = .ok (.ifCond .ge 8, 3) := by decide +kernel
theorem dX10_lacksSort_9 : decode cX10_lacksSort 9 = .ok (.bipush (-11), 2) := by decide +kernel
theorem dX10_lacksSort_11 : decode cX10_lacksSort 11 = .ok (.goto 19, 3) := by decide +kernel
theorem dX10_lacksSort_14 : decode cX10_lacksSort 14 = .ok (.aload_n 0, 1) := by decide +kernel
theorem dX10_lacksSort_15 : decode cX10_lacksSort 15 = .ok (.getfield 89, 3) := by decide +kernel
theorem dX10_lacksSort_18 : decode cX10_lacksSort 18 = .ok (.iload_n 1, 1) := by decide +kernel
theorem dX10_lacksSort_19 : decode cX10_lacksSort 19 = .ok (.iaload, 1) := by decide +kernel
theorem dX10_lacksSort_20 : decode cX10_lacksSort 20 = .ok (.iload_n 2, 1) := by decide +kernel
theorem dX10_lacksSort_21 : decode cX10_lacksSort 21 = .ok (.if_icmp .eq 8, 3) := by decide +kernel
theorem dX10_lacksSort_24 : decode cX10_lacksSort 24 = .ok (.bipush (-13), 2) := by decide +kernel
theorem dX10_lacksSort_26 : decode cX10_lacksSort 26 = .ok (.goto 4, 3) := by decide +kernel
theorem dX10_lacksSort_29 : decode cX10_lacksSort 29 = .ok (.iconst 0, 1) := by decide +kernel
theorem dX10_lacksSort_30 : decode cX10_lacksSort 30 = .ok (.ireturn, 1) := by decide +kernel
theorem dX10_item_0 : decode cX10_item 0 = .ok (.iload_n 1, 1) := by decide +kernel
theorem dX10_item_1 : decode cX10_item 1 = .ok (.invokestatic 361, 3) := by decide +kernel
theorem dX10_item_4 : decode cX10_item 4 = .ok (.ifCond .eq 12, 3) := by decide +kernel
theorem dX10_item_7 : decode cX10_item 7 = .ok (.iload_n 2, 1) := by decide +kernel
theorem dX10_item_8 : decode cX10_item 8 = .ok (.iconst 0, 1) := by decide +kernel
theorem dX10_item_9 : decode cX10_item 9 = .ok (.iconst 3, 1) := by decide +kernel
theorem dX10_item_10 : decode cX10_item 10 = .ok (.invokestatic 120, 3) := by decide +kernel
theorem dX10_item_13 : decode cX10_item 13 = .ok (.ifCond .ne 5, 3) := by decide +kernel
theorem dX10_item_16 : decode cX10_item 16 = .ok (.iconst (-1), 1) := by decide +kernel
theorem dX10_item_17 : decode cX10_item 17 = .ok (.ireturn, 1) := by decide +kernel
theorem dX10_item_18 : decode cX10_item 18 = .ok (.aload_n 0, 1) := by decide +kernel
theorem dX10_item_19 : decode cX10_item 19 = .ok (.iload_n 1, 1) := by decide +kernel
theorem dX10_item_20 : decode cX10_item 20 = .ok (.iload_n 2, 1) := by decide +kernel
theorem dX10_item_21 : decode cX10_item 21 = .ok (.invokevirtual 364, 3) := by decide +kernel
theorem dX10_item_24 : decode cX10_item 24 = .ok (.istore 4, 2) := by decide +kernel
theorem dX10_item_26 : decode cX10_item 26 = .ok (.iload 4, 2) := by decide +kernel
theorem dX10_item_28 : decode cX10_item 28 = .ok (.ifCond .eq 6, 3) := by decide +kernel
theorem dX10_item_31 : decode cX10_item 31 = .ok (.iload 4, 2) := by decide +kernel
theorem dX10_item_33 : decode cX10_item 33 = .ok (.ireturn, 1) := by decide +kernel
theorem dX10_item_34 : decode cX10_item 34 = .ok (.iload_n 3, 1) := by decide +kernel
theorem dX10_item_35 : decode cX10_item 35 = .ok (.iconst 0, 1) := by decide +kernel
theorem dX10_item_36 : decode cX10_item 36 = .ok (.aload_n 0, 1) := by decide +kernel
theorem dX10_item_37 : decode cX10_item 37 = .ok (.getfield 92, 3) := by decide +kernel
theorem dX10_item_40 : decode cX10_item 40 = .ok (.iload_n 1, 1) := by decide +kernel
theorem dX10_item_41 : decode cX10_item 41 = .ok (.iaload, 1) := by decide +kernel
theorem dX10_item_42 : decode cX10_item 42 = .ok (.iconst 1, 1) := by decide +kernel
theorem dX10_item_43 : decode cX10_item 43 = .ok (.isub, 1) := by decide +kernel
theorem dX10_item_44 : decode cX10_item 44 = .ok (.invokestatic 120, 3) := by decide +kernel
theorem dX10_item_47 : decode cX10_item 47 = .ok (.ifCond .eq 18, 3) := by decide +kernel
theorem dX10_item_50 : decode cX10_item 50 = .ok (.aload_n 0, 1) := by decide +kernel
theorem dX10_item_51 : decode cX10_item 51 = .ok (.getfield 95, 3) := by decide +kernel
theorem dX10_item_54 : decode cX10_item 54 = .ok (.bipush 40, 2) := by decide +kernel
theorem dX10_item_56 : decode cX10_item 56 = .ok (.iload_n 1, 1) := by decide +kernel
theorem dX10_item_57 : decode cX10_item 57 = .ok (.imul, 1) := by decide +kernel
theorem dX10_item_58 : decode cX10_item 58 = .ok (.iload_n 3, 1) := by decide +kernel
theorem dX10_item_59 : decode cX10_item 59 = .ok (.iadd, 1) := by decide +kernel
theorem dX10_item_60 : decode cX10_item 60 = .ok (.laload, 1) := by decide +kernel
theorem dX10_item_61 : decode cX10_item 61 = .ok (.l2i, 1) := by decide +kernel
theorem dX10_item_62 : decode cX10_item 62 = .ok (.goto 5, 3) := by decide +kernel
theorem dX10_item_65 : decode cX10_item 65 = .ok (.bipush (-12), 2) := by decide +kernel
theorem dX10_item_67 : decode cX10_item 67 = .ok (.ireturn, 1) := by decide +kernel
theorem dX10_isHeld_0 : decode cX10_isHeld 0 = .ok (.iload_n 1, 1) := by decide +kernel
theorem dX10_isHeld_1 : decode cX10_isHeld 1 = .ok (.ifCond .ne 11, 3) := by decide +kernel
theorem dX10_isHeld_4 : decode cX10_isHeld 4 = .ok (.aload_n 0, 1) := by decide +kernel
theorem dX10_isHeld_5 : decode cX10_isHeld 5 = .ok (.iload_n 2, 1) := by decide +kernel
theorem dX10_isHeld_6 : decode cX10_isHeld 6 = .ok (.invokevirtual 271, 3) := by decide +kernel
theorem dX10_isHeld_9 : decode cX10_isHeld 9 = .ok (.goto 25, 3) := by decide +kernel
theorem dX10_isHeld_12 : decode cX10_isHeld 12 = .ok (.iload_n 1, 1) := by decide +kernel
theorem dX10_isHeld_13 : decode cX10_isHeld 13 = .ok (.iconst 1, 1) := by decide +kernel
theorem dX10_isHeld_14 : decode cX10_isHeld 14 = .ok (.if_icmp .ne 10, 3) := by decide +kernel
theorem dX10_isHeld_17 : decode cX10_isHeld 17 = .ok (.iload_n 2, 1) := by decide +kernel
theorem dX10_isHeld_18 : decode cX10_isHeld 18 = .ok (.invokestatic 361, 3) := by decide +kernel
theorem dX10_isHeld_21 : decode cX10_isHeld 21 = .ok (.goto 13, 3) := by decide +kernel
theorem dX10_isHeld_24 : decode cX10_isHeld 24 = .ok (.iload_n 1, 1) := by decide +kernel
theorem dX10_isHeld_25 : decode cX10_isHeld 25 = .ok (.iconst 2, 1) := by decide +kernel
theorem dX10_isHeld_26 : decode cX10_isHeld 26 = .ok (.if_icmp .ne 7, 3) := by decide +kernel
theorem dX10_isHeld_29 : decode cX10_isHeld 29 = .ok (.iconst 1, 1) := by decide +kernel
theorem dX10_isHeld_30 : decode cX10_isHeld 30 = .ok (.goto 4, 3) := by decide +kernel
theorem dX10_isHeld_33 : decode cX10_isHeld 33 = .ok (.iconst 0, 1) := by decide +kernel
theorem dX10_isHeld_34 : decode cX10_isHeld 34 = .ok (.ireturn, 1) := by decide +kernel
theorem dX10_shelf_0 : decode cX10_shelf 0 = .ok (.iload_n 1, 1) := by decide +kernel
theorem dX10_shelf_1 : decode cX10_shelf 1 = .ok (.invokestatic 361, 3) := by decide +kernel
theorem dX10_shelf_4 : decode cX10_shelf 4 = .ok (.ifCond .eq 12, 3) := by decide +kernel
theorem dX10_shelf_7 : decode cX10_shelf 7 = .ok (.aload_n 0, 1) := by decide +kernel
theorem dX10_shelf_8 : decode cX10_shelf 8 = .ok (.iload_n 2, 1) := by decide +kernel
theorem dX10_shelf_9 : decode cX10_shelf 9 = .ok (.iload_n 3, 1) := by decide +kernel
theorem dX10_shelf_10 : decode cX10_shelf 10 = .ok (.invokevirtual 369, 3) := by decide +kernel
theorem dX10_shelf_13 : decode cX10_shelf 13 = .ok (.ifCond .ne 5, 3) := by decide +kernel
theorem dX10_shelf_16 : decode cX10_shelf 16 = .ok (.iconst (-1), 1) := by decide +kernel
theorem dX10_shelf_17 : decode cX10_shelf 17 = .ok (.ireturn, 1) := by decide +kernel
theorem dX10_shelf_18 : decode cX10_shelf 18 = .ok (.aload_n 0, 1) := by decide +kernel
theorem dX10_shelf_19 : decode cX10_shelf 19 = .ok (.getfield 99, 3) := by decide +kernel
theorem dX10_shelf_22 : decode cX10_shelf 22 = .ok (.iload_n 1, 1) := by decide +kernel
theorem dX10_shelf_23 : decode cX10_shelf 23 = .ok (.iload_n 2, 1) := by decide +kernel
theorem dX10_shelf_24 : decode cX10_shelf 24 = .ok (.iconst 2, 1) := by decide +kernel
theorem dX10_shelf_25 : decode cX10_shelf 25 = .ok (.if_icmp .eq 17, 3) := by decide +kernel
theorem dX10_shelf_28 : decode cX10_shelf 28 = .ok (.iload_n 2, 1) := by decide +kernel
theorem dX10_shelf_29 : decode cX10_shelf 29 = .ok (.iconst 1, 1) := by decide +kernel
theorem dX10_shelf_30 : decode cX10_shelf 30 = .ok (.if_icmp .ne 16, 3) := by decide +kernel
theorem dX10_shelf_33 : decode cX10_shelf 33 = .ok (.aload_n 0, 1) := by decide +kernel
theorem dX10_shelf_34 : decode cX10_shelf 34 = .ok (.getfield 89, 3) := by decide +kernel
theorem dX10_shelf_37 : decode cX10_shelf 37 = .ok (.iload_n 3, 1) := by decide +kernel
theorem dX10_shelf_38 : decode cX10_shelf 38 = .ok (.iaload, 1) := by decide +kernel
theorem dX10_shelf_39 : decode cX10_shelf 39 = .ok (.ifCond .ge 7, 3) := by decide +kernel
theorem dX10_shelf_42 : decode cX10_shelf 42 = .ok (.iconst (-1), 1) := by decide +kernel
theorem dX10_shelf_43 : decode cX10_shelf 43 = .ok (.goto 4, 3) := by decide +kernel
theorem dX10_shelf_46 : decode cX10_shelf 46 = .ok (.iload_n 2, 1) := by decide +kernel
theorem dX10_shelf_47 : decode cX10_shelf 47 = .ok (.iastore, 1) := by decide +kernel
theorem dX10_shelf_48 : decode cX10_shelf 48 = .ok (.aload_n 0, 1) := by decide +kernel
theorem dX10_shelf_49 : decode cX10_shelf 49 = .ok (.getfield 102, 3) := by decide +kernel
theorem dX10_shelf_52 : decode cX10_shelf 52 = .ok (.iload_n 1, 1) := by decide +kernel
theorem dX10_shelf_53 : decode cX10_shelf 53 = .ok (.iload_n 2, 1) := by decide +kernel
theorem dX10_shelf_54 : decode cX10_shelf 54 = .ok (.iconst 1, 1) := by decide +kernel
theorem dX10_shelf_55 : decode cX10_shelf 55 = .ok (.if_icmp .ne 12, 3) := by decide +kernel
theorem dX10_shelf_58 : decode cX10_shelf 58 = .ok (.aload_n 0, 1) := by decide +kernel
theorem dX10_shelf_59 : decode cX10_shelf 59 = .ok (.getfield 89, 3) := by decide +kernel
theorem dX10_shelf_62 : decode cX10_shelf 62 = .ok (.iload_n 3, 1) := by decide +kernel
theorem dX10_shelf_63 : decode cX10_shelf 63 = .ok (.iaload, 1) := by decide +kernel
theorem dX10_shelf_64 : decode cX10_shelf 64 = .ok (.goto 4, 3) := by decide +kernel
theorem dX10_shelf_67 : decode cX10_shelf 67 = .ok (.iload_n 3, 1) := by decide +kernel
theorem dX10_shelf_68 : decode cX10_shelf 68 = .ok (.iastore, 1) := by decide +kernel
theorem dX10_shelf_69 : decode cX10_shelf 69 = .ok (.aload_n 0, 1) := by decide +kernel
theorem dX10_shelf_70 : decode cX10_shelf 70 = .ok (.getfield 105, 3) := by decide +kernel
theorem dX10_shelf_73 : decode cX10_shelf 73 = .ok (.iload_n 1, 1) := by decide +kernel
theorem dX10_shelf_74 : decode cX10_shelf 74 = .ok (.iload_n 2, 1) := by decide +kernel
theorem dX10_shelf_75 : decode cX10_shelf 75 = .ok (.iconst 1, 1) := by decide +kernel
theorem dX10_shelf_76 : decode cX10_shelf 76 = .ok (.if_icmp .ne 12, 3) := by decide +kernel
theorem dX10_shelf_79 : decode cX10_shelf 79 = .ok (.aload_n 0, 1) := by decide +kernel
theorem dX10_shelf_80 : decode cX10_shelf 80 = .ok (.getfield 92, 3) := by decide +kernel
theorem dX10_shelf_83 : decode cX10_shelf 83 = .ok (.iload_n 3, 1) := by decide +kernel
theorem dX10_shelf_84 : decode cX10_shelf 84 = .ok (.iaload, 1) := by decide +kernel
theorem dX10_shelf_85 : decode cX10_shelf 85 = .ok (.goto 4, 3) := by decide +kernel
theorem dX10_shelf_88 : decode cX10_shelf 88 = .ok (.iconst 0, 1) := by decide +kernel
theorem dX10_shelf_89 : decode cX10_shelf 89 = .ok (.iastore, 1) := by decide +kernel
theorem dX10_shelf_90 : decode cX10_shelf 90 = .ok (.iconst 1, 1) := by decide +kernel
theorem dX10_shelf_91 : decode cX10_shelf 91 = .ok (.ireturn, 1) := by decide +kernel
theorem dX10_kindOn_0 : decode cX10_kindOn 0 = .ok (.aload_n 0, 1) := by decide +kernel
theorem dX10_kindOn_1 : decode cX10_kindOn 1 = .ok (.getfield 99, 3) := by decide +kernel
theorem dX10_kindOn_4 : decode cX10_kindOn 4 = .ok (.iload_n 1, 1) := by decide +kernel
theorem dX10_kindOn_5 : decode cX10_kindOn 5 = .ok (.iaload, 1) := by decide +kernel
theorem dX10_kindOn_6 : decode cX10_kindOn 6 = .ok (.ifCond .eq 19, 3) := by decide +kernel
theorem dX10_kindOn_9 : decode cX10_kindOn 9 = .ok (.aload_n 0, 1) := by decide +kernel
theorem dX10_kindOn_10 : decode cX10_kindOn 10 = .ok (.getfield 99, 3) := by decide +kernel
theorem dX10_kindOn_13 : decode cX10_kindOn 13 = .ok (.iload_n 1, 1) := by decide +kernel
theorem dX10_kindOn_14 : decode cX10_kindOn 14 = .ok (.iaload, 1) := by decide +kernel
theorem dX10_kindOn_15 : decode cX10_kindOn 15 = .ok (.ifCond .ge 7, 3) := by decide +kernel
theorem dX10_kindOn_18 : decode cX10_kindOn 18 = .ok (.iconst (-1), 1) := by decide +kernel
theorem dX10_kindOn_19 : decode cX10_kindOn 19 = .ok (.goto 5, 3) := by decide +kernel
theorem dX10_kindOn_22 : decode cX10_kindOn 22 = .ok (.bipush 9, 2) := by decide +kernel
theorem dX10_kindOn_24 : decode cX10_kindOn 24 = .ok (.ireturn, 1) := by decide +kernel
theorem dX10_kindOn_25 : decode cX10_kindOn 25 = .ok (.aload_n 0, 1) := by decide +kernel
theorem dX10_kindOn_26 : decode cX10_kindOn 26 = .ok (.aload_n 0, 1) := by decide +kernel
theorem dX10_kindOn_27 : decode cX10_kindOn 27 = .ok (.getfield 102, 3) := by decide +kernel
theorem dX10_kindOn_30 : decode cX10_kindOn 30 = .ok (.iload_n 1, 1) := by decide +kernel
theorem dX10_kindOn_31 : decode cX10_kindOn 31 = .ok (.iaload, 1) := by decide +kernel
theorem dX10_kindOn_32 : decode cX10_kindOn 32 = .ok (.invokevirtual 271, 3) := by decide +kernel
theorem dX10_kindOn_35 : decode cX10_kindOn 35 = .ok (.ifCond .eq 17, 3) := by decide +kernel
theorem dX10_kindOn_38 : decode cX10_kindOn 38 = .ok (.aload_n 0, 1) := by decide +kernel
theorem dX10_kindOn_39 : decode cX10_kindOn 39 = .ok (.getfield 32, 3) := by decide +kernel
theorem dX10_kindOn_42 : decode cX10_kindOn 42 = .ok (.aload_n 0, 1) := by decide +kernel
theorem dX10_kindOn_43 : decode cX10_kindOn 43 = .ok (.getfield 102, 3) := by decide +kernel
theorem dX10_kindOn_46 : decode cX10_kindOn 46 = .ok (.iload_n 1, 1) := by decide +kernel
theorem dX10_kindOn_47 : decode cX10_kindOn 47 = .ok (.iaload, 1) := by decide +kernel
theorem dX10_kindOn_48 : decode cX10_kindOn 48 = .ok (.iaload, 1) := by decide +kernel
theorem dX10_kindOn_49 : decode cX10_kindOn 49 = .ok (.goto 4, 3) := by decide +kernel
theorem dX10_kindOn_52 : decode cX10_kindOn 52 = .ok (.iconst (-1), 1) := by decide +kernel
theorem dX10_kindOn_53 : decode cX10_kindOn 53 = .ok (.ireturn, 1) := by decide +kernel
theorem dX10_isUnder_0 : decode cX10_isUnder 0 = .ok (.iload_n 1, 1) := by decide +kernel
theorem dX10_isUnder_1 : decode cX10_isUnder 1 = .ok (.ifCond .eq 33, 3) := by decide +kernel
theorem dX10_isUnder_4 : decode cX10_isUnder 4 = .ok (.iload_n 1, 1) := by decide +kernel
theorem dX10_isUnder_5 : decode cX10_isUnder 5 = .ok (.iload_n 0, 1) := by decide +kernel
theorem dX10_isUnder_6 : decode cX10_isUnder 6 = .ok (.if_icmp .eq 28, 3) := by decide +kernel
theorem dX10_isUnder_9 : decode cX10_isUnder 9 = .ok (.iload_n 1, 1) := by decide +kernel
theorem dX10_isUnder_10 : decode cX10_isUnder 10 = .ok (.iconst 1, 1) := by decide +kernel
theorem dX10_isUnder_11 : decode cX10_isUnder 11 = .ok (.if_icmp .ne 13, 3) := by decide +kernel
theorem dX10_isUnder_14 : decode cX10_isUnder 14 = .ok (.iload_n 0, 1) := by decide +kernel
theorem dX10_isUnder_15 : decode cX10_isUnder 15 = .ok (.iconst 3, 1) := by decide +kernel
theorem dX10_isUnder_16 : decode cX10_isUnder 16 = .ok (.if_icmp .eq 18, 3) := by decide +kernel
theorem dX10_isUnder_19 : decode cX10_isUnder 19 = .ok (.iload_n 0, 1) := by decide +kernel
theorem dX10_isUnder_20 : decode cX10_isUnder 20 = .ok (.iconst 5, 1) := by decide +kernel
theorem dX10_isUnder_21 : decode cX10_isUnder 21 = .ok (.if_icmp .eq 13, 3) := by decide +kernel
theorem dX10_isUnder_24 : decode cX10_isUnder 24 = .ok (.iload_n 1, 1) := by decide +kernel
theorem dX10_isUnder_25 : decode cX10_isUnder 25 = .ok (.iconst 2, 1) := by decide +kernel
theorem dX10_isUnder_26 : decode cX10_isUnder 26 = .ok (.if_icmp .ne 12, 3) := by decide +kernel
theorem dX10_isUnder_29 : decode cX10_isUnder 29 = .ok (.iload_n 0, 1) := by decide +kernel
theorem dX10_isUnder_30 : decode cX10_isUnder 30 = .ok (.iconst 4, 1) := by decide +kernel
theorem dX10_isUnder_31 : decode cX10_isUnder 31 = .ok (.if_icmp .ne 7, 3) := by decide +kernel
theorem dX10_isUnder_34 : decode cX10_isUnder 34 = .ok (.iconst 1, 1) := by decide +kernel
theorem dX10_isUnder_35 : decode cX10_isUnder 35 = .ok (.goto 4, 3) := by decide +kernel
theorem dX10_isUnder_38 : decode cX10_isUnder 38 = .ok (.iconst 0, 1) := by decide +kernel
theorem dX10_isUnder_39 : decode cX10_isUnder 39 = .ok (.ireturn, 1) := by decide +kernel
theorem dX10_taken_0 : decode cX10_taken 0 = .ok (.iload_n 1, 1) := by decide +kernel
theorem dX10_taken_1 : decode cX10_taken 1 = .ok (.invokestatic 361, 3) := by decide +kernel
theorem dX10_taken_4 : decode cX10_taken 4 = .ok (.ifCond .eq 23, 3) := by decide +kernel
theorem dX10_taken_7 : decode cX10_taken 7 = .ok (.iload_n 2, 1) := by decide +kernel
theorem dX10_taken_8 : decode cX10_taken 8 = .ok (.iconst 0, 1) := by decide +kernel
theorem dX10_taken_9 : decode cX10_taken 9 = .ok (.iconst 5, 1) := by decide +kernel
theorem dX10_taken_10 : decode cX10_taken 10 = .ok (.invokestatic 120, 3) := by decide +kernel
theorem dX10_taken_13 : decode cX10_taken 13 = .ok (.ifCond .ne 16, 3) := by decide +kernel
theorem dX10_taken_16 : decode cX10_taken 16 = .ok (.iload_n 2, 1) := by decide +kernel
theorem dX10_taken_17 : decode cX10_taken 17 = .ok (.bipush 10, 2) := by decide +kernel
theorem dX10_taken_19 : decode cX10_taken 19 = .ok (.bipush 13, 2) := by decide +kernel
theorem dX10_taken_21 : decode cX10_taken 21 = .ok (.invokestatic 120, 3) := by decide +kernel
theorem dX10_taken_24 : decode cX10_taken 24 = .ok (.ifCond .ne 5, 3) := by decide +kernel
theorem dX10_taken_27 : decode cX10_taken 27 = .ok (.iconst (-1), 1) := by decide +kernel
theorem dX10_taken_28 : decode cX10_taken 28 = .ok (.ireturn, 1) := by decide +kernel
theorem dX10_taken_29 : decode cX10_taken 29 = .ok (.aload_n 0, 1) := by decide +kernel
theorem dX10_taken_30 : decode cX10_taken 30 = .ok (.iload_n 1, 1) := by decide +kernel
theorem dX10_taken_31 : decode cX10_taken 31 = .ok (.invokevirtual 372, 3) := by decide +kernel
theorem dX10_taken_34 : decode cX10_taken 34 = .ok (.istore_n 3, 1) := by decide +kernel
theorem dX10_taken_35 : decode cX10_taken 35 = .ok (.iload_n 3, 1) := by decide +kernel
theorem dX10_taken_36 : decode cX10_taken 36 = .ok (.ifCond .ge 6, 3) := by decide +kernel
theorem dX10_taken_39 : decode cX10_taken 39 = .ok (.bipush (-11), 2) := by decide +kernel
theorem dX10_taken_41 : decode cX10_taken 41 = .ok (.ireturn, 1) := by decide +kernel
theorem dX10_taken_42 : decode cX10_taken 42 = .ok (.iload_n 3, 1) := by decide +kernel
theorem dX10_taken_43 : decode cX10_taken 43 = .ok (.bipush 9, 2) := by decide +kernel
theorem dX10_taken_45 : decode cX10_taken 45 = .ok (.if_icmp .ne 28, 3) := by decide +kernel
theorem dX10_taken_48 : decode cX10_taken 48 = .ok (.iload_n 2, 1) := by decide +kernel
theorem dX10_taken_49 : decode cX10_taken 49 = .ok (.bipush 10, 2) := by decide +kernel
theorem dX10_taken_51 : decode cX10_taken 51 = .ok (.aload_n 0, 1) := by decide +kernel
theorem dX10_taken_52 : decode cX10_taken 52 = .ok (.getfield 102, 3) := by decide +kernel
theorem dX10_taken_55 : decode cX10_taken 55 = .ok (.iload_n 1, 1) := by decide +kernel
theorem dX10_taken_56 : decode cX10_taken 56 = .ok (.iaload, 1) := by decide +kernel
theorem dX10_taken_57 : decode cX10_taken 57 = .ok (.iadd, 1) := by decide +kernel
theorem dX10_taken_58 : decode cX10_taken 58 = .ok (.if_icmp .ne 12, 3) := by decide +kernel
theorem dX10_taken_61 : decode cX10_taken 61 = .ok (.aload_n 0, 1) := by decide +kernel
theorem dX10_taken_62 : decode cX10_taken 62 = .ok (.getfield 105, 3) := by decide +kernel
theorem dX10_taken_65 : decode cX10_taken 65 = .ok (.iload_n 1, 1) := by decide +kernel
theorem dX10_taken_66 : decode cX10_taken 66 = .ok (.iaload, 1) := by decide +kernel
theorem dX10_taken_67 : decode cX10_taken 67 = .ok (.goto 5, 3) := by decide +kernel
theorem dX10_taken_70 : decode cX10_taken 70 = .ok (.bipush (-13), 2) := by decide +kernel
theorem dX10_taken_72 : decode cX10_taken 72 = .ok (.ireturn, 1) := by decide +kernel
theorem dX10_taken_73 : decode cX10_taken 73 = .ok (.iload_n 2, 1) := by decide +kernel
theorem dX10_taken_74 : decode cX10_taken 74 = .ok (.bipush 10, 2) := by decide +kernel
theorem dX10_taken_76 : decode cX10_taken 76 = .ok (.if_icmp .ge 20, 3) := by decide +kernel
theorem dX10_taken_79 : decode cX10_taken 79 = .ok (.iload_n 3, 1) := by decide +kernel
theorem dX10_taken_80 : decode cX10_taken 80 = .ok (.iload_n 2, 1) := by decide +kernel
theorem dX10_taken_81 : decode cX10_taken 81 = .ok (.invokestatic 375, 3) := by decide +kernel
theorem dX10_taken_84 : decode cX10_taken 84 = .ok (.ifCond .eq 12, 3) := by decide +kernel
theorem dX10_taken_87 : decode cX10_taken 87 = .ok (.aload_n 0, 1) := by decide +kernel
theorem dX10_taken_88 : decode cX10_taken 88 = .ok (.getfield 102, 3) := by decide +kernel
theorem dX10_taken_91 : decode cX10_taken 91 = .ok (.iload_n 1, 1) := by decide +kernel
theorem dX10_taken_92 : decode cX10_taken 92 = .ok (.iaload, 1) := by decide +kernel
theorem dX10_taken_93 : decode cX10_taken 93 = .ok (.goto 5, 3) := by decide +kernel
theorem dX10_taken_96 : decode cX10_taken 96 = .ok (.bipush (-13), 2) := by decide +kernel
theorem dX10_taken_98 : decode cX10_taken 98 = .ok (.ireturn, 1) := by decide +kernel
theorem dX10_ran_0 : decode cX10_ran 0 = .ok (.aload_n 0, 1) := by decide +kernel
theorem dX10_ran_1 : decode cX10_ran 1 = .ok (.getfield 378, 3) := by decide +kernel
theorem dX10_ran_4 : decode cX10_ran 4 = .ok (.bipush 30, 2) := by decide +kernel
theorem dX10_ran_6 : decode cX10_ran 6 = .ok (.if_icmp .ge 23, 3) := by decide +kernel
theorem dX10_ran_9 : decode cX10_ran 9 = .ok (.aload_n 0, 1) := by decide +kernel
theorem dX10_ran_10 : decode cX10_ran 10 = .ok (.getfield 108, 3) := by decide +kernel
theorem dX10_ran_13 : decode cX10_ran 13 = .ok (.aload_n 0, 1) := by decide +kernel
theorem dX10_ran_14 : decode cX10_ran 14 = .ok (.getfield 378, 3) := by decide +kernel
theorem dX10_ran_17 : decode cX10_ran 17 = .ok (.iload_n 1, 1) := by decide +kernel
theorem dX10_ran_18 : decode cX10_ran 18 = .ok (.iastore, 1) := by decide +kernel
theorem dX10_ran_19 : decode cX10_ran 19 = .ok (.aload_n 0, 1) := by decide +kernel
theorem dX10_ran_20 : decode cX10_ran 20 = .ok (.dup, 1) := by decide +kernel
theorem dX10_ran_21 : decode cX10_ran 21 = .ok (.getfield 378, 3) := by decide +kernel
theorem dX10_ran_24 : decode cX10_ran 24 = .ok (.iconst 1, 1) := by decide +kernel
theorem dX10_ran_25 : decode cX10_ran 25 = .ok (.iadd, 1) := by decide +kernel
theorem dX10_ran_26 : decode cX10_ran 26 = .ok (.putfield 378, 3) := by decide +kernel
theorem dX10_ran_29 : decode cX10_ran 29 = .ok (.return_, 1) := by decide +kernel
theorem dX10_plainCalls_0 : decode cX10_plainCalls 0 = .ok (.aload_n 0, 1) := by decide +kernel
theorem dX10_plainCalls_1 : decode cX10_plainCalls 1 = .ok (.bipush 10, 2) := by decide +kernel
theorem dX10_plainCalls_3 : decode cX10_plainCalls 3 = .ok (.invokevirtual 381, 3) := by decide +kernel
theorem dX10_plainCalls_6 : decode cX10_plainCalls 6 = .ok (.iload_n 1, 1) := by decide +kernel
theorem dX10_plainCalls_7 : decode cX10_plainCalls 7 = .ok (.aload_n 0, 1) := by decide +kernel
theorem dX10_plainCalls_8 : decode cX10_plainCalls 8 = .ok (.getfield 384, 3) := by decide +kernel
theorem dX10_plainCalls_11 : decode cX10_plainCalls 11 = .ok (.iadd, 1) := by decide +kernel
theorem dX10_plainCalls_12 : decode cX10_plainCalls 12 = .ok (.ireturn, 1) := by decide +kernel
theorem dX10_leaperCalls_0 : decode cX10_leaperCalls 0 = .ok (.aload_n 0, 1) := by decide +kernel
theorem dX10_leaperCalls_1 : decode cX10_leaperCalls 1 = .ok (.bipush 30, 2) := by decide +kernel
theorem dX10_leaperCalls_3 : decode cX10_leaperCalls 3 = .ok (.invokevirtual 381, 3) := by decide +kernel
theorem dX10_leaperCalls_6 : decode cX10_leaperCalls 6 = .ok (.aload_n 0, 1) := by decide +kernel
theorem dX10_leaperCalls_7 : decode cX10_leaperCalls 7 = .ok (.iload_n 1, 1) := by decide +kernel
theorem dX10_leaperCalls_8 : decode cX10_leaperCalls 8 = .ok (.invokevirtual 387, 3) := by decide +kernel
theorem dX10_leaperCalls_11 : decode cX10_leaperCalls 11 = .ok (.iconst 3, 1) := by decide +kernel
theorem dX10_leaperCalls_12 : decode cX10_leaperCalls 12 = .ok (.imul, 1) := by decide +kernel
theorem dX10_leaperCalls_13 : decode cX10_leaperCalls 13 = .ok (.ireturn, 1) := by decide +kernel
theorem dX10_callsIt_0 : decode cX10_callsIt 0 = .ok (.aload_n 0, 1) := by decide +kernel
theorem dX10_callsIt_1 : decode cX10_callsIt 1 = .ok (.getfield 390, 3) := by decide +kernel
theorem dX10_callsIt_4 : decode cX10_callsIt 4 = .ok (.tableswitch 65 2 4 #[28, 48, 34], 28) := by decide +kernel
theorem dX10_callsIt_32 : decode cX10_callsIt 32 = .ok (.aload_n 0, 1) := by decide +kernel
theorem dX10_callsIt_33 : decode cX10_callsIt 33 = .ok (.iload_n 1, 1) := by decide +kernel
theorem dX10_callsIt_34 : decode cX10_callsIt 34 = .ok (.invokevirtual 393, 3) := by decide +kernel
theorem dX10_callsIt_37 : decode cX10_callsIt 37 = .ok (.ireturn, 1) := by decide +kernel
theorem dX10_callsIt_38 : decode cX10_callsIt 38 = .ok (.aload_n 0, 1) := by decide +kernel
theorem dX10_callsIt_39 : decode cX10_callsIt 39 = .ok (.bipush 40, 2) := by decide +kernel
theorem dX10_callsIt_41 : decode cX10_callsIt 41 = .ok (.invokevirtual 381, 3) := by decide +kernel
theorem dX10_callsIt_44 : decode cX10_callsIt 44 = .ok (.iconst 0, 1) := by decide +kernel
theorem dX10_callsIt_45 : decode cX10_callsIt 45 = .ok (.aload_n 0, 1) := by decide +kernel
theorem dX10_callsIt_46 : decode cX10_callsIt 46 = .ok (.iload_n 1, 1) := by decide +kernel
theorem dX10_callsIt_47 : decode cX10_callsIt 47 = .ok (.invokevirtual 393, 3) := by decide +kernel
theorem dX10_callsIt_50 : decode cX10_callsIt 50 = .ok (.isub, 1) := by decide +kernel
theorem dX10_callsIt_51 : decode cX10_callsIt 51 = .ok (.ireturn, 1) := by decide +kernel
theorem dX10_callsIt_52 : decode cX10_callsIt 52 = .ok (.aload_n 0, 1) := by decide +kernel
theorem dX10_callsIt_53 : decode cX10_callsIt 53 = .ok (.bipush 51, 2) := by decide +kernel
theorem dX10_callsIt_55 : decode cX10_callsIt 55 = .ok (.invokevirtual 381, 3) := by decide +kernel
theorem dX10_callsIt_58 : decode cX10_callsIt 58 = .ok (.aload_n 0, 1) := by decide +kernel
theorem dX10_callsIt_59 : decode cX10_callsIt 59 = .ok (.iload_n 1, 1) := by decide +kernel
theorem dX10_callsIt_60 : decode cX10_callsIt 60 = .ok (.invokevirtual 387, 3) := by decide +kernel
theorem dX10_callsIt_63 : decode cX10_callsIt 63 = .ok (.aload_n 0, 1) := by decide +kernel
theorem dX10_callsIt_64 : decode cX10_callsIt 64 = .ok (.getfield 384, 3) := by decide +kernel
theorem dX10_callsIt_67 : decode cX10_callsIt 67 = .ok (.isub, 1) := by decide +kernel
theorem dX10_callsIt_68 : decode cX10_callsIt 68 = .ok (.ireturn, 1) := by decide +kernel
theorem dX10_callsIt_69 : decode cX10_callsIt 69 = .ok (.aload_n 0, 1) := by decide +kernel
theorem dX10_callsIt_70 : decode cX10_callsIt 70 = .ok (.iload_n 1, 1) := by decide +kernel
theorem dX10_callsIt_71 : decode cX10_callsIt 71 = .ok (.invokevirtual 387, 3) := by decide +kernel
theorem dX10_callsIt_74 : decode cX10_callsIt 74 = .ok (.ireturn, 1) := by decide +kernel
theorem dX10_plainHears_0 : decode cX10_plainHears 0 = .ok (.aload_n 0, 1) := by decide +kernel
theorem dX10_plainHears_1 : decode cX10_plainHears 1 = .ok (.bipush 11, 2) := by decide +kernel
theorem dX10_plainHears_3 : decode cX10_plainHears 3 = .ok (.invokevirtual 381, 3) := by decide +kernel
theorem dX10_plainHears_6 : decode cX10_plainHears 6 = .ok (.aload_n 0, 1) := by decide +kernel
theorem dX10_plainHears_7 : decode cX10_plainHears 7 = .ok (.iload_n 1, 1) := by decide +kernel
theorem dX10_plainHears_8 : decode cX10_plainHears 8 = .ok (.invokevirtual 396, 3) := by decide +kernel
theorem dX10_plainHears_11 : decode cX10_plainHears 11 = .ok (.iconst 2, 1) := by decide +kernel
theorem dX10_plainHears_12 : decode cX10_plainHears 12 = .ok (.imul, 1) := by decide +kernel
theorem dX10_plainHears_13 : decode cX10_plainHears 13 = .ok (.ireturn, 1) := by decide +kernel
theorem dX10_hearsIt_0 : decode cX10_hearsIt 0 = .ok (.aload_n 0, 1) := by decide +kernel
theorem dX10_hearsIt_1 : decode cX10_hearsIt 1 = .ok (.getfield 390, 3) := by decide +kernel
theorem dX10_hearsIt_4 : decode cX10_hearsIt 4 = .ok (.iconst 1, 1) := by decide +kernel
theorem dX10_hearsIt_5 : decode cX10_hearsIt 5 = .ok (.if_icmp .eq 19, 3) := by decide +kernel
theorem dX10_hearsIt_8 : decode cX10_hearsIt 8 = .ok (.aload_n 0, 1) := by decide +kernel
theorem dX10_hearsIt_9 : decode cX10_hearsIt 9 = .ok (.getfield 390, 3) := by decide +kernel
theorem dX10_hearsIt_12 : decode cX10_hearsIt 12 = .ok (.iconst 3, 1) := by decide +kernel
theorem dX10_hearsIt_13 : decode cX10_hearsIt 13 = .ok (.if_icmp .eq 11, 3) := by decide +kernel
theorem dX10_hearsIt_16 : decode cX10_hearsIt 16 = .ok (.aload_n 0, 1) := by decide +kernel
theorem dX10_hearsIt_17 : decode cX10_hearsIt 17 = .ok (.getfield 390, 3) := by decide +kernel
theorem dX10_hearsIt_20 : decode cX10_hearsIt 20 = .ok (.iconst 5, 1) := by decide +kernel
theorem dX10_hearsIt_21 : decode cX10_hearsIt 21 = .ok (.if_icmp .ne 20, 3) := by decide +kernel
theorem dX10_hearsIt_24 : decode cX10_hearsIt 24 = .ok (.aload_n 0, 1) := by decide +kernel
theorem dX10_hearsIt_25 : decode cX10_hearsIt 25 = .ok (.bipush 20, 2) := by decide +kernel
theorem dX10_hearsIt_27 : decode cX10_hearsIt 27 = .ok (.invokevirtual 381, 3) := by decide +kernel
theorem dX10_hearsIt_30 : decode cX10_hearsIt 30 = .ok (.aload_n 0, 1) := by decide +kernel
theorem dX10_hearsIt_31 : decode cX10_hearsIt 31 = .ok (.iload_n 1, 1) := by decide +kernel
theorem dX10_hearsIt_32 : decode cX10_hearsIt 32 = .ok (.invokevirtual 399, 3) := by decide +kernel
theorem dX10_hearsIt_35 : decode cX10_hearsIt 35 = .ok (.aload_n 0, 1) := by decide +kernel
theorem dX10_hearsIt_36 : decode cX10_hearsIt 36 = .ok (.getfield 402, 3) := by decide +kernel
theorem dX10_hearsIt_39 : decode cX10_hearsIt 39 = .ok (.isub, 1) := by decide +kernel
theorem dX10_hearsIt_40 : decode cX10_hearsIt 40 = .ok (.ireturn, 1) := by decide +kernel
theorem dX10_hearsIt_41 : decode cX10_hearsIt 41 = .ok (.aload_n 0, 1) := by decide +kernel
theorem dX10_hearsIt_42 : decode cX10_hearsIt 42 = .ok (.getfield 390, 3) := by decide +kernel
theorem dX10_hearsIt_45 : decode cX10_hearsIt 45 = .ok (.iconst 4, 1) := by decide +kernel
theorem dX10_hearsIt_46 : decode cX10_hearsIt 46 = .ok (.if_icmp .ne 26, 3) := by decide +kernel
theorem dX10_hearsIt_49 : decode cX10_hearsIt 49 = .ok (.aload_n 0, 1) := by decide +kernel
theorem dX10_hearsIt_50 : decode cX10_hearsIt 50 = .ok (.bipush 41, 2) := by decide +kernel
theorem dX10_hearsIt_52 : decode cX10_hearsIt 52 = .ok (.invokevirtual 381, 3) := by decide +kernel
theorem dX10_hearsIt_55 : decode cX10_hearsIt 55 = .ok (.aload_n 0, 1) := by decide +kernel
theorem dX10_hearsIt_56 : decode cX10_hearsIt 56 = .ok (.iload_n 1, 1) := by decide +kernel
theorem dX10_hearsIt_57 : decode cX10_hearsIt 57 = .ok (.invokevirtual 399, 3) := by decide +kernel
theorem dX10_hearsIt_60 : decode cX10_hearsIt 60 = .ok (.istore_n 2, 1) := by decide +kernel
theorem dX10_hearsIt_61 : decode cX10_hearsIt 61 = .ok (.iload_n 2, 1) := by decide +kernel
theorem dX10_hearsIt_62 : decode cX10_hearsIt 62 = .ok (.aload_n 0, 1) := by decide +kernel
theorem dX10_hearsIt_63 : decode cX10_hearsIt 63 = .ok (.aload_n 0, 1) := by decide +kernel
theorem dX10_hearsIt_64 : decode cX10_hearsIt 64 = .ok (.getfield 384, 3) := by decide +kernel
theorem dX10_hearsIt_67 : decode cX10_hearsIt 67 = .ok (.invokevirtual 396, 3) := by decide +kernel
theorem dX10_hearsIt_70 : decode cX10_hearsIt 70 = .ok (.iadd, 1) := by decide +kernel
theorem dX10_hearsIt_71 : decode cX10_hearsIt 71 = .ok (.ireturn, 1) := by decide +kernel
theorem dX10_hearsIt_72 : decode cX10_hearsIt 72 = .ok (.aload_n 0, 1) := by decide +kernel
theorem dX10_hearsIt_73 : decode cX10_hearsIt 73 = .ok (.iload_n 1, 1) := by decide +kernel
theorem dX10_hearsIt_74 : decode cX10_hearsIt 74 = .ok (.invokevirtual 399, 3) := by decide +kernel
theorem dX10_hearsIt_77 : decode cX10_hearsIt 77 = .ok (.ireturn, 1) := by decide +kernel
theorem dX10_plainShares_0 : decode cX10_plainShares 0 = .ok (.aload_n 0, 1) := by decide +kernel
theorem dX10_plainShares_1 : decode cX10_plainShares 1 = .ok (.bipush 12, 2) := by decide +kernel
theorem dX10_plainShares_3 : decode cX10_plainShares 3 = .ok (.invokevirtual 381, 3) := by decide +kernel
theorem dX10_plainShares_6 : decode cX10_plainShares 6 = .ok (.aload_n 0, 1) := by decide +kernel
theorem dX10_plainShares_7 : decode cX10_plainShares 7 = .ok (.getfield 402, 3) := by decide +kernel
theorem dX10_plainShares_10 : decode cX10_plainShares 10 = .ok (.aload_n 0, 1) := by decide +kernel
theorem dX10_plainShares_11 : decode cX10_plainShares 11 = .ok (.getfield 384, 3) := by decide +kernel
theorem dX10_plainShares_14 : decode cX10_plainShares 14 = .ok (.if_icmp .ne 10, 3) := by decide +kernel
theorem dX10_plainShares_17 : decode cX10_plainShares 17 = .ok (.aload_n 0, 1) := by decide +kernel
theorem dX10_plainShares_18 : decode cX10_plainShares 18 = .ok (.iconst 1, 1) := by decide +kernel
theorem dX10_plainShares_19 : decode cX10_plainShares 19 = .ok (.putfield 405, 3) := by decide +kernel
theorem dX10_plainShares_22 : decode cX10_plainShares 22 = .ok (.iconst 0, 1) := by decide +kernel
theorem dX10_plainShares_23 : decode cX10_plainShares 23 = .ok (.ireturn, 1) := by decide +kernel
theorem dX10_plainShares_24 : decode cX10_plainShares 24 = .ok (.iload_n 1, 1) := by decide +kernel
theorem dX10_plainShares_25 : decode cX10_plainShares 25 = .ok (.aload_n 0, 1) := by decide +kernel
theorem dX10_plainShares_26 : decode cX10_plainShares 26 = .ok (.getfield 402, 3) := by decide +kernel
theorem dX10_plainShares_29 : decode cX10_plainShares 29 = .ok (.aload_n 0, 1) := by decide +kernel
theorem dX10_plainShares_30 : decode cX10_plainShares 30 = .ok (.getfield 384, 3) := by decide +kernel
theorem dX10_plainShares_33 : decode cX10_plainShares 33 = .ok (.isub, 1) := by decide +kernel
theorem dX10_plainShares_34 : decode cX10_plainShares 34 = .ok (.idiv, 1) := by decide +kernel
theorem dX10_plainShares_35 : decode cX10_plainShares 35 = .ok (.ireturn, 1) := by decide +kernel
theorem dX10_sharesIt_0 : decode cX10_sharesIt 0 = .ok (.aload_n 0, 1) := by decide +kernel
theorem dX10_sharesIt_1 : decode cX10_sharesIt 1 = .ok (.getfield 390, 3) := by decide +kernel
theorem dX10_sharesIt_4 : decode cX10_sharesIt 4 = .ok (.iconst 3, 1) := by decide +kernel
theorem dX10_sharesIt_5 : decode cX10_sharesIt 5 = .ok (.if_icmp .ne 19, 3) := by decide +kernel
theorem dX10_sharesIt_8 : decode cX10_sharesIt 8 = .ok (.aload_n 0, 1) := by decide +kernel
theorem dX10_sharesIt_9 : decode cX10_sharesIt 9 = .ok (.bipush 50, 2) := by decide +kernel
theorem dX10_sharesIt_11 : decode cX10_sharesIt 11 = .ok (.invokevirtual 381, 3) := by decide +kernel
theorem dX10_sharesIt_14 : decode cX10_sharesIt 14 = .ok (.aload_n 0, 1) := by decide +kernel
theorem dX10_sharesIt_15 : decode cX10_sharesIt 15 = .ok (.iload_n 1, 1) := by decide +kernel
theorem dX10_sharesIt_16 : decode cX10_sharesIt 16 = .ok (.iconst 2, 1) := by decide +kernel
theorem dX10_sharesIt_17 : decode cX10_sharesIt 17 = .ok (.iadd, 1) := by decide +kernel
theorem dX10_sharesIt_18 : decode cX10_sharesIt 18 = .ok (.invokevirtual 408, 3) := by decide +kernel
theorem dX10_sharesIt_21 : decode cX10_sharesIt 21 = .ok (.iconst 1, 1) := by decide +kernel
theorem dX10_sharesIt_22 : decode cX10_sharesIt 22 = .ok (.ixor, 1) := by decide +kernel
theorem dX10_sharesIt_23 : decode cX10_sharesIt 23 = .ok (.ireturn, 1) := by decide +kernel
theorem dX10_sharesIt_24 : decode cX10_sharesIt 24 = .ok (.aload_n 0, 1) := by decide +kernel
theorem dX10_sharesIt_25 : decode cX10_sharesIt 25 = .ok (.getfield 390, 3) := by decide +kernel
theorem dX10_sharesIt_28 : decode cX10_sharesIt 28 = .ok (.iconst 5, 1) := by decide +kernel
theorem dX10_sharesIt_29 : decode cX10_sharesIt 29 = .ok (.if_icmp .ne 37, 3) := by decide +kernel
theorem dX10_sharesIt_32 : decode cX10_sharesIt 32 = .ok (.aload_n 0, 1) := by decide +kernel
theorem dX10_sharesIt_33 : decode cX10_sharesIt 33 = .ok (.bipush 61, 2) := by decide +kernel
theorem dX10_sharesIt_35 : decode cX10_sharesIt 35 = .ok (.invokevirtual 381, 3) := by decide +kernel
theorem dX10_sharesIt_38 : decode cX10_sharesIt 38 = .ok (.aload_n 0, 1) := by decide +kernel
theorem dX10_sharesIt_39 : decode cX10_sharesIt 39 = .ok (.iload_n 1, 1) := by decide +kernel
theorem dX10_sharesIt_40 : decode cX10_sharesIt 40 = .ok (.invokevirtual 408, 3) := by decide +kernel
theorem dX10_sharesIt_43 : decode cX10_sharesIt 43 = .ok (.istore_n 2, 1) := by decide +kernel
theorem dX10_sharesIt_44 : decode cX10_sharesIt 44 = .ok (.aload_n 0, 1) := by decide +kernel
theorem dX10_sharesIt_45 : decode cX10_sharesIt 45 = .ok (.getfield 405, 3) := by decide +kernel
theorem dX10_sharesIt_48 : decode cX10_sharesIt 48 = .ok (.ifCond .eq 7, 3) := by decide +kernel
theorem dX10_sharesIt_51 : decode cX10_sharesIt 51 = .ok (.iconst 0, 1) := by decide +kernel
theorem dX10_sharesIt_52 : decode cX10_sharesIt 52 = .ok (.goto 13, 3) := by decide +kernel
theorem dX10_sharesIt_55 : decode cX10_sharesIt 55 = .ok (.iload_n 2, 1) := by decide +kernel
theorem dX10_sharesIt_56 : decode cX10_sharesIt 56 = .ok (.aload_n 0, 1) := by decide +kernel
theorem dX10_sharesIt_57 : decode cX10_sharesIt 57 = .ok (.aload_n 0, 1) := by decide +kernel
theorem dX10_sharesIt_58 : decode cX10_sharesIt 58 = .ok (.getfield 402, 3) := by decide +kernel
theorem dX10_sharesIt_61 : decode cX10_sharesIt 61 = .ok (.invokevirtual 396, 3) := by decide +kernel
theorem dX10_sharesIt_64 : decode cX10_sharesIt 64 = .ok (.iadd, 1) := by decide +kernel
theorem dX10_sharesIt_65 : decode cX10_sharesIt 65 = .ok (.ireturn, 1) := by decide +kernel
theorem dX10_sharesIt_66 : decode cX10_sharesIt 66 = .ok (.aload_n 0, 1) := by decide +kernel
theorem dX10_sharesIt_67 : decode cX10_sharesIt 67 = .ok (.iload_n 1, 1) := by decide +kernel
theorem dX10_sharesIt_68 : decode cX10_sharesIt 68 = .ok (.invokevirtual 408, 3) := by decide +kernel
theorem dX10_sharesIt_71 : decode cX10_sharesIt 71 = .ok (.ireturn, 1) := by decide +kernel
theorem dX10_plainTells_0 : decode cX10_plainTells 0 = .ok (.aload_n 0, 1) := by decide +kernel
theorem dX10_plainTells_1 : decode cX10_plainTells 1 = .ok (.bipush 13, 2) := by decide +kernel
theorem dX10_plainTells_3 : decode cX10_plainTells 3 = .ok (.invokevirtual 381, 3) := by decide +kernel
theorem dX10_plainTells_6 : decode cX10_plainTells 6 = .ok (.aload_n 0, 1) := by decide +kernel
theorem dX10_plainTells_7 : decode cX10_plainTells 7 = .ok (.iload_n 1, 1) := by decide +kernel
theorem dX10_plainTells_8 : decode cX10_plainTells 8 = .ok (.invokevirtual 411, 3) := by decide +kernel
theorem dX10_plainTells_11 : decode cX10_plainTells 11 = .ok (.aload_n 0, 1) := by decide +kernel
theorem dX10_plainTells_12 : decode cX10_plainTells 12 = .ok (.getfield 402, 3) := by decide +kernel
theorem dX10_plainTells_15 : decode cX10_plainTells 15 = .ok (.ixor, 1) := by decide +kernel
theorem dX10_plainTells_16 : decode cX10_plainTells 16 = .ok (.ireturn, 1) := by decide +kernel
theorem dX10_tellsIt_0 : decode cX10_tellsIt 0 = .ok (.aload_n 0, 1) := by decide +kernel
theorem dX10_tellsIt_1 : decode cX10_tellsIt 1 = .ok (.getfield 390, 3) := by decide +kernel
theorem dX10_tellsIt_4 : decode cX10_tellsIt 4 = .ok (.iconst 2, 1) := by decide +kernel
theorem dX10_tellsIt_5 : decode cX10_tellsIt 5 = .ok (.if_icmp .eq 11, 3) := by decide +kernel
theorem dX10_tellsIt_8 : decode cX10_tellsIt 8 = .ok (.aload_n 0, 1) := by decide +kernel
theorem dX10_tellsIt_9 : decode cX10_tellsIt 9 = .ok (.getfield 390, 3) := by decide +kernel
theorem dX10_tellsIt_12 : decode cX10_tellsIt 12 = .ok (.iconst 4, 1) := by decide +kernel
theorem dX10_tellsIt_13 : decode cX10_tellsIt 13 = .ok (.if_icmp .ne 26, 3) := by decide +kernel
theorem dX10_tellsIt_16 : decode cX10_tellsIt 16 = .ok (.aload_n 0, 1) := by decide +kernel
theorem dX10_tellsIt_17 : decode cX10_tellsIt 17 = .ok (.bipush 31, 2) := by decide +kernel
theorem dX10_tellsIt_19 : decode cX10_tellsIt 19 = .ok (.invokevirtual 381, 3) := by decide +kernel
theorem dX10_tellsIt_22 : decode cX10_tellsIt 22 = .ok (.aload_n 0, 1) := by decide +kernel
theorem dX10_tellsIt_23 : decode cX10_tellsIt 23 = .ok (.iload_n 1, 1) := by decide +kernel
theorem dX10_tellsIt_24 : decode cX10_tellsIt 24 = .ok (.invokevirtual 414, 3) := by decide +kernel
theorem dX10_tellsIt_27 : decode cX10_tellsIt 27 = .ok (.istore_n 2, 1) := by decide +kernel
theorem dX10_tellsIt_28 : decode cX10_tellsIt 28 = .ok (.iload_n 2, 1) := by decide +kernel
theorem dX10_tellsIt_29 : decode cX10_tellsIt 29 = .ok (.aload_n 0, 1) := by decide +kernel
theorem dX10_tellsIt_30 : decode cX10_tellsIt 30 = .ok (.aload_n 0, 1) := by decide +kernel
theorem dX10_tellsIt_31 : decode cX10_tellsIt 31 = .ok (.getfield 384, 3) := by decide +kernel
theorem dX10_tellsIt_34 : decode cX10_tellsIt 34 = .ok (.invokevirtual 417, 3) := by decide +kernel
theorem dX10_tellsIt_37 : decode cX10_tellsIt 37 = .ok (.iadd, 1) := by decide +kernel
theorem dX10_tellsIt_38 : decode cX10_tellsIt 38 = .ok (.ireturn, 1) := by decide +kernel
theorem dX10_tellsIt_39 : decode cX10_tellsIt 39 = .ok (.aload_n 0, 1) := by decide +kernel
theorem dX10_tellsIt_40 : decode cX10_tellsIt 40 = .ok (.getfield 390, 3) := by decide +kernel
theorem dX10_tellsIt_43 : decode cX10_tellsIt 43 = .ok (.iconst 5, 1) := by decide +kernel
theorem dX10_tellsIt_44 : decode cX10_tellsIt 44 = .ok (.if_icmp .ne 17, 3) := by decide +kernel
theorem dX10_tellsIt_47 : decode cX10_tellsIt 47 = .ok (.aload_n 0, 1) := by decide +kernel
theorem dX10_tellsIt_48 : decode cX10_tellsIt 48 = .ok (.bipush 60, 2) := by decide +kernel
theorem dX10_tellsIt_50 : decode cX10_tellsIt 50 = .ok (.invokevirtual 381, 3) := by decide +kernel
theorem dX10_tellsIt_53 : decode cX10_tellsIt 53 = .ok (.aload_n 0, 1) := by decide +kernel
theorem dX10_tellsIt_54 : decode cX10_tellsIt 54 = .ok (.iload_n 1, 1) := by decide +kernel
theorem dX10_tellsIt_55 : decode cX10_tellsIt 55 = .ok (.invokevirtual 414, 3) := by decide +kernel
theorem dX10_tellsIt_58 : decode cX10_tellsIt 58 = .ok (.iconst 2, 1) := by decide +kernel
theorem dX10_tellsIt_59 : decode cX10_tellsIt 59 = .ok (.imul, 1) := by decide +kernel
theorem dX10_tellsIt_60 : decode cX10_tellsIt 60 = .ok (.ireturn, 1) := by decide +kernel
theorem dX10_tellsIt_61 : decode cX10_tellsIt 61 = .ok (.aload_n 0, 1) := by decide +kernel
theorem dX10_tellsIt_62 : decode cX10_tellsIt 62 = .ok (.iload_n 1, 1) := by decide +kernel
theorem dX10_tellsIt_63 : decode cX10_tellsIt 63 = .ok (.invokevirtual 414, 3) := by decide +kernel
theorem dX10_tellsIt_66 : decode cX10_tellsIt 66 = .ok (.ireturn, 1) := by decide +kernel
theorem dX10_act_0 : decode cX10_act 0 = .ok (.aload_n 0, 1) := by decide +kernel
theorem dX10_act_1 : decode cX10_act 1 = .ok (.iconst 0, 1) := by decide +kernel
theorem dX10_act_2 : decode cX10_act 2 = .ok (.putfield 378, 3) := by decide +kernel
theorem dX10_act_5 : decode cX10_act 5 = .ok (.iload_n 1, 1) := by decide +kernel
theorem dX10_act_6 : decode cX10_act 6 = .ok (.invokestatic 361, 3) := by decide +kernel
theorem dX10_act_9 : decode cX10_act 9 = .ok (.ifCond .eq 11, 3) := by decide +kernel
theorem dX10_act_12 : decode cX10_act 12 = .ok (.aload_n 0, 1) := by decide +kernel
theorem dX10_act_13 : decode cX10_act 13 = .ok (.iload_n 1, 1) := by decide +kernel
theorem dX10_act_14 : decode cX10_act 14 = .ok (.invokevirtual 372, 3) := by decide +kernel
theorem dX10_act_17 : decode cX10_act 17 = .ok (.goto 4, 3) := by decide +kernel
theorem dX10_act_20 : decode cX10_act 20 = .ok (.iconst (-1), 1) := by decide +kernel
theorem dX10_act_21 : decode cX10_act 21 = .ok (.istore 4, 2) := by decide +kernel
theorem dX10_act_23 : decode cX10_act 23 = .ok (.iload_n 2, 1) := by decide +kernel
theorem dX10_act_24 : decode cX10_act 24 = .ok (.iconst 0, 1) := by decide +kernel
theorem dX10_act_25 : decode cX10_act 25 = .ok (.iconst 3, 1) := by decide +kernel
theorem dX10_act_26 : decode cX10_act 26 = .ok (.invokestatic 120, 3) := by decide +kernel
theorem dX10_act_29 : decode cX10_act 29 = .ok (.ifCond .eq 13, 3) := by decide +kernel
theorem dX10_act_32 : decode cX10_act 32 = .ok (.iload 4, 2) := by decide +kernel
theorem dX10_act_34 : decode cX10_act 34 = .ok (.iconst 0, 1) := by decide +kernel
theorem dX10_act_35 : decode cX10_act 35 = .ok (.iconst 5, 1) := by decide +kernel
theorem dX10_act_36 : decode cX10_act 36 = .ok (.invokestatic 120, 3) := by decide +kernel
theorem dX10_act_39 : decode cX10_act 39 = .ok (.ifCond .ne 5, 3) := by decide +kernel
theorem dX10_act_42 : decode cX10_act 42 = .ok (.iconst 0, 1) := by decide +kernel
theorem dX10_act_43 : decode cX10_act 43 = .ok (.ireturn, 1) := by decide +kernel
theorem dX10_act_44 : decode cX10_act 44 = .ok (.aload_n 0, 1) := by decide +kernel
theorem dX10_act_45 : decode cX10_act 45 = .ok (.iload 4, 2) := by decide +kernel
theorem dX10_act_47 : decode cX10_act 47 = .ok (.putfield 390, 3) := by decide +kernel
theorem dX10_act_50 : decode cX10_act 50 = .ok (.aload_n 0, 1) := by decide +kernel
theorem dX10_act_51 : decode cX10_act 51 = .ok (.aload_n 0, 1) := by decide +kernel
theorem dX10_act_52 : decode cX10_act 52 = .ok (.getfield 102, 3) := by decide +kernel
theorem dX10_act_55 : decode cX10_act 55 = .ok (.iload_n 1, 1) := by decide +kernel
theorem dX10_act_56 : decode cX10_act 56 = .ok (.iaload, 1) := by decide +kernel
theorem dX10_act_57 : decode cX10_act 57 = .ok (.putfield 384, 3) := by decide +kernel
theorem dX10_act_60 : decode cX10_act 60 = .ok (.aload_n 0, 1) := by decide +kernel
theorem dX10_act_61 : decode cX10_act 61 = .ok (.aload_n 0, 1) := by decide +kernel
theorem dX10_act_62 : decode cX10_act 62 = .ok (.getfield 35, 3) := by decide +kernel
theorem dX10_act_65 : decode cX10_act 65 = .ok (.aload_n 0, 1) := by decide +kernel
theorem dX10_act_66 : decode cX10_act 66 = .ok (.getfield 384, 3) := by decide +kernel
theorem dX10_act_69 : decode cX10_act 69 = .ok (.iaload, 1) := by decide +kernel
theorem dX10_act_70 : decode cX10_act 70 = .ok (.putfield 402, 3) := by decide +kernel
theorem dX10_act_73 : decode cX10_act 73 = .ok (.aload_n 0, 1) := by decide +kernel
theorem dX10_act_74 : decode cX10_act 74 = .ok (.iconst 0, 1) := by decide +kernel
theorem dX10_act_75 : decode cX10_act 75 = .ok (.putfield 405, 3) := by decide +kernel
theorem dX10_act_78 : decode cX10_act 78 = .ok (.iload_n 2, 1) := by decide +kernel
theorem dX10_act_79 : decode cX10_act 79 = .ok (.ifCond .ne 11, 3) := by decide +kernel
theorem dX10_act_82 : decode cX10_act 82 = .ok (.aload_n 0, 1) := by decide +kernel
theorem dX10_act_83 : decode cX10_act 83 = .ok (.iload_n 3, 1) := by decide +kernel
theorem dX10_act_84 : decode cX10_act 84 = .ok (.invokevirtual 396, 3) := by decide +kernel
theorem dX10_act_87 : decode cX10_act 87 = .ok (.goto 34, 3) := by decide +kernel
theorem dX10_act_90 : decode cX10_act 90 = .ok (.iload_n 2, 1) := by decide +kernel
theorem dX10_act_91 : decode cX10_act 91 = .ok (.iconst 1, 1) := by decide +kernel
theorem dX10_act_92 : decode cX10_act 92 = .ok (.if_icmp .ne 11, 3) := by decide +kernel
theorem dX10_act_95 : decode cX10_act 95 = .ok (.aload_n 0, 1) := by decide +kernel
theorem dX10_act_96 : decode cX10_act 96 = .ok (.iload_n 3, 1) := by decide +kernel
theorem dX10_act_97 : decode cX10_act 97 = .ok (.invokevirtual 411, 3) := by decide +kernel
theorem dX10_act_100 : decode cX10_act 100 = .ok (.goto 21, 3) := by decide +kernel
theorem dX10_act_103 : decode cX10_act 103 = .ok (.iload_n 2, 1) := by decide +kernel
theorem dX10_act_104 : decode cX10_act 104 = .ok (.iconst 2, 1) := by decide +kernel
theorem dX10_act_105 : decode cX10_act 105 = .ok (.if_icmp .ne 11, 3) := by decide +kernel
theorem dX10_act_108 : decode cX10_act 108 = .ok (.aload_n 0, 1) := by decide +kernel
theorem dX10_act_109 : decode cX10_act 109 = .ok (.iload_n 3, 1) := by decide +kernel
theorem dX10_act_110 : decode cX10_act 110 = .ok (.invokevirtual 417, 3) := by decide +kernel
theorem dX10_act_113 : decode cX10_act 113 = .ok (.goto 8, 3) := by decide +kernel
theorem dX10_act_116 : decode cX10_act 116 = .ok (.aload_n 0, 1) := by decide +kernel
theorem dX10_act_117 : decode cX10_act 117 = .ok (.iload_n 3, 1) := by decide +kernel
theorem dX10_act_118 : decode cX10_act 118 = .ok (.invokevirtual 420, 3) := by decide +kernel
theorem dX10_act_121 : decode cX10_act 121 = .ok (.istore 5, 2) := by decide +kernel
theorem dX10_act_123 : decode cX10_act 123 = .ok (.aload_n 0, 1) := by decide +kernel
theorem dX10_act_124 : decode cX10_act 124 = .ok (.getfield 405, 3) := by decide +kernel
theorem dX10_act_127 : decode cX10_act 127 = .ok (.ifCond .eq 8, 3) := by decide +kernel
theorem dX10_act_130 : decode cX10_act 130 = .ok (.bipush (-15), 2) := by decide +kernel
theorem dX10_act_132 : decode cX10_act 132 = .ok (.goto 5, 3) := by decide +kernel
theorem dX10_act_135 : decode cX10_act 135 = .ok (.iload 5, 2) := by decide +kernel
theorem dX10_act_137 : decode cX10_act 137 = .ok (.ireturn, 1) := by decide +kernel
theorem dX10_trace_0 : decode cX10_trace 0 = .ok (.iload_n 1, 1) := by decide +kernel
theorem dX10_trace_1 : decode cX10_trace 1 = .ok (.iconst 0, 1) := by decide +kernel
theorem dX10_trace_2 : decode cX10_trace 2 = .ok (.aload_n 0, 1) := by decide +kernel
theorem dX10_trace_3 : decode cX10_trace 3 = .ok (.getfield 378, 3) := by decide +kernel
theorem dX10_trace_6 : decode cX10_trace 6 = .ok (.iconst 1, 1) := by decide +kernel
theorem dX10_trace_7 : decode cX10_trace 7 = .ok (.isub, 1) := by decide +kernel
theorem dX10_trace_8 : decode cX10_trace 8 = .ok (.invokestatic 120, 3) := by decide +kernel
theorem dX10_trace_11 : decode cX10_trace 11 = .ok (.ifCond .eq 12, 3) := by decide +kernel
theorem dX10_trace_14 : decode cX10_trace 14 = .ok (.aload_n 0, 1) := by decide +kernel
theorem dX10_trace_15 : decode cX10_trace 15 = .ok (.getfield 108, 3) := by decide +kernel
theorem dX10_trace_18 : decode cX10_trace 18 = .ok (.iload_n 1, 1) := by decide +kernel
theorem dX10_trace_19 : decode cX10_trace 19 = .ok (.iaload, 1) := by decide +kernel
theorem dX10_trace_20 : decode cX10_trace 20 = .ok (.goto 5, 3) := by decide +kernel
theorem dX10_trace_23 : decode cX10_trace 23 = .ok (.bipush (-3), 2) := by decide +kernel
theorem dX10_trace_25 : decode cX10_trace 25 = .ok (.ireturn, 1) := by decide +kernel
theorem dX10_many_0 : decode cX10_many 0 = .ok (.iconst 0, 1) := by decide +kernel
theorem dX10_many_1 : decode cX10_many 1 = .ok (.istore_n 2, 1) := by decide +kernel
theorem dX10_many_2 : decode cX10_many 2 = .ok (.iload_n 1, 1) := by decide +kernel
theorem dX10_many_3 : decode cX10_many 3 = .ok (.tableswitch 89 0 5 #[37, 42, 47, 74, 79, 84], 37) := by decide +kernel
theorem dX10_many_40 : decode cX10_many 40 = .ok (.aload_n 0, 1) := by decide +kernel
theorem dX10_many_41 : decode cX10_many 41 = .ok (.getfield 117, 3) := by decide +kernel
theorem dX10_many_44 : decode cX10_many 44 = .ok (.ireturn, 1) := by decide +kernel
theorem dX10_many_45 : decode cX10_many 45 = .ok (.aload_n 0, 1) := by decide +kernel
theorem dX10_many_46 : decode cX10_many 46 = .ok (.getfield 128, 3) := by decide +kernel
theorem dX10_many_49 : decode cX10_many 49 = .ok (.ireturn, 1) := by decide +kernel
theorem dX10_many_50 : decode cX10_many 50 = .ok (.iconst 0, 1) := by decide +kernel
theorem dX10_many_51 : decode cX10_many 51 = .ok (.istore_n 3, 1) := by decide +kernel
theorem dX10_many_52 : decode cX10_many 52 = .ok (.iload_n 3, 1) := by decide +kernel
theorem dX10_many_53 : decode cX10_many 53 = .ok (.aload_n 0, 1) := by decide +kernel
theorem dX10_many_54 : decode cX10_many 54 = .ok (.getfield 117, 3) := by decide +kernel
theorem dX10_many_57 : decode cX10_many 57 = .ok (.if_icmp .ge 18, 3) := by decide +kernel
theorem dX10_many_60 : decode cX10_many 60 = .ok (.iload_n 2, 1) := by decide +kernel
theorem dX10_many_61 : decode cX10_many 61 = .ok (.aload_n 0, 1) := by decide +kernel
theorem dX10_many_62 : decode cX10_many 62 = .ok (.getfield 16, 3) := by decide +kernel
theorem dX10_many_65 : decode cX10_many 65 = .ok (.iload_n 3, 1) := by decide +kernel
theorem dX10_many_66 : decode cX10_many 66 = .ok (.iaload, 1) := by decide +kernel
theorem dX10_many_67 : decode cX10_many 67 = .ok (.iadd, 1) := by decide +kernel
theorem dX10_many_68 : decode cX10_many 68 = .ok (.istore_n 2, 1) := by decide +kernel
theorem dX10_many_69 : decode cX10_many 69 = .ok (.iinc 3 1, 3) := by decide +kernel
theorem dX10_many_72 : decode cX10_many 72 = .ok (.goto (-20), 3) := by decide +kernel
theorem dX10_many_75 : decode cX10_many 75 = .ok (.iload_n 2, 1) := by decide +kernel
theorem dX10_many_76 : decode cX10_many 76 = .ok (.ireturn, 1) := by decide +kernel
theorem dX10_many_77 : decode cX10_many 77 = .ok (.aload_n 0, 1) := by decide +kernel
theorem dX10_many_78 : decode cX10_many 78 = .ok (.getfield 249, 3) := by decide +kernel
theorem dX10_many_81 : decode cX10_many 81 = .ok (.ireturn, 1) := by decide +kernel
theorem dX10_many_82 : decode cX10_many 82 = .ok (.aload_n 0, 1) := by decide +kernel
theorem dX10_many_83 : decode cX10_many 83 = .ok (.getfield 134, 3) := by decide +kernel
theorem dX10_many_86 : decode cX10_many 86 = .ok (.ireturn, 1) := by decide +kernel
theorem dX10_many_87 : decode cX10_many 87 = .ok (.aload_n 0, 1) := by decide +kernel
theorem dX10_many_88 : decode cX10_many 88 = .ok (.getfield 378, 3) := by decide +kernel
theorem dX10_many_91 : decode cX10_many 91 = .ok (.ireturn, 1) := by decide +kernel
theorem dX10_many_92 : decode cX10_many 92 = .ok (.iconst (-1), 1) := by decide +kernel
theorem dX10_many_93 : decode cX10_many 93 = .ok (.ireturn, 1) := by decide +kernel
theorem dX10_moveRow_0 : decode cX10_moveRow 0 = .ok (.iconst 0, 1) := by decide +kernel
theorem dX10_moveRow_1 : decode cX10_moveRow 1 = .ok (.istore 4, 2) := by decide +kernel
theorem dX10_moveRow_3 : decode cX10_moveRow 3 = .ok (.iload 4, 2) := by decide +kernel
theorem dX10_moveRow_5 : decode cX10_moveRow 5 = .ok (.iload_n 2, 1) := by decide +kernel
theorem dX10_moveRow_6 : decode cX10_moveRow 6 = .ok (.if_icmp .ge 52, 3) := by decide +kernel
theorem dX10_moveRow_9 : decode cX10_moveRow 9 = .ok (.iload_n 3, 1) := by decide +kernel
theorem dX10_moveRow_10 : decode cX10_moveRow 10 = .ok (.ifCond .eq 19, 3) := by decide +kernel
theorem dX10_moveRow_13 : decode cX10_moveRow 13 = .ok (.aload_n 0, 1) := by decide +kernel
theorem dX10_moveRow_14 : decode cX10_moveRow 14 = .ok (.getfield 111, 3) := by decide +kernel
theorem dX10_moveRow_17 : decode cX10_moveRow 17 = .ok (.aload_n 0, 1) := by decide +kernel
theorem dX10_moveRow_18 : decode cX10_moveRow 18 = .ok (.getfield 423, 3) := by decide +kernel
theorem dX10_moveRow_21 : decode cX10_moveRow 21 = .ok (.aload_n 1, 1) := by decide +kernel
theorem dX10_moveRow_22 : decode cX10_moveRow 22 = .ok (.iload 4, 2) := by decide +kernel
theorem dX10_moveRow_24 : decode cX10_moveRow 24 = .ok (.iaload, 1) := by decide +kernel
theorem dX10_moveRow_25 : decode cX10_moveRow 25 = .ok (.iastore, 1) := by decide +kernel
theorem dX10_moveRow_26 : decode cX10_moveRow 26 = .ok (.goto 16, 3) := by decide +kernel
theorem dX10_moveRow_29 : decode cX10_moveRow 29 = .ok (.aload_n 1, 1) := by decide +kernel
theorem dX10_moveRow_30 : decode cX10_moveRow 30 = .ok (.iload 4, 2) := by decide +kernel
theorem dX10_moveRow_32 : decode cX10_moveRow 32 = .ok (.aload_n 0, 1) := by decide +kernel
theorem dX10_moveRow_33 : decode cX10_moveRow 33 = .ok (.getfield 111, 3) := by decide +kernel
theorem dX10_moveRow_36 : decode cX10_moveRow 36 = .ok (.aload_n 0, 1) := by decide +kernel
theorem dX10_moveRow_37 : decode cX10_moveRow 37 = .ok (.getfield 423, 3) := by decide +kernel
theorem dX10_moveRow_40 : decode cX10_moveRow 40 = .ok (.iaload, 1) := by decide +kernel
theorem dX10_moveRow_41 : decode cX10_moveRow 41 = .ok (.iastore, 1) := by decide +kernel
theorem dX10_moveRow_42 : decode cX10_moveRow 42 = .ok (.aload_n 0, 1) := by decide +kernel
theorem dX10_moveRow_43 : decode cX10_moveRow 43 = .ok (.dup, 1) := by decide +kernel
theorem dX10_moveRow_44 : decode cX10_moveRow 44 = .ok (.getfield 423, 3) := by decide +kernel
theorem dX10_moveRow_47 : decode cX10_moveRow 47 = .ok (.iconst 1, 1) := by decide +kernel
theorem dX10_moveRow_48 : decode cX10_moveRow 48 = .ok (.iadd, 1) := by decide +kernel
theorem dX10_moveRow_49 : decode cX10_moveRow 49 = .ok (.putfield 423, 3) := by decide +kernel
theorem dX10_moveRow_52 : decode cX10_moveRow 52 = .ok (.iinc 4 1, 3) := by decide +kernel
theorem dX10_moveRow_55 : decode cX10_moveRow 55 = .ok (.goto (-52), 3) := by decide +kernel
theorem dX10_moveRow_58 : decode cX10_moveRow 58 = .ok (.return_, 1) := by decide +kernel
theorem dX10_moveAll_0 : decode cX10_moveAll 0 = .ok (.aload_n 0, 1) := by decide +kernel
theorem dX10_moveAll_1 : decode cX10_moveAll 1 = .ok (.iconst 0, 1) := by decide +kernel
theorem dX10_moveAll_2 : decode cX10_moveAll 2 = .ok (.putfield 423, 3) := by decide +kernel
theorem dX10_moveAll_5 : decode cX10_moveAll 5 = .ok (.aload_n 0, 1) := by decide +kernel
theorem dX10_moveAll_6 : decode cX10_moveAll 6 = .ok (.getfield 114, 3) := by decide +kernel
theorem dX10_moveAll_9 : decode cX10_moveAll 9 = .ok (.iconst 0, 1) := by decide +kernel
theorem dX10_moveAll_10 : decode cX10_moveAll 10 = .ok (.aload_n 0, 1) := by decide +kernel
theorem dX10_moveAll_11 : decode cX10_moveAll 11 = .ok (.getfield 117, 3) := by decide +kernel
theorem dX10_moveAll_14 : decode cX10_moveAll 14 = .ok (.iastore, 1) := by decide +kernel
theorem dX10_moveAll_15 : decode cX10_moveAll 15 = .ok (.aload_n 0, 1) := by decide +kernel
theorem dX10_moveAll_16 : decode cX10_moveAll 16 = .ok (.getfield 114, 3) := by decide +kernel
theorem dX10_moveAll_19 : decode cX10_moveAll 19 = .ok (.iconst 1, 1) := by decide +kernel
theorem dX10_moveAll_20 : decode cX10_moveAll 20 = .ok (.aload_n 0, 1) := by decide +kernel
theorem dX10_moveAll_21 : decode cX10_moveAll 21 = .ok (.getfield 128, 3) := by decide +kernel
theorem dX10_moveAll_24 : decode cX10_moveAll 24 = .ok (.iastore, 1) := by decide +kernel
theorem dX10_moveAll_25 : decode cX10_moveAll 25 = .ok (.aload_n 0, 1) := by decide +kernel
theorem dX10_moveAll_26 : decode cX10_moveAll 26 = .ok (.getfield 114, 3) := by decide +kernel
theorem dX10_moveAll_29 : decode cX10_moveAll 29 = .ok (.iconst 2, 1) := by decide +kernel
theorem dX10_moveAll_30 : decode cX10_moveAll 30 = .ok (.aload_n 0, 1) := by decide +kernel
theorem dX10_moveAll_31 : decode cX10_moveAll 31 = .ok (.getfield 28, 3) := by decide +kernel
theorem dX10_moveAll_34 : decode cX10_moveAll 34 = .ok (.iastore, 1) := by decide +kernel
theorem dX10_moveAll_35 : decode cX10_moveAll 35 = .ok (.aload_n 0, 1) := by decide +kernel
theorem dX10_moveAll_36 : decode cX10_moveAll 36 = .ok (.getfield 114, 3) := by decide +kernel
theorem dX10_moveAll_39 : decode cX10_moveAll 39 = .ok (.iconst 3, 1) := by decide +kernel
theorem dX10_moveAll_40 : decode cX10_moveAll 40 = .ok (.aload_n 0, 1) := by decide +kernel
theorem dX10_moveAll_41 : decode cX10_moveAll 41 = .ok (.getfield 44, 3) := by decide +kernel
theorem dX10_moveAll_44 : decode cX10_moveAll 44 = .ok (.iastore, 1) := by decide +kernel
theorem dX10_moveAll_45 : decode cX10_moveAll 45 = .ok (.aload_n 0, 1) := by decide +kernel
theorem dX10_moveAll_46 : decode cX10_moveAll 46 = .ok (.aload_n 0, 1) := by decide +kernel
theorem dX10_moveAll_47 : decode cX10_moveAll 47 = .ok (.getfield 114, 3) := by decide +kernel
theorem dX10_moveAll_50 : decode cX10_moveAll 50 = .ok (.iconst 4, 1) := by decide +kernel
theorem dX10_moveAll_51 : decode cX10_moveAll 51 = .ok (.iload_n 1, 1) := by decide +kernel
theorem dX10_moveAll_52 : decode cX10_moveAll 52 = .ok (.invokevirtual 426, 3) := by decide +kernel
theorem dX10_moveAll_55 : decode cX10_moveAll 55 = .ok (.aload_n 0, 1) := by decide +kernel
theorem dX10_moveAll_56 : decode cX10_moveAll 56 = .ok (.aload_n 0, 1) := by decide +kernel
theorem dX10_moveAll_57 : decode cX10_moveAll 57 = .ok (.getfield 7, 3) := by decide +kernel
theorem dX10_moveAll_60 : decode cX10_moveAll 60 = .ok (.iconst 5, 1) := by decide +kernel
theorem dX10_moveAll_61 : decode cX10_moveAll 61 = .ok (.iload_n 1, 1) := by decide +kernel
theorem dX10_moveAll_62 : decode cX10_moveAll 62 = .ok (.invokevirtual 426, 3) := by decide +kernel
theorem dX10_moveAll_65 : decode cX10_moveAll 65 = .ok (.aload_n 0, 1) := by decide +kernel
theorem dX10_moveAll_66 : decode cX10_moveAll 66 = .ok (.aload_n 0, 1) := by decide +kernel
theorem dX10_moveAll_67 : decode cX10_moveAll 67 = .ok (.getfield 13, 3) := by decide +kernel
theorem dX10_moveAll_70 : decode cX10_moveAll 70 = .ok (.iconst 5, 1) := by decide +kernel
theorem dX10_moveAll_71 : decode cX10_moveAll 71 = .ok (.iload_n 1, 1) := by decide +kernel
theorem dX10_moveAll_72 : decode cX10_moveAll 72 = .ok (.invokevirtual 426, 3) := by decide +kernel
theorem dX10_moveAll_75 : decode cX10_moveAll 75 = .ok (.aload_n 0, 1) := by decide +kernel
theorem dX10_moveAll_76 : decode cX10_moveAll 76 = .ok (.aload_n 0, 1) := by decide +kernel
theorem dX10_moveAll_77 : decode cX10_moveAll 77 = .ok (.getfield 16, 3) := by decide +kernel
theorem dX10_moveAll_80 : decode cX10_moveAll 80 = .ok (.iconst 5, 1) := by decide +kernel
theorem dX10_moveAll_81 : decode cX10_moveAll 81 = .ok (.iload_n 1, 1) := by decide +kernel
theorem dX10_moveAll_82 : decode cX10_moveAll 82 = .ok (.invokevirtual 426, 3) := by decide +kernel
theorem dX10_moveAll_85 : decode cX10_moveAll 85 = .ok (.aload_n 0, 1) := by decide +kernel
theorem dX10_moveAll_86 : decode cX10_moveAll 86 = .ok (.aload_n 0, 1) := by decide +kernel
theorem dX10_moveAll_87 : decode cX10_moveAll 87 = .ok (.getfield 19, 3) := by decide +kernel
theorem dX10_moveAll_90 : decode cX10_moveAll 90 = .ok (.iconst 5, 1) := by decide +kernel
theorem dX10_moveAll_91 : decode cX10_moveAll 91 = .ok (.iload_n 1, 1) := by decide +kernel
theorem dX10_moveAll_92 : decode cX10_moveAll 92 = .ok (.invokevirtual 426, 3) := by decide +kernel
theorem dX10_moveAll_95 : decode cX10_moveAll 95 = .ok (.aload_n 0, 1) := by decide +kernel
theorem dX10_moveAll_96 : decode cX10_moveAll 96 = .ok (.aload_n 0, 1) := by decide +kernel
theorem dX10_moveAll_97 : decode cX10_moveAll 97 = .ok (.getfield 22, 3) := by decide +kernel
theorem dX10_moveAll_100 : decode cX10_moveAll 100 = .ok (.iconst 5, 1) := by decide +kernel
theorem dX10_moveAll_101 : decode cX10_moveAll 101 = .ok (.iload_n 1, 1) := by decide +kernel
theorem dX10_moveAll_102 : decode cX10_moveAll 102 = .ok (.invokevirtual 426, 3) := by decide +kernel
theorem dX10_moveAll_105 : decode cX10_moveAll 105 = .ok (.aload_n 0, 1) := by decide +kernel
theorem dX10_moveAll_106 : decode cX10_moveAll 106 = .ok (.aload_n 0, 1) := by decide +kernel
theorem dX10_moveAll_107 : decode cX10_moveAll 107 = .ok (.getfield 25, 3) := by decide +kernel
theorem dX10_moveAll_110 : decode cX10_moveAll 110 = .ok (.bipush 12, 2) := by decide +kernel
theorem dX10_moveAll_112 : decode cX10_moveAll 112 = .ok (.iload_n 1, 1) := by decide +kernel
theorem dX10_moveAll_113 : decode cX10_moveAll 113 = .ok (.invokevirtual 426, 3) := by decide +kernel
theorem dX10_moveAll_116 : decode cX10_moveAll 116 = .ok (.aload_n 0, 1) := by decide +kernel
theorem dX10_moveAll_117 : decode cX10_moveAll 117 = .ok (.aload_n 0, 1) := by decide +kernel
theorem dX10_moveAll_118 : decode cX10_moveAll 118 = .ok (.getfield 32, 3) := by decide +kernel
theorem dX10_moveAll_121 : decode cX10_moveAll 121 = .ok (.bipush 6, 2) := by decide +kernel
theorem dX10_moveAll_123 : decode cX10_moveAll 123 = .ok (.iload_n 1, 1) := by decide +kernel
theorem dX10_moveAll_124 : decode cX10_moveAll 124 = .ok (.invokevirtual 426, 3) := by decide +kernel
theorem dX10_moveAll_127 : decode cX10_moveAll 127 = .ok (.aload_n 0, 1) := by decide +kernel
theorem dX10_moveAll_128 : decode cX10_moveAll 128 = .ok (.aload_n 0, 1) := by decide +kernel
theorem dX10_moveAll_129 : decode cX10_moveAll 129 = .ok (.getfield 35, 3) := by decide +kernel
theorem dX10_moveAll_132 : decode cX10_moveAll 132 = .ok (.bipush 6, 2) := by decide +kernel
theorem dX10_moveAll_134 : decode cX10_moveAll 134 = .ok (.iload_n 1, 1) := by decide +kernel
theorem dX10_moveAll_135 : decode cX10_moveAll 135 = .ok (.invokevirtual 426, 3) := by decide +kernel
theorem dX10_moveAll_138 : decode cX10_moveAll 138 = .ok (.aload_n 0, 1) := by decide +kernel
theorem dX10_moveAll_139 : decode cX10_moveAll 139 = .ok (.aload_n 0, 1) := by decide +kernel
theorem dX10_moveAll_140 : decode cX10_moveAll 140 = .ok (.getfield 38, 3) := by decide +kernel
theorem dX10_moveAll_143 : decode cX10_moveAll 143 = .ok (.bipush 6, 2) := by decide +kernel
theorem dX10_moveAll_145 : decode cX10_moveAll 145 = .ok (.iload_n 1, 1) := by decide +kernel
theorem dX10_moveAll_146 : decode cX10_moveAll 146 = .ok (.invokevirtual 426, 3) := by decide +kernel
theorem dX10_moveAll_149 : decode cX10_moveAll 149 = .ok (.aload_n 0, 1) := by decide +kernel
theorem dX10_moveAll_150 : decode cX10_moveAll 150 = .ok (.aload_n 0, 1) := by decide +kernel
theorem dX10_moveAll_151 : decode cX10_moveAll 151 = .ok (.getfield 41, 3) := by decide +kernel
theorem dX10_moveAll_154 : decode cX10_moveAll 154 = .ok (.bipush 11, 2) := by decide +kernel
theorem dX10_moveAll_156 : decode cX10_moveAll 156 = .ok (.iload_n 1, 1) := by decide +kernel
theorem dX10_moveAll_157 : decode cX10_moveAll 157 = .ok (.invokevirtual 426, 3) := by decide +kernel
theorem dX10_moveAll_160 : decode cX10_moveAll 160 = .ok (.return_, 1) := by decide +kernel
theorem dX10_keep_0 : decode cX10_keep 0 = .ok (.aload_n 0, 1) := by decide +kernel
theorem dX10_keep_1 : decode cX10_keep 1 = .ok (.iconst 1, 1) := by decide +kernel
theorem dX10_keep_2 : decode cX10_keep 2 = .ok (.invokevirtual 430, 3) := by decide +kernel
theorem dX10_keep_5 : decode cX10_keep 5 = .ok (.aload_n 0, 1) := by decide +kernel
theorem dX10_keep_6 : decode cX10_keep 6 = .ok (.iconst 1, 1) := by decide +kernel
theorem dX10_keep_7 : decode cX10_keep 7 = .ok (.putfield 434, 3) := by decide +kernel
theorem dX10_keep_10 : decode cX10_keep 10 = .ok (.iconst 1, 1) := by decide +kernel
theorem dX10_keep_11 : decode cX10_keep 11 = .ok (.ireturn, 1) := by decide +kernel
theorem dX10_again_0 : decode cX10_again 0 = .ok (.aload_n 0, 1) := by decide +kernel
theorem dX10_again_1 : decode cX10_again 1 = .ok (.getfield 434, 3) := by decide +kernel
theorem dX10_again_4 : decode cX10_again 4 = .ok (.ifCond .ne 6, 3) := by decide +kernel
theorem dX10_again_7 : decode cX10_again 7 = .ok (.bipush (-3), 2) := by decide +kernel
theorem dX10_again_9 : decode cX10_again 9 = .ok (.ireturn, 1) := by decide +kernel
theorem dX10_again_10 : decode cX10_again 10 = .ok (.aload_n 0, 1) := by decide +kernel
theorem dX10_again_11 : decode cX10_again 11 = .ok (.iconst 0, 1) := by decide +kernel
theorem dX10_again_12 : decode cX10_again 12 = .ok (.invokevirtual 430, 3) := by decide +kernel
theorem dX10_again_15 : decode cX10_again 15 = .ok (.aload_n 0, 1) := by decide +kernel
theorem dX10_again_16 : decode cX10_again 16 = .ok (.aload_n 0, 1) := by decide +kernel
theorem dX10_again_17 : decode cX10_again 17 = .ok (.getfield 114, 3) := by decide +kernel
theorem dX10_again_20 : decode cX10_again 20 = .ok (.iconst 0, 1) := by decide +kernel
theorem dX10_again_21 : decode cX10_again 21 = .ok (.iaload, 1) := by decide +kernel
theorem dX10_again_22 : decode cX10_again 22 = .ok (.putfield 117, 3) := by decide +kernel
theorem dX10_again_25 : decode cX10_again 25 = .ok (.aload_n 0, 1) := by decide +kernel
theorem dX10_again_26 : decode cX10_again 26 = .ok (.aload_n 0, 1) := by decide +kernel
theorem dX10_again_27 : decode cX10_again 27 = .ok (.getfield 114, 3) := by decide +kernel
theorem dX10_again_30 : decode cX10_again 30 = .ok (.iconst 1, 1) := by decide +kernel
theorem dX10_again_31 : decode cX10_again 31 = .ok (.iaload, 1) := by decide +kernel
theorem dX10_again_32 : decode cX10_again 32 = .ok (.putfield 128, 3) := by decide +kernel
theorem dX10_again_35 : decode cX10_again 35 = .ok (.aload_n 0, 1) := by decide +kernel
theorem dX10_again_36 : decode cX10_again 36 = .ok (.aload_n 0, 1) := by decide +kernel
theorem dX10_again_37 : decode cX10_again 37 = .ok (.getfield 114, 3) := by decide +kernel
theorem dX10_again_40 : decode cX10_again 40 = .ok (.iconst 2, 1) := by decide +kernel
theorem dX10_again_41 : decode cX10_again 41 = .ok (.iaload, 1) := by decide +kernel
theorem dX10_again_42 : decode cX10_again 42 = .ok (.putfield 28, 3) := by decide +kernel
theorem dX10_again_45 : decode cX10_again 45 = .ok (.aload_n 0, 1) := by decide +kernel
theorem dX10_again_46 : decode cX10_again 46 = .ok (.aload_n 0, 1) := by decide +kernel
theorem dX10_again_47 : decode cX10_again 47 = .ok (.getfield 114, 3) := by decide +kernel
theorem dX10_again_50 : decode cX10_again 50 = .ok (.iconst 3, 1) := by decide +kernel
theorem dX10_again_51 : decode cX10_again 51 = .ok (.iaload, 1) := by decide +kernel
theorem dX10_again_52 : decode cX10_again 52 = .ok (.putfield 44, 3) := by decide +kernel
theorem dX10_again_55 : decode cX10_again 55 = .ok (.aload_n 0, 1) := by decide +kernel
theorem dX10_again_56 : decode cX10_again 56 = .ok (.getfield 117, 3) := by decide +kernel
theorem dX10_again_59 : decode cX10_again 59 = .ok (.ireturn, 1) := by decide +kernel
