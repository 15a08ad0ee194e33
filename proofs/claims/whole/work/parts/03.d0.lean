theorem dX0_init_0 : decode cX0_init 0 = .ok (.aload_n 0, 1) := by decide +kernel
theorem dX0_init_1 : decode cX0_init 1 = .ok (.invokespecial 3, 3) := by decide +kernel
theorem dX0_init_4 : decode cX0_init 4 = .ok (.aload_n 0, 1) := by decide +kernel
theorem dX0_init_5 : decode cX0_init 5 = .ok (.iconst 0, 1) := by decide +kernel
theorem dX0_init_6 : decode cX0_init 6 = .ok (.putfield 9, 3) := by decide +kernel
theorem dX0_init_9 : decode cX0_init 9 = .ok (.aload_n 0, 1) := by decide +kernel
theorem dX0_init_10 : decode cX0_init 10 = .ok (.iconst 0, 1) := by decide +kernel
theorem dX0_init_11 : decode cX0_init 11 = .ok (.putfield 15, 3) := by decide +kernel
theorem dX0_init_14 : decode cX0_init 14 = .ok (.aload_n 0, 1) := by decide +kernel
theorem dX0_init_15 : decode cX0_init 15 = .ok (.iconst 0, 1) := by decide +kernel
theorem dX0_init_16 : decode cX0_init 16 = .ok (.putfield 18, 3) := by decide +kernel
theorem dX0_init_19 : decode cX0_init 19 = .ok (.aload_n 0, 1) := by decide +kernel
theorem dX0_init_20 : decode cX0_init 20 = .ok (.iconst 0, 1) := by decide +kernel
theorem dX0_init_21 : decode cX0_init 21 = .ok (.putfield 21, 3) := by decide +kernel
theorem dX0_init_24 : decode cX0_init 24 = .ok (.return_, 1) := by decide +kernel
theorem dX0_renew_0 : decode cX0_renew 0 = .ok (.aload_n 0, 1) := by decide +kernel
theorem dX0_renew_1 : decode cX0_renew 1 = .ok (.iload_n 1, 1) := by decide +kernel
theorem dX0_renew_2 : decode cX0_renew 2 = .ok (.putfield 9, 3) := by decide +kernel
theorem dX0_renew_5 : decode cX0_renew 5 = .ok (.aload_n 0, 1) := by decide +kernel
theorem dX0_renew_6 : decode cX0_renew 6 = .ok (.iload_n 2, 1) := by decide +kernel
theorem dX0_renew_7 : decode cX0_renew 7 = .ok (.putfield 15, 3) := by decide +kernel
theorem dX0_renew_10 : decode cX0_renew 10 = .ok (.aload_n 0, 1) := by decide +kernel
theorem dX0_renew_11 : decode cX0_renew 11 = .ok (.iload_n 3, 1) := by decide +kernel
theorem dX0_renew_12 : decode cX0_renew 12 = .ok (.putfield 18, 3) := by decide +kernel
theorem dX0_renew_15 : decode cX0_renew 15 = .ok (.aload_n 0, 1) := by decide +kernel
theorem dX0_renew_16 : decode cX0_renew 16 = .ok (.iload 4, 2) := by decide +kernel
theorem dX0_renew_18 : decode cX0_renew 18 = .ok (.putfield 21, 3) := by decide +kernel
theorem dX0_renew_21 : decode cX0_renew 21 = .ok (.return_, 1) := by decide +kernel
theorem dX0_copy_0 : decode cX0_copy 0 = .ok (.aload_n 0, 1) := by decide +kernel
theorem dX0_copy_1 : decode cX0_copy 1 = .ok (.aload_n 1, 1) := by decide +kernel
theorem dX0_copy_2 : decode cX0_copy 2 = .ok (.getfield 9, 3) := by decide +kernel
theorem dX0_copy_5 : decode cX0_copy 5 = .ok (.aload_n 1, 1) := by decide +kernel
theorem dX0_copy_6 : decode cX0_copy 6 = .ok (.getfield 15, 3) := by decide +kernel
theorem dX0_copy_9 : decode cX0_copy 9 = .ok (.aload_n 1, 1) := by decide +kernel
theorem dX0_copy_10 : decode cX0_copy 10 = .ok (.getfield 18, 3) := by decide +kernel
theorem dX0_copy_13 : decode cX0_copy 13 = .ok (.aload_n 1, 1) := by decide +kernel
theorem dX0_copy_14 : decode cX0_copy 14 = .ok (.getfield 21, 3) := by decide +kernel
theorem dX0_copy_17 : decode cX0_copy 17 = .ok (.invokevirtual 24, 3) := by decide +kernel
theorem dX0_copy_20 : decode cX0_copy 20 = .ok (.return_, 1) := by decide +kernel
theorem dX0_limitFor_0 : decode cX0_limitFor 0 = .ok (.aload_n 0, 1) := by decide +kernel
theorem dX0_limitFor_1 : decode cX0_limitFor 1 = .ok (.getfield 18, 3) := by decide +kernel
theorem dX0_limitFor_4 : decode cX0_limitFor 4 = .ok (.iload_n 1, 1) := by decide +kernel
theorem dX0_limitFor_5 : decode cX0_limitFor 5 = .ok (.imul, 1) := by decide +kernel
theorem dX0_limitFor_6 : decode cX0_limitFor 6 = .ok (.bipush 100, 2) := by decide +kernel
theorem dX0_limitFor_8 : decode cX0_limitFor 8 = .ok (.idiv, 1) := by decide +kernel
theorem dX0_limitFor_9 : decode cX0_limitFor 9 = .ok (.aload_n 0, 1) := by decide +kernel
theorem dX0_limitFor_10 : decode cX0_limitFor 10 = .ok (.getfield 21, 3) := by decide +kernel
theorem dX0_limitFor_13 : decode cX0_limitFor 13 = .ok (.invokestatic 28, 3) := by decide +kernel
theorem dX0_limitFor_16 : decode cX0_limitFor 16 = .ok (.istore_n 2, 1) := by decide +kernel
theorem dX0_limitFor_17 : decode cX0_limitFor 17 = .ok (.aload_n 0, 1) := by decide +kernel
theorem dX0_limitFor_18 : decode cX0_limitFor 18 = .ok (.getfield 9, 3) := by decide +kernel
theorem dX0_limitFor_21 : decode cX0_limitFor 21 = .ok (.iconst 4, 1) := by decide +kernel
theorem dX0_limitFor_22 : decode cX0_limitFor 22 = .ok (.if_icmp .ne 13, 3) := by decide +kernel
theorem dX0_limitFor_25 : decode cX0_limitFor 25 = .ok (.iload_n 2, 1) := by decide +kernel
theorem dX0_limitFor_26 : decode cX0_limitFor 26 = .ok (.bipush 9, 2) := by decide +kernel
theorem dX0_limitFor_28 : decode cX0_limitFor 28 = .ok (.imul, 1) := by decide +kernel
theorem dX0_limitFor_29 : decode cX0_limitFor 29 = .ok (.bipush 10, 2) := by decide +kernel
theorem dX0_limitFor_31 : decode cX0_limitFor 31 = .ok (.idiv, 1) := by decide +kernel
theorem dX0_limitFor_32 : decode cX0_limitFor 32 = .ok (.goto 4, 3) := by decide +kernel
theorem dX0_limitFor_35 : decode cX0_limitFor 35 = .ok (.iload_n 2, 1) := by decide +kernel
theorem dX0_limitFor_36 : decode cX0_limitFor 36 = .ok (.ireturn, 1) := by decide +kernel
theorem dX0_raise_0 : decode cX0_raise 0 = .ok (.aload_n 0, 1) := by decide +kernel
theorem dX0_raise_1 : decode cX0_raise 1 = .ok (.getfield 9, 3) := by decide +kernel
theorem dX0_raise_4 : decode cX0_raise 4 = .ok (.iconst 2, 1) := by decide +kernel
theorem dX0_raise_5 : decode cX0_raise 5 = .ok (.if_icmp .eq 11, 3) := by decide +kernel
theorem dX0_raise_8 : decode cX0_raise 8 = .ok (.aload_n 0, 1) := by decide +kernel
theorem dX0_raise_9 : decode cX0_raise 9 = .ok (.getfield 9, 3) := by decide +kernel
theorem dX0_raise_12 : decode cX0_raise 12 = .ok (.iconst 4, 1) := by decide +kernel
theorem dX0_raise_13 : decode cX0_raise 13 = .ok (.if_icmp .ne 14, 3) := by decide +kernel
theorem dX0_raise_16 : decode cX0_raise 16 = .ok (.iconst 2, 1) := by decide +kernel
theorem dX0_raise_17 : decode cX0_raise 17 = .ok (.iload_n 1, 1) := by decide +kernel
theorem dX0_raise_18 : decode cX0_raise 18 = .ok (.imul, 1) := by decide +kernel
theorem dX0_raise_19 : decode cX0_raise 19 = .ok (.aload_n 0, 1) := by decide +kernel
theorem dX0_raise_20 : decode cX0_raise 20 = .ok (.getfield 15, 3) := by decide +kernel
theorem dX0_raise_23 : decode cX0_raise 23 = .ok (.iadd, 1) := by decide +kernel
theorem dX0_raise_24 : decode cX0_raise 24 = .ok (.goto 4, 3) := by decide +kernel
theorem dX0_raise_27 : decode cX0_raise 27 = .ok (.iload_n 1, 1) := by decide +kernel
theorem dX0_raise_28 : decode cX0_raise 28 = .ok (.ireturn, 1) := by decide +kernel
theorem dX0_isReady_0 : decode cX0_isReady 0 = .ok (.aload_n 0, 1) := by decide +kernel
theorem dX0_isReady_1 : decode cX0_isReady 1 = .ok (.getfield 9, 3) := by decide +kernel
theorem dX0_isReady_4 : decode cX0_isReady 4 = .ok (.iconst 5, 1) := by decide +kernel
theorem dX0_isReady_5 : decode cX0_isReady 5 = .ok (.if_icmp .ne 14, 3) := by decide +kernel
theorem dX0_isReady_8 : decode cX0_isReady 8 = .ok (.iload_n 2, 1) := by decide +kernel
theorem dX0_isReady_9 : decode cX0_isReady 9 = .ok (.iload_n 3, 1) := by decide +kernel
theorem dX0_isReady_10 : decode cX0_isReady 10 = .ok (.if_icmp .gt 7, 3) := by decide +kernel
theorem dX0_isReady_13 : decode cX0_isReady 13 = .ok (.iconst 1, 1) := by decide +kernel
theorem dX0_isReady_14 : decode cX0_isReady 14 = .ok (.goto 4, 3) := by decide +kernel
theorem dX0_isReady_17 : decode cX0_isReady 17 = .ok (.iconst 0, 1) := by decide +kernel
theorem dX0_isReady_18 : decode cX0_isReady 18 = .ok (.ireturn, 1) := by decide +kernel
theorem dX0_isReady_19 : decode cX0_isReady 19 = .ok (.aload_n 0, 1) := by decide +kernel
theorem dX0_isReady_20 : decode cX0_isReady 20 = .ok (.getfield 15, 3) := by decide +kernel
theorem dX0_isReady_23 : decode cX0_isReady 23 = .ok (.iconst 1, 1) := by decide +kernel
theorem dX0_isReady_24 : decode cX0_isReady 24 = .ok (.iadd, 1) := by decide +kernel
theorem dX0_isReady_25 : decode cX0_isReady 25 = .ok (.istore 5, 2) := by decide +kernel
theorem dX0_isReady_27 : decode cX0_isReady 27 = .ok (.iload 5, 2) := by decide +kernel
theorem dX0_isReady_29 : decode cX0_isReady 29 = .ok (.ifCond .le 10, 3) := by decide +kernel
theorem dX0_isReady_32 : decode cX0_isReady 32 = .ok (.iload_n 1, 1) := by decide +kernel
theorem dX0_isReady_33 : decode cX0_isReady 33 = .ok (.iload 5, 2) := by decide +kernel
theorem dX0_isReady_35 : decode cX0_isReady 35 = .ok (.irem, 1) := by decide +kernel
theorem dX0_isReady_36 : decode cX0_isReady 36 = .ok (.ifCond .eq 5, 3) := by decide +kernel
theorem dX0_isReady_39 : decode cX0_isReady 39 = .ok (.iconst 0, 1) := by decide +kernel
theorem dX0_isReady_40 : decode cX0_isReady 40 = .ok (.ireturn, 1) := by decide +kernel
theorem dX0_isReady_41 : decode cX0_isReady 41 = .ok (.aload_n 0, 1) := by decide +kernel
theorem dX0_isReady_42 : decode cX0_isReady 42 = .ok (.getfield 9, 3) := by decide +kernel
theorem dX0_isReady_45 : decode cX0_isReady 45 = .ok (.iconst 1, 1) := by decide +kernel
theorem dX0_isReady_46 : decode cX0_isReady 46 = .ok (.if_icmp .eq 11, 3) := by decide +kernel
theorem dX0_isReady_49 : decode cX0_isReady 49 = .ok (.aload_n 0, 1) := by decide +kernel
theorem dX0_isReady_50 : decode cX0_isReady 50 = .ok (.getfield 9, 3) := by decide +kernel
theorem dX0_isReady_53 : decode cX0_isReady 53 = .ok (.iconst 3, 1) := by decide +kernel
theorem dX0_isReady_54 : decode cX0_isReady 54 = .ok (.if_icmp .ne 32, 3) := by decide +kernel
theorem dX0_isReady_57 : decode cX0_isReady 57 = .ok (.iload_n 2, 1) := by decide +kernel
theorem dX0_isReady_58 : decode cX0_isReady 58 = .ok (.iconst 3, 1) := by decide +kernel
theorem dX0_isReady_59 : decode cX0_isReady 59 = .ok (.aload_n 0, 1) := by decide +kernel
theorem dX0_isReady_60 : decode cX0_isReady 60 = .ok (.getfield 15, 3) := by decide +kernel
theorem dX0_isReady_63 : decode cX0_isReady 63 = .ok (.imul, 1) := by decide +kernel
theorem dX0_isReady_64 : decode cX0_isReady 64 = .ok (.if_icmp .gt 20, 3) := by decide +kernel
theorem dX0_isReady_67 : decode cX0_isReady 67 = .ok (.aload_n 0, 1) := by decide +kernel
theorem dX0_isReady_68 : decode cX0_isReady 68 = .ok (.getfield 9, 3) := by decide +kernel
theorem dX0_isReady_71 : decode cX0_isReady 71 = .ok (.iconst 1, 1) := by decide +kernel
theorem dX0_isReady_72 : decode cX0_isReady 72 = .ok (.if_icmp .eq 8, 3) := by decide +kernel
theorem dX0_isReady_75 : decode cX0_isReady 75 = .ok (.iload 4, 2) := by decide +kernel
theorem dX0_isReady_77 : decode cX0_isReady 77 = .ok (.ifCond .le 7, 3) := by decide +kernel
theorem dX0_isReady_80 : decode cX0_isReady 80 = .ok (.iconst 1, 1) := by decide +kernel
theorem dX0_isReady_81 : decode cX0_isReady 81 = .ok (.goto 4, 3) := by decide +kernel
theorem dX0_isReady_84 : decode cX0_isReady 84 = .ok (.iconst 0, 1) := by decide +kernel
theorem dX0_isReady_85 : decode cX0_isReady 85 = .ok (.ireturn, 1) := by decide +kernel
theorem dX0_isReady_86 : decode cX0_isReady 86 = .ok (.iconst 1, 1) := by decide +kernel
theorem dX0_isReady_87 : decode cX0_isReady 87 = .ok (.ireturn, 1) := by decide +kernel
theorem dX1_init_0 : decode cX1_init 0 = .ok (.aload_n 0, 1) := by decide +kernel
theorem dX1_init_1 : decode cX1_init 1 = .ok (.invokespecial 3, 3) := by decide +kernel
theorem dX1_init_4 : decode cX1_init 4 = .ok (.aload_n 0, 1) := by decide +kernel
theorem dX1_init_5 : decode cX1_init 5 = .ok (.bipush 30, 2) := by decide +kernel
theorem dX1_init_7 : decode cX1_init 7 = .ok (.newarray .int, 2) := by decide +kernel
theorem dX1_init_9 : decode cX1_init 9 = .ok (.putfield 11, 3) := by decide +kernel
theorem dX1_init_12 : decode cX1_init 12 = .ok (.aload_n 0, 1) := by decide +kernel
theorem dX1_init_13 : decode cX1_init 13 = .ok (.iconst 0, 1) := by decide +kernel
theorem dX1_init_14 : decode cX1_init 14 = .ok (.putfield 15, 3) := by decide +kernel
theorem dX1_init_17 : decode cX1_init 17 = .ok (.aload_n 0, 1) := by decide +kernel
theorem dX1_init_18 : decode cX1_init 18 = .ok (.iconst 0, 1) := by decide +kernel
theorem dX1_init_19 : decode cX1_init 19 = .ok (.putfield 19, 3) := by decide +kernel
theorem dX1_init_22 : decode cX1_init 22 = .ok (.aload_n 0, 1) := by decide +kernel
theorem dX1_init_23 : decode cX1_init 23 = .ok (.iconst 0, 1) := by decide +kernel
theorem dX1_init_24 : decode cX1_init 24 = .ok (.putfield 23, 3) := by decide +kernel
theorem dX1_init_27 : decode cX1_init 27 = .ok (.aload_n 0, 1) := by decide +kernel
theorem dX1_init_28 : decode cX1_init 28 = .ok (.iconst 0, 1) := by decide +kernel
theorem dX1_init_29 : decode cX1_init 29 = .ok (.putfield 26, 3) := by decide +kernel
theorem dX1_init_32 : decode cX1_init 32 = .ok (.aload_n 0, 1) := by decide +kernel
theorem dX1_init_33 : decode cX1_init 33 = .ok (.iconst 0, 1) := by decide +kernel
theorem dX1_init_34 : decode cX1_init 34 = .ok (.putfield 29, 3) := by decide +kernel
theorem dX1_init_37 : decode cX1_init 37 = .ok (.return_, 1) := by decide +kernel
theorem dX1_clear_0 : decode cX1_clear 0 = .ok (.aload_n 0, 1) := by decide +kernel
theorem dX1_clear_1 : decode cX1_clear 1 = .ok (.iconst 0, 1) := by decide +kernel
theorem dX1_clear_2 : decode cX1_clear 2 = .ok (.putfield 15, 3) := by decide +kernel
theorem dX1_clear_5 : decode cX1_clear 5 = .ok (.aload_n 0, 1) := by decide +kernel
theorem dX1_clear_6 : decode cX1_clear 6 = .ok (.iconst 0, 1) := by decide +kernel
theorem dX1_clear_7 : decode cX1_clear 7 = .ok (.putfield 19, 3) := by decide +kernel
theorem dX1_clear_10 : decode cX1_clear 10 = .ok (.return_, 1) := by decide +kernel
theorem dX1_bodyAt_0 : decode cX1_bodyAt 0 = .ok (.iload_n 1, 1) := by decide +kernel
theorem dX1_bodyAt_1 : decode cX1_bodyAt 1 = .ok (.ifCond .lt 26, 3) := by decide +kernel
theorem dX1_bodyAt_4 : decode cX1_bodyAt 4 = .ok (.iload_n 1, 1) := by decide +kernel
theorem dX1_bodyAt_5 : decode cX1_bodyAt 5 = .ok (.aload_n 0, 1) := by decide +kernel
theorem dX1_bodyAt_6 : decode cX1_bodyAt 6 = .ok (.getfield 15, 3) := by decide +kernel
theorem dX1_bodyAt_9 : decode cX1_bodyAt 9 = .ok (.if_icmp .ge 18, 3) := by decide +kernel
theorem dX1_bodyAt_12 : decode cX1_bodyAt 12 = .ok (.iload_n 1, 1) := by decide +kernel
theorem dX1_bodyAt_13 : decode cX1_bodyAt 13 = .ok (.bipush 30, 2) := by decide +kernel
theorem dX1_bodyAt_15 : decode cX1_bodyAt 15 = .ok (.if_icmp .ge 12, 3) := by decide +kernel
theorem dX1_bodyAt_18 : decode cX1_bodyAt 18 = .ok (.aload_n 0, 1) := by decide +kernel
theorem dX1_bodyAt_19 : decode cX1_bodyAt 19 = .ok (.getfield 11, 3) := by decide +kernel
theorem dX1_bodyAt_22 : decode cX1_bodyAt 22 = .ok (.iload_n 1, 1) := by decide +kernel
theorem dX1_bodyAt_23 : decode cX1_bodyAt 23 = .ok (.iaload, 1) := by decide +kernel
theorem dX1_bodyAt_24 : decode cX1_bodyAt 24 = .ok (.goto 5, 3) := by decide +kernel
theorem dX1_bodyAt_27 : decode cX1_bodyAt 27 = .ok (.bipush (-3), 2) := by decide +kernel
theorem dX1_bodyAt_29 : decode cX1_bodyAt 29 = .ok (.ireturn, 1) := by decide +kernel
theorem dX1_doneBy_0 : decode cX1_doneBy 0 = .ok (.aload_n 0, 1) := by decide +kernel
theorem dX1_doneBy_1 : decode cX1_doneBy 1 = .ok (.aload_n 1, 1) := by decide +kernel
theorem dX1_doneBy_2 : decode cX1_doneBy 2 = .ok (.getfield 32, 3) := by decide +kernel
theorem dX1_doneBy_5 : decode cX1_doneBy 5 = .ok (.putfield 23, 3) := by decide +kernel
theorem dX1_doneBy_8 : decode cX1_doneBy 8 = .ok (.aload_n 0, 1) := by decide +kernel
theorem dX1_doneBy_9 : decode cX1_doneBy 9 = .ok (.iload_n 2, 1) := by decide +kernel
theorem dX1_doneBy_10 : decode cX1_doneBy 10 = .ok (.putfield 26, 3) := by decide +kernel
theorem dX1_doneBy_13 : decode cX1_doneBy 13 = .ok (.aload_n 0, 1) := by decide +kernel
theorem dX1_doneBy_14 : decode cX1_doneBy 14 = .ok (.aload_n 1, 1) := by decide +kernel
theorem dX1_doneBy_15 : decode cX1_doneBy 15 = .ok (.getfield 37, 3) := by decide +kernel
theorem dX1_doneBy_18 : decode cX1_doneBy 18 = .ok (.putfield 29, 3) := by decide +kernel
theorem dX1_doneBy_21 : decode cX1_doneBy 21 = .ok (.aload_n 0, 1) := by decide +kernel
theorem dX1_doneBy_22 : decode cX1_doneBy 22 = .ok (.iload_n 3, 1) := by decide +kernel
theorem dX1_doneBy_23 : decode cX1_doneBy 23 = .ok (.iload 4, 2) := by decide +kernel
theorem dX1_doneBy_25 : decode cX1_doneBy 25 = .ok (.invokevirtual 38, 3) := by decide +kernel
theorem dX1_doneBy_28 : decode cX1_doneBy 28 = .ok (.istore 5, 2) := by decide +kernel
theorem dX1_doneBy_30 : decode cX1_doneBy 30 = .ok (.aload_n 0, 1) := by decide +kernel
theorem dX1_doneBy_31 : decode cX1_doneBy 31 = .ok (.getfield 19, 3) := by decide +kernel
theorem dX1_doneBy_34 : decode cX1_doneBy 34 = .ok (.ifCond .eq 8, 3) := by decide +kernel
theorem dX1_doneBy_37 : decode cX1_doneBy 37 = .ok (.bipush (-15), 2) := by decide +kernel
theorem dX1_doneBy_39 : decode cX1_doneBy 39 = .ok (.goto 5, 3) := by decide +kernel
theorem dX1_doneBy_42 : decode cX1_doneBy 42 = .ok (.iload 5, 2) := by decide +kernel
theorem dX1_doneBy_44 : decode cX1_doneBy 44 = .ok (.ireturn, 1) := by decide +kernel
theorem dX1_answerTo_0 : decode cX1_answerTo 0 = .ok (.iload_n 1, 1) := by decide +kernel
theorem dX1_answerTo_1 : decode cX1_answerTo 1 = .ok (.tableswitch 60 0 2 #[27, 38, 49], 27) := by decide +kernel
theorem dX1_answerTo_28 : decode cX1_answerTo 28 = .ok (.aload_n 0, 1) := by decide +kernel
theorem dX1_answerTo_29 : decode cX1_answerTo 29 = .ok (.aload_n 0, 1) := by decide +kernel
theorem dX1_answerTo_30 : decode cX1_answerTo 30 = .ok (.getfield 23, 3) := by decide +kernel
theorem dX1_answerTo_33 : decode cX1_answerTo 33 = .ok (.iload_n 2, 1) := by decide +kernel
theorem dX1_answerTo_34 : decode cX1_answerTo 34 = .ok (.iconst 0, 1) := by decide +kernel
theorem dX1_answerTo_35 : decode cX1_answerTo 35 = .ok (.invokestatic 42, 3) := by decide +kernel
theorem dX1_answerTo_38 : decode cX1_answerTo 38 = .ok (.ireturn, 1) := by decide +kernel
theorem dX1_answerTo_39 : decode cX1_answerTo 39 = .ok (.aload_n 0, 1) := by decide +kernel
theorem dX1_answerTo_40 : decode cX1_answerTo 40 = .ok (.aload_n 0, 1) := by decide +kernel
theorem dX1_answerTo_41 : decode cX1_answerTo 41 = .ok (.getfield 23, 3) := by decide +kernel
theorem dX1_answerTo_44 : decode cX1_answerTo 44 = .ok (.iload_n 2, 1) := by decide +kernel
theorem dX1_answerTo_45 : decode cX1_answerTo 45 = .ok (.iconst 0, 1) := by decide +kernel
theorem dX1_answerTo_46 : decode cX1_answerTo 46 = .ok (.invokestatic 46, 3) := by decide +kernel
theorem dX1_answerTo_49 : decode cX1_answerTo 49 = .ok (.ireturn, 1) := by decide +kernel
theorem dX1_answerTo_50 : decode cX1_answerTo 50 = .ok (.aload_n 0, 1) := by decide +kernel
theorem dX1_answerTo_51 : decode cX1_answerTo 51 = .ok (.aload_n 0, 1) := by decide +kernel
theorem dX1_answerTo_52 : decode cX1_answerTo 52 = .ok (.getfield 23, 3) := by decide +kernel
theorem dX1_answerTo_55 : decode cX1_answerTo 55 = .ok (.iload_n 2, 1) := by decide +kernel
theorem dX1_answerTo_56 : decode cX1_answerTo 56 = .ok (.iconst 0, 1) := by decide +kernel
theorem dX1_answerTo_57 : decode cX1_answerTo 57 = .ok (.invokestatic 49, 3) := by decide +kernel
theorem dX1_answerTo_60 : decode cX1_answerTo 60 = .ok (.ireturn, 1) := by decide +kernel
theorem dX1_answerTo_61 : decode cX1_answerTo 61 = .ok (.aload_n 0, 1) := by decide +kernel
theorem dX1_answerTo_62 : decode cX1_answerTo 62 = .ok (.aload_n 0, 1) := by decide +kernel
theorem dX1_answerTo_63 : decode cX1_answerTo 63 = .ok (.getfield 23, 3) := by decide +kernel
theorem dX1_answerTo_66 : decode cX1_answerTo 66 = .ok (.iload_n 2, 1) := by decide +kernel
theorem dX1_answerTo_67 : decode cX1_answerTo 67 = .ok (.iconst 0, 1) := by decide +kernel
theorem dX1_answerTo_68 : decode cX1_answerTo 68 = .ok (.invokestatic 52, 3) := by decide +kernel
theorem dX1_answerTo_71 : decode cX1_answerTo 71 = .ok (.ireturn, 1) := by decide +kernel
theorem dX1_begin_0 : decode cX1_begin 0 = .ok (.aload_n 0, 1) := by decide +kernel
theorem dX1_begin_1 : decode cX1_begin 1 = .ok (.getfield 19, 3) := by decide +kernel
theorem dX1_begin_4 : decode cX1_begin 4 = .ok (.ifCond .ne 32, 3) := by decide +kernel
theorem dX1_begin_7 : decode cX1_begin 7 = .ok (.aload_n 0, 1) := by decide +kernel
theorem dX1_begin_8 : decode cX1_begin 8 = .ok (.getfield 15, 3) := by decide +kernel
theorem dX1_begin_11 : decode cX1_begin 11 = .ok (.bipush 30, 2) := by decide +kernel
theorem dX1_begin_13 : decode cX1_begin 13 = .ok (.if_icmp .ge 23, 3) := by decide +kernel
theorem dX1_begin_16 : decode cX1_begin 16 = .ok (.aload_n 0, 1) := by decide +kernel
theorem dX1_begin_17 : decode cX1_begin 17 = .ok (.getfield 11, 3) := by decide +kernel
theorem dX1_begin_20 : decode cX1_begin 20 = .ok (.aload_n 0, 1) := by decide +kernel
theorem dX1_begin_21 : decode cX1_begin 21 = .ok (.getfield 15, 3) := by decide +kernel
theorem dX1_begin_24 : decode cX1_begin 24 = .ok (.iload_n 1, 1) := by decide +kernel
theorem dX1_begin_25 : decode cX1_begin 25 = .ok (.iastore, 1) := by decide +kernel
theorem dX1_begin_26 : decode cX1_begin 26 = .ok (.aload_n 0, 1) := by decide +kernel
theorem dX1_begin_27 : decode cX1_begin 27 = .ok (.dup, 1) := by decide +kernel
theorem dX1_begin_28 : decode cX1_begin 28 = .ok (.getfield 15, 3) := by decide +kernel
theorem dX1_begin_31 : decode cX1_begin 31 = .ok (.iconst 1, 1) := by decide +kernel
theorem dX1_begin_32 : decode cX1_begin 32 = .ok (.iadd, 1) := by decide +kernel
theorem dX1_begin_33 : decode cX1_begin 33 = .ok (.putfield 15, 3) := by decide +kernel
theorem dX1_begin_36 : decode cX1_begin 36 = .ok (.return_, 1) := by decide +kernel
theorem dX1_calls_0 : decode cX1_calls 0 = .ok (.iload_n 3, 1) := by decide +kernel
theorem dX1_calls_1 : decode cX1_calls 1 = .ok (.bipush 40, 2) := by decide +kernel
theorem dX1_calls_3 : decode cX1_calls 3 = .ok (.if_icmp .lt 5, 3) := by decide +kernel
theorem dX1_calls_6 : decode cX1_calls 6 = .ok (.iconst 0, 1) := by decide +kernel
theorem dX1_calls_7 : decode cX1_calls 7 = .ok (.ireturn, 1) := by decide +kernel
theorem dX1_calls_8 : decode cX1_calls 8 = .ok (.iload_n 1, 1) := by decide +kernel
theorem dX1_calls_9 : decode cX1_calls 9 = .ok (.tableswitch 105 0 4 #[35, 105, 48, 84, 66], 35) := by decide +kernel
theorem dX1_calls_44 : decode cX1_calls 44 = .ok (.aload_n 0, 1) := by decide +kernel
theorem dX1_calls_45 : decode cX1_calls 45 = .ok (.bipush 10, 2) := by decide +kernel
theorem dX1_calls_47 : decode cX1_calls 47 = .ok (.invokevirtual 55, 3) := by decide +kernel
theorem dX1_calls_50 : decode cX1_calls 50 = .ok (.iload_n 2, 1) := by decide +kernel
theorem dX1_calls_51 : decode cX1_calls 51 = .ok (.aload_n 0, 1) := by decide +kernel
theorem dX1_calls_52 : decode cX1_calls 52 = .ok (.getfield 26, 3) := by decide +kernel
theorem dX1_calls_55 : decode cX1_calls 55 = .ok (.iadd, 1) := by decide +kernel
theorem dX1_calls_56 : decode cX1_calls 56 = .ok (.ireturn, 1) := by decide +kernel
theorem dX1_calls_57 : decode cX1_calls 57 = .ok (.aload_n 0, 1) := by decide +kernel
theorem dX1_calls_58 : decode cX1_calls 58 = .ok (.bipush 30, 2) := by decide +kernel
theorem dX1_calls_60 : decode cX1_calls 60 = .ok (.invokevirtual 55, 3) := by decide +kernel
theorem dX1_calls_63 : decode cX1_calls 63 = .ok (.aload_n 0, 1) := by decide +kernel
theorem dX1_calls_64 : decode cX1_calls 64 = .ok (.iconst 0, 1) := by decide +kernel
theorem dX1_calls_65 : decode cX1_calls 65 = .ok (.iload_n 2, 1) := by decide +kernel
theorem dX1_calls_66 : decode cX1_calls 66 = .ok (.iload_n 3, 1) := by decide +kernel
theorem dX1_calls_67 : decode cX1_calls 67 = .ok (.iconst 1, 1) := by decide +kernel
theorem dX1_calls_68 : decode cX1_calls 68 = .ok (.iadd, 1) := by decide +kernel
theorem dX1_calls_69 : decode cX1_calls 69 = .ok (.invokestatic 42, 3) := by decide +kernel
theorem dX1_calls_72 : decode cX1_calls 72 = .ok (.iconst 3, 1) := by decide +kernel
theorem dX1_calls_73 : decode cX1_calls 73 = .ok (.imul, 1) := by decide +kernel
theorem dX1_calls_74 : decode cX1_calls 74 = .ok (.ireturn, 1) := by decide +kernel
theorem dX1_calls_75 : decode cX1_calls 75 = .ok (.aload_n 0, 1) := by decide +kernel
theorem dX1_calls_76 : decode cX1_calls 76 = .ok (.bipush 40, 2) := by decide +kernel
theorem dX1_calls_78 : decode cX1_calls 78 = .ok (.invokevirtual 55, 3) := by decide +kernel
theorem dX1_calls_81 : decode cX1_calls 81 = .ok (.iconst 0, 1) := by decide +kernel
theorem dX1_calls_82 : decode cX1_calls 82 = .ok (.aload_n 0, 1) := by decide +kernel
theorem dX1_calls_83 : decode cX1_calls 83 = .ok (.iconst 2, 1) := by decide +kernel
theorem dX1_calls_84 : decode cX1_calls 84 = .ok (.iload_n 2, 1) := by decide +kernel
theorem dX1_calls_85 : decode cX1_calls 85 = .ok (.iload_n 3, 1) := by decide +kernel
theorem dX1_calls_86 : decode cX1_calls 86 = .ok (.iconst 1, 1) := by decide +kernel
theorem dX1_calls_87 : decode cX1_calls 87 = .ok (.iadd, 1) := by decide +kernel
theorem dX1_calls_88 : decode cX1_calls 88 = .ok (.invokestatic 42, 3) := by decide +kernel
theorem dX1_calls_91 : decode cX1_calls 91 = .ok (.isub, 1) := by decide +kernel
theorem dX1_calls_92 : decode cX1_calls 92 = .ok (.ireturn, 1) := by decide +kernel
theorem dX1_calls_93 : decode cX1_calls 93 = .ok (.aload_n 0, 1) := by decide +kernel
theorem dX1_calls_94 : decode cX1_calls 94 = .ok (.bipush 51, 2) := by decide +kernel
theorem dX1_calls_96 : decode cX1_calls 96 = .ok (.invokevirtual 55, 3) := by decide +kernel
theorem dX1_calls_99 : decode cX1_calls 99 = .ok (.aload_n 0, 1) := by decide +kernel
theorem dX1_calls_100 : decode cX1_calls 100 = .ok (.iconst 1, 1) := by decide +kernel
theorem dX1_calls_101 : decode cX1_calls 101 = .ok (.iload_n 2, 1) := by decide +kernel
theorem dX1_calls_102 : decode cX1_calls 102 = .ok (.iload_n 3, 1) := by decide +kernel
theorem dX1_calls_103 : decode cX1_calls 103 = .ok (.iconst 1, 1) := by decide +kernel
theorem dX1_calls_104 : decode cX1_calls 104 = .ok (.iadd, 1) := by decide +kernel
theorem dX1_calls_105 : decode cX1_calls 105 = .ok (.invokestatic 42, 3) := by decide +kernel
theorem dX1_calls_108 : decode cX1_calls 108 = .ok (.aload_n 0, 1) := by decide +kernel
theorem dX1_calls_109 : decode cX1_calls 109 = .ok (.getfield 26, 3) := by decide +kernel
theorem dX1_calls_112 : decode cX1_calls 112 = .ok (.isub, 1) := by decide +kernel
theorem dX1_calls_113 : decode cX1_calls 113 = .ok (.ireturn, 1) := by decide +kernel
theorem dX1_calls_114 : decode cX1_calls 114 = .ok (.aload_n 0, 1) := by decide +kernel
theorem dX1_calls_115 : decode cX1_calls 115 = .ok (.iload_n 1, 1) := by decide +kernel
theorem dX1_calls_116 : decode cX1_calls 116 = .ok (.invokestatic 59, 3) := by decide +kernel
theorem dX1_calls_119 : decode cX1_calls 119 = .ok (.iload_n 2, 1) := by decide +kernel
theorem dX1_calls_120 : decode cX1_calls 120 = .ok (.iload_n 3, 1) := by decide +kernel
theorem dX1_calls_121 : decode cX1_calls 121 = .ok (.iconst 1, 1) := by decide +kernel
theorem dX1_calls_122 : decode cX1_calls 122 = .ok (.iadd, 1) := by decide +kernel
theorem dX1_calls_123 : decode cX1_calls 123 = .ok (.invokestatic 42, 3) := by decide +kernel
theorem dX1_calls_126 : decode cX1_calls 126 = .ok (.ireturn, 1) := by decide +kernel
theorem dX1_hears_0 : decode cX1_hears 0 = .ok (.iload_n 3, 1) := by decide +kernel
theorem dX1_hears_1 : decode cX1_hears 1 = .ok (.bipush 40, 2) := by decide +kernel
theorem dX1_hears_3 : decode cX1_hears 3 = .ok (.if_icmp .lt 5, 3) := by decide +kernel
theorem dX1_hears_6 : decode cX1_hears 6 = .ok (.iconst 0, 1) := by decide +kernel
theorem dX1_hears_7 : decode cX1_hears 7 = .ok (.ireturn, 1) := by decide +kernel
theorem dX1_hears_8 : decode cX1_hears 8 = .ok (.iload_n 1, 1) := by decide +kernel
theorem dX1_hears_9 : decode cX1_hears 9 = .ok (.tableswitch 109 0 4 #[35, 56, 109, 109, 77], 35) := by decide +kernel
theorem dX1_hears_44 : decode cX1_hears 44 = .ok (.aload_n 0, 1) := by decide +kernel
theorem dX1_hears_45 : decode cX1_hears 45 = .ok (.bipush 11, 2) := by decide +kernel
theorem dX1_hears_47 : decode cX1_hears 47 = .ok (.invokevirtual 55, 3) := by decide +kernel
theorem dX1_hears_50 : decode cX1_hears 50 = .ok (.aload_n 0, 1) := by decide +kernel
theorem dX1_hears_51 : decode cX1_hears 51 = .ok (.aload_n 0, 1) := by decide +kernel
theorem dX1_hears_52 : decode cX1_hears 52 = .ok (.getfield 23, 3) := by decide +kernel
theorem dX1_hears_55 : decode cX1_hears 55 = .ok (.iload_n 2, 1) := by decide +kernel
theorem dX1_hears_56 : decode cX1_hears 56 = .ok (.iload_n 3, 1) := by decide +kernel
theorem dX1_hears_57 : decode cX1_hears 57 = .ok (.iconst 1, 1) := by decide +kernel
theorem dX1_hears_58 : decode cX1_hears 58 = .ok (.iadd, 1) := by decide +kernel
theorem dX1_hears_59 : decode cX1_hears 59 = .ok (.invokestatic 42, 3) := by decide +kernel
theorem dX1_hears_62 : decode cX1_hears 62 = .ok (.iconst 2, 1) := by decide +kernel
theorem dX1_hears_63 : decode cX1_hears 63 = .ok (.imul, 1) := by decide +kernel
theorem dX1_hears_64 : decode cX1_hears 64 = .ok (.ireturn, 1) := by decide +kernel
theorem dX1_hears_65 : decode cX1_hears 65 = .ok (.aload_n 0, 1) := by decide +kernel
theorem dX1_hears_66 : decode cX1_hears 66 = .ok (.bipush 20, 2) := by decide +kernel
theorem dX1_hears_68 : decode cX1_hears 68 = .ok (.invokevirtual 55, 3) := by decide +kernel
theorem dX1_hears_71 : decode cX1_hears 71 = .ok (.aload_n 0, 1) := by decide +kernel
theorem dX1_hears_72 : decode cX1_hears 72 = .ok (.iconst 0, 1) := by decide +kernel
theorem dX1_hears_73 : decode cX1_hears 73 = .ok (.iload_n 2, 1) := by decide +kernel
theorem dX1_hears_74 : decode cX1_hears 74 = .ok (.iload_n 3, 1) := by decide +kernel
theorem dX1_hears_75 : decode cX1_hears 75 = .ok (.iconst 1, 1) := by decide +kernel
theorem dX1_hears_76 : decode cX1_hears 76 = .ok (.iadd, 1) := by decide +kernel
theorem dX1_hears_77 : decode cX1_hears 77 = .ok (.invokestatic 46, 3) := by decide +kernel
theorem dX1_hears_80 : decode cX1_hears 80 = .ok (.aload_n 0, 1) := by decide +kernel
theorem dX1_hears_81 : decode cX1_hears 81 = .ok (.getfield 29, 3) := by decide +kernel
theorem dX1_hears_84 : decode cX1_hears 84 = .ok (.isub, 1) := by decide +kernel
theorem dX1_hears_85 : decode cX1_hears 85 = .ok (.ireturn, 1) := by decide +kernel
theorem dX1_hears_86 : decode cX1_hears 86 = .ok (.aload_n 0, 1) := by decide +kernel
theorem dX1_hears_87 : decode cX1_hears 87 = .ok (.bipush 41, 2) := by decide +kernel
theorem dX1_hears_89 : decode cX1_hears 89 = .ok (.invokevirtual 55, 3) := by decide +kernel
theorem dX1_hears_92 : decode cX1_hears 92 = .ok (.aload_n 0, 1) := by decide +kernel
theorem dX1_hears_93 : decode cX1_hears 93 = .ok (.iconst 2, 1) := by decide +kernel
theorem dX1_hears_94 : decode cX1_hears 94 = .ok (.iload_n 2, 1) := by decide +kernel
theorem dX1_hears_95 : decode cX1_hears 95 = .ok (.iload_n 3, 1) := by decide +kernel
theorem dX1_hears_96 : decode cX1_hears 96 = .ok (.iconst 1, 1) := by decide +kernel
theorem dX1_hears_97 : decode cX1_hears 97 = .ok (.iadd, 1) := by decide +kernel
theorem dX1_hears_98 : decode cX1_hears 98 = .ok (.invokestatic 46, 3) := by decide +kernel
theorem dX1_hears_101 : decode cX1_hears 101 = .ok (.aload_n 0, 1) := by decide +kernel
theorem dX1_hears_102 : decode cX1_hears 102 = .ok (.aload_n 0, 1) := by decide +kernel
theorem dX1_hears_103 : decode cX1_hears 103 = .ok (.getfield 23, 3) := by decide +kernel
theorem dX1_hears_106 : decode cX1_hears 106 = .ok (.aload_n 0, 1) := by decide +kernel
theorem dX1_hears_107 : decode cX1_hears 107 = .ok (.getfield 26, 3) := by decide +kernel
theorem dX1_hears_110 : decode cX1_hears 110 = .ok (.iload_n 3, 1) := by decide +kernel
theorem dX1_hears_111 : decode cX1_hears 111 = .ok (.iconst 1, 1) := by decide +kernel
theorem dX1_hears_112 : decode cX1_hears 112 = .ok (.iadd, 1) := by decide +kernel
theorem dX1_hears_113 : decode cX1_hears 113 = .ok (.invokestatic 42, 3) := by decide +kernel
theorem dX1_hears_116 : decode cX1_hears 116 = .ok (.iadd, 1) := by decide +kernel
theorem dX1_hears_117 : decode cX1_hears 117 = .ok (.ireturn, 1) := by decide +kernel
theorem dX1_hears_118 : decode cX1_hears 118 = .ok (.aload_n 0, 1) := by decide +kernel
theorem dX1_hears_119 : decode cX1_hears 119 = .ok (.iload_n 1, 1) := by decide +kernel
theorem dX1_hears_120 : decode cX1_hears 120 = .ok (.invokestatic 59, 3) := by decide +kernel
theorem dX1_hears_123 : decode cX1_hears 123 = .ok (.iload_n 2, 1) := by decide +kernel
theorem dX1_hears_124 : decode cX1_hears 124 = .ok (.iload_n 3, 1) := by decide +kernel
theorem dX1_hears_125 : decode cX1_hears 125 = .ok (.iconst 1, 1) := by decide +kernel
theorem dX1_hears_126 : decode cX1_hears 126 = .ok (.iadd, 1) := by decide +kernel
theorem dX1_hears_127 : decode cX1_hears 127 = .ok (.invokestatic 46, 3) := by decide +kernel
theorem dX1_hears_130 : decode cX1_hears 130 = .ok (.ireturn, 1) := by decide +kernel
theorem dX1_shares_0 : decode cX1_shares 0 = .ok (.iload_n 3, 1) := by decide +kernel
theorem dX1_shares_1 : decode cX1_shares 1 = .ok (.bipush 40, 2) := by decide +kernel
theorem dX1_shares_3 : decode cX1_shares 3 = .ok (.if_icmp .lt 5, 3) := by decide +kernel
theorem dX1_shares_6 : decode cX1_shares 6 = .ok (.iconst 0, 1) := by decide +kernel
theorem dX1_shares_7 : decode cX1_shares 7 = .ok (.ireturn, 1) := by decide +kernel
theorem dX1_shares_8 : decode cX1_shares 8 = .ok (.iload_n 1, 1) := by decide +kernel
theorem dX1_shares_9 : decode cX1_shares 9 = .ok (.lookupswitch 108 #[(0, 35), (3, 56), (5, 76)], 35) := by decide +kernel
theorem dX1_shares_44 : decode cX1_shares 44 = .ok (.aload_n 0, 1) := by decide +kernel
theorem dX1_shares_45 : decode cX1_shares 45 = .ok (.bipush 12, 2) := by decide +kernel
theorem dX1_shares_47 : decode cX1_shares 47 = .ok (.invokevirtual 55, 3) := by decide +kernel
theorem dX1_shares_50 : decode cX1_shares 50 = .ok (.aload_n 0, 1) := by decide +kernel
theorem dX1_shares_51 : decode cX1_shares 51 = .ok (.iload_n 2, 1) := by decide +kernel
theorem dX1_shares_52 : decode cX1_shares 52 = .ok (.aload_n 0, 1) := by decide +kernel
theorem dX1_shares_53 : decode cX1_shares 53 = .ok (.getfield 29, 3) := by decide +kernel
theorem dX1_shares_56 : decode cX1_shares 56 = .ok (.aload_n 0, 1) := by decide +kernel
theorem dX1_shares_57 : decode cX1_shares 57 = .ok (.getfield 26, 3) := by decide +kernel
theorem dX1_shares_60 : decode cX1_shares 60 = .ok (.isub, 1) := by decide +kernel
theorem dX1_shares_61 : decode cX1_shares 61 = .ok (.invokevirtual 63, 3) := by decide +kernel
theorem dX1_shares_64 : decode cX1_shares 64 = .ok (.ireturn, 1) := by decide +kernel
theorem dX1_shares_65 : decode cX1_shares 65 = .ok (.aload_n 0, 1) := by decide +kernel
theorem dX1_shares_66 : decode cX1_shares 66 = .ok (.bipush 50, 2) := by decide +kernel
theorem dX1_shares_68 : decode cX1_shares 68 = .ok (.invokevirtual 55, 3) := by decide +kernel
theorem dX1_shares_71 : decode cX1_shares 71 = .ok (.aload_n 0, 1) := by decide +kernel
theorem dX1_shares_72 : decode cX1_shares 72 = .ok (.iconst 1, 1) := by decide +kernel
theorem dX1_shares_73 : decode cX1_shares 73 = .ok (.iload_n 2, 1) := by decide +kernel
theorem dX1_shares_74 : decode cX1_shares 74 = .ok (.iconst 2, 1) := by decide +kernel
theorem dX1_shares_75 : decode cX1_shares 75 = .ok (.iadd, 1) := by decide +kernel
theorem dX1_shares_76 : decode cX1_shares 76 = .ok (.iload_n 3, 1) := by decide +kernel
theorem dX1_shares_77 : decode cX1_shares 77 = .ok (.iconst 1, 1) := by decide +kernel
theorem dX1_shares_78 : decode cX1_shares 78 = .ok (.iadd, 1) := by decide +kernel
theorem dX1_shares_79 : decode cX1_shares 79 = .ok (.invokestatic 49, 3) := by decide +kernel
theorem dX1_shares_82 : decode cX1_shares 82 = .ok (.iconst 1, 1) := by decide +kernel
theorem dX1_shares_83 : decode cX1_shares 83 = .ok (.ixor, 1) := by decide +kernel
theorem dX1_shares_84 : decode cX1_shares 84 = .ok (.ireturn, 1) := by decide +kernel
theorem dX1_shares_85 : decode cX1_shares 85 = .ok (.aload_n 0, 1) := by decide +kernel
theorem dX1_shares_86 : decode cX1_shares 86 = .ok (.bipush 61, 2) := by decide +kernel
theorem dX1_shares_88 : decode cX1_shares 88 = .ok (.invokevirtual 55, 3) := by decide +kernel
theorem dX1_shares_91 : decode cX1_shares 91 = .ok (.aload_n 0, 1) := by decide +kernel
theorem dX1_shares_92 : decode cX1_shares 92 = .ok (.iconst 1, 1) := by decide +kernel
theorem dX1_shares_93 : decode cX1_shares 93 = .ok (.iload_n 2, 1) := by decide +kernel
theorem dX1_shares_94 : decode cX1_shares 94 = .ok (.iload_n 3, 1) := by decide +kernel
theorem dX1_shares_95 : decode cX1_shares 95 = .ok (.iconst 1, 1) := by decide +kernel
theorem dX1_shares_96 : decode cX1_shares 96 = .ok (.iadd, 1) := by decide +kernel
theorem dX1_shares_97 : decode cX1_shares 97 = .ok (.invokestatic 49, 3) := by decide +kernel
theorem dX1_shares_100 : decode cX1_shares 100 = .ok (.aload_n 0, 1) := by decide +kernel
theorem dX1_shares_101 : decode cX1_shares 101 = .ok (.aload_n 0, 1) := by decide +kernel
theorem dX1_shares_102 : decode cX1_shares 102 = .ok (.getfield 23, 3) := by decide +kernel
theorem dX1_shares_105 : decode cX1_shares 105 = .ok (.aload_n 0, 1) := by decide +kernel
theorem dX1_shares_106 : decode cX1_shares 106 = .ok (.getfield 29, 3) := by decide +kernel
theorem dX1_shares_109 : decode cX1_shares 109 = .ok (.iload_n 3, 1) := by decide +kernel
theorem dX1_shares_110 : decode cX1_shares 110 = .ok (.iconst 1, 1) := by decide +kernel
theorem dX1_shares_111 : decode cX1_shares 111 = .ok (.iadd, 1) := by decide +kernel
theorem dX1_shares_112 : decode cX1_shares 112 = .ok (.invokestatic 42, 3) := by decide +kernel
theorem dX1_shares_115 : decode cX1_shares 115 = .ok (.iadd, 1) := by decide +kernel
theorem dX1_shares_116 : decode cX1_shares 116 = .ok (.ireturn, 1) := by decide +kernel
theorem dX1_shares_117 : decode cX1_shares 117 = .ok (.aload_n 0, 1) := by decide +kernel
theorem dX1_shares_118 : decode cX1_shares 118 = .ok (.iload_n 1, 1) := by decide +kernel
theorem dX1_shares_119 : decode cX1_shares 119 = .ok (.invokestatic 59, 3) := by decide +kernel
theorem dX1_shares_122 : decode cX1_shares 122 = .ok (.iload_n 2, 1) := by decide +kernel
theorem dX1_shares_123 : decode cX1_shares 123 = .ok (.iload_n 3, 1) := by decide +kernel
theorem dX1_shares_124 : decode cX1_shares 124 = .ok (.iconst 1, 1) := by decide +kernel
theorem dX1_shares_125 : decode cX1_shares 125 = .ok (.iadd, 1) := by decide +kernel
theorem dX1_shares_126 : decode cX1_shares 126 = .ok (.invokestatic 49, 3) := by decide +kernel
theorem dX1_shares_129 : decode cX1_shares 129 = .ok (.ireturn, 1) := by decide +kernel
theorem dX1_tells_0 : decode cX1_tells 0 = .ok (.iload_n 3, 1) := by decide +kernel
theorem dX1_tells_1 : decode cX1_tells 1 = .ok (.bipush 40, 2) := by decide +kernel
theorem dX1_tells_3 : decode cX1_tells 3 = .ok (.if_icmp .lt 5, 3) := by decide +kernel
theorem dX1_tells_6 : decode cX1_tells 6 = .ok (.iconst 0, 1) := by decide +kernel
theorem dX1_tells_7 : decode cX1_tells 7 = .ok (.ireturn, 1) := by decide +kernel
theorem dX1_tells_8 : decode cX1_tells 8 = .ok (.iload_n 1, 1) := by decide +kernel
theorem dX1_tells_9 : decode cX1_tells 9 = .ok (.lookupswitch 109 #[(0, 35), (2, 59), (5, 91)], 35) := by decide +kernel
theorem dX1_tells_44 : decode cX1_tells 44 = .ok (.aload_n 0, 1) := by decide +kernel
theorem dX1_tells_45 : decode cX1_tells 45 = .ok (.bipush 13, 2) := by decide +kernel
theorem dX1_tells_47 : decode cX1_tells 47 = .ok (.invokevirtual 55, 3) := by decide +kernel
theorem dX1_tells_50 : decode cX1_tells 50 = .ok (.aload_n 0, 1) := by decide +kernel
theorem dX1_tells_51 : decode cX1_tells 51 = .ok (.aload_n 0, 1) := by decide +kernel
theorem dX1_tells_52 : decode cX1_tells 52 = .ok (.getfield 23, 3) := by decide +kernel
theorem dX1_tells_55 : decode cX1_tells 55 = .ok (.iload_n 2, 1) := by decide +kernel
theorem dX1_tells_56 : decode cX1_tells 56 = .ok (.iload_n 3, 1) := by decide +kernel
theorem dX1_tells_57 : decode cX1_tells 57 = .ok (.iconst 1, 1) := by decide +kernel
theorem dX1_tells_58 : decode cX1_tells 58 = .ok (.iadd, 1) := by decide +kernel
theorem dX1_tells_59 : decode cX1_tells 59 = .ok (.invokestatic 46, 3) := by decide +kernel
theorem dX1_tells_62 : decode cX1_tells 62 = .ok (.aload_n 0, 1) := by decide +kernel
theorem dX1_tells_63 : decode cX1_tells 63 = .ok (.getfield 29, 3) := by decide +kernel
theorem dX1_tells_66 : decode cX1_tells 66 = .ok (.ixor, 1) := by decide +kernel
theorem dX1_tells_67 : decode cX1_tells 67 = .ok (.ireturn, 1) := by decide +kernel
theorem dX1_tells_68 : decode cX1_tells 68 = .ok (.aload_n 0, 1) := by decide +kernel
theorem dX1_tells_69 : decode cX1_tells 69 = .ok (.bipush 31, 2) := by decide +kernel
theorem dX1_tells_71 : decode cX1_tells 71 = .ok (.invokevirtual 55, 3) := by decide +kernel
theorem dX1_tells_74 : decode cX1_tells 74 = .ok (.aload_n 0, 1) := by decide +kernel
theorem dX1_tells_75 : decode cX1_tells 75 = .ok (.iconst 0, 1) := by decide +kernel
theorem dX1_tells_76 : decode cX1_tells 76 = .ok (.iload_n 2, 1) := by decide +kernel
theorem dX1_tells_77 : decode cX1_tells 77 = .ok (.iload_n 3, 1) := by decide +kernel
theorem dX1_tells_78 : decode cX1_tells 78 = .ok (.iconst 1, 1) := by decide +kernel
theorem dX1_tells_79 : decode cX1_tells 79 = .ok (.iadd, 1) := by decide +kernel
theorem dX1_tells_80 : decode cX1_tells 80 = .ok (.invokestatic 52, 3) := by decide +kernel
theorem dX1_tells_83 : decode cX1_tells 83 = .ok (.aload_n 0, 1) := by decide +kernel
theorem dX1_tells_84 : decode cX1_tells 84 = .ok (.aload_n 0, 1) := by decide +kernel
theorem dX1_tells_85 : decode cX1_tells 85 = .ok (.getfield 23, 3) := by decide +kernel
theorem dX1_tells_88 : decode cX1_tells 88 = .ok (.aload_n 0, 1) := by decide +kernel
theorem dX1_tells_89 : decode cX1_tells 89 = .ok (.getfield 26, 3) := by decide +kernel
theorem dX1_tells_92 : decode cX1_tells 92 = .ok (.iload_n 3, 1) := by decide +kernel
theorem dX1_tells_93 : decode cX1_tells 93 = .ok (.iconst 1, 1) := by decide +kernel
theorem dX1_tells_94 : decode cX1_tells 94 = .ok (.iadd, 1) := by decide +kernel
theorem dX1_tells_95 : decode cX1_tells 95 = .ok (.invokestatic 49, 3) := by decide +kernel
theorem dX1_tells_98 : decode cX1_tells 98 = .ok (.iadd, 1) := by decide +kernel
theorem dX1_tells_99 : decode cX1_tells 99 = .ok (.ireturn, 1) := by decide +kernel
theorem dX1_tells_100 : decode cX1_tells 100 = .ok (.aload_n 0, 1) := by decide +kernel
theorem dX1_tells_101 : decode cX1_tells 101 = .ok (.bipush 60, 2) := by decide +kernel
theorem dX1_tells_103 : decode cX1_tells 103 = .ok (.invokevirtual 55, 3) := by decide +kernel
theorem dX1_tells_106 : decode cX1_tells 106 = .ok (.aload_n 0, 1) := by decide +kernel
theorem dX1_tells_107 : decode cX1_tells 107 = .ok (.iconst 1, 1) := by decide +kernel
theorem dX1_tells_108 : decode cX1_tells 108 = .ok (.iload_n 2, 1) := by decide +kernel
theorem dX1_tells_109 : decode cX1_tells 109 = .ok (.iload_n 3, 1) := by decide +kernel
theorem dX1_tells_110 : decode cX1_tells 110 = .ok (.iconst 1, 1) := by decide +kernel
theorem dX1_tells_111 : decode cX1_tells 111 = .ok (.iadd, 1) := by decide +kernel
theorem dX1_tells_112 : decode cX1_tells 112 = .ok (.invokestatic 52, 3) := by decide +kernel
theorem dX1_tells_115 : decode cX1_tells 115 = .ok (.iconst 2, 1) := by decide +kernel
theorem dX1_tells_116 : decode cX1_tells 116 = .ok (.imul, 1) := by decide +kernel
theorem dX1_tells_117 : decode cX1_tells 117 = .ok (.ireturn, 1) := by decide +kernel
theorem dX1_tells_118 : decode cX1_tells 118 = .ok (.aload_n 0, 1) := by decide +kernel
theorem dX1_tells_119 : decode cX1_tells 119 = .ok (.iload_n 1, 1) := by decide +kernel
theorem dX1_tells_120 : decode cX1_tells 120 = .ok (.invokestatic 59, 3) := by decide +kernel
theorem dX1_tells_123 : decode cX1_tells 123 = .ok (.iload_n 2, 1) := by decide +kernel
theorem dX1_tells_124 : decode cX1_tells 124 = .ok (.iload_n 3, 1) := by decide +kernel
theorem dX1_tells_125 : decode cX1_tells 125 = .ok (.iconst 1, 1) := by decide +kernel
theorem dX1_tells_126 : decode cX1_tells 126 = .ok (.iadd, 1) := by decide +kernel
theorem dX1_tells_127 : decode cX1_tells 127 = .ok (.invokestatic 52, 3) := by decide +kernel
theorem dX1_tells_130 : decode cX1_tells 130 = .ok (.ireturn, 1) := by decide +kernel
theorem dX1_quotient_0 : decode cX1_quotient 0 = .ok (.iload_n 2, 1) := by decide +kernel
theorem dX1_quotient_1 : decode cX1_quotient 1 = .ok (.ifCond .ne 10, 3) := by decide +kernel
theorem dX1_quotient_4 : decode cX1_quotient 4 = .ok (.aload_n 0, 1) := by decide +kernel
theorem dX1_quotient_5 : decode cX1_quotient 5 = .ok (.iconst 1, 1) := by decide +kernel
theorem dX1_quotient_6 : decode cX1_quotient 6 = .ok (.putfield 19, 3) := by decide +kernel
theorem dX1_quotient_9 : decode cX1_quotient 9 = .ok (.iconst 0, 1) := by decide +kernel
theorem dX1_quotient_10 : decode cX1_quotient 10 = .ok (.ireturn, 1) := by decide +kernel
theorem dX1_quotient_11 : decode cX1_quotient 11 = .ok (.iload_n 1, 1) := by decide +kernel
theorem dX1_quotient_12 : decode cX1_quotient 12 = .ok (.iload_n 2, 1) := by decide +kernel
theorem dX1_quotient_13 : decode cX1_quotient 13 = .ok (.idiv, 1) := by decide +kernel
theorem dX1_quotient_14 : decode cX1_quotient 14 = .ok (.ireturn, 1) := by decide +kernel
theorem dX2_init_0 : decode cX2_init 0 = .ok (.aload_n 0, 1) := by decide +kernel
theorem dX2_init_1 : decode cX2_init 1 = .ok (.invokespecial 3, 3) := by decide +kernel
theorem dX2_init_4 : decode cX2_init 4 = .ok (.aload_n 0, 1) := by decide +kernel
theorem dX2_init_5 : decode cX2_init 5 = .ok (.iconst 5, 1) := by decide +kernel
theorem dX2_init_6 : decode cX2_init 6 = .ok (.anewarray 9, 3) := by decide +kernel
theorem dX2_init_9 : decode cX2_init 9 = .ok (.putfield 11, 3) := by decide +kernel
theorem dX2_init_12 : decode cX2_init 12 = .ok (.aload_n 0, 1) := by decide +kernel
theorem dX2_init_13 : decode cX2_init 13 = .ok (.iconst 0, 1) := by decide +kernel
theorem dX2_init_14 : decode cX2_init 14 = .ok (.putfield 17, 3) := by decide +kernel
theorem dX2_init_17 : decode cX2_init 17 = .ok (.aload_n 0, 1) := by decide +kernel
theorem dX2_init_18 : decode cX2_init 18 = .ok (.bipush 6, 2) := by decide +kernel
theorem dX2_init_20 : decode cX2_init 20 = .ok (.anewarray 21, 3) := by decide +kernel
theorem dX2_init_23 : decode cX2_init 23 = .ok (.putfield 23, 3) := by decide +kernel
theorem dX2_init_26 : decode cX2_init 26 = .ok (.aload_n 0, 1) := by decide +kernel
theorem dX2_init_27 : decode cX2_init 27 = .ok (.iconst 0, 1) := by decide +kernel
theorem dX2_init_28 : decode cX2_init 28 = .ok (.putfield 27, 3) := by decide +kernel
theorem dX2_init_31 : decode cX2_init 31 = .ok (.aload_n 0, 1) := by decide +kernel
theorem dX2_init_32 : decode cX2_init 32 = .ok (.bipush 12, 2) := by decide +kernel
theorem dX2_init_34 : decode cX2_init 34 = .ok (.newarray .int, 2) := by decide +kernel
theorem dX2_init_36 : decode cX2_init 36 = .ok (.putfield 30, 3) := by decide +kernel
theorem dX2_init_39 : decode cX2_init 39 = .ok (.aload_n 0, 1) := by decide +kernel
theorem dX2_init_40 : decode cX2_init 40 = .ok (.iconst 5, 1) := by decide +kernel
theorem dX2_init_41 : decode cX2_init 41 = .ok (.putfield 34, 3) := by decide +kernel
theorem dX2_init_44 : decode cX2_init 44 = .ok (.aload_n 0, 1) := by decide +kernel
theorem dX2_init_45 : decode cX2_init 45 = .ok (.iconst 1, 1) := by decide +kernel
theorem dX2_init_46 : decode cX2_init 46 = .ok (.putfield 37, 3) := by decide +kernel
theorem dX2_init_49 : decode cX2_init 49 = .ok (.aload_n 0, 1) := by decide +kernel
theorem dX2_init_50 : decode cX2_init 50 = .ok (.bipush (-9), 2) := by decide +kernel
theorem dX2_init_52 : decode cX2_init 52 = .ok (.putfield 40, 3) := by decide +kernel
theorem dX2_init_55 : decode cX2_init 55 = .ok (.aload_n 0, 1) := by decide +kernel
theorem dX2_init_56 : decode cX2_init 56 = .ok (.iconst 0, 1) := by decide +kernel
theorem dX2_init_57 : decode cX2_init 57 = .ok (.putfield 43, 3) := by decide +kernel
theorem dX2_init_60 : decode cX2_init 60 = .ok (.aload_n 0, 1) := by decide +kernel
theorem dX2_init_61 : decode cX2_init 61 = .ok (.iconst 0, 1) := by decide +kernel
theorem dX2_init_62 : decode cX2_init 62 = .ok (.putfield 46, 3) := by decide +kernel
theorem dX2_init_65 : decode cX2_init 65 = .ok (.aload_n 0, 1) := by decide +kernel
theorem dX2_init_66 : decode cX2_init 66 = .ok (.iconst 0, 1) := by decide +kernel
theorem dX2_init_67 : decode cX2_init 67 = .ok (.putfield 49, 3) := by decide +kernel
theorem dX2_init_70 : decode cX2_init 70 = .ok (.aload_n 0, 1) := by decide +kernel
theorem dX2_init_71 : decode cX2_init 71 = .ok (.bipush (-9), 2) := by decide +kernel
theorem dX2_init_73 : decode cX2_init 73 = .ok (.putfield 52, 3) := by decide +kernel
theorem dX2_init_76 : decode cX2_init 76 = .ok (.iconst 0, 1) := by decide +kernel
theorem dX2_init_77 : decode cX2_init 77 = .ok (.istore_n 1, 1) := by decide +kernel
theorem dX2_init_78 : decode cX2_init 78 = .ok (.iload_n 1, 1) := by decide +kernel
theorem dX2_init_79 : decode cX2_init 79 = .ok (.iconst 5, 1) := by decide +kernel
theorem dX2_init_80 : decode cX2_init 80 = .ok (.if_icmp .ge 22, 3) := by decide +kernel
theorem dX2_init_83 : decode cX2_init 83 = .ok (.aload_n 0, 1) := by decide +kernel
theorem dX2_init_84 : decode cX2_init 84 = .ok (.getfield 11, 3) := by decide +kernel
theorem dX2_init_87 : decode cX2_init 87 = .ok (.iload_n 1, 1) := by decide +kernel
theorem dX2_init_88 : decode cX2_init 88 = .ok (.new 9, 3) := by decide +kernel
theorem dX2_init_91 : decode cX2_init 91 = .ok (.dup, 1) := by decide +kernel
theorem dX2_init_92 : decode cX2_init 92 = .ok (.invokespecial 55, 3) := by decide +kernel
theorem dX2_init_95 : decode cX2_init 95 = .ok (.aastore, 1) := by decide +kernel
theorem dX2_init_96 : decode cX2_init 96 = .ok (.iinc 1 1, 3) := by decide +kernel
theorem dX2_init_99 : decode cX2_init 99 = .ok (.goto (-21), 3) := by decide +kernel
theorem dX2_init_102 : decode cX2_init 102 = .ok (.iconst 0, 1) := by decide +kernel
theorem dX2_init_103 : decode cX2_init 103 = .ok (.istore_n 1, 1) := by decide +kernel
theorem dX2_init_104 : decode cX2_init 104 = .ok (.iload_n 1, 1) := by decide +kernel
theorem dX2_init_105 : decode cX2_init 105 = .ok (.bipush 6, 2) := by decide +kernel
theorem dX2_init_107 : decode cX2_init 107 = .ok (.if_icmp .ge 22, 3) := by decide +kernel
theorem dX2_init_110 : decode cX2_init 110 = .ok (.aload_n 0, 1) := by decide +kernel
theorem dX2_init_111 : decode cX2_init 111 = .ok (.getfield 23, 3) := by decide +kernel
theorem dX2_init_114 : decode cX2_init 114 = .ok (.iload_n 1, 1) := by decide +kernel
theorem dX2_init_115 : decode cX2_init 115 = .ok (.new 21, 3) := by decide +kernel
theorem dX2_init_118 : decode cX2_init 118 = .ok (.dup, 1) := by decide +kernel
theorem dX2_init_119 : decode cX2_init 119 = .ok (.invokespecial 56, 3) := by decide +kernel
theorem dX2_init_122 : decode cX2_init 122 = .ok (.aastore, 1) := by decide +kernel
theorem dX2_init_123 : decode cX2_init 123 = .ok (.iinc 1 1, 3) := by decide +kernel
theorem dX2_init_126 : decode cX2_init 126 = .ok (.goto (-22), 3) := by decide +kernel
theorem dX2_init_129 : decode cX2_init 129 = .ok (.return_, 1) := by decide +kernel
theorem dX2_clear_0 : decode cX2_clear 0 = .ok (.aload_n 0, 1) := by decide +kernel
theorem dX2_clear_1 : decode cX2_clear 1 = .ok (.iconst 0, 1) := by decide +kernel
theorem dX2_clear_2 : decode cX2_clear 2 = .ok (.putfield 17, 3) := by decide +kernel
theorem dX2_clear_5 : decode cX2_clear 5 = .ok (.aload_n 0, 1) := by decide +kernel
theorem dX2_clear_6 : decode cX2_clear 6 = .ok (.iconst 0, 1) := by decide +kernel
theorem dX2_clear_7 : decode cX2_clear 7 = .ok (.putfield 27, 3) := by decide +kernel
theorem dX2_clear_10 : decode cX2_clear 10 = .ok (.iconst 0, 1) := by decide +kernel
theorem dX2_clear_11 : decode cX2_clear 11 = .ok (.istore_n 1, 1) := by decide +kernel
theorem dX2_clear_12 : decode cX2_clear 12 = .ok (.iload_n 1, 1) := by decide +kernel
theorem dX2_clear_13 : decode cX2_clear 13 = .ok (.bipush 12, 2) := by decide +kernel
theorem dX2_clear_15 : decode cX2_clear 15 = .ok (.if_icmp .ge 16, 3) := by decide +kernel
theorem dX2_clear_18 : decode cX2_clear 18 = .ok (.aload_n 0, 1) := by decide +kernel
theorem dX2_clear_19 : decode cX2_clear 19 = .ok (.getfield 30, 3) := by decide +kernel
theorem dX2_clear_22 : decode cX2_clear 22 = .ok (.iload_n 1, 1) := by decide +kernel
theorem dX2_clear_23 : decode cX2_clear 23 = .ok (.iconst 0, 1) := by decide +kernel
theorem dX2_clear_24 : decode cX2_clear 24 = .ok (.iastore, 1) := by decide +kernel
theorem dX2_clear_25 : decode cX2_clear 25 = .ok (.iinc 1 1, 3) := by decide +kernel
theorem dX2_clear_28 : decode cX2_clear 28 = .ok (.goto (-16), 3) := by decide +kernel
theorem dX2_clear_31 : decode cX2_clear 31 = .ok (.aload_n 0, 1) := by decide +kernel
theorem dX2_clear_32 : decode cX2_clear 32 = .ok (.iconst 5, 1) := by decide +kernel
theorem dX2_clear_33 : decode cX2_clear 33 = .ok (.putfield 34, 3) := by decide +kernel
theorem dX2_clear_36 : decode cX2_clear 36 = .ok (.aload_n 0, 1) := by decide +kernel
theorem dX2_clear_37 : decode cX2_clear 37 = .ok (.bipush (-9), 2) := by decide +kernel
theorem dX2_clear_39 : decode cX2_clear 39 = .ok (.putfield 40, 3) := by decide +kernel
theorem dX2_clear_42 : decode cX2_clear 42 = .ok (.return_, 1) := by decide +kernel
theorem dX2_copy_0 : decode cX2_copy 0 = .ok (.aload_n 0, 1) := by decide +kernel
theorem dX2_copy_1 : decode cX2_copy 1 = .ok (.aload_n 1, 1) := by decide +kernel
theorem dX2_copy_2 : decode cX2_copy 2 = .ok (.getfield 17, 3) := by decide +kernel
theorem dX2_copy_5 : decode cX2_copy 5 = .ok (.putfield 17, 3) := by decide +kernel
theorem dX2_copy_8 : decode cX2_copy 8 = .ok (.iconst 0, 1) := by decide +kernel
theorem dX2_copy_9 : decode cX2_copy 9 = .ok (.istore_n 2, 1) := by decide +kernel
theorem dX2_copy_10 : decode cX2_copy 10 = .ok (.iload_n 2, 1) := by decide +kernel
theorem dX2_copy_11 : decode cX2_copy 11 = .ok (.iconst 5, 1) := by decide +kernel
theorem dX2_copy_12 : decode cX2_copy 12 = .ok (.if_icmp .ge 24, 3) := by decide +kernel
theorem dX2_copy_15 : decode cX2_copy 15 = .ok (.aload_n 0, 1) := by decide +kernel
theorem dX2_copy_16 : decode cX2_copy 16 = .ok (.getfield 11, 3) := by decide +kernel
theorem dX2_copy_19 : decode cX2_copy 19 = .ok (.iload_n 2, 1) := by decide +kernel
theorem dX2_copy_20 : decode cX2_copy 20 = .ok (.aaload, 1) := by decide +kernel
theorem dX2_copy_21 : decode cX2_copy 21 = .ok (.aload_n 1, 1) := by decide +kernel
theorem dX2_copy_22 : decode cX2_copy 22 = .ok (.getfield 11, 3) := by decide +kernel
theorem dX2_copy_25 : decode cX2_copy 25 = .ok (.iload_n 2, 1) := by decide +kernel
theorem dX2_copy_26 : decode cX2_copy 26 = .ok (.aaload, 1) := by decide +kernel
theorem dX2_copy_27 : decode cX2_copy 27 = .ok (.invokevirtual 57, 3) := by decide +kernel
theorem dX2_copy_30 : decode cX2_copy 30 = .ok (.iinc 2 1, 3) := by decide +kernel
theorem dX2_copy_33 : decode cX2_copy 33 = .ok (.goto (-23), 3) := by decide +kernel
theorem dX2_copy_36 : decode cX2_copy 36 = .ok (.aload_n 0, 1) := by decide +kernel
theorem dX2_copy_37 : decode cX2_copy 37 = .ok (.aload_n 1, 1) := by decide +kernel
theorem dX2_copy_38 : decode cX2_copy 38 = .ok (.getfield 27, 3) := by decide +kernel
theorem dX2_copy_41 : decode cX2_copy 41 = .ok (.putfield 27, 3) := by decide +kernel
theorem dX2_copy_44 : decode cX2_copy 44 = .ok (.iconst 0, 1) := by decide +kernel
theorem dX2_copy_45 : decode cX2_copy 45 = .ok (.istore_n 2, 1) := by decide +kernel
theorem dX2_copy_46 : decode cX2_copy 46 = .ok (.iload_n 2, 1) := by decide +kernel
theorem dX2_copy_47 : decode cX2_copy 47 = .ok (.bipush 6, 2) := by decide +kernel
theorem dX2_copy_49 : decode cX2_copy 49 = .ok (.if_icmp .ge 24, 3) := by decide +kernel
theorem dX2_copy_52 : decode cX2_copy 52 = .ok (.aload_n 0, 1) := by decide +kernel
theorem dX2_copy_53 : decode cX2_copy 53 = .ok (.getfield 23, 3) := by decide +kernel
theorem dX2_copy_56 : decode cX2_copy 56 = .ok (.iload_n 2, 1) := by decide +kernel
theorem dX2_copy_57 : decode cX2_copy 57 = .ok (.aaload, 1) := by decide +kernel
theorem dX2_copy_58 : decode cX2_copy 58 = .ok (.aload_n 1, 1) := by decide +kernel
theorem dX2_copy_59 : decode cX2_copy 59 = .ok (.getfield 23, 3) := by decide +kernel
theorem dX2_copy_62 : decode cX2_copy 62 = .ok (.iload_n 2, 1) := by decide +kernel
theorem dX2_copy_63 : decode cX2_copy 63 = .ok (.aaload, 1) := by decide +kernel
theorem dX2_copy_64 : decode cX2_copy 64 = .ok (.invokevirtual 61, 3) := by decide +kernel
theorem dX2_copy_67 : decode cX2_copy 67 = .ok (.iinc 2 1, 3) := by decide +kernel
theorem dX2_copy_70 : decode cX2_copy 70 = .ok (.goto (-24), 3) := by decide +kernel
theorem dX2_copy_73 : decode cX2_copy 73 = .ok (.aload_n 1, 1) := by decide +kernel
theorem dX2_copy_74 : decode cX2_copy 74 = .ok (.getfield 30, 3) := by decide +kernel
theorem dX2_copy_77 : decode cX2_copy 77 = .ok (.iconst 0, 1) := by decide +kernel
theorem dX2_copy_78 : decode cX2_copy 78 = .ok (.aload_n 0, 1) := by decide +kernel
theorem dX2_copy_79 : decode cX2_copy 79 = .ok (.getfield 30, 3) := by decide +kernel
theorem dX2_copy_82 : decode cX2_copy 82 = .ok (.iconst 0, 1) := by decide +kernel
theorem dX2_copy_83 : decode cX2_copy 83 = .ok (.bipush 12, 2) := by decide +kernel
theorem dX2_copy_85 : decode cX2_copy 85 = .ok (.invokestatic 64, 3) := by decide +kernel
theorem dX2_copy_88 : decode cX2_copy 88 = .ok (.aload_n 0, 1) := by decide +kernel
theorem dX2_copy_89 : decode cX2_copy 89 = .ok (.aload_n 1, 1) := by decide +kernel
theorem dX2_copy_90 : decode cX2_copy 90 = .ok (.getfield 34, 3) := by decide +kernel
theorem dX2_copy_93 : decode cX2_copy 93 = .ok (.putfield 34, 3) := by decide +kernel
theorem dX2_copy_96 : decode cX2_copy 96 = .ok (.aload_n 0, 1) := by decide +kernel
theorem dX2_copy_97 : decode cX2_copy 97 = .ok (.aload_n 1, 1) := by decide +kernel
theorem dX2_copy_98 : decode cX2_copy 98 = .ok (.getfield 37, 3) := by decide +kernel
theorem dX2_copy_101 : decode cX2_copy 101 = .ok (.putfield 37, 3) := by decide +kernel
theorem dX2_copy_104 : decode cX2_copy 104 = .ok (.aload_n 0, 1) := by decide +kernel
theorem dX2_copy_105 : decode cX2_copy 105 = .ok (.aload_n 1, 1) := by decide +kernel
theorem dX2_copy_106 : decode cX2_copy 106 = .ok (.getfield 40, 3) := by decide +kernel
theorem dX2_copy_109 : decode cX2_copy 109 = .ok (.putfield 40, 3) := by decide +kernel
theorem dX2_copy_112 : decode cX2_copy 112 = .ok (.aload_n 0, 1) := by decide +kernel
theorem dX2_copy_113 : decode cX2_copy 113 = .ok (.aload_n 1, 1) := by decide +kernel
theorem dX2_copy_114 : decode cX2_copy 114 = .ok (.getfield 43, 3) := by decide +kernel
theorem dX2_copy_117 : decode cX2_copy 117 = .ok (.putfield 43, 3) := by decide +kernel
theorem dX2_copy_120 : decode cX2_copy 120 = .ok (.aload_n 0, 1) := by decide +kernel
theorem dX2_copy_121 : decode cX2_copy 121 = .ok (.aload_n 1, 1) := by decide +kernel
theorem dX2_copy_122 : decode cX2_copy 122 = .ok (.getfield 46, 3) := by decide +kernel
theorem dX2_copy_125 : decode cX2_copy 125 = .ok (.putfield 46, 3) := by decide +kernel
theorem dX2_copy_128 : decode cX2_copy 128 = .ok (.aload_n 0, 1) := by decide +kernel
theorem dX2_copy_129 : decode cX2_copy 129 = .ok (.aload_n 1, 1) := by decide +kernel
theorem dX2_copy_130 : decode cX2_copy 130 = .ok (.getfield 49, 3) := by decide +kernel
theorem dX2_copy_133 : decode cX2_copy 133 = .ok (.putfield 49, 3) := by decide +kernel
theorem dX2_copy_136 : decode cX2_copy 136 = .ok (.aload_n 0, 1) := by decide +kernel
theorem dX2_copy_137 : decode cX2_copy 137 = .ok (.aload_n 1, 1) := by decide +kernel
theorem dX2_copy_138 : decode cX2_copy 138 = .ok (.getfield 52, 3) := by decide +kernel
theorem dX2_copy_141 : decode cX2_copy 141 = .ok (.putfield 52, 3) := by decide +kernel
theorem dX2_copy_144 : decode cX2_copy 144 = .ok (.return_, 1) := by decide +kernel
theorem dX2_lotAt_0 : decode cX2_lotAt 0 = .ok (.iload_n 1, 1) := by decide +kernel
theorem dX2_lotAt_1 : decode cX2_lotAt 1 = .ok (.ifCond .lt 25, 3) := by decide +kernel
theorem dX2_lotAt_4 : decode cX2_lotAt 4 = .ok (.iload_n 1, 1) := by decide +kernel
theorem dX2_lotAt_5 : decode cX2_lotAt 5 = .ok (.aload_n 0, 1) := by decide +kernel
theorem dX2_lotAt_6 : decode cX2_lotAt 6 = .ok (.getfield 17, 3) := by decide +kernel
theorem dX2_lotAt_9 : decode cX2_lotAt 9 = .ok (.if_icmp .ge 17, 3) := by decide +kernel
theorem dX2_lotAt_12 : decode cX2_lotAt 12 = .ok (.iload_n 1, 1) := by decide +kernel
theorem dX2_lotAt_13 : decode cX2_lotAt 13 = .ok (.iconst 5, 1) := by decide +kernel
theorem dX2_lotAt_14 : decode cX2_lotAt 14 = .ok (.if_icmp .ge 12, 3) := by decide +kernel
theorem dX2_lotAt_17 : decode cX2_lotAt 17 = .ok (.aload_n 0, 1) := by decide +kernel
theorem dX2_lotAt_18 : decode cX2_lotAt 18 = .ok (.getfield 11, 3) := by decide +kernel
theorem dX2_lotAt_21 : decode cX2_lotAt 21 = .ok (.iload_n 1, 1) := by decide +kernel
theorem dX2_lotAt_22 : decode cX2_lotAt 22 = .ok (.aaload, 1) := by decide +kernel
theorem dX2_lotAt_23 : decode cX2_lotAt 23 = .ok (.goto 4, 3) := by decide +kernel
theorem dX2_lotAt_26 : decode cX2_lotAt 26 = .ok (.aconst_null, 1) := by decide +kernel
theorem dX2_lotAt_27 : decode cX2_lotAt 27 = .ok (.areturn, 1) := by decide +kernel
theorem dX2_unsoldAt_0 : decode cX2_unsoldAt 0 = .ok (.aload_n 0, 1) := by decide +kernel
theorem dX2_unsoldAt_1 : decode cX2_unsoldAt 1 = .ok (.iload_n 1, 1) := by decide +kernel
theorem dX2_unsoldAt_2 : decode cX2_unsoldAt 2 = .ok (.invokevirtual 70, 3) := by decide +kernel
theorem dX2_unsoldAt_5 : decode cX2_unsoldAt 5 = .ok (.astore_n 2, 1) := by decide +kernel
theorem dX2_unsoldAt_6 : decode cX2_unsoldAt 6 = .ok (.aload_n 2, 1) := by decide +kernel
theorem dX2_unsoldAt_7 : decode cX2_unsoldAt 7 = .ok (.ifnull 10, 3) := by decide +kernel
theorem dX2_unsoldAt_10 : decode cX2_unsoldAt 10 = .ok (.aload_n 2, 1) := by decide +kernel
theorem dX2_unsoldAt_11 : decode cX2_unsoldAt 11 = .ok (.getfield 74, 3) := by decide +kernel
theorem dX2_unsoldAt_14 : decode cX2_unsoldAt 14 = .ok (.ifCond .eq 7, 3) := by decide +kernel
theorem dX2_unsoldAt_17 : decode cX2_unsoldAt 17 = .ok (.aconst_null, 1) := by decide +kernel
theorem dX2_unsoldAt_18 : decode cX2_unsoldAt 18 = .ok (.goto 4, 3) := by decide +kernel
theorem dX2_unsoldAt_21 : decode cX2_unsoldAt 21 = .ok (.aload_n 2, 1) := by decide +kernel
theorem dX2_unsoldAt_22 : decode cX2_unsoldAt 22 = .ok (.areturn, 1) := by decide +kernel
theorem dX2_bidderAt_0 : decode cX2_bidderAt 0 = .ok (.iload_n 1, 1) := by decide +kernel
theorem dX2_bidderAt_1 : decode cX2_bidderAt 1 = .ok (.ifCond .lt 21, 3) := by decide +kernel
theorem dX2_bidderAt_4 : decode cX2_bidderAt 4 = .ok (.iload_n 1, 1) := by decide +kernel
theorem dX2_bidderAt_5 : decode cX2_bidderAt 5 = .ok (.aload_n 0, 1) := by decide +kernel
theorem dX2_bidderAt_6 : decode cX2_bidderAt 6 = .ok (.getfield 27, 3) := by decide +kernel
theorem dX2_bidderAt_9 : decode cX2_bidderAt 9 = .ok (.if_icmp .ge 13, 3) := by decide +kernel
theorem dX2_bidderAt_12 : decode cX2_bidderAt 12 = .ok (.iload_n 1, 1) := by decide +kernel
theorem dX2_bidderAt_13 : decode cX2_bidderAt 13 = .ok (.bipush 6, 2) := by decide +kernel
theorem dX2_bidderAt_15 : decode cX2_bidderAt 15 = .ok (.if_icmp .ge 7, 3) := by decide +kernel
theorem dX2_bidderAt_18 : decode cX2_bidderAt 18 = .ok (.iconst 1, 1) := by decide +kernel
theorem dX2_bidderAt_19 : decode cX2_bidderAt 19 = .ok (.goto 4, 3) := by decide +kernel
theorem dX2_bidderAt_22 : decode cX2_bidderAt 22 = .ok (.iconst 0, 1) := by decide +kernel
theorem dX2_bidderAt_23 : decode cX2_bidderAt 23 = .ok (.istore_n 2, 1) := by decide +kernel
theorem dX2_bidderAt_24 : decode cX2_bidderAt 24 = .ok (.iload_n 2, 1) := by decide +kernel
theorem dX2_bidderAt_25 : decode cX2_bidderAt 25 = .ok (.ifCond .eq 12, 3) := by decide +kernel
theorem dX2_bidderAt_28 : decode cX2_bidderAt 28 = .ok (.aload_n 0, 1) := by decide +kernel
theorem dX2_bidderAt_29 : decode cX2_bidderAt 29 = .ok (.getfield 23, 3) := by decide +kernel
theorem dX2_bidderAt_32 : decode cX2_bidderAt 32 = .ok (.iload_n 1, 1) := by decide +kernel
theorem dX2_bidderAt_33 : decode cX2_bidderAt 33 = .ok (.aaload, 1) := by decide +kernel
theorem dX2_bidderAt_34 : decode cX2_bidderAt 34 = .ok (.goto 4, 3) := by decide +kernel
theorem dX2_bidderAt_37 : decode cX2_bidderAt 37 = .ok (.aconst_null, 1) := by decide +kernel
theorem dX2_bidderAt_38 : decode cX2_bidderAt 38 = .ok (.areturn, 1) := by decide +kernel
theorem dX2_burning_0 : decode cX2_burning 0 = .ok (.aload_n 0, 1) := by decide +kernel
theorem dX2_burning_1 : decode cX2_burning 1 = .ok (.aload_n 0, 1) := by decide +kernel
theorem dX2_burning_2 : decode cX2_burning 2 = .ok (.getfield 40, 3) := by decide +kernel
theorem dX2_burning_5 : decode cX2_burning 5 = .ok (.invokevirtual 70, 3) := by decide +kernel
theorem dX2_burning_8 : decode cX2_burning 8 = .ok (.areturn, 1) := by decide +kernel
theorem dX2_addLot_0 : decode cX2_addLot 0 = .ok (.aload_n 0, 1) := by decide +kernel
theorem dX2_addLot_1 : decode cX2_addLot 1 = .ok (.getfield 17, 3) := by decide +kernel
theorem dX2_addLot_4 : decode cX2_addLot 4 = .ok (.iconst 5, 1) := by decide +kernel
theorem dX2_addLot_5 : decode cX2_addLot 5 = .ok (.if_icmp .lt 6, 3) := by decide +kernel
theorem dX2_addLot_8 : decode cX2_addLot 8 = .ok (.bipush (-2), 2) := by decide +kernel
theorem dX2_addLot_10 : decode cX2_addLot 10 = .ok (.ireturn, 1) := by decide +kernel
theorem dX2_addLot_11 : decode cX2_addLot 11 = .ok (.aload_n 0, 1) := by decide +kernel
theorem dX2_addLot_12 : decode cX2_addLot 12 = .ok (.getfield 11, 3) := by decide +kernel
theorem dX2_addLot_15 : decode cX2_addLot 15 = .ok (.aload_n 0, 1) := by decide +kernel
theorem dX2_addLot_16 : decode cX2_addLot 16 = .ok (.getfield 17, 3) := by decide +kernel
theorem dX2_addLot_19 : decode cX2_addLot 19 = .ok (.aaload, 1) := by decide +kernel
theorem dX2_addLot_20 : decode cX2_addLot 20 = .ok (.iload_n 1, 1) := by decide +kernel
theorem dX2_addLot_21 : decode cX2_addLot 21 = .ok (.iload_n 2, 1) := by decide +kernel
theorem dX2_addLot_22 : decode cX2_addLot 22 = .ok (.invokevirtual 78, 3) := by decide +kernel
theorem dX2_addLot_25 : decode cX2_addLot 25 = .ok (.aload_n 0, 1) := by decide +kernel
theorem dX2_addLot_26 : decode cX2_addLot 26 = .ok (.dup, 1) := by decide +kernel
theorem dX2_addLot_27 : decode cX2_addLot 27 = .ok (.getfield 17, 3) := by decide +kernel
theorem dX2_addLot_30 : decode cX2_addLot 30 = .ok (.iconst 1, 1) := by decide +kernel
theorem dX2_addLot_31 : decode cX2_addLot 31 = .ok (.iadd, 1) := by decide +kernel
theorem dX2_addLot_32 : decode cX2_addLot 32 = .ok (.putfield 17, 3) := by decide +kernel
theorem dX2_addLot_35 : decode cX2_addLot 35 = .ok (.aload_n 0, 1) := by decide +kernel
theorem dX2_addLot_36 : decode cX2_addLot 36 = .ok (.getfield 17, 3) := by decide +kernel
theorem dX2_addLot_39 : decode cX2_addLot 39 = .ok (.iconst 1, 1) := by decide +kernel
theorem dX2_addLot_40 : decode cX2_addLot 40 = .ok (.isub, 1) := by decide +kernel
theorem dX2_addLot_41 : decode cX2_addLot 41 = .ok (.ireturn, 1) := by decide +kernel
theorem dX2_addBidder_0 : decode cX2_addBidder 0 = .ok (.aload_n 0, 1) := by decide +kernel
theorem dX2_addBidder_1 : decode cX2_addBidder 1 = .ok (.getfield 27, 3) := by decide +kernel
theorem dX2_addBidder_4 : decode cX2_addBidder 4 = .ok (.bipush 6, 2) := by decide +kernel
theorem dX2_addBidder_6 : decode cX2_addBidder 6 = .ok (.if_icmp .lt 6, 3) := by decide +kernel
theorem dX2_addBidder_9 : decode cX2_addBidder 9 = .ok (.bipush (-2), 2) := by decide +kernel
theorem dX2_addBidder_11 : decode cX2_addBidder 11 = .ok (.ireturn, 1) := by decide +kernel
theorem dX2_addBidder_12 : decode cX2_addBidder 12 = .ok (.aload_n 0, 1) := by decide +kernel
theorem dX2_addBidder_13 : decode cX2_addBidder 13 = .ok (.getfield 23, 3) := by decide +kernel
theorem dX2_addBidder_16 : decode cX2_addBidder 16 = .ok (.aload_n 0, 1) := by decide +kernel
theorem dX2_addBidder_17 : decode cX2_addBidder 17 = .ok (.getfield 27, 3) := by decide +kernel
theorem dX2_addBidder_20 : decode cX2_addBidder 20 = .ok (.aaload, 1) := by decide +kernel
theorem dX2_addBidder_21 : decode cX2_addBidder 21 = .ok (.iload_n 1, 1) := by decide +kernel
theorem dX2_addBidder_22 : decode cX2_addBidder 22 = .ok (.iload_n 2, 1) := by decide +kernel
theorem dX2_addBidder_23 : decode cX2_addBidder 23 = .ok (.iload_n 3, 1) := by decide +kernel
theorem dX2_addBidder_24 : decode cX2_addBidder 24 = .ok (.iload 4, 2) := by decide +kernel
theorem dX2_addBidder_26 : decode cX2_addBidder 26 = .ok (.invokevirtual 82, 3) := by decide +kernel
theorem dX2_addBidder_29 : decode cX2_addBidder 29 = .ok (.aload_n 0, 1) := by decide +kernel
theorem dX2_addBidder_30 : decode cX2_addBidder 30 = .ok (.dup, 1) := by decide +kernel
theorem dX2_addBidder_31 : decode cX2_addBidder 31 = .ok (.getfield 27, 3) := by decide +kernel
theorem dX2_addBidder_34 : decode cX2_addBidder 34 = .ok (.iconst 1, 1) := by decide +kernel
theorem dX2_addBidder_35 : decode cX2_addBidder 35 = .ok (.iadd, 1) := by decide +kernel
theorem dX2_addBidder_36 : decode cX2_addBidder 36 = .ok (.putfield 27, 3) := by decide +kernel
theorem dX2_addBidder_39 : decode cX2_addBidder 39 = .ok (.aload_n 0, 1) := by decide +kernel
theorem dX2_addBidder_40 : decode cX2_addBidder 40 = .ok (.getfield 27, 3) := by decide +kernel
theorem dX2_addBidder_43 : decode cX2_addBidder 43 = .ok (.iconst 1, 1) := by decide +kernel
theorem dX2_addBidder_44 : decode cX2_addBidder 44 = .ok (.isub, 1) := by decide +kernel
theorem dX2_addBidder_45 : decode cX2_addBidder 45 = .ok (.ireturn, 1) := by decide +kernel
theorem dX2_setAlight_0 : decode cX2_setAlight 0 = .ok (.aload_n 0, 1) := by decide +kernel
theorem dX2_setAlight_1 : decode cX2_setAlight 1 = .ok (.iload_n 1, 1) := by decide +kernel
theorem dX2_setAlight_2 : decode cX2_setAlight 2 = .ok (.putfield 40, 3) := by decide +kernel
theorem dX2_setAlight_5 : decode cX2_setAlight 5 = .ok (.aload_n 0, 1) := by decide +kernel
theorem dX2_setAlight_6 : decode cX2_setAlight 6 = .ok (.iconst 0, 1) := by decide +kernel
theorem dX2_setAlight_7 : decode cX2_setAlight 7 = .ok (.putfield 43, 3) := by decide +kernel
theorem dX2_setAlight_10 : decode cX2_setAlight 10 = .ok (.aload_n 0, 1) := by decide +kernel
theorem dX2_setAlight_11 : decode cX2_setAlight 11 = .ok (.iconst 0, 1) := by decide +kernel
theorem dX2_setAlight_12 : decode cX2_setAlight 12 = .ok (.putfield 46, 3) := by decide +kernel
theorem dX2_setAlight_15 : decode cX2_setAlight 15 = .ok (.aload_n 0, 1) := by decide +kernel
theorem dX2_setAlight_16 : decode cX2_setAlight 16 = .ok (.iconst 0, 1) := by decide +kernel
theorem dX2_setAlight_17 : decode cX2_setAlight 17 = .ok (.putfield 49, 3) := by decide +kernel
theorem dX2_setAlight_20 : decode cX2_setAlight 20 = .ok (.aload_n 0, 1) := by decide +kernel
theorem dX2_setAlight_21 : decode cX2_setAlight 21 = .ok (.bipush (-9), 2) := by decide +kernel
theorem dX2_setAlight_23 : decode cX2_setAlight 23 = .ok (.putfield 52, 3) := by decide +kernel
theorem dX2_setAlight_26 : decode cX2_setAlight 26 = .ok (.return_, 1) := by decide +kernel
theorem dX2_burnsNow_0 : decode cX2_burnsNow 0 = .ok (.iconst 1, 1) := by decide +kernel
theorem dX2_burnsNow_1 : decode cX2_burnsNow 1 = .ok (.aload_n 0, 1) := by decide +kernel
theorem dX2_burnsNow_2 : decode cX2_burnsNow 2 = .ok (.getfield 30, 3) := by decide +kernel
theorem dX2_burnsNow_5 : decode cX2_burnsNow 5 = .ok (.aload_n 0, 1) := by decide +kernel
theorem dX2_burnsNow_6 : decode cX2_burnsNow 6 = .ok (.getfield 43, 3) := by decide +kernel
theorem dX2_burnsNow_9 : decode cX2_burnsNow 9 = .ok (.bipush 12, 2) := by decide +kernel
theorem dX2_burnsNow_11 : decode cX2_burnsNow 11 = .ok (.invokestatic 85, 3) := by decide +kernel
theorem dX2_burnsNow_14 : decode cX2_burnsNow 14 = .ok (.iaload, 1) := by decide +kernel
theorem dX2_burnsNow_15 : decode cX2_burnsNow 15 = .ok (.iadd, 1) := by decide +kernel
theorem dX2_burnsNow_16 : decode cX2_burnsNow 16 = .ok (.ireturn, 1) := by decide +kernel
theorem dX2_callOf_0 : decode cX2_callOf 0 = .ok (.aload_n 0, 1) := by decide +kernel
theorem dX2_callOf_1 : decode cX2_callOf 1 = .ok (.invokevirtual 91, 3) := by decide +kernel
theorem dX2_callOf_4 : decode cX2_callOf 4 = .ok (.astore_n 2, 1) := by decide +kernel
theorem dX2_callOf_5 : decode cX2_callOf 5 = .ok (.aload_n 0, 1) := by decide +kernel
theorem dX2_callOf_6 : decode cX2_callOf 6 = .ok (.iload_n 1, 1) := by decide +kernel
theorem dX2_callOf_7 : decode cX2_callOf 7 = .ok (.invokevirtual 95, 3) := by decide +kernel
theorem dX2_callOf_10 : decode cX2_callOf 10 = .ok (.astore_n 3, 1) := by decide +kernel
theorem dX2_callOf_11 : decode cX2_callOf 11 = .ok (.aload_n 2, 1) := by decide +kernel
theorem dX2_callOf_12 : decode cX2_callOf 12 = .ok (.ifnull 15, 3) := by decide +kernel
theorem dX2_callOf_15 : decode cX2_callOf 15 = .ok (.aload_n 3, 1) := by decide +kernel
theorem dX2_callOf_16 : decode cX2_callOf 16 = .ok (.ifnull 11, 3) := by decide +kernel
theorem dX2_callOf_19 : decode cX2_callOf 19 = .ok (.iload_n 1, 1) := by decide +kernel
theorem dX2_callOf_20 : decode cX2_callOf 20 = .ok (.aload_n 0, 1) := by decide +kernel
theorem dX2_callOf_21 : decode cX2_callOf 21 = .ok (.getfield 52, 3) := by decide +kernel
theorem dX2_callOf_24 : decode cX2_callOf 24 = .ok (.if_icmp .ne 5, 3) := by decide +kernel
theorem dX2_callOf_27 : decode cX2_callOf 27 = .ok (.iconst 0, 1) := by decide +kernel
theorem dX2_callOf_28 : decode cX2_callOf 28 = .ok (.ireturn, 1) := by decide +kernel
theorem dX2_callOf_29 : decode cX2_callOf 29 = .ok (.aload_n 3, 1) := by decide +kernel
theorem dX2_callOf_30 : decode cX2_callOf 30 = .ok (.aload_n 0, 1) := by decide +kernel
theorem dX2_callOf_31 : decode cX2_callOf 31 = .ok (.getfield 43, 3) := by decide +kernel
theorem dX2_callOf_34 : decode cX2_callOf 34 = .ok (.aload_n 2, 1) := by decide +kernel
theorem dX2_callOf_35 : decode cX2_callOf 35 = .ok (.getfield 99, 3) := by decide +kernel
theorem dX2_callOf_38 : decode cX2_callOf 38 = .ok (.aload_n 0, 1) := by decide +kernel
theorem dX2_callOf_39 : decode cX2_callOf 39 = .ok (.getfield 46, 3) := by decide +kernel
theorem dX2_callOf_42 : decode cX2_callOf 42 = .ok (.isub, 1) := by decide +kernel
theorem dX2_callOf_43 : decode cX2_callOf 43 = .ok (.aload_n 0, 1) := by decide +kernel
theorem dX2_callOf_44 : decode cX2_callOf 44 = .ok (.invokevirtual 102, 3) := by decide +kernel
theorem dX2_callOf_47 : decode cX2_callOf 47 = .ok (.aload_n 0, 1) := by decide +kernel
theorem dX2_callOf_48 : decode cX2_callOf 48 = .ok (.getfield 49, 3) := by decide +kernel
theorem dX2_callOf_51 : decode cX2_callOf 51 = .ok (.invokevirtual 106, 3) := by decide +kernel
theorem dX2_callOf_54 : decode cX2_callOf 54 = .ok (.ifCond .ne 5, 3) := by decide +kernel
theorem dX2_callOf_57 : decode cX2_callOf 57 = .ok (.iconst 0, 1) := by decide +kernel
theorem dX2_callOf_58 : decode cX2_callOf 58 = .ok (.ireturn, 1) := by decide +kernel
theorem dX2_callOf_59 : decode cX2_callOf 59 = .ok (.aload_n 0, 1) := by decide +kernel
theorem dX2_callOf_60 : decode cX2_callOf 60 = .ok (.getfield 49, 3) := by decide +kernel
theorem dX2_callOf_63 : decode cX2_callOf 63 = .ok (.aload_n 3, 1) := by decide +kernel
theorem dX2_callOf_64 : decode cX2_callOf 64 = .ok (.aload_n 0, 1) := by decide +kernel
theorem dX2_callOf_65 : decode cX2_callOf 65 = .ok (.getfield 34, 3) := by decide +kernel
theorem dX2_callOf_68 : decode cX2_callOf 68 = .ok (.invokevirtual 110, 3) := by decide +kernel
theorem dX2_callOf_71 : decode cX2_callOf 71 = .ok (.iadd, 1) := by decide +kernel
theorem dX2_callOf_72 : decode cX2_callOf 72 = .ok (.istore 4, 2) := by decide +kernel
theorem dX2_callOf_74 : decode cX2_callOf 74 = .ok (.iload 4, 2) := by decide +kernel
theorem dX2_callOf_76 : decode cX2_callOf 76 = .ok (.aload_n 3, 1) := by decide +kernel
theorem dX2_callOf_77 : decode cX2_callOf 77 = .ok (.aload_n 2, 1) := by decide +kernel
theorem dX2_callOf_78 : decode cX2_callOf 78 = .ok (.getfield 114, 3) := by decide +kernel
theorem dX2_callOf_81 : decode cX2_callOf 81 = .ok (.invokevirtual 117, 3) := by decide +kernel
theorem dX2_callOf_84 : decode cX2_callOf 84 = .ok (.if_icmp .gt 8, 3) := by decide +kernel
theorem dX2_callOf_87 : decode cX2_callOf 87 = .ok (.iload 4, 2) := by decide +kernel
theorem dX2_callOf_89 : decode cX2_callOf 89 = .ok (.goto 4, 3) := by decide +kernel
theorem dX2_callOf_92 : decode cX2_callOf 92 = .ok (.iconst 0, 1) := by decide +kernel
theorem dX2_callOf_93 : decode cX2_callOf 93 = .ok (.ireturn, 1) := by decide +kernel
theorem dX2_takeCall_0 : decode cX2_takeCall 0 = .ok (.aload_n 0, 1) := by decide +kernel
theorem dX2_takeCall_1 : decode cX2_takeCall 1 = .ok (.iload_n 2, 1) := by decide +kernel
theorem dX2_takeCall_2 : decode cX2_takeCall 2 = .ok (.putfield 49, 3) := by decide +kernel
theorem dX2_takeCall_5 : decode cX2_takeCall 5 = .ok (.aload_n 0, 1) := by decide +kernel
theorem dX2_takeCall_6 : decode cX2_takeCall 6 = .ok (.iload_n 1, 1) := by decide +kernel
theorem dX2_takeCall_7 : decode cX2_takeCall 7 = .ok (.putfield 52, 3) := by decide +kernel
theorem dX2_takeCall_10 : decode cX2_takeCall 10 = .ok (.aload_n 3, 1) := by decide +kernel
theorem dX2_takeCall_11 : decode cX2_takeCall 11 = .ok (.ifnull 13, 3) := by decide +kernel
theorem dX2_takeCall_14 : decode cX2_takeCall 14 = .ok (.aload_n 3, 1) := by decide +kernel
theorem dX2_takeCall_15 : decode cX2_takeCall 15 = .ok (.aload_n 0, 1) := by decide +kernel
theorem dX2_takeCall_16 : decode cX2_takeCall 16 = .ok (.getfield 43, 3) := by decide +kernel
theorem dX2_takeCall_19 : decode cX2_takeCall 19 = .ok (.iload_n 1, 1) := by decide +kernel
theorem dX2_takeCall_20 : decode cX2_takeCall 20 = .ok (.iload_n 2, 1) := by decide +kernel
theorem dX2_takeCall_21 : decode cX2_takeCall 21 = .ok (.invokevirtual 120, 3) := by decide +kernel
theorem dX2_takeCall_24 : decode cX2_takeCall 24 = .ok (.return_, 1) := by decide +kernel
theorem dX2_goTicks_0 : decode cX2_goTicks 0 = .ok (.iconst 0, 1) := by decide +kernel
theorem dX2_goTicks_1 : decode cX2_goTicks 1 = .ok (.istore_n 3, 1) := by decide +kernel
theorem dX2_goTicks_2 : decode cX2_goTicks 2 = .ok (.iconst 0, 1) := by decide +kernel
theorem dX2_goTicks_3 : decode cX2_goTicks 3 = .ok (.istore 4, 2) := by decide +kernel
theorem dX2_goTicks_5 : decode cX2_goTicks 5 = .ok (.iload 4, 2) := by decide +kernel
theorem dX2_goTicks_7 : decode cX2_goTicks 7 = .ok (.iload_n 1, 1) := by decide +kernel
theorem dX2_goTicks_8 : decode cX2_goTicks 8 = .ok (.if_icmp .ge 24, 3) := by decide +kernel
theorem dX2_goTicks_11 : decode cX2_goTicks 11 = .ok (.aload_n 0, 1) := by decide +kernel
theorem dX2_goTicks_12 : decode cX2_goTicks 12 = .ok (.invokevirtual 91, 3) := by decide +kernel
theorem dX2_goTicks_15 : decode cX2_goTicks 15 = .ok (.ifnull 17, 3) := by decide +kernel
theorem dX2_goTicks_18 : decode cX2_goTicks 18 = .ok (.aload_n 0, 1) := by decide +kernel
theorem dX2_goTicks_19 : decode cX2_goTicks 19 = .ok (.aload_n 2, 1) := by decide +kernel
theorem dX2_goTicks_20 : decode cX2_goTicks 20 = .ok (.invokevirtual 126, 3) := by decide +kernel
theorem dX2_goTicks_23 : decode cX2_goTicks 23 = .ok (.iinc 3 1, 3) := by decide +kernel
theorem dX2_goTicks_26 : decode cX2_goTicks 26 = .ok (.iinc 4 1, 3) := by decide +kernel
theorem dX2_goTicks_29 : decode cX2_goTicks 29 = .ok (.goto (-24), 3) := by decide +kernel
theorem dX2_goTicks_32 : decode cX2_goTicks 32 = .ok (.iload_n 3, 1) := by decide +kernel
theorem dX2_goTicks_33 : decode cX2_goTicks 33 = .ok (.ireturn, 1) := by decide +kernel
theorem dX2_goOneTick_0 : decode cX2_goOneTick 0 = .ok (.iconst 0, 1) := by decide +kernel
theorem dX2_goOneTick_1 : decode cX2_goOneTick 1 = .ok (.istore_n 2, 1) := by decide +kernel
theorem dX2_goOneTick_2 : decode cX2_goOneTick 2 = .ok (.iload_n 2, 1) := by decide +kernel
theorem dX2_goOneTick_3 : decode cX2_goOneTick 3 = .ok (.aload_n 0, 1) := by decide +kernel
theorem dX2_goOneTick_4 : decode cX2_goOneTick 4 = .ok (.getfield 27, 3) := by decide +kernel
theorem dX2_goOneTick_7 : decode cX2_goOneTick 7 = .ok (.if_icmp .ge 26, 3) := by decide +kernel
theorem dX2_goOneTick_10 : decode cX2_goOneTick 10 = .ok (.aload_n 0, 1) := by decide +kernel
theorem dX2_goOneTick_11 : decode cX2_goOneTick 11 = .ok (.iload_n 2, 1) := by decide +kernel
theorem dX2_goOneTick_12 : decode cX2_goOneTick 12 = .ok (.invokevirtual 130, 3) := by decide +kernel
theorem dX2_goOneTick_15 : decode cX2_goOneTick 15 = .ok (.istore_n 3, 1) := by decide +kernel
theorem dX2_goOneTick_16 : decode cX2_goOneTick 16 = .ok (.iload_n 3, 1) := by decide +kernel
theorem dX2_goOneTick_17 : decode cX2_goOneTick 17 = .ok (.ifCond .le 10, 3) := by decide +kernel
theorem dX2_goOneTick_20 : decode cX2_goOneTick 20 = .ok (.aload_n 0, 1) := by decide +kernel
theorem dX2_goOneTick_21 : decode cX2_goOneTick 21 = .ok (.iload_n 2, 1) := by decide +kernel
theorem dX2_goOneTick_22 : decode cX2_goOneTick 22 = .ok (.iload_n 3, 1) := by decide +kernel
theorem dX2_goOneTick_23 : decode cX2_goOneTick 23 = .ok (.aload_n 1, 1) := by decide +kernel
theorem dX2_goOneTick_24 : decode cX2_goOneTick 24 = .ok (.invokevirtual 133, 3) := by decide +kernel
theorem dX2_goOneTick_27 : decode cX2_goOneTick 27 = .ok (.iinc 2 1, 3) := by decide +kernel
theorem dX2_goOneTick_30 : decode cX2_goOneTick 30 = .ok (.goto (-28), 3) := by decide +kernel
theorem dX2_goOneTick_33 : decode cX2_goOneTick 33 = .ok (.aload_n 0, 1) := by decide +kernel
theorem dX2_goOneTick_34 : decode cX2_goOneTick 34 = .ok (.dup, 1) := by decide +kernel
theorem dX2_goOneTick_35 : decode cX2_goOneTick 35 = .ok (.getfield 46, 3) := by decide +kernel
theorem dX2_goOneTick_38 : decode cX2_goOneTick 38 = .ok (.aload_n 0, 1) := by decide +kernel
theorem dX2_goOneTick_39 : decode cX2_goOneTick 39 = .ok (.invokevirtual 102, 3) := by decide +kernel
theorem dX2_goOneTick_42 : decode cX2_goOneTick 42 = .ok (.iadd, 1) := by decide +kernel
theorem dX2_goOneTick_43 : decode cX2_goOneTick 43 = .ok (.putfield 46, 3) := by decide +kernel
theorem dX2_goOneTick_46 : decode cX2_goOneTick 46 = .ok (.aload_n 0, 1) := by decide +kernel
theorem dX2_goOneTick_47 : decode cX2_goOneTick 47 = .ok (.dup, 1) := by decide +kernel
theorem dX2_goOneTick_48 : decode cX2_goOneTick 48 = .ok (.getfield 43, 3) := by decide +kernel
theorem dX2_goOneTick_51 : decode cX2_goOneTick 51 = .ok (.iconst 1, 1) := by decide +kernel
theorem dX2_goOneTick_52 : decode cX2_goOneTick 52 = .ok (.iadd, 1) := by decide +kernel
theorem dX2_goOneTick_53 : decode cX2_goOneTick 53 = .ok (.putfield 43, 3) := by decide +kernel
theorem dX2_goOneTick_56 : decode cX2_goOneTick 56 = .ok (.aload_n 0, 1) := by decide +kernel
theorem dX2_goOneTick_57 : decode cX2_goOneTick 57 = .ok (.invokevirtual 91, 3) := by decide +kernel
theorem dX2_goOneTick_60 : decode cX2_goOneTick 60 = .ok (.astore_n 2, 1) := by decide +kernel
theorem dX2_goOneTick_61 : decode cX2_goOneTick 61 = .ok (.aload_n 2, 1) := by decide +kernel
theorem dX2_goOneTick_62 : decode cX2_goOneTick 62 = .ok (.ifnull 18, 3) := by decide +kernel
theorem dX2_goOneTick_65 : decode cX2_goOneTick 65 = .ok (.aload_n 0, 1) := by decide +kernel
theorem dX2_goOneTick_66 : decode cX2_goOneTick 66 = .ok (.getfield 46, 3) := by decide +kernel
theorem dX2_goOneTick_69 : decode cX2_goOneTick 69 = .ok (.aload_n 2, 1) := by decide +kernel
theorem dX2_goOneTick_70 : decode cX2_goOneTick 70 = .ok (.getfield 99, 3) := by decide +kernel
theorem dX2_goOneTick_73 : decode cX2_goOneTick 73 = .ok (.if_icmp .lt 7, 3) := by decide +kernel
theorem dX2_goOneTick_76 : decode cX2_goOneTick 76 = .ok (.aload_n 0, 1) := by decide +kernel
theorem dX2_goOneTick_77 : decode cX2_goOneTick 77 = .ok (.invokevirtual 137, 3) := by decide +kernel
theorem dX2_goOneTick_80 : decode cX2_goOneTick 80 = .ok (.return_, 1) := by decide +kernel
theorem dX2_putOut_0 : decode cX2_putOut 0 = .ok (.aload_n 0, 1) := by decide +kernel
theorem dX2_putOut_1 : decode cX2_putOut 1 = .ok (.invokevirtual 91, 3) := by decide +kernel
theorem dX2_putOut_4 : decode cX2_putOut 4 = .ok (.astore_n 1, 1) := by decide +kernel
theorem dX2_putOut_5 : decode cX2_putOut 5 = .ok (.aload_n 1, 1) := by decide +kernel
theorem dX2_putOut_6 : decode cX2_putOut 6 = .ok (.ifnull 15, 3) := by decide +kernel
theorem dX2_putOut_9 : decode cX2_putOut 9 = .ok (.aload_n 1, 1) := by decide +kernel
theorem dX2_putOut_10 : decode cX2_putOut 10 = .ok (.aload_n 0, 1) := by decide +kernel
theorem dX2_putOut_11 : decode cX2_putOut 11 = .ok (.getfield 52, 3) := by decide +kernel
theorem dX2_putOut_14 : decode cX2_putOut 14 = .ok (.aload_n 0, 1) := by decide +kernel
theorem dX2_putOut_15 : decode cX2_putOut 15 = .ok (.getfield 49, 3) := by decide +kernel
theorem dX2_putOut_18 : decode cX2_putOut 18 = .ok (.invokevirtual 140, 3) := by decide +kernel
theorem dX2_putOut_21 : decode cX2_putOut 21 = .ok (.aload_n 0, 1) := by decide +kernel
theorem dX2_putOut_22 : decode cX2_putOut 22 = .ok (.aload_n 0, 1) := by decide +kernel
theorem dX2_putOut_23 : decode cX2_putOut 23 = .ok (.getfield 52, 3) := by decide +kernel
theorem dX2_putOut_26 : decode cX2_putOut 26 = .ok (.invokevirtual 95, 3) := by decide +kernel
theorem dX2_putOut_29 : decode cX2_putOut 29 = .ok (.astore_n 2, 1) := by decide +kernel
theorem dX2_putOut_30 : decode cX2_putOut 30 = .ok (.aload_n 2, 1) := by decide +kernel
theorem dX2_putOut_31 : decode cX2_putOut 31 = .ok (.ifnull 20, 3) := by decide +kernel
theorem dX2_putOut_34 : decode cX2_putOut 34 = .ok (.aload_n 2, 1) := by decide +kernel
theorem dX2_putOut_35 : decode cX2_putOut 35 = .ok (.aload_n 2, 1) := by decide +kernel
theorem dX2_putOut_36 : decode cX2_putOut 36 = .ok (.getfield 143, 3) := by decide +kernel
theorem dX2_putOut_39 : decode cX2_putOut 39 = .ok (.aload_n 0, 1) := by decide +kernel
theorem dX2_putOut_40 : decode cX2_putOut 40 = .ok (.getfield 49, 3) := by decide +kernel
theorem dX2_putOut_43 : decode cX2_putOut 43 = .ok (.isub, 1) := by decide +kernel
theorem dX2_putOut_44 : decode cX2_putOut 44 = .ok (.iconst 0, 1) := by decide +kernel
theorem dX2_putOut_45 : decode cX2_putOut 45 = .ok (.invokestatic 146, 3) := by decide +kernel
theorem dX2_putOut_48 : decode cX2_putOut 48 = .ok (.putfield 143, 3) := by decide +kernel
theorem dX2_putOut_51 : decode cX2_putOut 51 = .ok (.aload_n 0, 1) := by decide +kernel
theorem dX2_putOut_52 : decode cX2_putOut 52 = .ok (.bipush (-9), 2) := by decide +kernel
theorem dX2_putOut_54 : decode cX2_putOut 54 = .ok (.putfield 40, 3) := by decide +kernel
theorem dX2_putOut_57 : decode cX2_putOut 57 = .ok (.return_, 1) := by decide +kernel
theorem dX2_soldLots_0 : decode cX2_soldLots 0 = .ok (.iconst 0, 1) := by decide +kernel
theorem dX2_soldLots_1 : decode cX2_soldLots 1 = .ok (.istore_n 1, 1) := by decide +kernel
theorem dX2_soldLots_2 : decode cX2_soldLots 2 = .ok (.iconst 0, 1) := by decide +kernel
theorem dX2_soldLots_3 : decode cX2_soldLots 3 = .ok (.istore_n 2, 1) := by decide +kernel
theorem dX2_soldLots_4 : decode cX2_soldLots 4 = .ok (.iload_n 2, 1) := by decide +kernel
theorem dX2_soldLots_5 : decode cX2_soldLots 5 = .ok (.aload_n 0, 1) := by decide +kernel
theorem dX2_soldLots_6 : decode cX2_soldLots 6 = .ok (.getfield 17, 3) := by decide +kernel
theorem dX2_soldLots_9 : decode cX2_soldLots 9 = .ok (.if_icmp .ge 29, 3) := by decide +kernel
theorem dX2_soldLots_12 : decode cX2_soldLots 12 = .ok (.iload_n 1, 1) := by decide +kernel
theorem dX2_soldLots_13 : decode cX2_soldLots 13 = .ok (.aload_n 0, 1) := by decide +kernel
theorem dX2_soldLots_14 : decode cX2_soldLots 14 = .ok (.getfield 11, 3) := by decide +kernel
theorem dX2_soldLots_17 : decode cX2_soldLots 17 = .ok (.iload_n 2, 1) := by decide +kernel
theorem dX2_soldLots_18 : decode cX2_soldLots 18 = .ok (.aaload, 1) := by decide +kernel
theorem dX2_soldLots_19 : decode cX2_soldLots 19 = .ok (.getfield 74, 3) := by decide +kernel
theorem dX2_soldLots_22 : decode cX2_soldLots 22 = .ok (.ifCond .eq 7, 3) := by decide +kernel
theorem dX2_soldLots_25 : decode cX2_soldLots 25 = .ok (.iconst 1, 1) := by decide +kernel
theorem dX2_soldLots_26 : decode cX2_soldLots 26 = .ok (.goto 4, 3) := by decide +kernel
theorem dX2_soldLots_29 : decode cX2_soldLots 29 = .ok (.iconst 0, 1) := by decide +kernel
theorem dX2_soldLots_30 : decode cX2_soldLots 30 = .ok (.iadd, 1) := by decide +kernel
theorem dX2_soldLots_31 : decode cX2_soldLots 31 = .ok (.istore_n 1, 1) := by decide +kernel
theorem dX2_soldLots_32 : decode cX2_soldLots 32 = .ok (.iinc 2 1, 3) := by decide +kernel
theorem dX2_soldLots_35 : decode cX2_soldLots 35 = .ok (.goto (-31), 3) := by decide +kernel
theorem dX2_soldLots_38 : decode cX2_soldLots 38 = .ok (.iload_n 1, 1) := by decide +kernel
theorem dX2_soldLots_39 : decode cX2_soldLots 39 = .ok (.ireturn, 1) := by decide +kernel
theorem dX2_lotsSoldTo_0 : decode cX2_lotsSoldTo 0 = .ok (.iconst 0, 1) := by decide +kernel
theorem dX2_lotsSoldTo_1 : decode cX2_lotsSoldTo 1 = .ok (.istore_n 2, 1) := by decide +kernel
theorem dX2_lotsSoldTo_2 : decode cX2_lotsSoldTo 2 = .ok (.iconst 0, 1) := by decide +kernel
theorem dX2_lotsSoldTo_3 : decode cX2_lotsSoldTo 3 = .ok (.istore_n 3, 1) := by decide +kernel
theorem dX2_lotsSoldTo_4 : decode cX2_lotsSoldTo 4 = .ok (.iload_n 3, 1) := by decide +kernel
theorem dX2_lotsSoldTo_5 : decode cX2_lotsSoldTo 5 = .ok (.aload_n 0, 1) := by decide +kernel
theorem dX2_lotsSoldTo_6 : decode cX2_lotsSoldTo 6 = .ok (.getfield 17, 3) := by decide +kernel
theorem dX2_lotsSoldTo_9 : decode cX2_lotsSoldTo 9 = .ok (.if_icmp .ge 42, 3) := by decide +kernel
theorem dX2_lotsSoldTo_12 : decode cX2_lotsSoldTo 12 = .ok (.iload_n 2, 1) := by decide +kernel
theorem dX2_lotsSoldTo_13 : decode cX2_lotsSoldTo 13 = .ok (.aload_n 0, 1) := by decide +kernel
theorem dX2_lotsSoldTo_14 : decode cX2_lotsSoldTo 14 = .ok (.getfield 11, 3) := by decide +kernel
theorem dX2_lotsSoldTo_17 : decode cX2_lotsSoldTo 17 = .ok (.iload_n 3, 1) := by decide +kernel
theorem dX2_lotsSoldTo_18 : decode cX2_lotsSoldTo 18 = .ok (.aaload, 1) := by decide +kernel
theorem dX2_lotsSoldTo_19 : decode cX2_lotsSoldTo 19 = .ok (.getfield 74, 3) := by decide +kernel
theorem dX2_lotsSoldTo_22 : decode cX2_lotsSoldTo 22 = .ok (.ifCond .eq 20, 3) := by decide +kernel
theorem dX2_lotsSoldTo_25 : decode cX2_lotsSoldTo 25 = .ok (.aload_n 0, 1) := by decide +kernel
theorem dX2_lotsSoldTo_26 : decode cX2_lotsSoldTo 26 = .ok (.getfield 11, 3) := by decide +kernel
theorem dX2_lotsSoldTo_29 : decode cX2_lotsSoldTo 29 = .ok (.iload_n 3, 1) := by decide +kernel
theorem dX2_lotsSoldTo_30 : decode cX2_lotsSoldTo 30 = .ok (.aaload, 1) := by decide +kernel
theorem dX2_lotsSoldTo_31 : decode cX2_lotsSoldTo 31 = .ok (.getfield 149, 3) := by decide +kernel
theorem dX2_lotsSoldTo_34 : decode cX2_lotsSoldTo 34 = .ok (.iload_n 1, 1) := by decide +kernel
theorem dX2_lotsSoldTo_35 : decode cX2_lotsSoldTo 35 = .ok (.if_icmp .ne 7, 3) := by decide +kernel
theorem dX2_lotsSoldTo_38 : decode cX2_lotsSoldTo 38 = .ok (.iconst 1, 1) := by decide +kernel
theorem dX2_lotsSoldTo_39 : decode cX2_lotsSoldTo 39 = .ok (.goto 4, 3) := by decide +kernel
theorem dX2_lotsSoldTo_42 : decode cX2_lotsSoldTo 42 = .ok (.iconst 0, 1) := by decide +kernel
theorem dX2_lotsSoldTo_43 : decode cX2_lotsSoldTo 43 = .ok (.iadd, 1) := by decide +kernel
theorem dX2_lotsSoldTo_44 : decode cX2_lotsSoldTo 44 = .ok (.istore_n 2, 1) := by decide +kernel
theorem dX2_lotsSoldTo_45 : decode cX2_lotsSoldTo 45 = .ok (.iinc 3 1, 3) := by decide +kernel
theorem dX2_lotsSoldTo_48 : decode cX2_lotsSoldTo 48 = .ok (.goto (-44), 3) := by decide +kernel
theorem dX2_lotsSoldTo_51 : decode cX2_lotsSoldTo 51 = .ok (.iload_n 2, 1) := by decide +kernel
theorem dX2_lotsSoldTo_52 : decode cX2_lotsSoldTo 52 = .ok (.ireturn, 1) := by decide +kernel
theorem dX2_allPrices_0 : decode cX2_allPrices 0 = .ok (.iconst 0, 1) := by decide +kernel
theorem dX2_allPrices_1 : decode cX2_allPrices 1 = .ok (.istore_n 1, 1) := by decide +kernel
theorem dX2_allPrices_2 : decode cX2_allPrices 2 = .ok (.iconst 0, 1) := by decide +kernel
theorem dX2_allPrices_3 : decode cX2_allPrices 3 = .ok (.istore_n 2, 1) := by decide +kernel
theorem dX2_allPrices_4 : decode cX2_allPrices 4 = .ok (.iload_n 2, 1) := by decide +kernel
theorem dX2_allPrices_5 : decode cX2_allPrices 5 = .ok (.aload_n 0, 1) := by decide +kernel
theorem dX2_allPrices_6 : decode cX2_allPrices 6 = .ok (.getfield 17, 3) := by decide +kernel
theorem dX2_allPrices_9 : decode cX2_allPrices 9 = .ok (.if_icmp .ge 37, 3) := by decide +kernel
theorem dX2_allPrices_12 : decode cX2_allPrices 12 = .ok (.iload_n 1, 1) := by decide +kernel
theorem dX2_allPrices_13 : decode cX2_allPrices 13 = .ok (.aload_n 0, 1) := by decide +kernel
theorem dX2_allPrices_14 : decode cX2_allPrices 14 = .ok (.getfield 11, 3) := by decide +kernel
theorem dX2_allPrices_17 : decode cX2_allPrices 17 = .ok (.iload_n 2, 1) := by decide +kernel
theorem dX2_allPrices_18 : decode cX2_allPrices 18 = .ok (.aaload, 1) := by decide +kernel
theorem dX2_allPrices_19 : decode cX2_allPrices 19 = .ok (.getfield 74, 3) := by decide +kernel
theorem dX2_allPrices_22 : decode cX2_allPrices 22 = .ok (.ifCond .eq 15, 3) := by decide +kernel
theorem dX2_allPrices_25 : decode cX2_allPrices 25 = .ok (.aload_n 0, 1) := by decide +kernel
theorem dX2_allPrices_26 : decode cX2_allPrices 26 = .ok (.getfield 11, 3) := by decide +kernel
theorem dX2_allPrices_29 : decode cX2_allPrices 29 = .ok (.iload_n 2, 1) := by decide +kernel
theorem dX2_allPrices_30 : decode cX2_allPrices 30 = .ok (.aaload, 1) := by decide +kernel
theorem dX2_allPrices_31 : decode cX2_allPrices 31 = .ok (.getfield 152, 3) := by decide +kernel
theorem dX2_allPrices_34 : decode cX2_allPrices 34 = .ok (.goto 4, 3) := by decide +kernel
theorem dX2_allPrices_37 : decode cX2_allPrices 37 = .ok (.iconst 0, 1) := by decide +kernel
theorem dX2_allPrices_38 : decode cX2_allPrices 38 = .ok (.iadd, 1) := by decide +kernel
theorem dX2_allPrices_39 : decode cX2_allPrices 39 = .ok (.istore_n 1, 1) := by decide +kernel
theorem dX2_allPrices_40 : decode cX2_allPrices 40 = .ok (.iinc 2 1, 3) := by decide +kernel
theorem dX2_allPrices_43 : decode cX2_allPrices 43 = .ok (.goto (-39), 3) := by decide +kernel
theorem dX2_allPrices_46 : decode cX2_allPrices 46 = .ok (.iload_n 1, 1) := by decide +kernel
theorem dX2_allPrices_47 : decode cX2_allPrices 47 = .ok (.ireturn, 1) := by decide +kernel
theorem dX2_allPurses_0 : decode cX2_allPurses 0 = .ok (.iconst 0, 1) := by decide +kernel
theorem dX2_allPurses_1 : decode cX2_allPurses 1 = .ok (.istore_n 1, 1) := by decide +kernel
theorem dX2_allPurses_2 : decode cX2_allPurses 2 = .ok (.iconst 0, 1) := by decide +kernel
theorem dX2_allPurses_3 : decode cX2_allPurses 3 = .ok (.istore_n 2, 1) := by decide +kernel
theorem dX2_allPurses_4 : decode cX2_allPurses 4 = .ok (.iload_n 2, 1) := by decide +kernel
theorem dX2_allPurses_5 : decode cX2_allPurses 5 = .ok (.aload_n 0, 1) := by decide +kernel
theorem dX2_allPurses_6 : decode cX2_allPurses 6 = .ok (.getfield 27, 3) := by decide +kernel
theorem dX2_allPurses_9 : decode cX2_allPurses 9 = .ok (.if_icmp .ge 21, 3) := by decide +kernel
theorem dX2_allPurses_12 : decode cX2_allPurses 12 = .ok (.iload_n 1, 1) := by decide +kernel
theorem dX2_allPurses_13 : decode cX2_allPurses 13 = .ok (.aload_n 0, 1) := by decide +kernel
theorem dX2_allPurses_14 : decode cX2_allPurses 14 = .ok (.getfield 23, 3) := by decide +kernel
theorem dX2_allPurses_17 : decode cX2_allPurses 17 = .ok (.iload_n 2, 1) := by decide +kernel
theorem dX2_allPurses_18 : decode cX2_allPurses 18 = .ok (.aaload, 1) := by decide +kernel
theorem dX2_allPurses_19 : decode cX2_allPurses 19 = .ok (.getfield 143, 3) := by decide +kernel
theorem dX2_allPurses_22 : decode cX2_allPurses 22 = .ok (.iadd, 1) := by decide +kernel
theorem dX2_allPurses_23 : decode cX2_allPurses 23 = .ok (.istore_n 1, 1) := by decide +kernel
theorem dX2_allPurses_24 : decode cX2_allPurses 24 = .ok (.iinc 2 1, 3) := by decide +kernel
theorem dX2_allPurses_27 : decode cX2_allPurses 27 = .ok (.goto (-23), 3) := by decide +kernel
theorem dX2_allPurses_30 : decode cX2_allPurses 30 = .ok (.iload_n 1, 1) := by decide +kernel
theorem dX2_allPurses_31 : decode cX2_allPurses 31 = .ok (.ireturn, 1) := by decide +kernel
theorem dX2_bidderOfMost_0 : decode cX2_bidderOfMost 0 = .ok (.bipush (-3), 2) := by decide +kernel
theorem dX2_bidderOfMost_2 : decode cX2_bidderOfMost 2 = .ok (.istore_n 2, 1) := by decide +kernel
theorem dX2_bidderOfMost_3 : decode cX2_bidderOfMost 3 = .ok (.iconst (-1), 1) := by decide +kernel
theorem dX2_bidderOfMost_4 : decode cX2_bidderOfMost 4 = .ok (.istore_n 3, 1) := by decide +kernel
theorem dX2_bidderOfMost_5 : decode cX2_bidderOfMost 5 = .ok (.iconst 0, 1) := by decide +kernel
theorem dX2_bidderOfMost_6 : decode cX2_bidderOfMost 6 = .ok (.istore 4, 2) := by decide +kernel
theorem dX2_bidderOfMost_8 : decode cX2_bidderOfMost 8 = .ok (.iload 4, 2) := by decide +kernel
theorem dX2_bidderOfMost_10 : decode cX2_bidderOfMost 10 = .ok (.aload_n 0, 1) := by decide +kernel
theorem dX2_bidderOfMost_11 : decode cX2_bidderOfMost 11 = .ok (.getfield 27, 3) := by decide +kernel
theorem dX2_bidderOfMost_14 : decode cX2_bidderOfMost 14 = .ok (.if_icmp .ge 34, 3) := by decide +kernel
theorem dX2_bidderOfMost_17 : decode cX2_bidderOfMost 17 = .ok (.aload_n 0, 1) := by decide +kernel
theorem dX2_bidderOfMost_18 : decode cX2_bidderOfMost 18 = .ok (.getfield 23, 3) := by decide +kernel
theorem dX2_bidderOfMost_21 : decode cX2_bidderOfMost 21 = .ok (.iload 4, 2) := by decide +kernel
theorem dX2_bidderOfMost_23 : decode cX2_bidderOfMost 23 = .ok (.aaload, 1) := by decide +kernel
theorem dX2_bidderOfMost_24 : decode cX2_bidderOfMost 24 = .ok (.iload_n 1, 1) := by decide +kernel
theorem dX2_bidderOfMost_25 : decode cX2_bidderOfMost 25 = .ok (.invokevirtual 117, 3) := by decide +kernel
theorem dX2_bidderOfMost_28 : decode cX2_bidderOfMost 28 = .ok (.istore 5, 2) := by decide +kernel
theorem dX2_bidderOfMost_30 : decode cX2_bidderOfMost 30 = .ok (.iload 5, 2) := by decide +kernel
theorem dX2_bidderOfMost_32 : decode cX2_bidderOfMost 32 = .ok (.iload_n 3, 1) := by decide +kernel
theorem dX2_bidderOfMost_33 : decode cX2_bidderOfMost 33 = .ok (.if_icmp .le 9, 3) := by decide +kernel
theorem dX2_bidderOfMost_36 : decode cX2_bidderOfMost 36 = .ok (.iload 4, 2) := by decide +kernel
theorem dX2_bidderOfMost_38 : decode cX2_bidderOfMost 38 = .ok (.istore_n 2, 1) := by decide +kernel
theorem dX2_bidderOfMost_39 : decode cX2_bidderOfMost 39 = .ok (.iload 5, 2) := by decide +kernel
theorem dX2_bidderOfMost_41 : decode cX2_bidderOfMost 41 = .ok (.istore_n 3, 1) := by decide +kernel
theorem dX2_bidderOfMost_42 : decode cX2_bidderOfMost 42 = .ok (.iinc 4 1, 3) := by decide +kernel
theorem dX2_bidderOfMost_45 : decode cX2_bidderOfMost 45 = .ok (.goto (-37), 3) := by decide +kernel
theorem dX2_bidderOfMost_48 : decode cX2_bidderOfMost 48 = .ok (.iload_n 2, 1) := by decide +kernel
theorem dX2_bidderOfMost_49 : decode cX2_bidderOfMost 49 = .ok (.ireturn, 1) := by decide +kernel
theorem dX3_init_0 : decode cX3_init 0 = .ok (.aload_n 0, 1) := by decide +kernel
theorem dX3_init_1 : decode cX3_init 1 = .ok (.invokespecial 3, 3) := by decide +kernel
theorem dX3_init_4 : decode cX3_init 4 = .ok (.aload_n 0, 1) := by decide +kernel
theorem dX3_init_5 : decode cX3_init 5 = .ok (.iconst 1, 1) := by decide +kernel
theorem dX3_init_6 : decode cX3_init 6 = .ok (.putfield 9, 3) := by decide +kernel
theorem dX3_init_9 : decode cX3_init 9 = .ok (.aload_n 0, 1) := by decide +kernel
theorem dX3_init_10 : decode cX3_init 10 = .ok (.iconst 1, 1) := by decide +kernel
theorem dX3_init_11 : decode cX3_init 11 = .ok (.putfield 15, 3) := by decide +kernel
theorem dX3_init_14 : decode cX3_init 14 = .ok (.aload_n 0, 1) := by decide +kernel
theorem dX3_init_15 : decode cX3_init 15 = .ok (.iconst 0, 1) := by decide +kernel
theorem dX3_init_16 : decode cX3_init 16 = .ok (.putfield 18, 3) := by decide +kernel
theorem dX3_init_19 : decode cX3_init 19 = .ok (.aload_n 0, 1) := by decide +kernel
theorem dX3_init_20 : decode cX3_init 20 = .ok (.bipush (-9), 2) := by decide +kernel
theorem dX3_init_22 : decode cX3_init 22 = .ok (.putfield 22, 3) := by decide +kernel
theorem dX3_init_25 : decode cX3_init 25 = .ok (.aload_n 0, 1) := by decide +kernel
theorem dX3_init_26 : decode cX3_init 26 = .ok (.bipush (-9), 2) := by decide +kernel
theorem dX3_init_28 : decode cX3_init 28 = .ok (.putfield 25, 3) := by decide +kernel
theorem dX3_init_31 : decode cX3_init 31 = .ok (.return_, 1) := by decide +kernel
theorem dX3_renew_0 : decode cX3_renew 0 = .ok (.aload_n 0, 1) := by decide +kernel
theorem dX3_renew_1 : decode cX3_renew 1 = .ok (.iload_n 1, 1) := by decide +kernel
theorem dX3_renew_2 : decode cX3_renew 2 = .ok (.putfield 9, 3) := by decide +kernel
theorem dX3_renew_5 : decode cX3_renew 5 = .ok (.aload_n 0, 1) := by decide +kernel
theorem dX3_renew_6 : decode cX3_renew 6 = .ok (.iload_n 2, 1) := by decide +kernel
theorem dX3_renew_7 : decode cX3_renew 7 = .ok (.putfield 15, 3) := by decide +kernel
theorem dX3_renew_10 : decode cX3_renew 10 = .ok (.aload_n 0, 1) := by decide +kernel
theorem dX3_renew_11 : decode cX3_renew 11 = .ok (.invokevirtual 28, 3) := by decide +kernel
theorem dX3_renew_14 : decode cX3_renew 14 = .ok (.return_, 1) := by decide +kernel
theorem dX3_sell_0 : decode cX3_sell 0 = .ok (.aload_n 0, 1) := by decide +kernel
theorem dX3_sell_1 : decode cX3_sell 1 = .ok (.iconst 1, 1) := by decide +kernel
theorem dX3_sell_2 : decode cX3_sell 2 = .ok (.putfield 18, 3) := by decide +kernel
theorem dX3_sell_5 : decode cX3_sell 5 = .ok (.aload_n 0, 1) := by decide +kernel
theorem dX3_sell_6 : decode cX3_sell 6 = .ok (.iload_n 2, 1) := by decide +kernel
theorem dX3_sell_7 : decode cX3_sell 7 = .ok (.putfield 22, 3) := by decide +kernel
theorem dX3_sell_10 : decode cX3_sell 10 = .ok (.aload_n 0, 1) := by decide +kernel
theorem dX3_sell_11 : decode cX3_sell 11 = .ok (.iload_n 1, 1) := by decide +kernel
theorem dX3_sell_12 : decode cX3_sell 12 = .ok (.putfield 25, 3) := by decide +kernel
theorem dX3_sell_15 : decode cX3_sell 15 = .ok (.return_, 1) := by decide +kernel
theorem dX3_unsell_0 : decode cX3_unsell 0 = .ok (.aload_n 0, 1) := by decide +kernel
theorem dX3_unsell_1 : decode cX3_unsell 1 = .ok (.iconst 0, 1) := by decide +kernel
theorem dX3_unsell_2 : decode cX3_unsell 2 = .ok (.putfield 18, 3) := by decide +kernel
theorem dX3_unsell_5 : decode cX3_unsell 5 = .ok (.aload_n 0, 1) := by decide +kernel
theorem dX3_unsell_6 : decode cX3_unsell 6 = .ok (.bipush (-9), 2) := by decide +kernel
theorem dX3_unsell_8 : decode cX3_unsell 8 = .ok (.putfield 22, 3) := by decide +kernel
theorem dX3_unsell_11 : decode cX3_unsell 11 = .ok (.aload_n 0, 1) := by decide +kernel
theorem dX3_unsell_12 : decode cX3_unsell 12 = .ok (.bipush (-9), 2) := by decide +kernel
theorem dX3_unsell_14 : decode cX3_unsell 14 = .ok (.putfield 25, 3) := by decide +kernel
theorem dX3_unsell_17 : decode cX3_unsell 17 = .ok (.return_, 1) := by decide +kernel
theorem dX3_copy_0 : decode cX3_copy 0 = .ok (.aload_n 0, 1) := by decide +kernel
theorem dX3_copy_1 : decode cX3_copy 1 = .ok (.aload_n 1, 1) := by decide +kernel
theorem dX3_copy_2 : decode cX3_copy 2 = .ok (.getfield 9, 3) := by decide +kernel
theorem dX3_copy_5 : decode cX3_copy 5 = .ok (.putfield 9, 3) := by decide +kernel
theorem dX3_copy_8 : decode cX3_copy 8 = .ok (.aload_n 0, 1) := by decide +kernel
theorem dX3_copy_9 : decode cX3_copy 9 = .ok (.aload_n 1, 1) := by decide +kernel
theorem dX3_copy_10 : decode cX3_copy 10 = .ok (.getfield 15, 3) := by decide +kernel
theorem dX3_copy_13 : decode cX3_copy 13 = .ok (.putfield 15, 3) := by decide +kernel
theorem dX3_copy_16 : decode cX3_copy 16 = .ok (.aload_n 0, 1) := by decide +kernel
theorem dX3_copy_17 : decode cX3_copy 17 = .ok (.aload_n 1, 1) := by decide +kernel
theorem dX3_copy_18 : decode cX3_copy 18 = .ok (.getfield 18, 3) := by decide +kernel
theorem dX3_copy_21 : decode cX3_copy 21 = .ok (.putfield 18, 3) := by decide +kernel
theorem dX3_copy_24 : decode cX3_copy 24 = .ok (.aload_n 0, 1) := by decide +kernel
theorem dX3_copy_25 : decode cX3_copy 25 = .ok (.aload_n 1, 1) := by decide +kernel
theorem dX3_copy_26 : decode cX3_copy 26 = .ok (.getfield 22, 3) := by decide +kernel
theorem dX3_copy_29 : decode cX3_copy 29 = .ok (.putfield 22, 3) := by decide +kernel
theorem dX3_copy_32 : decode cX3_copy 32 = .ok (.aload_n 0, 1) := by decide +kernel
theorem dX3_copy_33 : decode cX3_copy 33 = .ok (.aload_n 1, 1) := by decide +kernel
theorem dX3_copy_34 : decode cX3_copy 34 = .ok (.getfield 25, 3) := by decide +kernel
theorem dX3_copy_37 : decode cX3_copy 37 = .ok (.putfield 25, 3) := by decide +kernel
theorem dX3_copy_40 : decode cX3_copy 40 = .ok (.return_, 1) := by decide +kernel
theorem dX4_init_0 : decode cX4_init 0 = .ok (.aload_n 0, 1) := by decide +kernel
theorem dX4_init_1 : decode cX4_init 1 = .ok (.invokespecial 3, 3) := by decide +kernel
theorem dX4_init_4 : decode cX4_init 4 = .ok (.aload_n 0, 1) := by decide +kernel
theorem dX4_init_5 : decode cX4_init 5 = .ok (.bipush 60, 2) := by decide +kernel
theorem dX4_init_7 : decode cX4_init 7 = .ok (.newarray .int, 2) := by decide +kernel
theorem dX4_init_9 : decode cX4_init 9 = .ok (.putfield 11, 3) := by decide +kernel
theorem dX4_init_12 : decode cX4_init 12 = .ok (.aload_n 0, 1) := by decide +kernel
theorem dX4_init_13 : decode cX4_init 13 = .ok (.iconst 0, 1) := by decide +kernel
theorem dX4_init_14 : decode cX4_init 14 = .ok (.putfield 15, 3) := by decide +kernel
theorem dX4_init_17 : decode cX4_init 17 = .ok (.return_, 1) := by decide +kernel
theorem dX4_clear_0 : decode cX4_clear 0 = .ok (.aload_n 0, 1) := by decide +kernel
theorem dX4_clear_1 : decode cX4_clear 1 = .ok (.iconst 0, 1) := by decide +kernel
theorem dX4_clear_2 : decode cX4_clear 2 = .ok (.putfield 15, 3) := by decide +kernel
theorem dX4_clear_5 : decode cX4_clear 5 = .ok (.return_, 1) := by decide +kernel
theorem dX4_add_0 : decode cX4_add 0 = .ok (.aload_n 0, 1) := by decide +kernel
theorem dX4_add_1 : decode cX4_add 1 = .ok (.getfield 15, 3) := by decide +kernel
theorem dX4_add_4 : decode cX4_add 4 = .ok (.bipush 20, 2) := by decide +kernel
theorem dX4_add_6 : decode cX4_add 6 = .ok (.if_icmp .lt 4, 3) := by decide +kernel
theorem dX4_add_9 : decode cX4_add 9 = .ok (.return_, 1) := by decide +kernel
theorem dX4_add_10 : decode cX4_add 10 = .ok (.aload_n 0, 1) := by decide +kernel
theorem dX4_add_11 : decode cX4_add 11 = .ok (.getfield 11, 3) := by decide +kernel
theorem dX4_add_14 : decode cX4_add 14 = .ok (.aload_n 0, 1) := by decide +kernel
theorem dX4_add_15 : decode cX4_add 15 = .ok (.getfield 15, 3) := by decide +kernel
theorem dX4_add_18 : decode cX4_add 18 = .ok (.iconst 3, 1) := by decide +kernel
theorem dX4_add_19 : decode cX4_add 19 = .ok (.imul, 1) := by decide +kernel
theorem dX4_add_20 : decode cX4_add 20 = .ok (.iload_n 1, 1) := by decide +kernel
theorem dX4_add_21 : decode cX4_add 21 = .ok (.iastore, 1) := by decide +kernel
theorem dX4_add_22 : decode cX4_add 22 = .ok (.aload_n 0, 1) := by decide +kernel
theorem dX4_add_23 : decode cX4_add 23 = .ok (.getfield 11, 3) := by decide +kernel
theorem dX4_add_26 : decode cX4_add 26 = .ok (.aload_n 0, 1) := by decide +kernel
theorem dX4_add_27 : decode cX4_add 27 = .ok (.getfield 15, 3) := by decide +kernel
theorem dX4_add_30 : decode cX4_add 30 = .ok (.iconst 3, 1) := by decide +kernel
theorem dX4_add_31 : decode cX4_add 31 = .ok (.imul, 1) := by decide +kernel
theorem dX4_add_32 : decode cX4_add 32 = .ok (.iconst 1, 1) := by decide +kernel
theorem dX4_add_33 : decode cX4_add 33 = .ok (.iadd, 1) := by decide +kernel
theorem dX4_add_34 : decode cX4_add 34 = .ok (.iload_n 2, 1) := by decide +kernel
theorem dX4_add_35 : decode cX4_add 35 = .ok (.iastore, 1) := by decide +kernel
theorem dX4_add_36 : decode cX4_add 36 = .ok (.aload_n 0, 1) := by decide +kernel
theorem dX4_add_37 : decode cX4_add 37 = .ok (.getfield 11, 3) := by decide +kernel
theorem dX4_add_40 : decode cX4_add 40 = .ok (.aload_n 0, 1) := by decide +kernel
theorem dX4_add_41 : decode cX4_add 41 = .ok (.getfield 15, 3) := by decide +kernel
theorem dX4_add_44 : decode cX4_add 44 = .ok (.iconst 3, 1) := by decide +kernel
theorem dX4_add_45 : decode cX4_add 45 = .ok (.imul, 1) := by decide +kernel
theorem dX4_add_46 : decode cX4_add 46 = .ok (.iconst 2, 1) := by decide +kernel
theorem dX4_add_47 : decode cX4_add 47 = .ok (.iadd, 1) := by decide +kernel
theorem dX4_add_48 : decode cX4_add 48 = .ok (.iload_n 3, 1) := by decide +kernel
theorem dX4_add_49 : decode cX4_add 49 = .ok (.iastore, 1) := by decide +kernel
theorem dX4_add_50 : decode cX4_add 50 = .ok (.aload_n 0, 1) := by decide +kernel
theorem dX4_add_51 : decode cX4_add 51 = .ok (.dup, 1) := by decide +kernel
theorem dX4_add_52 : decode cX4_add 52 = .ok (.getfield 15, 3) := by decide +kernel
theorem dX4_add_55 : decode cX4_add 55 = .ok (.iconst 1, 1) := by decide +kernel
theorem dX4_add_56 : decode cX4_add 56 = .ok (.iadd, 1) := by decide +kernel
theorem dX4_add_57 : decode cX4_add 57 = .ok (.putfield 15, 3) := by decide +kernel
theorem dX4_add_60 : decode cX4_add 60 = .ok (.return_, 1) := by decide +kernel
theorem dX4_has_0 : decode cX4_has 0 = .ok (.iload_n 1, 1) := by decide +kernel
theorem dX4_has_1 : decode cX4_has 1 = .ok (.iconst 0, 1) := by decide +kernel
theorem dX4_has_2 : decode cX4_has 2 = .ok (.aload_n 0, 1) := by decide +kernel
theorem dX4_has_3 : decode cX4_has 3 = .ok (.getfield 15, 3) := by decide +kernel
theorem dX4_has_6 : decode cX4_has 6 = .ok (.iconst 1, 1) := by decide +kernel
theorem dX4_has_7 : decode cX4_has 7 = .ok (.isub, 1) := by decide +kernel
theorem dX4_has_8 : decode cX4_has 8 = .ok (.invokestatic 19, 3) := by decide +kernel
theorem dX4_has_11 : decode cX4_has 11 = .ok (.ifCond .eq 16, 3) := by decide +kernel
theorem dX4_has_14 : decode cX4_has 14 = .ok (.iload_n 2, 1) := by decide +kernel
theorem dX4_has_15 : decode cX4_has 15 = .ok (.iconst 0, 1) := by decide +kernel
theorem dX4_has_16 : decode cX4_has 16 = .ok (.iconst 2, 1) := by decide +kernel
theorem dX4_has_17 : decode cX4_has 17 = .ok (.invokestatic 19, 3) := by decide +kernel
theorem dX4_has_20 : decode cX4_has 20 = .ok (.ifCond .eq 7, 3) := by decide +kernel
theorem dX4_has_23 : decode cX4_has 23 = .ok (.iconst 1, 1) := by decide +kernel
theorem dX4_has_24 : decode cX4_has 24 = .ok (.goto 4, 3) := by decide +kernel
theorem dX4_has_27 : decode cX4_has 27 = .ok (.iconst 0, 1) := by decide +kernel
theorem dX4_has_28 : decode cX4_has 28 = .ok (.ireturn, 1) := by decide +kernel
theorem dX4_cell_0 : decode cX4_cell 0 = .ok (.aload_n 0, 1) := by decide +kernel
theorem dX4_cell_1 : decode cX4_cell 1 = .ok (.iload_n 1, 1) := by decide +kernel
theorem dX4_cell_2 : decode cX4_cell 2 = .ok (.iload_n 2, 1) := by decide +kernel
theorem dX4_cell_3 : decode cX4_cell 3 = .ok (.invokevirtual 23, 3) := by decide +kernel
theorem dX4_cell_6 : decode cX4_cell 6 = .ok (.ifCond .eq 16, 3) := by decide +kernel
theorem dX4_cell_9 : decode cX4_cell 9 = .ok (.aload_n 0, 1) := by decide +kernel
theorem dX4_cell_10 : decode cX4_cell 10 = .ok (.getfield 11, 3) := by decide +kernel
theorem dX4_cell_13 : decode cX4_cell 13 = .ok (.iload_n 1, 1) := by decide +kernel
theorem dX4_cell_14 : decode cX4_cell 14 = .ok (.iconst 3, 1) := by decide +kernel
theorem dX4_cell_15 : decode cX4_cell 15 = .ok (.imul, 1) := by decide +kernel
theorem dX4_cell_16 : decode cX4_cell 16 = .ok (.iload_n 2, 1) := by decide +kernel
theorem dX4_cell_17 : decode cX4_cell 17 = .ok (.iadd, 1) := by decide +kernel
theorem dX4_cell_18 : decode cX4_cell 18 = .ok (.iaload, 1) := by decide +kernel
theorem dX4_cell_19 : decode cX4_cell 19 = .ok (.goto 5, 3) := by decide +kernel
theorem dX4_cell_22 : decode cX4_cell 22 = .ok (.bipush (-9), 2) := by decide +kernel
theorem dX4_cell_24 : decode cX4_cell 24 = .ok (.ireturn, 1) := by decide +kernel
theorem dX4_setCell_0 : decode cX4_setCell 0 = .ok (.aload_n 0, 1) := by decide +kernel
theorem dX4_setCell_1 : decode cX4_setCell 1 = .ok (.iload_n 1, 1) := by decide +kernel
theorem dX4_setCell_2 : decode cX4_setCell 2 = .ok (.iload_n 2, 1) := by decide +kernel
theorem dX4_setCell_3 : decode cX4_setCell 3 = .ok (.invokevirtual 23, 3) := by decide +kernel
theorem dX4_setCell_6 : decode cX4_setCell 6 = .ok (.ifCond .eq 14, 3) := by decide +kernel
theorem dX4_setCell_9 : decode cX4_setCell 9 = .ok (.aload_n 0, 1) := by decide +kernel
theorem dX4_setCell_10 : decode cX4_setCell 10 = .ok (.getfield 11, 3) := by decide +kernel
theorem dX4_setCell_13 : decode cX4_setCell 13 = .ok (.iload_n 1, 1) := by decide +kernel
theorem dX4_setCell_14 : decode cX4_setCell 14 = .ok (.iconst 3, 1) := by decide +kernel
theorem dX4_setCell_15 : decode cX4_setCell 15 = .ok (.imul, 1) := by decide +kernel
theorem dX4_setCell_16 : decode cX4_setCell 16 = .ok (.iload_n 2, 1) := by decide +kernel
theorem dX4_setCell_17 : decode cX4_setCell 17 = .ok (.iadd, 1) := by decide +kernel
theorem dX4_setCell_18 : decode cX4_setCell 18 = .ok (.iload_n 3, 1) := by decide +kernel
theorem dX4_setCell_19 : decode cX4_setCell 19 = .ok (.iastore, 1) := by decide +kernel
theorem dX4_setCell_20 : decode cX4_setCell 20 = .ok (.return_, 1) := by decide +kernel
theorem dX4_judgedBy_0 : decode cX4_judgedBy 0 = .ok (.iconst 0, 1) := by decide +kernel
theorem dX4_judgedBy_1 : decode cX4_judgedBy 1 = .ok (.istore_n 2, 1) := by decide +kernel
theorem dX4_judgedBy_2 : decode cX4_judgedBy 2 = .ok (.iload_n 2, 1) := by decide +kernel
theorem dX4_judgedBy_3 : decode cX4_judgedBy 3 = .ok (.aload_n 0, 1) := by decide +kernel
theorem dX4_judgedBy_4 : decode cX4_judgedBy 4 = .ok (.getfield 15, 3) := by decide +kernel
theorem dX4_judgedBy_7 : decode cX4_judgedBy 7 = .ok (.if_icmp .ge 30, 3) := by decide +kernel
theorem dX4_judgedBy_10 : decode cX4_judgedBy 10 = .ok (.iload_n 2, 1) := by decide +kernel
theorem dX4_judgedBy_11 : decode cX4_judgedBy 11 = .ok (.aload_n 1, 1) := by decide +kernel
theorem dX4_judgedBy_12 : decode cX4_judgedBy 12 = .ok (.getfield 15, 3) := by decide +kernel
theorem dX4_judgedBy_15 : decode cX4_judgedBy 15 = .ok (.if_icmp .ge 12, 3) := by decide +kernel
theorem dX4_judgedBy_18 : decode cX4_judgedBy 18 = .ok (.aload_n 0, 1) := by decide +kernel
theorem dX4_judgedBy_19 : decode cX4_judgedBy 19 = .ok (.iload_n 2, 1) := by decide +kernel
theorem dX4_judgedBy_20 : decode cX4_judgedBy 20 = .ok (.aload_n 1, 1) := by decide +kernel
theorem dX4_judgedBy_21 : decode cX4_judgedBy 21 = .ok (.invokevirtual 27, 3) := by decide +kernel
theorem dX4_judgedBy_24 : decode cX4_judgedBy 24 = .ok (.ifCond .ne 7, 3) := by decide +kernel
theorem dX4_judgedBy_27 : decode cX4_judgedBy 27 = .ok (.iload_n 2, 1) := by decide +kernel
theorem dX4_judgedBy_28 : decode cX4_judgedBy 28 = .ok (.iconst 1, 1) := by decide +kernel
theorem dX4_judgedBy_29 : decode cX4_judgedBy 29 = .ok (.iadd, 1) := by decide +kernel
theorem dX4_judgedBy_30 : decode cX4_judgedBy 30 = .ok (.ireturn, 1) := by decide +kernel
theorem dX4_judgedBy_31 : decode cX4_judgedBy 31 = .ok (.iinc 2 1, 3) := by decide +kernel
theorem dX4_judgedBy_34 : decode cX4_judgedBy 34 = .ok (.goto (-32), 3) := by decide +kernel
theorem dX4_judgedBy_37 : decode cX4_judgedBy 37 = .ok (.aload_n 0, 1) := by decide +kernel
theorem dX4_judgedBy_38 : decode cX4_judgedBy 38 = .ok (.getfield 15, 3) := by decide +kernel
theorem dX4_judgedBy_41 : decode cX4_judgedBy 41 = .ok (.aload_n 1, 1) := by decide +kernel
theorem dX4_judgedBy_42 : decode cX4_judgedBy 42 = .ok (.getfield 15, 3) := by decide +kernel
theorem dX4_judgedBy_45 : decode cX4_judgedBy 45 = .ok (.if_icmp .ge 9, 3) := by decide +kernel
theorem dX4_judgedBy_48 : decode cX4_judgedBy 48 = .ok (.sipush 222, 3) := by decide +kernel
theorem dX4_judgedBy_51 : decode cX4_judgedBy 51 = .ok (.goto 4, 3) := by decide +kernel
theorem dX4_judgedBy_54 : decode cX4_judgedBy 54 = .ok (.iconst 0, 1) := by decide +kernel
theorem dX4_judgedBy_55 : decode cX4_judgedBy 55 = .ok (.ireturn, 1) := by decide +kernel
theorem dX4_isSameRow_0 : decode cX4_isSameRow 0 = .ok (.iconst 0, 1) := by decide +kernel
theorem dX4_isSameRow_1 : decode cX4_isSameRow 1 = .ok (.istore_n 3, 1) := by decide +kernel
theorem dX4_isSameRow_2 : decode cX4_isSameRow 2 = .ok (.iload_n 3, 1) := by decide +kernel
theorem dX4_isSameRow_3 : decode cX4_isSameRow 3 = .ok (.iconst 3, 1) := by decide +kernel
theorem dX4_isSameRow_4 : decode cX4_isSameRow 4 = .ok (.if_icmp .ge 26, 3) := by decide +kernel
theorem dX4_isSameRow_7 : decode cX4_isSameRow 7 = .ok (.aload_n 0, 1) := by decide +kernel
theorem dX4_isSameRow_8 : decode cX4_isSameRow 8 = .ok (.iload_n 1, 1) := by decide +kernel
theorem dX4_isSameRow_9 : decode cX4_isSameRow 9 = .ok (.iload_n 3, 1) := by decide +kernel
theorem dX4_isSameRow_10 : decode cX4_isSameRow 10 = .ok (.invokevirtual 31, 3) := by decide +kernel
theorem dX4_isSameRow_13 : decode cX4_isSameRow 13 = .ok (.aload_n 2, 1) := by decide +kernel
theorem dX4_isSameRow_14 : decode cX4_isSameRow 14 = .ok (.iload_n 1, 1) := by decide +kernel
theorem dX4_isSameRow_15 : decode cX4_isSameRow 15 = .ok (.iload_n 3, 1) := by decide +kernel
theorem dX4_isSameRow_16 : decode cX4_isSameRow 16 = .ok (.invokevirtual 31, 3) := by decide +kernel
theorem dX4_isSameRow_19 : decode cX4_isSameRow 19 = .ok (.if_icmp .eq 5, 3) := by decide +kernel
theorem dX4_isSameRow_22 : decode cX4_isSameRow 22 = .ok (.iconst 0, 1) := by decide +kernel
theorem dX4_isSameRow_23 : decode cX4_isSameRow 23 = .ok (.ireturn, 1) := by decide +kernel
theorem dX4_isSameRow_24 : decode cX4_isSameRow 24 = .ok (.iinc 3 1, 3) := by decide +kernel
theorem dX4_isSameRow_27 : decode cX4_isSameRow 27 = .ok (.goto (-25), 3) := by decide +kernel
theorem dX4_isSameRow_30 : decode cX4_isSameRow 30 = .ok (.iconst 1, 1) := by decide +kernel
theorem dX4_isSameRow_31 : decode cX4_isSameRow 31 = .ok (.ireturn, 1) := by decide +kernel
theorem dX5_init_0 : decode cX5_init 0 = .ok (.aload_n 0, 1) := by decide +kernel
theorem dX5_init_1 : decode cX5_init 1 = .ok (.invokespecial 1, 3) := by decide +kernel
theorem dX5_init_4 : decode cX5_init 4 = .ok (.aload_n 0, 1) := by decide +kernel
theorem dX5_init_5 : decode cX5_init 5 = .ok (.bipush 40, 2) := by decide +kernel
theorem dX5_init_7 : decode cX5_init 7 = .ok (.newarray .int, 2) := by decide +kernel
theorem dX5_init_9 : decode cX5_init 9 = .ok (.putfield 9, 3) := by decide +kernel
theorem dX5_init_12 : decode cX5_init 12 = .ok (.aload_n 0, 1) := by decide +kernel
theorem dX5_init_13 : decode cX5_init 13 = .ok (.iconst (-1), 1) := by decide +kernel
theorem dX5_init_14 : decode cX5_init 14 = .ok (.putfield 13, 3) := by decide +kernel
theorem dX5_init_17 : decode cX5_init 17 = .ok (.aload_n 0, 1) := by decide +kernel
theorem dX5_init_18 : decode cX5_init 18 = .ok (.iconst 0, 1) := by decide +kernel
theorem dX5_init_19 : decode cX5_init 19 = .ok (.putfield 17, 3) := by decide +kernel
theorem dX5_init_22 : decode cX5_init 22 = .ok (.return_, 1) := by decide +kernel
theorem dX5_isMissing_0 : decode cX5_isMissing 0 = .ok (.aload_n 0, 1) := by decide +kernel
theorem dX5_isMissing_1 : decode cX5_isMissing 1 = .ok (.getfield 13, 3) := by decide +kernel
theorem dX5_isMissing_4 : decode cX5_isMissing 4 = .ok (.iconst (-1), 1) := by decide +kernel
theorem dX5_isMissing_5 : decode cX5_isMissing 5 = .ok (.if_icmp .ne 7, 3) := by decide +kernel
theorem dX5_isMissing_8 : decode cX5_isMissing 8 = .ok (.iconst 1, 1) := by decide +kernel
theorem dX5_isMissing_9 : decode cX5_isMissing 9 = .ok (.goto 4, 3) := by decide +kernel
theorem dX5_isMissing_12 : decode cX5_isMissing 12 = .ok (.iconst 0, 1) := by decide +kernel
theorem dX5_isMissing_13 : decode cX5_isMissing 13 = .ok (.ireturn, 1) := by decide +kernel
theorem dX5_remake_0 : decode cX5_remake 0 = .ok (.aload_n 0, 1) := by decide +kernel
theorem dX5_remake_1 : decode cX5_remake 1 = .ok (.iload_n 1, 1) := by decide +kernel
theorem dX5_remake_2 : decode cX5_remake 2 = .ok (.putfield 13, 3) := by decide +kernel
theorem dX5_remake_5 : decode cX5_remake 5 = .ok (.aload_n 0, 1) := by decide +kernel
theorem dX5_remake_6 : decode cX5_remake 6 = .ok (.iload_n 2, 1) := by decide +kernel
theorem dX5_remake_7 : decode cX5_remake 7 = .ok (.putfield 17, 3) := by decide +kernel
theorem dX5_remake_10 : decode cX5_remake 10 = .ok (.iconst 0, 1) := by decide +kernel
theorem dX5_remake_11 : decode cX5_remake 11 = .ok (.istore_n 3, 1) := by decide +kernel
theorem dX5_remake_12 : decode cX5_remake 12 = .ok (.iload_n 3, 1) := by decide +kernel
theorem dX5_remake_13 : decode cX5_remake 13 = .ok (.bipush 40, 2) := by decide +kernel
theorem dX5_remake_15 : decode cX5_remake 15 = .ok (.if_icmp .ge 16, 3) := by decide +kernel
theorem dX5_remake_18 : decode cX5_remake 18 = .ok (.aload_n 0, 1) := by decide +kernel
theorem dX5_remake_19 : decode cX5_remake 19 = .ok (.getfield 9, 3) := by decide +kernel
theorem dX5_remake_22 : decode cX5_remake 22 = .ok (.iload_n 3, 1) := by decide +kernel
theorem dX5_remake_23 : decode cX5_remake 23 = .ok (.iconst 0, 1) := by decide +kernel
theorem dX5_remake_24 : decode cX5_remake 24 = .ok (.iastore, 1) := by decide +kernel
theorem dX5_remake_25 : decode cX5_remake 25 = .ok (.iinc 3 1, 3) := by decide +kernel
theorem dX5_remake_28 : decode cX5_remake 28 = .ok (.goto (-16), 3) := by decide +kernel
theorem dX5_remake_31 : decode cX5_remake 31 = .ok (.return_, 1) := by decide +kernel
theorem dX5_has_0 : decode cX5_has 0 = .ok (.iload_n 1, 1) := by decide +kernel
theorem dX5_has_1 : decode cX5_has 1 = .ok (.iconst 0, 1) := by decide +kernel
theorem dX5_has_2 : decode cX5_has 2 = .ok (.aload_n 0, 1) := by decide +kernel
theorem dX5_has_3 : decode cX5_has 3 = .ok (.getfield 17, 3) := by decide +kernel
theorem dX5_has_6 : decode cX5_has 6 = .ok (.iconst 1, 1) := by decide +kernel
theorem dX5_has_7 : decode cX5_has 7 = .ok (.isub, 1) := by decide +kernel
theorem dX5_has_8 : decode cX5_has 8 = .ok (.invokestatic 20, 3) := by decide +kernel
theorem dX5_has_11 : decode cX5_has 11 = .ok (.ifCond .eq 13, 3) := by decide +kernel
theorem dX5_has_14 : decode cX5_has 14 = .ok (.iload_n 1, 1) := by decide +kernel
theorem dX5_has_15 : decode cX5_has 15 = .ok (.bipush 40, 2) := by decide +kernel
theorem dX5_has_17 : decode cX5_has 17 = .ok (.if_icmp .ge 7, 3) := by decide +kernel
theorem dX5_has_20 : decode cX5_has 20 = .ok (.iconst 1, 1) := by decide +kernel
theorem dX5_has_21 : decode cX5_has 21 = .ok (.goto 4, 3) := by decide +kernel
theorem dX5_has_24 : decode cX5_has 24 = .ok (.iconst 0, 1) := by decide +kernel
theorem dX5_has_25 : decode cX5_has 25 = .ok (.ireturn, 1) := by decide +kernel
theorem dX5_itemAt_0 : decode cX5_itemAt 0 = .ok (.aload_n 0, 1) := by decide +kernel
theorem dX5_itemAt_1 : decode cX5_itemAt 1 = .ok (.iload_n 1, 1) := by decide +kernel
theorem dX5_itemAt_2 : decode cX5_itemAt 2 = .ok (.invokevirtual 26, 3) := by decide +kernel
theorem dX5_itemAt_5 : decode cX5_itemAt 5 = .ok (.ifCond .eq 12, 3) := by decide +kernel
theorem dX5_itemAt_8 : decode cX5_itemAt 8 = .ok (.aload_n 0, 1) := by decide +kernel
theorem dX5_itemAt_9 : decode cX5_itemAt 9 = .ok (.getfield 9, 3) := by decide +kernel
theorem dX5_itemAt_12 : decode cX5_itemAt 12 = .ok (.iload_n 1, 1) := by decide +kernel
theorem dX5_itemAt_13 : decode cX5_itemAt 13 = .ok (.iaload, 1) := by decide +kernel
theorem dX5_itemAt_14 : decode cX5_itemAt 14 = .ok (.goto 4, 3) := by decide +kernel
theorem dX5_itemAt_17 : decode cX5_itemAt 17 = .ok (.iconst 0, 1) := by decide +kernel
theorem dX5_itemAt_18 : decode cX5_itemAt 18 = .ok (.ireturn, 1) := by decide +kernel
theorem dX5_setItem_0 : decode cX5_setItem 0 = .ok (.aload_n 0, 1) := by decide +kernel
theorem dX5_setItem_1 : decode cX5_setItem 1 = .ok (.iload_n 1, 1) := by decide +kernel
theorem dX5_setItem_2 : decode cX5_setItem 2 = .ok (.invokevirtual 26, 3) := by decide +kernel
theorem dX5_setItem_5 : decode cX5_setItem 5 = .ok (.ifCond .eq 14, 3) := by decide +kernel
theorem dX5_setItem_8 : decode cX5_setItem 8 = .ok (.aload_n 0, 1) := by decide +kernel
theorem dX5_setItem_9 : decode cX5_setItem 9 = .ok (.getfield 9, 3) := by decide +kernel
theorem dX5_setItem_12 : decode cX5_setItem 12 = .ok (.iload_n 1, 1) := by decide +kernel
theorem dX5_setItem_13 : decode cX5_setItem 13 = .ok (.aload_n 0, 1) := by decide +kernel
theorem dX5_setItem_14 : decode cX5_setItem 14 = .ok (.iload_n 2, 1) := by decide +kernel
theorem dX5_setItem_15 : decode cX5_setItem 15 = .ok (.invokevirtual 30, 3) := by decide +kernel
theorem dX5_setItem_18 : decode cX5_setItem 18 = .ok (.iastore, 1) := by decide +kernel
theorem dX5_setItem_19 : decode cX5_setItem 19 = .ok (.return_, 1) := by decide +kernel
theorem dX5_narrowed_0 : decode cX5_narrowed 0 = .ok (.aload_n 0, 1) := by decide +kernel
theorem dX5_narrowed_1 : decode cX5_narrowed 1 = .ok (.getfield 13, 3) := by decide +kernel
theorem dX5_narrowed_4 : decode cX5_narrowed 4 = .ok (.lookupswitch 34 #[(0, 28), (1, 31)], 28) := by decide +kernel
theorem dX5_narrowed_32 : decode cX5_narrowed 32 = .ok (.iload_n 1, 1) := by decide +kernel
theorem dX5_narrowed_33 : decode cX5_narrowed 33 = .ok (.i2b, 1) := by decide +kernel
theorem dX5_narrowed_34 : decode cX5_narrowed 34 = .ok (.ireturn, 1) := by decide +kernel
theorem dX5_narrowed_35 : decode cX5_narrowed 35 = .ok (.iload_n 1, 1) := by decide +kernel
theorem dX5_narrowed_36 : decode cX5_narrowed 36 = .ok (.i2s, 1) := by decide +kernel
theorem dX5_narrowed_37 : decode cX5_narrowed 37 = .ok (.ireturn, 1) := by decide +kernel
theorem dX5_narrowed_38 : decode cX5_narrowed 38 = .ok (.iload_n 1, 1) := by decide +kernel
theorem dX5_narrowed_39 : decode cX5_narrowed 39 = .ok (.ireturn, 1) := by decide +kernel
theorem dX6_init_0 : decode cX6_init 0 = .ok (.aload_n 0, 1) := by decide +kernel
theorem dX6_init_1 : decode cX6_init 1 = .ok (.invokespecial 3, 3) := by decide +kernel
theorem dX6_init_4 : decode cX6_init 4 = .ok (.aload_n 0, 1) := by decide +kernel
theorem dX6_init_5 : decode cX6_init 5 = .ok (.bipush (-9), 2) := by decide +kernel
theorem dX6_init_7 : decode cX6_init 7 = .ok (.putfield 9, 3) := by decide +kernel
theorem dX6_init_10 : decode cX6_init 10 = .ok (.aload_n 0, 1) := by decide +kernel
theorem dX6_init_11 : decode cX6_init 11 = .ok (.iconst (-1), 1) := by decide +kernel
theorem dX6_init_12 : decode cX6_init 12 = .ok (.putfield 17, 3) := by decide +kernel
theorem dX6_init_15 : decode cX6_init 15 = .ok (.aload_n 0, 1) := by decide +kernel
theorem dX6_init_16 : decode cX6_init 16 = .ok (.iconst 0, 1) := by decide +kernel
theorem dX6_init_17 : decode cX6_init 17 = .ok (.putfield 20, 3) := by decide +kernel
theorem dX6_init_20 : decode cX6_init 20 = .ok (.return_, 1) := by decide +kernel
theorem dX6_holdBidder_0 : decode cX6_holdBidder 0 = .ok (.aload_n 0, 1) := by decide +kernel
theorem dX6_holdBidder_1 : decode cX6_holdBidder 1 = .ok (.invokevirtual 23, 3) := by decide +kernel
theorem dX6_holdBidder_4 : decode cX6_holdBidder 4 = .ok (.aload_n 0, 1) := by decide +kernel
theorem dX6_holdBidder_5 : decode cX6_holdBidder 5 = .ok (.iload_n 1, 1) := by decide +kernel
theorem dX6_holdBidder_6 : decode cX6_holdBidder 6 = .ok (.putfield 9, 3) := by decide +kernel
theorem dX6_holdBidder_9 : decode cX6_holdBidder 9 = .ok (.return_, 1) := by decide +kernel
theorem dX6_holdRow_0 : decode cX6_holdRow 0 = .ok (.aload_n 0, 1) := by decide +kernel
theorem dX6_holdRow_1 : decode cX6_holdRow 1 = .ok (.bipush (-9), 2) := by decide +kernel
theorem dX6_holdRow_3 : decode cX6_holdRow 3 = .ok (.putfield 9, 3) := by decide +kernel
theorem dX6_holdRow_6 : decode cX6_holdRow 6 = .ok (.aload_n 0, 1) := by decide +kernel
theorem dX6_holdRow_7 : decode cX6_holdRow 7 = .ok (.aload_n 1, 1) := by decide +kernel
theorem dX6_holdRow_8 : decode cX6_holdRow 8 = .ok (.getfield 26, 3) := by decide +kernel
theorem dX6_holdRow_11 : decode cX6_holdRow 11 = .ok (.putfield 17, 3) := by decide +kernel
theorem dX6_holdRow_14 : decode cX6_holdRow 14 = .ok (.aload_n 0, 1) := by decide +kernel
theorem dX6_holdRow_15 : decode cX6_holdRow 15 = .ok (.aload_n 1, 1) := by decide +kernel
theorem dX6_holdRow_16 : decode cX6_holdRow 16 = .ok (.getfield 27, 3) := by decide +kernel
theorem dX6_holdRow_19 : decode cX6_holdRow 19 = .ok (.putfield 20, 3) := by decide +kernel
theorem dX6_holdRow_22 : decode cX6_holdRow 22 = .ok (.return_, 1) := by decide +kernel
theorem dX6_holdNothing_0 : decode cX6_holdNothing 0 = .ok (.aload_n 0, 1) := by decide +kernel
theorem dX6_holdNothing_1 : decode cX6_holdNothing 1 = .ok (.bipush (-9), 2) := by decide +kernel
theorem dX6_holdNothing_3 : decode cX6_holdNothing 3 = .ok (.putfield 9, 3) := by decide +kernel
theorem dX6_holdNothing_6 : decode cX6_holdNothing 6 = .ok (.aload_n 0, 1) := by decide +kernel
theorem dX6_holdNothing_7 : decode cX6_holdNothing 7 = .ok (.iconst (-1), 1) := by decide +kernel
theorem dX6_holdNothing_8 : decode cX6_holdNothing 8 = .ok (.putfield 17, 3) := by decide +kernel
theorem dX6_holdNothing_11 : decode cX6_holdNothing 11 = .ok (.aload_n 0, 1) := by decide +kernel
theorem dX6_holdNothing_12 : decode cX6_holdNothing 12 = .ok (.iconst 0, 1) := by decide +kernel
theorem dX6_holdNothing_13 : decode cX6_holdNothing 13 = .ok (.putfield 20, 3) := by decide +kernel
theorem dX6_holdNothing_16 : decode cX6_holdNothing 16 = .ok (.return_, 1) := by decide +kernel
theorem dX6_holdsRow_0 : decode cX6_holdsRow 0 = .ok (.aload_n 0, 1) := by decide +kernel
theorem dX6_holdsRow_1 : decode cX6_holdsRow 1 = .ok (.getfield 17, 3) := by decide +kernel
theorem dX6_holdsRow_4 : decode cX6_holdsRow 4 = .ok (.iconst (-1), 1) := by decide +kernel
theorem dX6_holdsRow_5 : decode cX6_holdsRow 5 = .ok (.if_icmp .eq 7, 3) := by decide +kernel
theorem dX6_holdsRow_8 : decode cX6_holdsRow 8 = .ok (.iconst 1, 1) := by decide +kernel
theorem dX6_holdsRow_9 : decode cX6_holdsRow 9 = .ok (.goto 4, 3) := by decide +kernel
theorem dX6_holdsRow_12 : decode cX6_holdsRow 12 = .ok (.iconst 0, 1) := by decide +kernel
theorem dX6_holdsRow_13 : decode cX6_holdsRow 13 = .ok (.ireturn, 1) := by decide +kernel
theorem dX7_init_0 : decode cX7_init 0 = .ok (.aload_n 0, 1) := by decide +kernel
theorem dX7_init_1 : decode cX7_init 1 = .ok (.invokespecial 3, 3) := by decide +kernel
theorem dX7_init_4 : decode cX7_init 4 = .ok (.aload_n 0, 1) := by decide +kernel
theorem dX7_init_5 : decode cX7_init 5 = .ok (.sipush 200, 3) := by decide +kernel
theorem dX7_init_8 : decode cX7_init 8 = .ok (.newarray .byte, 2) := by decide +kernel
theorem dX7_init_10 : decode cX7_init 10 = .ok (.putfield 11, 3) := by decide +kernel
theorem dX7_init_13 : decode cX7_init 13 = .ok (.aload_n 0, 1) := by decide +kernel
theorem dX7_init_14 : decode cX7_init 14 = .ok (.iconst 0, 1) := by decide +kernel
theorem dX7_init_15 : decode cX7_init 15 = .ok (.putfield 15, 3) := by decide +kernel
theorem dX7_init_18 : decode cX7_init 18 = .ok (.aload_n 0, 1) := by decide +kernel
theorem dX7_init_19 : decode cX7_init 19 = .ok (.iconst 0, 1) := by decide +kernel
theorem dX7_init_20 : decode cX7_init 20 = .ok (.putfield 19, 3) := by decide +kernel
theorem dX7_init_23 : decode cX7_init 23 = .ok (.aload_n 0, 1) := by decide +kernel
theorem dX7_init_24 : decode cX7_init 24 = .ok (.bipush (-3), 2) := by decide +kernel
theorem dX7_init_26 : decode cX7_init 26 = .ok (.putfield 22, 3) := by decide +kernel
theorem dX7_init_29 : decode cX7_init 29 = .ok (.return_, 1) := by decide +kernel
theorem dX7_clear_0 : decode cX7_clear 0 = .ok (.aload_n 0, 1) := by decide +kernel
theorem dX7_clear_1 : decode cX7_clear 1 = .ok (.iconst 0, 1) := by decide +kernel
theorem dX7_clear_2 : decode cX7_clear 2 = .ok (.putfield 15, 3) := by decide +kernel
theorem dX7_clear_5 : decode cX7_clear 5 = .ok (.return_, 1) := by decide +kernel
theorem dX7_takes_0 : decode cX7_takes 0 = .ok (.aload_n 0, 1) := by decide +kernel
theorem dX7_takes_1 : decode cX7_takes 1 = .ok (.getfield 15, 3) := by decide +kernel
theorem dX7_takes_4 : decode cX7_takes 4 = .ok (.iload_n 3, 1) := by decide +kernel
theorem dX7_takes_5 : decode cX7_takes 5 = .ok (.iadd, 1) := by decide +kernel
theorem dX7_takes_6 : decode cX7_takes 6 = .ok (.sipush 200, 3) := by decide +kernel
theorem dX7_takes_9 : decode cX7_takes 9 = .ok (.if_icmp .le 6, 3) := by decide +kernel
theorem dX7_takes_12 : decode cX7_takes 12 = .ok (.bipush (-2), 2) := by decide +kernel
theorem dX7_takes_14 : decode cX7_takes 14 = .ok (.ireturn, 1) := by decide +kernel
theorem dX7_takes_15 : decode cX7_takes 15 = .ok (.iconst 0, 1) := by decide +kernel
theorem dX7_takes_16 : decode cX7_takes 16 = .ok (.istore 4, 2) := by decide +kernel
theorem dX7_takes_18 : decode cX7_takes 18 = .ok (.iload 4, 2) := by decide +kernel
theorem dX7_takes_20 : decode cX7_takes 20 = .ok (.iload_n 3, 1) := by decide +kernel
theorem dX7_takes_21 : decode cX7_takes 21 = .ok (.if_icmp .ge 30, 3) := by decide +kernel
theorem dX7_takes_24 : decode cX7_takes 24 = .ok (.aload_n 0, 1) := by decide +kernel
theorem dX7_takes_25 : decode cX7_takes 25 = .ok (.getfield 11, 3) := by decide +kernel
theorem dX7_takes_28 : decode cX7_takes 28 = .ok (.aload_n 0, 1) := by decide +kernel
theorem dX7_takes_29 : decode cX7_takes 29 = .ok (.getfield 15, 3) := by decide +kernel
theorem dX7_takes_32 : decode cX7_takes 32 = .ok (.iload 4, 2) := by decide +kernel
theorem dX7_takes_34 : decode cX7_takes 34 = .ok (.iadd, 1) := by decide +kernel
theorem dX7_takes_35 : decode cX7_takes 35 = .ok (.lload_n 1, 1) := by decide +kernel
theorem dX7_takes_36 : decode cX7_takes 36 = .ok (.bipush 8, 2) := by decide +kernel
theorem dX7_takes_38 : decode cX7_takes 38 = .ok (.iload 4, 2) := by decide +kernel
theorem dX7_takes_40 : decode cX7_takes 40 = .ok (.imul, 1) := by decide +kernel
theorem dX7_takes_41 : decode cX7_takes 41 = .ok (.lshr, 1) := by decide +kernel
theorem dX7_takes_42 : decode cX7_takes 42 = .ok (.l2i, 1) := by decide +kernel
theorem dX7_takes_43 : decode cX7_takes 43 = .ok (.i2b, 1) := by decide +kernel
theorem dX7_takes_44 : decode cX7_takes 44 = .ok (.bastore, 1) := by decide +kernel
theorem dX7_takes_45 : decode cX7_takes 45 = .ok (.iinc 4 1, 3) := by decide +kernel
theorem dX7_takes_48 : decode cX7_takes 48 = .ok (.goto (-30), 3) := by decide +kernel
theorem dX7_takes_51 : decode cX7_takes 51 = .ok (.aload_n 0, 1) := by decide +kernel
theorem dX7_takes_52 : decode cX7_takes 52 = .ok (.dup, 1) := by decide +kernel
theorem dX7_takes_53 : decode cX7_takes 53 = .ok (.getfield 15, 3) := by decide +kernel
theorem dX7_takes_56 : decode cX7_takes 56 = .ok (.iload_n 3, 1) := by decide +kernel
theorem dX7_takes_57 : decode cX7_takes 57 = .ok (.iadd, 1) := by decide +kernel
theorem dX7_takes_58 : decode cX7_takes 58 = .ok (.putfield 15, 3) := by decide +kernel
theorem dX7_takes_61 : decode cX7_takes 61 = .ok (.aload_n 0, 1) := by decide +kernel
theorem dX7_takes_62 : decode cX7_takes 62 = .ok (.getfield 15, 3) := by decide +kernel
theorem dX7_takes_65 : decode cX7_takes 65 = .ok (.ireturn, 1) := by decide +kernel
theorem dX7_readInto_0 : decode cX7_readInto 0 = .ok (.aload_n 0, 1) := by decide +kernel
theorem dX7_readInto_1 : decode cX7_readInto 1 = .ok (.iconst 0, 1) := by decide +kernel
theorem dX7_readInto_2 : decode cX7_readInto 2 = .ok (.putfield 19, 3) := by decide +kernel
theorem dX7_readInto_5 : decode cX7_readInto 5 = .ok (.aload_n 0, 1) := by decide +kernel
theorem dX7_readInto_6 : decode cX7_readInto 6 = .ok (.bipush (-3), 2) := by decide +kernel
theorem dX7_readInto_8 : decode cX7_readInto 8 = .ok (.putfield 22, 3) := by decide +kernel
theorem dX7_readInto_11 : decode cX7_readInto 11 = .ok (.aload_n 0, 1) := by decide +kernel
theorem dX7_readInto_12 : decode cX7_readInto 12 = .ok (.invokevirtual 25, 3) := by decide +kernel
theorem dX7_readInto_15 : decode cX7_readInto 15 = .ok (.iconst 0, 1) := by decide +kernel
theorem dX7_readInto_16 : decode cX7_readInto 16 = .ok (.istore_n 2, 1) := by decide +kernel
theorem dX7_readInto_17 : decode cX7_readInto 17 = .ok (.iload_n 2, 1) := by decide +kernel
theorem dX7_readInto_18 : decode cX7_readInto 18 = .ok (.aload_n 0, 1) := by decide +kernel
theorem dX7_readInto_19 : decode cX7_readInto 19 = .ok (.getfield 15, 3) := by decide +kernel
theorem dX7_readInto_22 : decode cX7_readInto 22 = .ok (.if_icmp .ge 38, 3) := by decide +kernel
theorem dX7_readInto_25 : decode cX7_readInto 25 = .ok (.aload_n 0, 1) := by decide +kernel
theorem dX7_readInto_26 : decode cX7_readInto 26 = .ok (.getfield 19, 3) := by decide +kernel
theorem dX7_readInto_29 : decode cX7_readInto 29 = .ok (.aload_n 0, 1) := by decide +kernel
theorem dX7_readInto_30 : decode cX7_readInto 30 = .ok (.getfield 15, 3) := by decide +kernel
theorem dX7_readInto_33 : decode cX7_readInto 33 = .ok (.if_icmp .ge 27, 3) := by decide +kernel
theorem dX7_readInto_36 : decode cX7_readInto 36 = .ok (.aload_n 0, 1) := by decide +kernel
theorem dX7_readInto_37 : decode cX7_readInto 37 = .ok (.getfield 22, 3) := by decide +kernel
theorem dX7_readInto_40 : decode cX7_readInto 40 = .ok (.bipush (-3), 2) := by decide +kernel
theorem dX7_readInto_42 : decode cX7_readInto 42 = .ok (.if_icmp .ne 18, 3) := by decide +kernel
theorem dX7_readInto_45 : decode cX7_readInto 45 = .ok (.aload_n 0, 1) := by decide +kernel
theorem dX7_readInto_46 : decode cX7_readInto 46 = .ok (.aload_n 1, 1) := by decide +kernel
theorem dX7_readInto_47 : decode cX7_readInto 47 = .ok (.invokevirtual 28, 3) := by decide +kernel
theorem dX7_readInto_50 : decode cX7_readInto 50 = .ok (.aload_n 0, 1) := by decide +kernel
theorem dX7_readInto_51 : decode cX7_readInto 51 = .ok (.invokevirtual 25, 3) := by decide +kernel
theorem dX7_readInto_54 : decode cX7_readInto 54 = .ok (.iinc 2 1, 3) := by decide +kernel
theorem dX7_readInto_57 : decode cX7_readInto 57 = .ok (.goto (-40), 3) := by decide +kernel
theorem dX7_readInto_60 : decode cX7_readInto 60 = .ok (.aload_n 0, 1) := by decide +kernel
theorem dX7_readInto_61 : decode cX7_readInto 61 = .ok (.getfield 22, 3) := by decide +kernel
theorem dX7_readInto_64 : decode cX7_readInto 64 = .ok (.ireturn, 1) := by decide +kernel
theorem dX7_readEntry_0 : decode cX7_readEntry 0 = .ok (.aload_n 0, 1) := by decide +kernel
theorem dX7_readEntry_1 : decode cX7_readEntry 1 = .ok (.getfield 19, 3) := by decide +kernel
theorem dX7_readEntry_4 : decode cX7_readEntry 4 = .ok (.istore_n 2, 1) := by decide +kernel
theorem dX7_readEntry_5 : decode cX7_readEntry 5 = .ok (.aload_n 0, 1) := by decide +kernel
theorem dX7_readEntry_6 : decode cX7_readEntry 6 = .ok (.bipush 97, 2) := by decide +kernel
theorem dX7_readEntry_8 : decode cX7_readEntry 8 = .ok (.bipush 122, 2) := by decide +kernel
theorem dX7_readEntry_10 : decode cX7_readEntry 10 = .ok (.invokevirtual 32, 3) := by decide +kernel
theorem dX7_readEntry_13 : decode cX7_readEntry 13 = .ok (.istore_n 3, 1) := by decide +kernel
theorem dX7_readEntry_14 : decode cX7_readEntry 14 = .ok (.aload_n 0, 1) := by decide +kernel
theorem dX7_readEntry_15 : decode cX7_readEntry 15 = .ok (.iload_n 3, 1) := by decide +kernel
theorem dX7_readEntry_16 : decode cX7_readEntry 16 = .ok (.putfield 19, 3) := by decide +kernel
theorem dX7_readEntry_19 : decode cX7_readEntry 19 = .ok (.aload_n 0, 1) := by decide +kernel
theorem dX7_readEntry_20 : decode cX7_readEntry 20 = .ok (.iload_n 2, 1) := by decide +kernel
theorem dX7_readEntry_21 : decode cX7_readEntry 21 = .ok (.iload_n 3, 1) := by decide +kernel
theorem dX7_readEntry_22 : decode cX7_readEntry 22 = .ok (.invokevirtual 36, 3) := by decide +kernel
theorem dX7_readEntry_25 : decode cX7_readEntry 25 = .ok (.istore 4, 2) := by decide +kernel
theorem dX7_readEntry_27 : decode cX7_readEntry 27 = .ok (.aload_n 0, 1) := by decide +kernel
theorem dX7_readEntry_28 : decode cX7_readEntry 28 = .ok (.iload_n 2, 1) := by decide +kernel
theorem dX7_readEntry_29 : decode cX7_readEntry 29 = .ok (.iload_n 3, 1) := by decide +kernel
theorem dX7_readEntry_30 : decode cX7_readEntry 30 = .ok (.ldc 40, 2) := by decide +kernel
theorem dX7_readEntry_32 : decode cX7_readEntry 32 = .ok (.invokevirtual 42, 3) := by decide +kernel
theorem dX7_readEntry_35 : decode cX7_readEntry 35 = .ok (.ifCond .eq 12, 3) := by decide +kernel
theorem dX7_readEntry_38 : decode cX7_readEntry 38 = .ok (.aload_n 0, 1) := by decide +kernel
theorem dX7_readEntry_39 : decode cX7_readEntry 39 = .ok (.aload_n 1, 1) := by decide +kernel
theorem dX7_readEntry_40 : decode cX7_readEntry 40 = .ok (.iload_n 2, 1) := by decide +kernel
theorem dX7_readEntry_41 : decode cX7_readEntry 41 = .ok (.invokevirtual 46, 3) := by decide +kernel
theorem dX7_readEntry_44 : decode cX7_readEntry 44 = .ok (.goto 64, 3) := by decide +kernel
theorem dX7_readEntry_47 : decode cX7_readEntry 47 = .ok (.iload 4, 2) := by decide +kernel
theorem dX7_readEntry_49 : decode cX7_readEntry 49 = .ok (.bipush (-3), 2) := by decide +kernel
theorem dX7_readEntry_51 : decode cX7_readEntry 51 = .ok (.if_icmp .eq 14, 3) := by decide +kernel
theorem dX7_readEntry_54 : decode cX7_readEntry 54 = .ok (.aload_n 0, 1) := by decide +kernel
theorem dX7_readEntry_55 : decode cX7_readEntry 55 = .ok (.aload_n 1, 1) := by decide +kernel
theorem dX7_readEntry_56 : decode cX7_readEntry 56 = .ok (.iload_n 2, 1) := by decide +kernel
theorem dX7_readEntry_57 : decode cX7_readEntry 57 = .ok (.iload 4, 2) := by decide +kernel
theorem dX7_readEntry_59 : decode cX7_readEntry 59 = .ok (.invokevirtual 50, 3) := by decide +kernel
theorem dX7_readEntry_62 : decode cX7_readEntry 62 = .ok (.goto 46, 3) := by decide +kernel
theorem dX7_readEntry_65 : decode cX7_readEntry 65 = .ok (.aload_n 0, 1) := by decide +kernel
theorem dX7_readEntry_66 : decode cX7_readEntry 66 = .ok (.iload_n 2, 1) := by decide +kernel
theorem dX7_readEntry_67 : decode cX7_readEntry 67 = .ok (.iload_n 3, 1) := by decide +kernel
theorem dX7_readEntry_68 : decode cX7_readEntry 68 = .ok (.ldc 54, 2) := by decide +kernel
theorem dX7_readEntry_70 : decode cX7_readEntry 70 = .ok (.invokevirtual 42, 3) := by decide +kernel
theorem dX7_readEntry_73 : decode cX7_readEntry 73 = .ok (.ifCond .eq 11, 3) := by decide +kernel
theorem dX7_readEntry_76 : decode cX7_readEntry 76 = .ok (.aload_n 0, 1) := by decide +kernel
theorem dX7_readEntry_77 : decode cX7_readEntry 77 = .ok (.aload_n 1, 1) := by decide +kernel
theorem dX7_readEntry_78 : decode cX7_readEntry 78 = .ok (.invokevirtual 56, 3) := by decide +kernel
theorem dX7_readEntry_81 : decode cX7_readEntry 81 = .ok (.goto 27, 3) := by decide +kernel
theorem dX7_readEntry_84 : decode cX7_readEntry 84 = .ok (.aload_n 0, 1) := by decide +kernel
theorem dX7_readEntry_85 : decode cX7_readEntry 85 = .ok (.iload_n 2, 1) := by decide +kernel
theorem dX7_readEntry_86 : decode cX7_readEntry 86 = .ok (.iload_n 3, 1) := by decide +kernel
theorem dX7_readEntry_87 : decode cX7_readEntry 87 = .ok (.ldc 59, 2) := by decide +kernel
theorem dX7_readEntry_89 : decode cX7_readEntry 89 = .ok (.invokevirtual 42, 3) := by decide +kernel
theorem dX7_readEntry_92 : decode cX7_readEntry 92 = .ok (.ifCond .eq 11, 3) := by decide +kernel
theorem dX7_readEntry_95 : decode cX7_readEntry 95 = .ok (.aload_n 0, 1) := by decide +kernel
theorem dX7_readEntry_96 : decode cX7_readEntry 96 = .ok (.aload_n 1, 1) := by decide +kernel
theorem dX7_readEntry_97 : decode cX7_readEntry 97 = .ok (.invokevirtual 61, 3) := by decide +kernel
theorem dX7_readEntry_100 : decode cX7_readEntry 100 = .ok (.goto 8, 3) := by decide +kernel
theorem dX7_readEntry_103 : decode cX7_readEntry 103 = .ok (.aload_n 0, 1) := by decide +kernel
theorem dX7_readEntry_104 : decode cX7_readEntry 104 = .ok (.iload_n 2, 1) := by decide +kernel
theorem dX7_readEntry_105 : decode cX7_readEntry 105 = .ok (.putfield 22, 3) := by decide +kernel
theorem dX7_readEntry_108 : decode cX7_readEntry 108 = .ok (.return_, 1) := by decide +kernel
theorem dX7_readLot_0 : decode cX7_readLot 0 = .ok (.aload_n 1, 1) := by decide +kernel
theorem dX7_readLot_1 : decode cX7_readLot 1 = .ok (.getfield 64, 3) := by decide +kernel
theorem dX7_readLot_4 : decode cX7_readLot 4 = .ok (.iconst 5, 1) := by decide +kernel
theorem dX7_readLot_5 : decode cX7_readLot 5 = .ok (.if_icmp .lt 9, 3) := by decide +kernel
theorem dX7_readLot_8 : decode cX7_readLot 8 = .ok (.aload_n 0, 1) := by decide +kernel
theorem dX7_readLot_9 : decode cX7_readLot 9 = .ok (.iload_n 2, 1) := by decide +kernel
theorem dX7_readLot_10 : decode cX7_readLot 10 = .ok (.putfield 22, 3) := by decide +kernel
theorem dX7_readLot_13 : decode cX7_readLot 13 = .ok (.return_, 1) := by decide +kernel
theorem dX7_readLot_14 : decode cX7_readLot 14 = .ok (.aload_n 0, 1) := by decide +kernel
theorem dX7_readLot_15 : decode cX7_readLot 15 = .ok (.iconst 1, 1) := by decide +kernel
theorem dX7_readLot_16 : decode cX7_readLot 16 = .ok (.bipush 60, 2) := by decide +kernel
theorem dX7_readLot_18 : decode cX7_readLot 18 = .ok (.invokevirtual 69, 3) := by decide +kernel
theorem dX7_readLot_21 : decode cX7_readLot 21 = .ok (.istore_n 3, 1) := by decide +kernel
theorem dX7_readLot_22 : decode cX7_readLot 22 = .ok (.aload_n 0, 1) := by decide +kernel
theorem dX7_readLot_23 : decode cX7_readLot 23 = .ok (.ldc 72, 2) := by decide +kernel
theorem dX7_readLot_25 : decode cX7_readLot 25 = .ok (.invokevirtual 74, 3) := by decide +kernel
theorem dX7_readLot_28 : decode cX7_readLot 28 = .ok (.aload_n 0, 1) := by decide +kernel
theorem dX7_readLot_29 : decode cX7_readLot 29 = .ok (.iconst 1, 1) := by decide +kernel
theorem dX7_readLot_30 : decode cX7_readLot 30 = .ok (.bipush 99, 2) := by decide +kernel
theorem dX7_readLot_32 : decode cX7_readLot 32 = .ok (.invokevirtual 69, 3) := by decide +kernel
theorem dX7_readLot_35 : decode cX7_readLot 35 = .ok (.istore 4, 2) := by decide +kernel
theorem dX7_readLot_37 : decode cX7_readLot 37 = .ok (.aload_n 0, 1) := by decide +kernel
theorem dX7_readLot_38 : decode cX7_readLot 38 = .ok (.invokevirtual 78, 3) := by decide +kernel
theorem dX7_readLot_41 : decode cX7_readLot 41 = .ok (.aload_n 0, 1) := by decide +kernel
theorem dX7_readLot_42 : decode cX7_readLot 42 = .ok (.getfield 22, 3) := by decide +kernel
theorem dX7_readLot_45 : decode cX7_readLot 45 = .ok (.bipush (-3), 2) := by decide +kernel
theorem dX7_readLot_47 : decode cX7_readLot 47 = .ok (.if_icmp .ne 11, 3) := by decide +kernel
theorem dX7_readLot_50 : decode cX7_readLot 50 = .ok (.aload_n 1, 1) := by decide +kernel
theorem dX7_readLot_51 : decode cX7_readLot 51 = .ok (.iload_n 3, 1) := by decide +kernel
theorem dX7_readLot_52 : decode cX7_readLot 52 = .ok (.iload 4, 2) := by decide +kernel
theorem dX7_readLot_54 : decode cX7_readLot 54 = .ok (.invokevirtual 81, 3) := by decide +kernel
theorem dX7_readLot_57 : decode cX7_readLot 57 = .ok (.pop, 1) := by decide +kernel
theorem dX7_readLot_58 : decode cX7_readLot 58 = .ok (.return_, 1) := by decide +kernel
theorem dX7_readBidder_0 : decode cX7_readBidder 0 = .ok (.aload_n 1, 1) := by decide +kernel
theorem dX7_readBidder_1 : decode cX7_readBidder 1 = .ok (.getfield 84, 3) := by decide +kernel
theorem dX7_readBidder_4 : decode cX7_readBidder 4 = .ok (.bipush 6, 2) := by decide +kernel
theorem dX7_readBidder_6 : decode cX7_readBidder 6 = .ok (.if_icmp .lt 9, 3) := by decide +kernel
theorem dX7_readBidder_9 : decode cX7_readBidder 9 = .ok (.aload_n 0, 1) := by decide +kernel
theorem dX7_readBidder_10 : decode cX7_readBidder 10 = .ok (.iload_n 2, 1) := by decide +kernel
theorem dX7_readBidder_11 : decode cX7_readBidder 11 = .ok (.putfield 22, 3) := by decide +kernel
theorem dX7_readBidder_14 : decode cX7_readBidder 14 = .ok (.return_, 1) := by decide +kernel
theorem dX7_readBidder_15 : decode cX7_readBidder 15 = .ok (.aload_n 0, 1) := by decide +kernel
theorem dX7_readBidder_16 : decode cX7_readBidder 16 = .ok (.iconst 0, 1) := by decide +kernel
theorem dX7_readBidder_17 : decode cX7_readBidder 17 = .ok (.bipush 9, 2) := by decide +kernel
theorem dX7_readBidder_19 : decode cX7_readBidder 19 = .ok (.invokevirtual 69, 3) := by decide +kernel
theorem dX7_readBidder_22 : decode cX7_readBidder 22 = .ok (.istore 4, 2) := by decide +kernel
theorem dX7_readBidder_24 : decode cX7_readBidder 24 = .ok (.aload_n 0, 1) := by decide +kernel
theorem dX7_readBidder_25 : decode cX7_readBidder 25 = .ok (.ldc 87, 2) := by decide +kernel
theorem dX7_readBidder_27 : decode cX7_readBidder 27 = .ok (.invokevirtual 74, 3) := by decide +kernel
theorem dX7_readBidder_30 : decode cX7_readBidder 30 = .ok (.aload_n 0, 1) := by decide +kernel
theorem dX7_readBidder_31 : decode cX7_readBidder 31 = .ok (.iconst 0, 1) := by decide +kernel
theorem dX7_readBidder_32 : decode cX7_readBidder 32 = .ok (.sipush 999, 3) := by decide +kernel
theorem dX7_readBidder_35 : decode cX7_readBidder 35 = .ok (.invokevirtual 69, 3) := by decide +kernel
theorem dX7_readBidder_38 : decode cX7_readBidder 38 = .ok (.istore 5, 2) := by decide +kernel
theorem dX7_readBidder_40 : decode cX7_readBidder 40 = .ok (.aload_n 0, 1) := by decide +kernel
theorem dX7_readBidder_41 : decode cX7_readBidder 41 = .ok (.ldc 89, 2) := by decide +kernel
theorem dX7_readBidder_43 : decode cX7_readBidder 43 = .ok (.invokevirtual 74, 3) := by decide +kernel
theorem dX7_readBidder_46 : decode cX7_readBidder 46 = .ok (.aload_n 0, 1) := by decide +kernel
theorem dX7_readBidder_47 : decode cX7_readBidder 47 = .ok (.iconst 0, 1) := by decide +kernel
theorem dX7_readBidder_48 : decode cX7_readBidder 48 = .ok (.sipush 9999, 3) := by decide +kernel
theorem dX7_readBidder_51 : decode cX7_readBidder 51 = .ok (.invokevirtual 69, 3) := by decide +kernel
theorem dX7_readBidder_54 : decode cX7_readBidder 54 = .ok (.istore 6, 2) := by decide +kernel
theorem dX7_readBidder_56 : decode cX7_readBidder 56 = .ok (.aload_n 0, 1) := by decide +kernel
theorem dX7_readBidder_57 : decode cX7_readBidder 57 = .ok (.invokevirtual 78, 3) := by decide +kernel
theorem dX7_readBidder_60 : decode cX7_readBidder 60 = .ok (.aload_n 0, 1) := by decide +kernel
theorem dX7_readBidder_61 : decode cX7_readBidder 61 = .ok (.getfield 22, 3) := by decide +kernel
theorem dX7_readBidder_64 : decode cX7_readBidder 64 = .ok (.bipush (-3), 2) := by decide +kernel
theorem dX7_readBidder_66 : decode cX7_readBidder 66 = .ok (.if_icmp .ne 15, 3) := by decide +kernel
theorem dX7_readBidder_69 : decode cX7_readBidder 69 = .ok (.aload_n 1, 1) := by decide +kernel
theorem dX7_readBidder_70 : decode cX7_readBidder 70 = .ok (.iload_n 3, 1) := by decide +kernel
theorem dX7_readBidder_71 : decode cX7_readBidder 71 = .ok (.iload 4, 2) := by decide +kernel
theorem dX7_readBidder_73 : decode cX7_readBidder 73 = .ok (.iload 5, 2) := by decide +kernel
theorem dX7_readBidder_75 : decode cX7_readBidder 75 = .ok (.iload 6, 2) := by decide +kernel
theorem dX7_readBidder_77 : decode cX7_readBidder 77 = .ok (.invokevirtual 91, 3) := by decide +kernel
theorem dX7_readBidder_80 : decode cX7_readBidder 80 = .ok (.pop, 1) := by decide +kernel
theorem dX7_readBidder_81 : decode cX7_readBidder 81 = .ok (.return_, 1) := by decide +kernel
theorem dX7_readDraught_0 : decode cX7_readDraught 0 = .ok (.aload_n 0, 1) := by decide +kernel
theorem dX7_readDraught_1 : decode cX7_readDraught 1 = .ok (.iconst 0, 1) := by decide +kernel
theorem dX7_readDraught_2 : decode cX7_readDraught 2 = .ok (.bipush 11, 2) := by decide +kernel
theorem dX7_readDraught_4 : decode cX7_readDraught 4 = .ok (.invokevirtual 69, 3) := by decide +kernel
theorem dX7_readDraught_7 : decode cX7_readDraught 7 = .ok (.istore_n 2, 1) := by decide +kernel
theorem dX7_readDraught_8 : decode cX7_readDraught 8 = .ok (.aload_n 0, 1) := by decide +kernel
theorem dX7_readDraught_9 : decode cX7_readDraught 9 = .ok (.iconst 0, 1) := by decide +kernel
theorem dX7_readDraught_10 : decode cX7_readDraught 10 = .ok (.iconst 3, 1) := by decide +kernel
theorem dX7_readDraught_11 : decode cX7_readDraught 11 = .ok (.invokevirtual 69, 3) := by decide +kernel
theorem dX7_readDraught_14 : decode cX7_readDraught 14 = .ok (.istore_n 3, 1) := by decide +kernel
theorem dX7_readDraught_15 : decode cX7_readDraught 15 = .ok (.aload_n 0, 1) := by decide +kernel
theorem dX7_readDraught_16 : decode cX7_readDraught 16 = .ok (.invokevirtual 78, 3) := by decide +kernel
theorem dX7_readDraught_19 : decode cX7_readDraught 19 = .ok (.aload_n 0, 1) := by decide +kernel
theorem dX7_readDraught_20 : decode cX7_readDraught 20 = .ok (.getfield 22, 3) := by decide +kernel
theorem dX7_readDraught_23 : decode cX7_readDraught 23 = .ok (.bipush (-3), 2) := by decide +kernel
theorem dX7_readDraught_25 : decode cX7_readDraught 25 = .ok (.if_icmp .ne 10, 3) := by decide +kernel
theorem dX7_readDraught_28 : decode cX7_readDraught 28 = .ok (.aload_n 1, 1) := by decide +kernel
theorem dX7_readDraught_29 : decode cX7_readDraught 29 = .ok (.getfield 95, 3) := by decide +kernel
theorem dX7_readDraught_32 : decode cX7_readDraught 32 = .ok (.iload_n 2, 1) := by decide +kernel
theorem dX7_readDraught_33 : decode cX7_readDraught 33 = .ok (.iload_n 3, 1) := by decide +kernel
theorem dX7_readDraught_34 : decode cX7_readDraught 34 = .ok (.iastore, 1) := by decide +kernel
theorem dX7_readDraught_35 : decode cX7_readDraught 35 = .ok (.return_, 1) := by decide +kernel
theorem dX7_readStep_0 : decode cX7_readStep 0 = .ok (.aload_n 0, 1) := by decide +kernel
theorem dX7_readStep_1 : decode cX7_readStep 1 = .ok (.iconst 1, 1) := by decide +kernel
theorem dX7_readStep_2 : decode cX7_readStep 2 = .ok (.bipush 20, 2) := by decide +kernel
theorem dX7_readStep_4 : decode cX7_readStep 4 = .ok (.invokevirtual 69, 3) := by decide +kernel
theorem dX7_readStep_7 : decode cX7_readStep 7 = .ok (.istore_n 2, 1) := by decide +kernel
theorem dX7_readStep_8 : decode cX7_readStep 8 = .ok (.aload_n 0, 1) := by decide +kernel
theorem dX7_readStep_9 : decode cX7_readStep 9 = .ok (.invokevirtual 78, 3) := by decide +kernel
theorem dX7_readStep_12 : decode cX7_readStep 12 = .ok (.aload_n 0, 1) := by decide +kernel
theorem dX7_readStep_13 : decode cX7_readStep 13 = .ok (.getfield 22, 3) := by decide +kernel
theorem dX7_readStep_16 : decode cX7_readStep 16 = .ok (.bipush (-3), 2) := by decide +kernel
theorem dX7_readStep_18 : decode cX7_readStep 18 = .ok (.if_icmp .ne 8, 3) := by decide +kernel
theorem dX7_readStep_21 : decode cX7_readStep 21 = .ok (.aload_n 1, 1) := by decide +kernel
theorem dX7_readStep_22 : decode cX7_readStep 22 = .ok (.iload_n 2, 1) := by decide +kernel
theorem dX7_readStep_23 : decode cX7_readStep 23 = .ok (.putfield 99, 3) := by decide +kernel
theorem dX7_readStep_26 : decode cX7_readStep 26 = .ok (.return_, 1) := by decide +kernel
theorem dX7_readName_0 : decode cX7_readName 0 = .ok (.aload_n 0, 1) := by decide +kernel
theorem dX7_readName_1 : decode cX7_readName 1 = .ok (.getfield 22, 3) := by decide +kernel
theorem dX7_readName_4 : decode cX7_readName 4 = .ok (.bipush (-3), 2) := by decide +kernel
theorem dX7_readName_6 : decode cX7_readName 6 = .ok (.if_icmp .eq 4, 3) := by decide +kernel
theorem dX7_readName_9 : decode cX7_readName 9 = .ok (.return_, 1) := by decide +kernel
theorem dX7_readName_10 : decode cX7_readName 10 = .ok (.aload_n 0, 1) := by decide +kernel
theorem dX7_readName_11 : decode cX7_readName 11 = .ok (.invokevirtual 25, 3) := by decide +kernel
theorem dX7_readName_14 : decode cX7_readName 14 = .ok (.aload_n 0, 1) := by decide +kernel
theorem dX7_readName_15 : decode cX7_readName 15 = .ok (.bipush 97, 2) := by decide +kernel
theorem dX7_readName_17 : decode cX7_readName 17 = .ok (.bipush 122, 2) := by decide +kernel
theorem dX7_readName_19 : decode cX7_readName 19 = .ok (.invokevirtual 32, 3) := by decide +kernel
theorem dX7_readName_22 : decode cX7_readName 22 = .ok (.istore_n 2, 1) := by decide +kernel
theorem dX7_readName_23 : decode cX7_readName 23 = .ok (.aload_n 0, 1) := by decide +kernel
theorem dX7_readName_24 : decode cX7_readName 24 = .ok (.aload_n 0, 1) := by decide +kernel
theorem dX7_readName_25 : decode cX7_readName 25 = .ok (.getfield 19, 3) := by decide +kernel
theorem dX7_readName_28 : decode cX7_readName 28 = .ok (.iload_n 2, 1) := by decide +kernel
theorem dX7_readName_29 : decode cX7_readName 29 = .ok (.aload_n 1, 1) := by decide +kernel
theorem dX7_readName_30 : decode cX7_readName 30 = .ok (.invokevirtual 42, 3) := by decide +kernel
theorem dX7_readName_33 : decode cX7_readName 33 = .ok (.ifCond .eq 11, 3) := by decide +kernel
theorem dX7_readName_36 : decode cX7_readName 36 = .ok (.aload_n 0, 1) := by decide +kernel
theorem dX7_readName_37 : decode cX7_readName 37 = .ok (.iload_n 2, 1) := by decide +kernel
theorem dX7_readName_38 : decode cX7_readName 38 = .ok (.putfield 19, 3) := by decide +kernel
theorem dX7_readName_41 : decode cX7_readName 41 = .ok (.goto 11, 3) := by decide +kernel
theorem dX7_readName_44 : decode cX7_readName 44 = .ok (.aload_n 0, 1) := by decide +kernel
theorem dX7_readName_45 : decode cX7_readName 45 = .ok (.aload_n 0, 1) := by decide +kernel
theorem dX7_readName_46 : decode cX7_readName 46 = .ok (.getfield 19, 3) := by decide +kernel
theorem dX7_readName_49 : decode cX7_readName 49 = .ok (.putfield 22, 3) := by decide +kernel
theorem dX7_readName_52 : decode cX7_readName 52 = .ok (.return_, 1) := by decide +kernel
theorem dX7_readNumber_0 : decode cX7_readNumber 0 = .ok (.aload_n 0, 1) := by decide +kernel
theorem dX7_readNumber_1 : decode cX7_readNumber 1 = .ok (.getfield 22, 3) := by decide +kernel
theorem dX7_readNumber_4 : decode cX7_readNumber 4 = .ok (.bipush (-3), 2) := by decide +kernel
theorem dX7_readNumber_6 : decode cX7_readNumber 6 = .ok (.if_icmp .eq 5, 3) := by decide +kernel
theorem dX7_readNumber_9 : decode cX7_readNumber 9 = .ok (.iload_n 1, 1) := by decide +kernel
theorem dX7_readNumber_10 : decode cX7_readNumber 10 = .ok (.ireturn, 1) := by decide +kernel
theorem dX7_readNumber_11 : decode cX7_readNumber 11 = .ok (.aload_n 0, 1) := by decide +kernel
theorem dX7_readNumber_12 : decode cX7_readNumber 12 = .ok (.invokevirtual 25, 3) := by decide +kernel
theorem dX7_readNumber_15 : decode cX7_readNumber 15 = .ok (.aload_n 0, 1) := by decide +kernel
theorem dX7_readNumber_16 : decode cX7_readNumber 16 = .ok (.bipush 48, 2) := by decide +kernel
theorem dX7_readNumber_18 : decode cX7_readNumber 18 = .ok (.bipush 57, 2) := by decide +kernel
theorem dX7_readNumber_20 : decode cX7_readNumber 20 = .ok (.invokevirtual 32, 3) := by decide +kernel
theorem dX7_readNumber_23 : decode cX7_readNumber 23 = .ok (.istore_n 3, 1) := by decide +kernel
theorem dX7_readNumber_24 : decode cX7_readNumber 24 = .ok (.iconst 0, 1) := by decide +kernel
theorem dX7_readNumber_25 : decode cX7_readNumber 25 = .ok (.istore 4, 2) := by decide +kernel
theorem dX7_readNumber_27 : decode cX7_readNumber 27 = .ok (.aload_n 0, 1) := by decide +kernel
theorem dX7_readNumber_28 : decode cX7_readNumber 28 = .ok (.getfield 19, 3) := by decide +kernel
theorem dX7_readNumber_31 : decode cX7_readNumber 31 = .ok (.istore 5, 2) := by decide +kernel
theorem dX7_readNumber_33 : decode cX7_readNumber 33 = .ok (.iload 5, 2) := by decide +kernel
theorem dX7_readNumber_35 : decode cX7_readNumber 35 = .ok (.iload_n 3, 1) := by decide +kernel
theorem dX7_readNumber_36 : decode cX7_readNumber 36 = .ok (.if_icmp .ge 38, 3) := by decide +kernel
theorem dX7_readNumber_39 : decode cX7_readNumber 39 = .ok (.iload 5, 2) := by decide +kernel
theorem dX7_readNumber_41 : decode cX7_readNumber 41 = .ok (.aload_n 0, 1) := by decide +kernel
theorem dX7_readNumber_42 : decode cX7_readNumber 42 = .ok (.getfield 19, 3) := by decide +kernel
theorem dX7_readNumber_45 : decode cX7_readNumber 45 = .ok (.iconst 4, 1) := by decide +kernel
theorem dX7_readNumber_46 : decode cX7_readNumber 46 = .ok (.iadd, 1) := by decide +kernel
theorem dX7_readNumber_47 : decode cX7_readNumber 47 = .ok (.if_icmp .ge 27, 3) := by decide +kernel
theorem dX7_readNumber_50 : decode cX7_readNumber 50 = .ok (.iload 4, 2) := by decide +kernel
theorem dX7_readNumber_52 : decode cX7_readNumber 52 = .ok (.bipush 10, 2) := by decide +kernel
theorem dX7_readNumber_54 : decode cX7_readNumber 54 = .ok (.imul, 1) := by decide +kernel
theorem dX7_readNumber_55 : decode cX7_readNumber 55 = .ok (.aload_n 0, 1) := by decide +kernel
theorem dX7_readNumber_56 : decode cX7_readNumber 56 = .ok (.getfield 11, 3) := by decide +kernel
theorem dX7_readNumber_59 : decode cX7_readNumber 59 = .ok (.iload 5, 2) := by decide +kernel
theorem dX7_readNumber_61 : decode cX7_readNumber 61 = .ok (.baload, 1) := by decide +kernel
theorem dX7_readNumber_62 : decode cX7_readNumber 62 = .ok (.bipush 48, 2) := by decide +kernel
theorem dX7_readNumber_64 : decode cX7_readNumber 64 = .ok (.isub, 1) := by decide +kernel
theorem dX7_readNumber_65 : decode cX7_readNumber 65 = .ok (.iadd, 1) := by decide +kernel
theorem dX7_readNumber_66 : decode cX7_readNumber 66 = .ok (.istore 4, 2) := by decide +kernel
theorem dX7_readNumber_68 : decode cX7_readNumber 68 = .ok (.iinc 5 1, 3) := by decide +kernel
theorem dX7_readNumber_71 : decode cX7_readNumber 71 = .ok (.goto (-38), 3) := by decide +kernel
theorem dX7_readNumber_74 : decode cX7_readNumber 74 = .ok (.iload_n 3, 1) := by decide +kernel
theorem dX7_readNumber_75 : decode cX7_readNumber 75 = .ok (.aload_n 0, 1) := by decide +kernel
theorem dX7_readNumber_76 : decode cX7_readNumber 76 = .ok (.getfield 19, 3) := by decide +kernel
theorem dX7_readNumber_79 : decode cX7_readNumber 79 = .ok (.if_icmp .le 27, 3) := by decide +kernel
theorem dX7_readNumber_82 : decode cX7_readNumber 82 = .ok (.iload_n 3, 1) := by decide +kernel
theorem dX7_readNumber_83 : decode cX7_readNumber 83 = .ok (.aload_n 0, 1) := by decide +kernel
theorem dX7_readNumber_84 : decode cX7_readNumber 84 = .ok (.getfield 19, 3) := by decide +kernel
theorem dX7_readNumber_87 : decode cX7_readNumber 87 = .ok (.iconst 4, 1) := by decide +kernel
theorem dX7_readNumber_88 : decode cX7_readNumber 88 = .ok (.iadd, 1) := by decide +kernel
theorem dX7_readNumber_89 : decode cX7_readNumber 89 = .ok (.if_icmp .gt 17, 3) := by decide +kernel
theorem dX7_readNumber_92 : decode cX7_readNumber 92 = .ok (.iload 4, 2) := by decide +kernel
theorem dX7_readNumber_94 : decode cX7_readNumber 94 = .ok (.iload_n 1, 1) := by decide +kernel
theorem dX7_readNumber_95 : decode cX7_readNumber 95 = .ok (.iload_n 2, 1) := by decide +kernel
theorem dX7_readNumber_96 : decode cX7_readNumber 96 = .ok (.invokestatic 101, 3) := by decide +kernel
theorem dX7_readNumber_99 : decode cX7_readNumber 99 = .ok (.ifCond .eq 7, 3) := by decide +kernel
theorem dX7_readNumber_102 : decode cX7_readNumber 102 = .ok (.iconst 1, 1) := by decide +kernel
theorem dX7_readNumber_103 : decode cX7_readNumber 103 = .ok (.goto 4, 3) := by decide +kernel
theorem dX7_readNumber_106 : decode cX7_readNumber 106 = .ok (.iconst 0, 1) := by decide +kernel
theorem dX7_readNumber_107 : decode cX7_readNumber 107 = .ok (.istore 5, 2) := by decide +kernel
theorem dX7_readNumber_109 : decode cX7_readNumber 109 = .ok (.iload 5, 2) := by decide +kernel
theorem dX7_readNumber_111 : decode cX7_readNumber 111 = .ok (.ifCond .ne 13, 3) := by decide +kernel
theorem dX7_readNumber_114 : decode cX7_readNumber 114 = .ok (.aload_n 0, 1) := by decide +kernel
theorem dX7_readNumber_115 : decode cX7_readNumber 115 = .ok (.aload_n 0, 1) := by decide +kernel
theorem dX7_readNumber_116 : decode cX7_readNumber 116 = .ok (.getfield 19, 3) := by decide +kernel
theorem dX7_readNumber_119 : decode cX7_readNumber 119 = .ok (.putfield 22, 3) := by decide +kernel
theorem dX7_readNumber_122 : decode cX7_readNumber 122 = .ok (.iload_n 1, 1) := by decide +kernel
theorem dX7_readNumber_123 : decode cX7_readNumber 123 = .ok (.ireturn, 1) := by decide +kernel
theorem dX7_readNumber_124 : decode cX7_readNumber 124 = .ok (.aload_n 0, 1) := by decide +kernel
theorem dX7_readNumber_125 : decode cX7_readNumber 125 = .ok (.iload_n 3, 1) := by decide +kernel
theorem dX7_readNumber_126 : decode cX7_readNumber 126 = .ok (.putfield 19, 3) := by decide +kernel
theorem dX7_readNumber_129 : decode cX7_readNumber 129 = .ok (.iload 4, 2) := by decide +kernel
theorem dX7_readNumber_131 : decode cX7_readNumber 131 = .ok (.ireturn, 1) := by decide +kernel
theorem dX7_readEndMark_0 : decode cX7_readEndMark 0 = .ok (.aload_n 0, 1) := by decide +kernel
theorem dX7_readEndMark_1 : decode cX7_readEndMark 1 = .ok (.getfield 22, 3) := by decide +kernel
theorem dX7_readEndMark_4 : decode cX7_readEndMark 4 = .ok (.bipush (-3), 2) := by decide +kernel
theorem dX7_readEndMark_6 : decode cX7_readEndMark 6 = .ok (.if_icmp .eq 4, 3) := by decide +kernel
theorem dX7_readEndMark_9 : decode cX7_readEndMark 9 = .ok (.return_, 1) := by decide +kernel
theorem dX7_readEndMark_10 : decode cX7_readEndMark 10 = .ok (.aload_n 0, 1) := by decide +kernel
theorem dX7_readEndMark_11 : decode cX7_readEndMark 11 = .ok (.invokevirtual 25, 3) := by decide +kernel
theorem dX7_readEndMark_14 : decode cX7_readEndMark 14 = .ok (.aload_n 0, 1) := by decide +kernel
theorem dX7_readEndMark_15 : decode cX7_readEndMark 15 = .ok (.getfield 19, 3) := by decide +kernel
theorem dX7_readEndMark_18 : decode cX7_readEndMark 18 = .ok (.aload_n 0, 1) := by decide +kernel
theorem dX7_readEndMark_19 : decode cX7_readEndMark 19 = .ok (.getfield 15, 3) := by decide +kernel
theorem dX7_readEndMark_22 : decode cX7_readEndMark 22 = .ok (.if_icmp .ge 30, 3) := by decide +kernel
theorem dX7_readEndMark_25 : decode cX7_readEndMark 25 = .ok (.aload_n 0, 1) := by decide +kernel
theorem dX7_readEndMark_26 : decode cX7_readEndMark 26 = .ok (.getfield 11, 3) := by decide +kernel
theorem dX7_readEndMark_29 : decode cX7_readEndMark 29 = .ok (.aload_n 0, 1) := by decide +kernel
theorem dX7_readEndMark_30 : decode cX7_readEndMark 30 = .ok (.getfield 19, 3) := by decide +kernel
theorem dX7_readEndMark_33 : decode cX7_readEndMark 33 = .ok (.baload, 1) := by decide +kernel
theorem dX7_readEndMark_34 : decode cX7_readEndMark 34 = .ok (.bipush 59, 2) := by decide +kernel
theorem dX7_readEndMark_36 : decode cX7_readEndMark 36 = .ok (.if_icmp .ne 16, 3) := by decide +kernel
theorem dX7_readEndMark_39 : decode cX7_readEndMark 39 = .ok (.aload_n 0, 1) := by decide +kernel
theorem dX7_readEndMark_40 : decode cX7_readEndMark 40 = .ok (.dup, 1) := by decide +kernel
theorem dX7_readEndMark_41 : decode cX7_readEndMark 41 = .ok (.getfield 19, 3) := by decide +kernel
theorem dX7_readEndMark_44 : decode cX7_readEndMark 44 = .ok (.iconst 1, 1) := by decide +kernel
theorem dX7_readEndMark_45 : decode cX7_readEndMark 45 = .ok (.iadd, 1) := by decide +kernel
theorem dX7_readEndMark_46 : decode cX7_readEndMark 46 = .ok (.putfield 19, 3) := by decide +kernel
theorem dX7_readEndMark_49 : decode cX7_readEndMark 49 = .ok (.goto 11, 3) := by decide +kernel
theorem dX7_readEndMark_52 : decode cX7_readEndMark 52 = .ok (.aload_n 0, 1) := by decide +kernel
theorem dX7_readEndMark_53 : decode cX7_readEndMark 53 = .ok (.aload_n 0, 1) := by decide +kernel
theorem dX7_readEndMark_54 : decode cX7_readEndMark 54 = .ok (.getfield 19, 3) := by decide +kernel
theorem dX7_readEndMark_57 : decode cX7_readEndMark 57 = .ok (.putfield 22, 3) := by decide +kernel
theorem dX7_readEndMark_60 : decode cX7_readEndMark 60 = .ok (.return_, 1) := by decide +kernel
theorem dX7_skipBlanks_0 : decode cX7_skipBlanks 0 = .ok (.aload_n 0, 1) := by decide +kernel
theorem dX7_skipBlanks_1 : decode cX7_skipBlanks 1 = .ok (.aload_n 0, 1) := by decide +kernel
theorem dX7_skipBlanks_2 : decode cX7_skipBlanks 2 = .ok (.bipush 32, 2) := by decide +kernel
theorem dX7_skipBlanks_4 : decode cX7_skipBlanks 4 = .ok (.bipush 32, 2) := by decide +kernel
theorem dX7_skipBlanks_6 : decode cX7_skipBlanks 6 = .ok (.invokevirtual 32, 3) := by decide +kernel
theorem dX7_skipBlanks_9 : decode cX7_skipBlanks 9 = .ok (.putfield 19, 3) := by decide +kernel
theorem dX7_skipBlanks_12 : decode cX7_skipBlanks 12 = .ok (.return_, 1) := by decide +kernel
theorem dX7_endOfRow_0 : decode cX7_endOfRow 0 = .ok (.aload_n 0, 1) := by decide +kernel
theorem dX7_endOfRow_1 : decode cX7_endOfRow 1 = .ok (.getfield 19, 3) := by decide +kernel
theorem dX7_endOfRow_4 : decode cX7_endOfRow 4 = .ok (.istore_n 3, 1) := by decide +kernel
theorem dX7_endOfRow_5 : decode cX7_endOfRow 5 = .ok (.iload_n 3, 1) := by decide +kernel
theorem dX7_endOfRow_6 : decode cX7_endOfRow 6 = .ok (.aload_n 0, 1) := by decide +kernel
theorem dX7_endOfRow_7 : decode cX7_endOfRow 7 = .ok (.getfield 15, 3) := by decide +kernel
theorem dX7_endOfRow_10 : decode cX7_endOfRow 10 = .ok (.if_icmp .ge 29, 3) := by decide +kernel
theorem dX7_endOfRow_13 : decode cX7_endOfRow 13 = .ok (.aload_n 0, 1) := by decide +kernel
theorem dX7_endOfRow_14 : decode cX7_endOfRow 14 = .ok (.getfield 11, 3) := by decide +kernel
theorem dX7_endOfRow_17 : decode cX7_endOfRow 17 = .ok (.iload_n 3, 1) := by decide +kernel
theorem dX7_endOfRow_18 : decode cX7_endOfRow 18 = .ok (.baload, 1) := by decide +kernel
theorem dX7_endOfRow_19 : decode cX7_endOfRow 19 = .ok (.iload_n 1, 1) := by decide +kernel
theorem dX7_endOfRow_20 : decode cX7_endOfRow 20 = .ok (.if_icmp .lt 19, 3) := by decide +kernel
theorem dX7_endOfRow_23 : decode cX7_endOfRow 23 = .ok (.aload_n 0, 1) := by decide +kernel
theorem dX7_endOfRow_24 : decode cX7_endOfRow 24 = .ok (.getfield 11, 3) := by decide +kernel
theorem dX7_endOfRow_27 : decode cX7_endOfRow 27 = .ok (.iload_n 3, 1) := by decide +kernel
theorem dX7_endOfRow_28 : decode cX7_endOfRow 28 = .ok (.baload, 1) := by decide +kernel
theorem dX7_endOfRow_29 : decode cX7_endOfRow 29 = .ok (.iload_n 2, 1) := by decide +kernel
theorem dX7_endOfRow_30 : decode cX7_endOfRow 30 = .ok (.if_icmp .gt 9, 3) := by decide +kernel
theorem dX7_endOfRow_33 : decode cX7_endOfRow 33 = .ok (.iinc 3 1, 3) := by decide +kernel
theorem dX7_endOfRow_36 : decode cX7_endOfRow 36 = .ok (.goto (-31), 3) := by decide +kernel
theorem dX7_endOfRow_39 : decode cX7_endOfRow 39 = .ok (.iload_n 3, 1) := by decide +kernel
theorem dX7_endOfRow_40 : decode cX7_endOfRow 40 = .ok (.ireturn, 1) := by decide +kernel
theorem dX7_isName_0 : decode cX7_isName 0 = .ok (.iload_n 2, 1) := by decide +kernel
theorem dX7_isName_1 : decode cX7_isName 1 = .ok (.iload_n 1, 1) := by decide +kernel
theorem dX7_isName_2 : decode cX7_isName 2 = .ok (.isub, 1) := by decide +kernel
theorem dX7_isName_3 : decode cX7_isName 3 = .ok (.aload_n 3, 1) := by decide +kernel
theorem dX7_isName_4 : decode cX7_isName 4 = .ok (.invokevirtual 105, 3) := by decide +kernel
theorem dX7_isName_7 : decode cX7_isName 7 = .ok (.if_icmp .eq 5, 3) := by decide +kernel
theorem dX7_isName_10 : decode cX7_isName 10 = .ok (.iconst 0, 1) := by decide +kernel
theorem dX7_isName_11 : decode cX7_isName 11 = .ok (.ireturn, 1) := by decide +kernel
theorem dX7_isName_12 : decode cX7_isName 12 = .ok (.iload_n 1, 1) := by decide +kernel
theorem dX7_isName_13 : decode cX7_isName 13 = .ok (.istore 4, 2) := by decide +kernel
theorem dX7_isName_15 : decode cX7_isName 15 = .ok (.iload 4, 2) := by decide +kernel
theorem dX7_isName_17 : decode cX7_isName 17 = .ok (.iload_n 2, 1) := by decide +kernel
theorem dX7_isName_18 : decode cX7_isName 18 = .ok (.if_icmp .ge 29, 3) := by decide +kernel
theorem dX7_isName_21 : decode cX7_isName 21 = .ok (.aload_n 0, 1) := by decide +kernel
theorem dX7_isName_22 : decode cX7_isName 22 = .ok (.getfield 11, 3) := by decide +kernel
theorem dX7_isName_25 : decode cX7_isName 25 = .ok (.iload 4, 2) := by decide +kernel
theorem dX7_isName_27 : decode cX7_isName 27 = .ok (.baload, 1) := by decide +kernel
theorem dX7_isName_28 : decode cX7_isName 28 = .ok (.aload_n 3, 1) := by decide +kernel
theorem dX7_isName_29 : decode cX7_isName 29 = .ok (.iload 4, 2) := by decide +kernel
theorem dX7_isName_31 : decode cX7_isName 31 = .ok (.iload_n 1, 1) := by decide +kernel
theorem dX7_isName_32 : decode cX7_isName 32 = .ok (.isub, 1) := by decide +kernel
theorem dX7_isName_33 : decode cX7_isName 33 = .ok (.invokevirtual 111, 3) := by decide +kernel
theorem dX7_isName_36 : decode cX7_isName 36 = .ok (.if_icmp .eq 5, 3) := by decide +kernel
theorem dX7_isName_39 : decode cX7_isName 39 = .ok (.iconst 0, 1) := by decide +kernel
theorem dX7_isName_40 : decode cX7_isName 40 = .ok (.ireturn, 1) := by decide +kernel
theorem dX7_isName_41 : decode cX7_isName 41 = .ok (.iinc 4 1, 3) := by decide +kernel
theorem dX7_isName_44 : decode cX7_isName 44 = .ok (.goto (-29), 3) := by decide +kernel
theorem dX7_isName_47 : decode cX7_isName 47 = .ok (.iconst 1, 1) := by decide +kernel
theorem dX7_isName_48 : decode cX7_isName 48 = .ok (.ireturn, 1) := by decide +kernel
theorem dX7_kindNamed_0 : decode cX7_kindNamed 0 = .ok (.iconst 0, 1) := by decide +kernel
theorem dX7_kindNamed_1 : decode cX7_kindNamed 1 = .ok (.istore_n 3, 1) := by decide +kernel
theorem dX7_kindNamed_2 : decode cX7_kindNamed 2 = .ok (.iload_n 3, 1) := by decide +kernel
theorem dX7_kindNamed_3 : decode cX7_kindNamed 3 = .ok (.bipush 6, 2) := by decide +kernel
theorem dX7_kindNamed_5 : decode cX7_kindNamed 5 = .ok (.if_icmp .ge 24, 3) := by decide +kernel
theorem dX7_kindNamed_8 : decode cX7_kindNamed 8 = .ok (.aload_n 0, 1) := by decide +kernel
theorem dX7_kindNamed_9 : decode cX7_kindNamed 9 = .ok (.iload_n 1, 1) := by decide +kernel
theorem dX7_kindNamed_10 : decode cX7_kindNamed 10 = .ok (.iload_n 2, 1) := by decide +kernel
theorem dX7_kindNamed_11 : decode cX7_kindNamed 11 = .ok (.iload_n 3, 1) := by decide +kernel
theorem dX7_kindNamed_12 : decode cX7_kindNamed 12 = .ok (.invokestatic 115, 3) := by decide +kernel
theorem dX7_kindNamed_15 : decode cX7_kindNamed 15 = .ok (.invokevirtual 42, 3) := by decide +kernel
theorem dX7_kindNamed_18 : decode cX7_kindNamed 18 = .ok (.ifCond .eq 5, 3) := by decide +kernel
theorem dX7_kindNamed_21 : decode cX7_kindNamed 21 = .ok (.iload_n 3, 1) := by decide +kernel
theorem dX7_kindNamed_22 : decode cX7_kindNamed 22 = .ok (.ireturn, 1) := by decide +kernel
theorem dX7_kindNamed_23 : decode cX7_kindNamed 23 = .ok (.iinc 3 1, 3) := by decide +kernel
theorem dX7_kindNamed_26 : decode cX7_kindNamed 26 = .ok (.goto (-24), 3) := by decide +kernel
theorem dX7_kindNamed_29 : decode cX7_kindNamed 29 = .ok (.bipush (-3), 2) := by decide +kernel
theorem dX7_kindNamed_31 : decode cX7_kindNamed 31 = .ok (.ireturn, 1) := by decide +kernel
theorem dX7_nameOfKind_0 : decode cX7_nameOfKind 0 = .ok (.iload_n 0, 1) := by decide +kernel
theorem dX7_nameOfKind_1 : decode cX7_nameOfKind 1 = .ok (.tableswitch 50 1 5 #[35, 38, 41, 44, 47], 35) := by decide +kernel
theorem dX7_nameOfKind_36 : decode cX7_nameOfKind 36 = .ok (.ldc 119, 2) := by decide +kernel
theorem dX7_nameOfKind_38 : decode cX7_nameOfKind 38 = .ok (.areturn, 1) := by decide +kernel
theorem dX7_nameOfKind_39 : decode cX7_nameOfKind 39 = .ok (.ldc 121, 2) := by decide +kernel
theorem dX7_nameOfKind_41 : decode cX7_nameOfKind 41 = .ok (.areturn, 1) := by decide +kernel
theorem dX7_nameOfKind_42 : decode cX7_nameOfKind 42 = .ok (.ldc 123, 2) := by decide +kernel
theorem dX7_nameOfKind_44 : decode cX7_nameOfKind 44 = .ok (.areturn, 1) := by decide +kernel
theorem dX7_nameOfKind_45 : decode cX7_nameOfKind 45 = .ok (.ldc 125, 2) := by decide +kernel
theorem dX7_nameOfKind_47 : decode cX7_nameOfKind 47 = .ok (.areturn, 1) := by decide +kernel
theorem dX7_nameOfKind_48 : decode cX7_nameOfKind 48 = .ok (.ldc 127, 2) := by decide +kernel
theorem dX7_nameOfKind_50 : decode cX7_nameOfKind 50 = .ok (.areturn, 1) := by decide +kernel
theorem dX7_nameOfKind_51 : decode cX7_nameOfKind 51 = .ok (.ldc 129, 2) := by decide +kernel
theorem dX7_nameOfKind_53 : decode cX7_nameOfKind 53 = .ok (.areturn, 1) := by decide +kernel
theorem dX8_init_0 : decode cX8_init 0 = .ok (.aload_n 0, 1) := by decide +kernel
theorem dX8_init_1 : decode cX8_init 1 = .ok (.invokespecial 3, 3) := by decide +kernel
theorem dX8_init_4 : decode cX8_init 4 = .ok (.aload_n 0, 1) := by decide +kernel
theorem dX8_init_5 : decode cX8_init 5 = .ok (.new 9, 3) := by decide +kernel
theorem dX8_init_8 : decode cX8_init 8 = .ok (.dup, 1) := by decide +kernel
theorem dX8_init_9 : decode cX8_init 9 = .ok (.invokespecial 11, 3) := by decide +kernel
theorem dX8_init_12 : decode cX8_init 12 = .ok (.putfield 12, 3) := by decide +kernel
theorem dX8_init_15 : decode cX8_init 15 = .ok (.aload_n 0, 1) := by decide +kernel
theorem dX8_init_16 : decode cX8_init 16 = .ok (.bipush (-3), 2) := by decide +kernel
theorem dX8_init_18 : decode cX8_init 18 = .ok (.putfield 18, 3) := by decide +kernel
theorem dX8_init_21 : decode cX8_init 21 = .ok (.aload_n 0, 1) := by decide +kernel
theorem dX8_init_22 : decode cX8_init 22 = .ok (.iconst 0, 1) := by decide +kernel
theorem dX8_init_23 : decode cX8_init 23 = .ok (.putfield 22, 3) := by decide +kernel
theorem dX8_init_26 : decode cX8_init 26 = .ok (.aload_n 0, 1) := by decide +kernel
theorem dX8_init_27 : decode cX8_init 27 = .ok (.iconst 5, 1) := by decide +kernel
theorem dX8_init_28 : decode cX8_init 28 = .ok (.newarray .int, 2) := by decide +kernel
theorem dX8_init_30 : decode cX8_init 30 = .ok (.putfield 25, 3) := by decide +kernel
theorem dX8_init_33 : decode cX8_init 33 = .ok (.aload_n 0, 1) := by decide +kernel
theorem dX8_init_34 : decode cX8_init 34 = .ok (.iconst 5, 1) := by decide +kernel
theorem dX8_init_35 : decode cX8_init 35 = .ok (.newarray .int, 2) := by decide +kernel
theorem dX8_init_37 : decode cX8_init 37 = .ok (.putfield 29, 3) := by decide +kernel
theorem dX8_init_40 : decode cX8_init 40 = .ok (.aload_n 0, 1) := by decide +kernel
theorem dX8_init_41 : decode cX8_init 41 = .ok (.bipush 6, 2) := by decide +kernel
theorem dX8_init_43 : decode cX8_init 43 = .ok (.bipush 6, 2) := by decide +kernel
theorem dX8_init_45 : decode cX8_init 45 = .ok (.multianewarray 32 2, 4) := by decide +kernel
theorem dX8_init_49 : decode cX8_init 49 = .ok (.putfield 34, 3) := by decide +kernel
theorem dX8_init_52 : decode cX8_init 52 = .ok (.aload_n 0, 1) := by decide +kernel
theorem dX8_init_53 : decode cX8_init 53 = .ok (.bipush 6, 2) := by decide +kernel
theorem dX8_init_55 : decode cX8_init 55 = .ok (.newarray .int, 2) := by decide +kernel
theorem dX8_init_57 : decode cX8_init 57 = .ok (.putfield 37, 3) := by decide +kernel
theorem dX8_init_60 : decode cX8_init 60 = .ok (.return_, 1) := by decide +kernel
theorem dX8_burnAnew_0 : decode cX8_burnAnew 0 = .ok (.aload_n 0, 1) := by decide +kernel
theorem dX8_burnAnew_1 : decode cX8_burnAnew 1 = .ok (.aload_n 1, 1) := by decide +kernel
theorem dX8_burnAnew_2 : decode cX8_burnAnew 2 = .ok (.iload_n 2, 1) := by decide +kernel
theorem dX8_burnAnew_3 : decode cX8_burnAnew 3 = .ok (.invokevirtual 40, 3) := by decide +kernel
theorem dX8_burnAnew_6 : decode cX8_burnAnew 6 = .ok (.aload_n 0, 1) := by decide +kernel
theorem dX8_burnAnew_7 : decode cX8_burnAnew 7 = .ok (.getfield 12, 3) := by decide +kernel
theorem dX8_burnAnew_10 : decode cX8_burnAnew 10 = .ok (.bipush 60, 2) := by decide +kernel
theorem dX8_burnAnew_12 : decode cX8_burnAnew 12 = .ok (.aload_n 3, 1) := by decide +kernel
theorem dX8_burnAnew_13 : decode cX8_burnAnew 13 = .ok (.invokevirtual 44, 3) := by decide +kernel
theorem dX8_burnAnew_16 : decode cX8_burnAnew 16 = .ok (.ireturn, 1) := by decide +kernel
theorem dX8_setStage_0 : decode cX8_setStage 0 = .ok (.aload_n 0, 1) := by decide +kernel
theorem dX8_setStage_1 : decode cX8_setStage 1 = .ok (.getfield 12, 3) := by decide +kernel
theorem dX8_setStage_4 : decode cX8_setStage 4 = .ok (.aload_n 1, 1) := by decide +kernel
theorem dX8_setStage_5 : decode cX8_setStage 5 = .ok (.invokevirtual 48, 3) := by decide +kernel
theorem dX8_setStage_8 : decode cX8_setStage 8 = .ok (.aload_n 0, 1) := by decide +kernel
theorem dX8_setStage_9 : decode cX8_setStage 9 = .ok (.getfield 12, 3) := by decide +kernel
theorem dX8_setStage_12 : decode cX8_setStage 12 = .ok (.iload_n 2, 1) := by decide +kernel
theorem dX8_setStage_13 : decode cX8_setStage 13 = .ok (.invokevirtual 52, 3) := by decide +kernel
theorem dX8_setStage_16 : decode cX8_setStage 16 = .ok (.return_, 1) := by decide +kernel
theorem dX8_price_0 : decode cX8_price 0 = .ok (.aload_n 0, 1) := by decide +kernel
theorem dX8_price_1 : decode cX8_price 1 = .ok (.getfield 12, 3) := by decide +kernel
theorem dX8_price_4 : decode cX8_price 4 = .ok (.iload_n 1, 1) := by decide +kernel
theorem dX8_price_5 : decode cX8_price 5 = .ok (.invokevirtual 56, 3) := by decide +kernel
theorem dX8_price_8 : decode cX8_price 8 = .ok (.astore_n 2, 1) := by decide +kernel
theorem dX8_price_9 : decode cX8_price 9 = .ok (.aload_n 2, 1) := by decide +kernel
theorem dX8_price_10 : decode cX8_price 10 = .ok (.ifnonnull 7, 3) := by decide +kernel
theorem dX8_price_13 : decode cX8_price 13 = .ok (.iconst 0, 1) := by decide +kernel
theorem dX8_price_14 : decode cX8_price 14 = .ok (.goto 7, 3) := by decide +kernel
theorem dX8_price_17 : decode cX8_price 17 = .ok (.aload_n 2, 1) := by decide +kernel
theorem dX8_price_18 : decode cX8_price 18 = .ok (.getfield 60, 3) := by decide +kernel
theorem dX8_price_21 : decode cX8_price 21 = .ok (.ireturn, 1) := by decide +kernel
theorem dX8_winner_0 : decode cX8_winner 0 = .ok (.aload_n 0, 1) := by decide +kernel
theorem dX8_winner_1 : decode cX8_winner 1 = .ok (.getfield 12, 3) := by decide +kernel
theorem dX8_winner_4 : decode cX8_winner 4 = .ok (.iload_n 1, 1) := by decide +kernel
theorem dX8_winner_5 : decode cX8_winner 5 = .ok (.invokevirtual 56, 3) := by decide +kernel
theorem dX8_winner_8 : decode cX8_winner 8 = .ok (.astore_n 2, 1) := by decide +kernel
theorem dX8_winner_9 : decode cX8_winner 9 = .ok (.aload_n 2, 1) := by decide +kernel
theorem dX8_winner_10 : decode cX8_winner 10 = .ok (.ifnonnull 8, 3) := by decide +kernel
theorem dX8_winner_13 : decode cX8_winner 13 = .ok (.bipush (-9), 2) := by decide +kernel
theorem dX8_winner_15 : decode cX8_winner 15 = .ok (.goto 7, 3) := by decide +kernel
theorem dX8_winner_18 : decode cX8_winner 18 = .ok (.aload_n 2, 1) := by decide +kernel
theorem dX8_winner_19 : decode cX8_winner 19 = .ok (.getfield 65, 3) := by decide +kernel
theorem dX8_winner_22 : decode cX8_winner 22 = .ok (.ireturn, 1) := by decide +kernel
theorem dX8_forgetBest_0 : decode cX8_forgetBest 0 = .ok (.aload_n 0, 1) := by decide +kernel
theorem dX8_forgetBest_1 : decode cX8_forgetBest 1 = .ok (.bipush (-3), 2) := by decide +kernel
theorem dX8_forgetBest_3 : decode cX8_forgetBest 3 = .ok (.putfield 18, 3) := by decide +kernel
theorem dX8_forgetBest_6 : decode cX8_forgetBest 6 = .ok (.aload_n 0, 1) := by decide +kernel
theorem dX8_forgetBest_7 : decode cX8_forgetBest 7 = .ok (.iconst 0, 1) := by decide +kernel
theorem dX8_forgetBest_8 : decode cX8_forgetBest 8 = .ok (.putfield 22, 3) := by decide +kernel
theorem dX8_forgetBest_11 : decode cX8_forgetBest 11 = .ok (.return_, 1) := by decide +kernel
theorem dX8_weighLeast_0 : decode cX8_weighLeast 0 = .ok (.aload_n 0, 1) := by decide +kernel
theorem dX8_weighLeast_1 : decode cX8_weighLeast 1 = .ok (.getfield 18, 3) := by decide +kernel
theorem dX8_weighLeast_4 : decode cX8_weighLeast 4 = .ok (.bipush (-3), 2) := by decide +kernel
theorem dX8_weighLeast_6 : decode cX8_weighLeast 6 = .ok (.if_icmp .eq 11, 3) := by decide +kernel
theorem dX8_weighLeast_9 : decode cX8_weighLeast 9 = .ok (.iload_n 2, 1) := by decide +kernel
theorem dX8_weighLeast_10 : decode cX8_weighLeast 10 = .ok (.aload_n 0, 1) := by decide +kernel
theorem dX8_weighLeast_11 : decode cX8_weighLeast 11 = .ok (.getfield 22, 3) := by decide +kernel
theorem dX8_weighLeast_14 : decode cX8_weighLeast 14 = .ok (.if_icmp .ge 13, 3) := by decide +kernel
theorem dX8_weighLeast_17 : decode cX8_weighLeast 17 = .ok (.aload_n 0, 1) := by decide +kernel
theorem dX8_weighLeast_18 : decode cX8_weighLeast 18 = .ok (.iload_n 1, 1) := by decide +kernel
theorem dX8_weighLeast_19 : decode cX8_weighLeast 19 = .ok (.putfield 18, 3) := by decide +kernel
theorem dX8_weighLeast_22 : decode cX8_weighLeast 22 = .ok (.aload_n 0, 1) := by decide +kernel
theorem dX8_weighLeast_23 : decode cX8_weighLeast 23 = .ok (.iload_n 2, 1) := by decide +kernel
theorem dX8_weighLeast_24 : decode cX8_weighLeast 24 = .ok (.putfield 22, 3) := by decide +kernel
theorem dX8_weighLeast_27 : decode cX8_weighLeast 27 = .ok (.return_, 1) := by decide +kernel
theorem dX8_weighGreatest_0 : decode cX8_weighGreatest 0 = .ok (.aload_n 0, 1) := by decide +kernel
theorem dX8_weighGreatest_1 : decode cX8_weighGreatest 1 = .ok (.getfield 18, 3) := by decide +kernel
theorem dX8_weighGreatest_4 : decode cX8_weighGreatest 4 = .ok (.bipush (-3), 2) := by decide +kernel
theorem dX8_weighGreatest_6 : decode cX8_weighGreatest 6 = .ok (.if_icmp .eq 11, 3) := by decide +kernel
theorem dX8_weighGreatest_9 : decode cX8_weighGreatest 9 = .ok (.iload_n 2, 1) := by decide +kernel
theorem dX8_weighGreatest_10 : decode cX8_weighGreatest 10 = .ok (.aload_n 0, 1) := by decide +kernel
theorem dX8_weighGreatest_11 : decode cX8_weighGreatest 11 = .ok (.getfield 22, 3) := by decide +kernel
theorem dX8_weighGreatest_14 : decode cX8_weighGreatest 14 = .ok (.if_icmp .le 13, 3) := by decide +kernel
theorem dX8_weighGreatest_17 : decode cX8_weighGreatest 17 = .ok (.aload_n 0, 1) := by decide +kernel
theorem dX8_weighGreatest_18 : decode cX8_weighGreatest 18 = .ok (.iload_n 1, 1) := by decide +kernel
theorem dX8_weighGreatest_19 : decode cX8_weighGreatest 19 = .ok (.putfield 18, 3) := by decide +kernel
theorem dX8_weighGreatest_22 : decode cX8_weighGreatest 22 = .ok (.aload_n 0, 1) := by decide +kernel
theorem dX8_weighGreatest_23 : decode cX8_weighGreatest 23 = .ok (.iload_n 2, 1) := by decide +kernel
theorem dX8_weighGreatest_24 : decode cX8_weighGreatest 24 = .ok (.putfield 22, 3) := by decide +kernel
theorem dX8_weighGreatest_27 : decode cX8_weighGreatest 27 = .ok (.return_, 1) := by decide +kernel
theorem dX8_bestPatience_0 : decode cX8_bestPatience 0 = .ok (.aload_n 0, 1) := by decide +kernel
theorem dX8_bestPatience_1 : decode cX8_bestPatience 1 = .ok (.invokevirtual 68, 3) := by decide +kernel
theorem dX8_bestPatience_4 : decode cX8_bestPatience 4 = .ok (.iconst 0, 1) := by decide +kernel
theorem dX8_bestPatience_5 : decode cX8_bestPatience 5 = .ok (.istore 4, 2) := by decide +kernel
theorem dX8_bestPatience_7 : decode cX8_bestPatience 7 = .ok (.iload 4, 2) := by decide +kernel
theorem dX8_bestPatience_9 : decode cX8_bestPatience 9 = .ok (.bipush 9, 2) := by decide +kernel
theorem dX8_bestPatience_11 : decode cX8_bestPatience 11 = .ok (.if_icmp .gt 68, 3) := by decide +kernel
theorem dX8_bestPatience_14 : decode cX8_bestPatience 14 = .ok (.aload_n 0, 1) := by decide +kernel
theorem dX8_bestPatience_15 : decode cX8_bestPatience 15 = .ok (.aload_n 1, 1) := by decide +kernel
theorem dX8_bestPatience_16 : decode cX8_bestPatience 16 = .ok (.iload_n 3, 1) := by decide +kernel
theorem dX8_bestPatience_17 : decode cX8_bestPatience 17 = .ok (.invokevirtual 40, 3) := by decide +kernel
theorem dX8_bestPatience_20 : decode cX8_bestPatience 20 = .ok (.aload_n 0, 1) := by decide +kernel
theorem dX8_bestPatience_21 : decode cX8_bestPatience 21 = .ok (.getfield 12, 3) := by decide +kernel
theorem dX8_bestPatience_24 : decode cX8_bestPatience 24 = .ok (.iload_n 2, 1) := by decide +kernel
theorem dX8_bestPatience_25 : decode cX8_bestPatience 25 = .ok (.invokevirtual 71, 3) := by decide +kernel
theorem dX8_bestPatience_28 : decode cX8_bestPatience 28 = .ok (.astore 5, 2) := by decide +kernel
theorem dX8_bestPatience_30 : decode cX8_bestPatience 30 = .ok (.aload 5, 2) := by decide +kernel
theorem dX8_bestPatience_32 : decode cX8_bestPatience 32 = .ok (.ifnull 10, 3) := by decide +kernel
theorem dX8_bestPatience_35 : decode cX8_bestPatience 35 = .ok (.aload 5, 2) := by decide +kernel
theorem dX8_bestPatience_37 : decode cX8_bestPatience 37 = .ok (.iload 4, 2) := by decide +kernel
theorem dX8_bestPatience_39 : decode cX8_bestPatience 39 = .ok (.putfield 75, 3) := by decide +kernel
theorem dX8_bestPatience_42 : decode cX8_bestPatience 42 = .ok (.aload_n 0, 1) := by decide +kernel
theorem dX8_bestPatience_43 : decode cX8_bestPatience 43 = .ok (.getfield 12, 3) := by decide +kernel
theorem dX8_bestPatience_46 : decode cX8_bestPatience 46 = .ok (.bipush 60, 2) := by decide +kernel
theorem dX8_bestPatience_48 : decode cX8_bestPatience 48 = .ok (.aconst_null, 1) := by decide +kernel
theorem dX8_bestPatience_49 : decode cX8_bestPatience 49 = .ok (.invokevirtual 44, 3) := by decide +kernel
theorem dX8_bestPatience_52 : decode cX8_bestPatience 52 = .ok (.pop, 1) := by decide +kernel
theorem dX8_bestPatience_53 : decode cX8_bestPatience 53 = .ok (.aload_n 0, 1) := by decide +kernel
theorem dX8_bestPatience_54 : decode cX8_bestPatience 54 = .ok (.iload_n 3, 1) := by decide +kernel
theorem dX8_bestPatience_55 : decode cX8_bestPatience 55 = .ok (.invokevirtual 80, 3) := by decide +kernel
theorem dX8_bestPatience_58 : decode cX8_bestPatience 58 = .ok (.iload_n 2, 1) := by decide +kernel
theorem dX8_bestPatience_59 : decode cX8_bestPatience 59 = .ok (.if_icmp .ne 14, 3) := by decide +kernel
theorem dX8_bestPatience_62 : decode cX8_bestPatience 62 = .ok (.aload_n 0, 1) := by decide +kernel
theorem dX8_bestPatience_63 : decode cX8_bestPatience 63 = .ok (.iload 4, 2) := by decide +kernel
theorem dX8_bestPatience_65 : decode cX8_bestPatience 65 = .ok (.aload_n 0, 1) := by decide +kernel
theorem dX8_bestPatience_66 : decode cX8_bestPatience 66 = .ok (.iload_n 3, 1) := by decide +kernel
theorem dX8_bestPatience_67 : decode cX8_bestPatience 67 = .ok (.invokevirtual 84, 3) := by decide +kernel
theorem dX8_bestPatience_70 : decode cX8_bestPatience 70 = .ok (.invokevirtual 86, 3) := by decide +kernel
theorem dX8_bestPatience_73 : decode cX8_bestPatience 73 = .ok (.iinc 4 1, 3) := by decide +kernel
theorem dX8_bestPatience_76 : decode cX8_bestPatience 76 = .ok (.goto (-69), 3) := by decide +kernel
theorem dX8_bestPatience_79 : decode cX8_bestPatience 79 = .ok (.aload_n 0, 1) := by decide +kernel
theorem dX8_bestPatience_80 : decode cX8_bestPatience 80 = .ok (.getfield 18, 3) := by decide +kernel
theorem dX8_bestPatience_83 : decode cX8_bestPatience 83 = .ok (.ireturn, 1) := by decide +kernel
theorem dX8_bestGust_0 : decode cX8_bestGust 0 = .ok (.aload_n 0, 1) := by decide +kernel
theorem dX8_bestGust_1 : decode cX8_bestGust 1 = .ok (.invokevirtual 68, 3) := by decide +kernel
theorem dX8_bestGust_4 : decode cX8_bestGust 4 = .ok (.iconst 0, 1) := by decide +kernel
theorem dX8_bestGust_5 : decode cX8_bestGust 5 = .ok (.istore 4, 2) := by decide +kernel
theorem dX8_bestGust_7 : decode cX8_bestGust 7 = .ok (.iload 4, 2) := by decide +kernel
theorem dX8_bestGust_9 : decode cX8_bestGust 9 = .ok (.bipush 12, 2) := by decide +kernel
theorem dX8_bestGust_11 : decode cX8_bestGust 11 = .ok (.if_icmp .ge 79, 3) := by decide +kernel
theorem dX8_bestGust_14 : decode cX8_bestGust 14 = .ok (.iconst 0, 1) := by decide +kernel
theorem dX8_bestGust_15 : decode cX8_bestGust 15 = .ok (.istore 5, 2) := by decide +kernel
theorem dX8_bestGust_17 : decode cX8_bestGust 17 = .ok (.iload 5, 2) := by decide +kernel
theorem dX8_bestGust_19 : decode cX8_bestGust 19 = .ok (.iconst 3, 1) := by decide +kernel
theorem dX8_bestGust_20 : decode cX8_bestGust 20 = .ok (.if_icmp .gt 64, 3) := by decide +kernel
theorem dX8_bestGust_23 : decode cX8_bestGust 23 = .ok (.aload_n 0, 1) := by decide +kernel
theorem dX8_bestGust_24 : decode cX8_bestGust 24 = .ok (.aload_n 1, 1) := by decide +kernel
theorem dX8_bestGust_25 : decode cX8_bestGust 25 = .ok (.iload_n 3, 1) := by decide +kernel
theorem dX8_bestGust_26 : decode cX8_bestGust 26 = .ok (.invokevirtual 40, 3) := by decide +kernel
theorem dX8_bestGust_29 : decode cX8_bestGust 29 = .ok (.aload_n 0, 1) := by decide +kernel
theorem dX8_bestGust_30 : decode cX8_bestGust 30 = .ok (.getfield 12, 3) := by decide +kernel
theorem dX8_bestGust_33 : decode cX8_bestGust 33 = .ok (.getfield 90, 3) := by decide +kernel
theorem dX8_bestGust_36 : decode cX8_bestGust 36 = .ok (.iload 4, 2) := by decide +kernel
theorem dX8_bestGust_38 : decode cX8_bestGust 38 = .ok (.iload 5, 2) := by decide +kernel
theorem dX8_bestGust_40 : decode cX8_bestGust 40 = .ok (.iastore, 1) := by decide +kernel
theorem dX8_bestGust_41 : decode cX8_bestGust 41 = .ok (.aload_n 0, 1) := by decide +kernel
theorem dX8_bestGust_42 : decode cX8_bestGust 42 = .ok (.getfield 12, 3) := by decide +kernel
theorem dX8_bestGust_45 : decode cX8_bestGust 45 = .ok (.bipush 60, 2) := by decide +kernel
theorem dX8_bestGust_47 : decode cX8_bestGust 47 = .ok (.aconst_null, 1) := by decide +kernel
theorem dX8_bestGust_48 : decode cX8_bestGust 48 = .ok (.invokevirtual 44, 3) := by decide +kernel
theorem dX8_bestGust_51 : decode cX8_bestGust 51 = .ok (.pop, 1) := by decide +kernel
theorem dX8_bestGust_52 : decode cX8_bestGust 52 = .ok (.aload_n 0, 1) := by decide +kernel
theorem dX8_bestGust_53 : decode cX8_bestGust 53 = .ok (.iload_n 3, 1) := by decide +kernel
theorem dX8_bestGust_54 : decode cX8_bestGust 54 = .ok (.invokevirtual 80, 3) := by decide +kernel
theorem dX8_bestGust_57 : decode cX8_bestGust 57 = .ok (.iload_n 2, 1) := by decide +kernel
theorem dX8_bestGust_58 : decode cX8_bestGust 58 = .ok (.if_icmp .ne 20, 3) := by decide +kernel
theorem dX8_bestGust_61 : decode cX8_bestGust 61 = .ok (.aload_n 0, 1) := by decide +kernel
theorem dX8_bestGust_62 : decode cX8_bestGust 62 = .ok (.bipush 10, 2) := by decide +kernel
theorem dX8_bestGust_64 : decode cX8_bestGust 64 = .ok (.iload 4, 2) := by decide +kernel
theorem dX8_bestGust_66 : decode cX8_bestGust 66 = .ok (.imul, 1) := by decide +kernel
theorem dX8_bestGust_67 : decode cX8_bestGust 67 = .ok (.iload 5, 2) := by decide +kernel
theorem dX8_bestGust_69 : decode cX8_bestGust 69 = .ok (.iadd, 1) := by decide +kernel
theorem dX8_bestGust_70 : decode cX8_bestGust 70 = .ok (.aload_n 0, 1) := by decide +kernel
theorem dX8_bestGust_71 : decode cX8_bestGust 71 = .ok (.iload_n 3, 1) := by decide +kernel
theorem dX8_bestGust_72 : decode cX8_bestGust 72 = .ok (.invokevirtual 84, 3) := by decide +kernel
theorem dX8_bestGust_75 : decode cX8_bestGust 75 = .ok (.invokevirtual 86, 3) := by decide +kernel
theorem dX8_bestGust_78 : decode cX8_bestGust 78 = .ok (.iinc 5 1, 3) := by decide +kernel
theorem dX8_bestGust_81 : decode cX8_bestGust 81 = .ok (.goto (-64), 3) := by decide +kernel
theorem dX8_bestGust_84 : decode cX8_bestGust 84 = .ok (.iinc 4 1, 3) := by decide +kernel
theorem dX8_bestGust_87 : decode cX8_bestGust 87 = .ok (.goto (-80), 3) := by decide +kernel
theorem dX8_bestGust_90 : decode cX8_bestGust 90 = .ok (.aload_n 0, 1) := by decide +kernel
theorem dX8_bestGust_91 : decode cX8_bestGust 91 = .ok (.getfield 18, 3) := by decide +kernel
theorem dX8_bestGust_94 : decode cX8_bestGust 94 = .ok (.ireturn, 1) := by decide +kernel
theorem dX8_bestWax_0 : decode cX8_bestWax 0 = .ok (.aload_n 0, 1) := by decide +kernel
theorem dX8_bestWax_1 : decode cX8_bestWax 1 = .ok (.invokevirtual 68, 3) := by decide +kernel
theorem dX8_bestWax_4 : decode cX8_bestWax 4 = .ok (.iconst 1, 1) := by decide +kernel
theorem dX8_bestWax_5 : decode cX8_bestWax 5 = .ok (.istore_n 3, 1) := by decide +kernel
theorem dX8_bestWax_6 : decode cX8_bestWax 6 = .ok (.iload_n 3, 1) := by decide +kernel
theorem dX8_bestWax_7 : decode cX8_bestWax 7 = .ok (.bipush 60, 2) := by decide +kernel
theorem dX8_bestWax_9 : decode cX8_bestWax 9 = .ok (.if_icmp .gt 57, 3) := by decide +kernel
theorem dX8_bestWax_12 : decode cX8_bestWax 12 = .ok (.aload_n 0, 1) := by decide +kernel
theorem dX8_bestWax_13 : decode cX8_bestWax 13 = .ok (.aload_n 1, 1) := by decide +kernel
theorem dX8_bestWax_14 : decode cX8_bestWax 14 = .ok (.iload_n 2, 1) := by decide +kernel
theorem dX8_bestWax_15 : decode cX8_bestWax 15 = .ok (.invokevirtual 40, 3) := by decide +kernel
theorem dX8_bestWax_18 : decode cX8_bestWax 18 = .ok (.aload_n 0, 1) := by decide +kernel
theorem dX8_bestWax_19 : decode cX8_bestWax 19 = .ok (.getfield 12, 3) := by decide +kernel
theorem dX8_bestWax_22 : decode cX8_bestWax 22 = .ok (.iload_n 2, 1) := by decide +kernel
theorem dX8_bestWax_23 : decode cX8_bestWax 23 = .ok (.invokevirtual 56, 3) := by decide +kernel
theorem dX8_bestWax_26 : decode cX8_bestWax 26 = .ok (.astore 4, 2) := by decide +kernel
theorem dX8_bestWax_28 : decode cX8_bestWax 28 = .ok (.aload 4, 2) := by decide +kernel
theorem dX8_bestWax_30 : decode cX8_bestWax 30 = .ok (.ifnull 9, 3) := by decide +kernel
theorem dX8_bestWax_33 : decode cX8_bestWax 33 = .ok (.aload 4, 2) := by decide +kernel
theorem dX8_bestWax_35 : decode cX8_bestWax 35 = .ok (.iload_n 3, 1) := by decide +kernel
theorem dX8_bestWax_36 : decode cX8_bestWax 36 = .ok (.putfield 93, 3) := by decide +kernel
theorem dX8_bestWax_39 : decode cX8_bestWax 39 = .ok (.aload_n 0, 1) := by decide +kernel
theorem dX8_bestWax_40 : decode cX8_bestWax 40 = .ok (.getfield 12, 3) := by decide +kernel
theorem dX8_bestWax_43 : decode cX8_bestWax 43 = .ok (.bipush 60, 2) := by decide +kernel
theorem dX8_bestWax_45 : decode cX8_bestWax 45 = .ok (.aconst_null, 1) := by decide +kernel
theorem dX8_bestWax_46 : decode cX8_bestWax 46 = .ok (.invokevirtual 44, 3) := by decide +kernel
theorem dX8_bestWax_49 : decode cX8_bestWax 49 = .ok (.pop, 1) := by decide +kernel
theorem dX8_bestWax_50 : decode cX8_bestWax 50 = .ok (.aload_n 0, 1) := by decide +kernel
theorem dX8_bestWax_51 : decode cX8_bestWax 51 = .ok (.iload_n 3, 1) := by decide +kernel
theorem dX8_bestWax_52 : decode cX8_bestWax 52 = .ok (.aload_n 0, 1) := by decide +kernel
theorem dX8_bestWax_53 : decode cX8_bestWax 53 = .ok (.iload_n 2, 1) := by decide +kernel
theorem dX8_bestWax_54 : decode cX8_bestWax 54 = .ok (.invokevirtual 84, 3) := by decide +kernel
theorem dX8_bestWax_57 : decode cX8_bestWax 57 = .ok (.invokevirtual 96, 3) := by decide +kernel
theorem dX8_bestWax_60 : decode cX8_bestWax 60 = .ok (.iinc 3 1, 3) := by decide +kernel
theorem dX8_bestWax_63 : decode cX8_bestWax 63 = .ok (.goto (-57), 3) := by decide +kernel
theorem dX8_bestWax_66 : decode cX8_bestWax 66 = .ok (.aload_n 0, 1) := by decide +kernel
theorem dX8_bestWax_67 : decode cX8_bestWax 67 = .ok (.getfield 18, 3) := by decide +kernel
theorem dX8_bestWax_70 : decode cX8_bestWax 70 = .ok (.ireturn, 1) := by decide +kernel
theorem dX8_bestSilent_0 : decode cX8_bestSilent 0 = .ok (.aload_n 0, 1) := by decide +kernel
theorem dX8_bestSilent_1 : decode cX8_bestSilent 1 = .ok (.invokevirtual 68, 3) := by decide +kernel
theorem dX8_bestSilent_4 : decode cX8_bestSilent 4 = .ok (.iconst 0, 1) := by decide +kernel
theorem dX8_bestSilent_5 : decode cX8_bestSilent 5 = .ok (.istore_n 3, 1) := by decide +kernel
theorem dX8_bestSilent_6 : decode cX8_bestSilent 6 = .ok (.iload_n 3, 1) := by decide +kernel
theorem dX8_bestSilent_7 : decode cX8_bestSilent 7 = .ok (.aload_n 1, 1) := by decide +kernel
theorem dX8_bestSilent_8 : decode cX8_bestSilent 8 = .ok (.getfield 99, 3) := by decide +kernel
theorem dX8_bestSilent_11 : decode cX8_bestSilent 11 = .ok (.if_icmp .ge 67, 3) := by decide +kernel
theorem dX8_bestSilent_14 : decode cX8_bestSilent 14 = .ok (.aload_n 0, 1) := by decide +kernel
theorem dX8_bestSilent_15 : decode cX8_bestSilent 15 = .ok (.aload_n 1, 1) := by decide +kernel
theorem dX8_bestSilent_16 : decode cX8_bestSilent 16 = .ok (.iload_n 2, 1) := by decide +kernel
theorem dX8_bestSilent_17 : decode cX8_bestSilent 17 = .ok (.invokevirtual 40, 3) := by decide +kernel
theorem dX8_bestSilent_20 : decode cX8_bestSilent 20 = .ok (.aload_n 0, 1) := by decide +kernel
theorem dX8_bestSilent_21 : decode cX8_bestSilent 21 = .ok (.getfield 12, 3) := by decide +kernel
theorem dX8_bestSilent_24 : decode cX8_bestSilent 24 = .ok (.iload_n 3, 1) := by decide +kernel
theorem dX8_bestSilent_25 : decode cX8_bestSilent 25 = .ok (.invokevirtual 71, 3) := by decide +kernel
theorem dX8_bestSilent_28 : decode cX8_bestSilent 28 = .ok (.astore 4, 2) := by decide +kernel
theorem dX8_bestSilent_30 : decode cX8_bestSilent 30 = .ok (.aload 4, 2) := by decide +kernel
theorem dX8_bestSilent_32 : decode cX8_bestSilent 32 = .ok (.ifnull 9, 3) := by decide +kernel
theorem dX8_bestSilent_35 : decode cX8_bestSilent 35 = .ok (.aload 4, 2) := by decide +kernel
theorem dX8_bestSilent_37 : decode cX8_bestSilent 37 = .ok (.iconst 0, 1) := by decide +kernel
theorem dX8_bestSilent_38 : decode cX8_bestSilent 38 = .ok (.putfield 102, 3) := by decide +kernel
theorem dX8_bestSilent_41 : decode cX8_bestSilent 41 = .ok (.aload_n 0, 1) := by decide +kernel
theorem dX8_bestSilent_42 : decode cX8_bestSilent 42 = .ok (.getfield 12, 3) := by decide +kernel
theorem dX8_bestSilent_45 : decode cX8_bestSilent 45 = .ok (.bipush 60, 2) := by decide +kernel
theorem dX8_bestSilent_47 : decode cX8_bestSilent 47 = .ok (.aconst_null, 1) := by decide +kernel
theorem dX8_bestSilent_48 : decode cX8_bestSilent 48 = .ok (.invokevirtual 44, 3) := by decide +kernel
theorem dX8_bestSilent_51 : decode cX8_bestSilent 51 = .ok (.pop, 1) := by decide +kernel
theorem dX8_bestSilent_52 : decode cX8_bestSilent 52 = .ok (.aload_n 0, 1) := by decide +kernel
theorem dX8_bestSilent_53 : decode cX8_bestSilent 53 = .ok (.iload_n 2, 1) := by decide +kernel
theorem dX8_bestSilent_54 : decode cX8_bestSilent 54 = .ok (.invokevirtual 80, 3) := by decide +kernel
theorem dX8_bestSilent_57 : decode cX8_bestSilent 57 = .ok (.bipush (-9), 2) := by decide +kernel
theorem dX8_bestSilent_59 : decode cX8_bestSilent 59 = .ok (.if_icmp .eq 13, 3) := by decide +kernel
theorem dX8_bestSilent_62 : decode cX8_bestSilent 62 = .ok (.aload_n 0, 1) := by decide +kernel
theorem dX8_bestSilent_63 : decode cX8_bestSilent 63 = .ok (.iload_n 3, 1) := by decide +kernel
theorem dX8_bestSilent_64 : decode cX8_bestSilent 64 = .ok (.aload_n 0, 1) := by decide +kernel
theorem dX8_bestSilent_65 : decode cX8_bestSilent 65 = .ok (.iload_n 2, 1) := by decide +kernel
theorem dX8_bestSilent_66 : decode cX8_bestSilent 66 = .ok (.invokevirtual 84, 3) := by decide +kernel
theorem dX8_bestSilent_69 : decode cX8_bestSilent 69 = .ok (.invokevirtual 86, 3) := by decide +kernel
theorem dX8_bestSilent_72 : decode cX8_bestSilent 72 = .ok (.iinc 3 1, 3) := by decide +kernel
theorem dX8_bestSilent_75 : decode cX8_bestSilent 75 = .ok (.goto (-69), 3) := by decide +kernel
theorem dX8_bestSilent_78 : decode cX8_bestSilent 78 = .ok (.aload_n 0, 1) := by decide +kernel
theorem dX8_bestSilent_79 : decode cX8_bestSilent 79 = .ok (.getfield 18, 3) := by decide +kernel
theorem dX8_bestSilent_82 : decode cX8_bestSilent 82 = .ok (.ireturn, 1) := by decide +kernel
theorem dX8_lotInBestOrder_0 : decode cX8_lotInBestOrder 0 = .ok (.iload_n 1, 1) := by decide +kernel
theorem dX8_lotInBestOrder_1 : decode cX8_lotInBestOrder 1 = .ok (.ifCond .lt 17, 3) := by decide +kernel
theorem dX8_lotInBestOrder_4 : decode cX8_lotInBestOrder 4 = .ok (.iload_n 1, 1) := by decide +kernel
theorem dX8_lotInBestOrder_5 : decode cX8_lotInBestOrder 5 = .ok (.iconst 5, 1) := by decide +kernel
theorem dX8_lotInBestOrder_6 : decode cX8_lotInBestOrder 6 = .ok (.if_icmp .ge 12, 3) := by decide +kernel
theorem dX8_lotInBestOrder_9 : decode cX8_lotInBestOrder 9 = .ok (.aload_n 0, 1) := by decide +kernel
theorem dX8_lotInBestOrder_10 : decode cX8_lotInBestOrder 10 = .ok (.getfield 29, 3) := by decide +kernel
theorem dX8_lotInBestOrder_13 : decode cX8_lotInBestOrder 13 = .ok (.iload_n 1, 1) := by decide +kernel
theorem dX8_lotInBestOrder_14 : decode cX8_lotInBestOrder 14 = .ok (.iaload, 1) := by decide +kernel
theorem dX8_lotInBestOrder_15 : decode cX8_lotInBestOrder 15 = .ok (.goto 5, 3) := by decide +kernel
theorem dX8_lotInBestOrder_18 : decode cX8_lotInBestOrder 18 = .ok (.bipush (-3), 2) := by decide +kernel
theorem dX8_lotInBestOrder_20 : decode cX8_lotInBestOrder 20 = .ok (.ireturn, 1) := by decide +kernel
theorem dX8_findBestOrder_0 : decode cX8_findBestOrder 0 = .ok (.aload_n 0, 1) := by decide +kernel
theorem dX8_findBestOrder_1 : decode cX8_findBestOrder 1 = .ok (.invokevirtual 68, 3) := by decide +kernel
theorem dX8_findBestOrder_4 : decode cX8_findBestOrder 4 = .ok (.aload_n 0, 1) := by decide +kernel
theorem dX8_findBestOrder_5 : decode cX8_findBestOrder 5 = .ok (.getfield 12, 3) := by decide +kernel
theorem dX8_findBestOrder_8 : decode cX8_findBestOrder 8 = .ok (.aload_n 1, 1) := by decide +kernel
theorem dX8_findBestOrder_9 : decode cX8_findBestOrder 9 = .ok (.invokevirtual 48, 3) := by decide +kernel
theorem dX8_findBestOrder_12 : decode cX8_findBestOrder 12 = .ok (.aload_n 0, 1) := by decide +kernel
theorem dX8_findBestOrder_13 : decode cX8_findBestOrder 13 = .ok (.aload_n 0, 1) := by decide +kernel
theorem dX8_findBestOrder_14 : decode cX8_findBestOrder 14 = .ok (.getfield 34, 3) := by decide +kernel
theorem dX8_findBestOrder_17 : decode cX8_findBestOrder 17 = .ok (.iconst 0, 1) := by decide +kernel
theorem dX8_findBestOrder_18 : decode cX8_findBestOrder 18 = .ok (.aaload, 1) := by decide +kernel
theorem dX8_findBestOrder_19 : decode cX8_findBestOrder 19 = .ok (.invokevirtual 105, 3) := by decide +kernel
theorem dX8_findBestOrder_22 : decode cX8_findBestOrder 22 = .ok (.aload_n 0, 1) := by decide +kernel
theorem dX8_findBestOrder_23 : decode cX8_findBestOrder 23 = .ok (.aload_n 1, 1) := by decide +kernel
theorem dX8_findBestOrder_24 : decode cX8_findBestOrder 24 = .ok (.invokevirtual 109, 3) := by decide +kernel
theorem dX8_findBestOrder_27 : decode cX8_findBestOrder 27 = .ok (.istore_n 2, 1) := by decide +kernel
theorem dX8_findBestOrder_28 : decode cX8_findBestOrder 28 = .ok (.iconst 0, 1) := by decide +kernel
theorem dX8_findBestOrder_29 : decode cX8_findBestOrder 29 = .ok (.istore_n 3, 1) := by decide +kernel
theorem dX8_findBestOrder_30 : decode cX8_findBestOrder 30 = .ok (.iconst 0, 1) := by decide +kernel
theorem dX8_findBestOrder_31 : decode cX8_findBestOrder 31 = .ok (.istore 4, 2) := by decide +kernel
theorem dX8_findBestOrder_33 : decode cX8_findBestOrder 33 = .ok (.iload 4, 2) := by decide +kernel
theorem dX8_findBestOrder_35 : decode cX8_findBestOrder 35 = .ok (.bipush 120, 2) := by decide +kernel
theorem dX8_findBestOrder_37 : decode cX8_findBestOrder 37 = .ok (.if_icmp .ge 145, 3) := by decide +kernel
theorem dX8_findBestOrder_40 : decode cX8_findBestOrder 40 = .ok (.iload_n 3, 1) := by decide +kernel
theorem dX8_findBestOrder_41 : decode cX8_findBestOrder 41 = .ok (.ifCond .lt 141, 3) := by decide +kernel
theorem dX8_findBestOrder_44 : decode cX8_findBestOrder 44 = .ok (.aload_n 0, 1) := by decide +kernel
theorem dX8_findBestOrder_45 : decode cX8_findBestOrder 45 = .ok (.aload_n 0, 1) := by decide +kernel
theorem dX8_findBestOrder_46 : decode cX8_findBestOrder 46 = .ok (.getfield 34, 3) := by decide +kernel
theorem dX8_findBestOrder_49 : decode cX8_findBestOrder 49 = .ok (.iload_n 3, 1) := by decide +kernel
theorem dX8_findBestOrder_50 : decode cX8_findBestOrder 50 = .ok (.aaload, 1) := by decide +kernel
theorem dX8_findBestOrder_51 : decode cX8_findBestOrder 51 = .ok (.invokevirtual 113, 3) := by decide +kernel
theorem dX8_findBestOrder_54 : decode cX8_findBestOrder 54 = .ok (.iload_n 3, 1) := by decide +kernel
theorem dX8_findBestOrder_55 : decode cX8_findBestOrder 55 = .ok (.istore 5, 2) := by decide +kernel
theorem dX8_findBestOrder_57 : decode cX8_findBestOrder 57 = .ok (.iload 5, 2) := by decide +kernel
theorem dX8_findBestOrder_59 : decode cX8_findBestOrder 59 = .ok (.iload_n 2, 1) := by decide +kernel
theorem dX8_findBestOrder_60 : decode cX8_findBestOrder 60 = .ok (.if_icmp .ge 75, 3) := by decide +kernel
theorem dX8_findBestOrder_63 : decode cX8_findBestOrder 63 = .ok (.aload_n 0, 1) := by decide +kernel
theorem dX8_findBestOrder_64 : decode cX8_findBestOrder 64 = .ok (.getfield 12, 3) := by decide +kernel
theorem dX8_findBestOrder_67 : decode cX8_findBestOrder 67 = .ok (.aload_n 0, 1) := by decide +kernel
theorem dX8_findBestOrder_68 : decode cX8_findBestOrder 68 = .ok (.getfield 25, 3) := by decide +kernel
theorem dX8_findBestOrder_71 : decode cX8_findBestOrder 71 = .ok (.iload 5, 2) := by decide +kernel
theorem dX8_findBestOrder_73 : decode cX8_findBestOrder 73 = .ok (.iaload, 1) := by decide +kernel
theorem dX8_findBestOrder_74 : decode cX8_findBestOrder 74 = .ok (.invokevirtual 52, 3) := by decide +kernel
theorem dX8_findBestOrder_77 : decode cX8_findBestOrder 77 = .ok (.aload_n 0, 1) := by decide +kernel
theorem dX8_findBestOrder_78 : decode cX8_findBestOrder 78 = .ok (.getfield 12, 3) := by decide +kernel
theorem dX8_findBestOrder_81 : decode cX8_findBestOrder 81 = .ok (.bipush 60, 2) := by decide +kernel
theorem dX8_findBestOrder_83 : decode cX8_findBestOrder 83 = .ok (.aconst_null, 1) := by decide +kernel
theorem dX8_findBestOrder_84 : decode cX8_findBestOrder 84 = .ok (.invokevirtual 44, 3) := by decide +kernel
theorem dX8_findBestOrder_87 : decode cX8_findBestOrder 87 = .ok (.pop, 1) := by decide +kernel
theorem dX8_findBestOrder_88 : decode cX8_findBestOrder 88 = .ok (.aload_n 0, 1) := by decide +kernel
theorem dX8_findBestOrder_89 : decode cX8_findBestOrder 89 = .ok (.getfield 37, 3) := by decide +kernel
theorem dX8_findBestOrder_92 : decode cX8_findBestOrder 92 = .ok (.iload 5, 2) := by decide +kernel
theorem dX8_findBestOrder_94 : decode cX8_findBestOrder 94 = .ok (.iconst 1, 1) := by decide +kernel
theorem dX8_findBestOrder_95 : decode cX8_findBestOrder 95 = .ok (.iadd, 1) := by decide +kernel
theorem dX8_findBestOrder_96 : decode cX8_findBestOrder 96 = .ok (.aload_n 0, 1) := by decide +kernel
theorem dX8_findBestOrder_97 : decode cX8_findBestOrder 97 = .ok (.getfield 37, 3) := by decide +kernel
theorem dX8_findBestOrder_100 : decode cX8_findBestOrder 100 = .ok (.iload 5, 2) := by decide +kernel
theorem dX8_findBestOrder_102 : decode cX8_findBestOrder 102 = .ok (.iaload, 1) := by decide +kernel
theorem dX8_findBestOrder_103 : decode cX8_findBestOrder 103 = .ok (.aload_n 0, 1) := by decide +kernel
theorem dX8_findBestOrder_104 : decode cX8_findBestOrder 104 = .ok (.aload_n 0, 1) := by decide +kernel
theorem dX8_findBestOrder_105 : decode cX8_findBestOrder 105 = .ok (.getfield 25, 3) := by decide +kernel
theorem dX8_findBestOrder_108 : decode cX8_findBestOrder 108 = .ok (.iload 5, 2) := by decide +kernel
theorem dX8_findBestOrder_110 : decode cX8_findBestOrder 110 = .ok (.iaload, 1) := by decide +kernel
theorem dX8_findBestOrder_111 : decode cX8_findBestOrder 111 = .ok (.invokevirtual 84, 3) := by decide +kernel
theorem dX8_findBestOrder_114 : decode cX8_findBestOrder 114 = .ok (.iadd, 1) := by decide +kernel
theorem dX8_findBestOrder_115 : decode cX8_findBestOrder 115 = .ok (.iastore, 1) := by decide +kernel
theorem dX8_findBestOrder_116 : decode cX8_findBestOrder 116 = .ok (.aload_n 0, 1) := by decide +kernel
theorem dX8_findBestOrder_117 : decode cX8_findBestOrder 117 = .ok (.aload_n 0, 1) := by decide +kernel
theorem dX8_findBestOrder_118 : decode cX8_findBestOrder 118 = .ok (.getfield 34, 3) := by decide +kernel
theorem dX8_findBestOrder_121 : decode cX8_findBestOrder 121 = .ok (.iload 5, 2) := by decide +kernel
theorem dX8_findBestOrder_123 : decode cX8_findBestOrder 123 = .ok (.iconst 1, 1) := by decide +kernel
theorem dX8_findBestOrder_124 : decode cX8_findBestOrder 124 = .ok (.iadd, 1) := by decide +kernel
theorem dX8_findBestOrder_125 : decode cX8_findBestOrder 125 = .ok (.aaload, 1) := by decide +kernel
theorem dX8_findBestOrder_126 : decode cX8_findBestOrder 126 = .ok (.invokevirtual 105, 3) := by decide +kernel
theorem dX8_findBestOrder_129 : decode cX8_findBestOrder 129 = .ok (.iinc 5 1, 3) := by decide +kernel
theorem dX8_findBestOrder_132 : decode cX8_findBestOrder 132 = .ok (.goto (-75), 3) := by decide +kernel
theorem dX8_findBestOrder_135 : decode cX8_findBestOrder 135 = .ok (.aload_n 0, 1) := by decide +kernel
theorem dX8_findBestOrder_136 : decode cX8_findBestOrder 136 = .ok (.iload 4, 2) := by decide +kernel
theorem dX8_findBestOrder_138 : decode cX8_findBestOrder 138 = .ok (.aload_n 0, 1) := by decide +kernel
theorem dX8_findBestOrder_139 : decode cX8_findBestOrder 139 = .ok (.getfield 37, 3) := by decide +kernel
theorem dX8_findBestOrder_142 : decode cX8_findBestOrder 142 = .ok (.iload_n 2, 1) := by decide +kernel
theorem dX8_findBestOrder_143 : decode cX8_findBestOrder 143 = .ok (.iaload, 1) := by decide +kernel
theorem dX8_findBestOrder_144 : decode cX8_findBestOrder 144 = .ok (.invokevirtual 96, 3) := by decide +kernel
theorem dX8_findBestOrder_147 : decode cX8_findBestOrder 147 = .ok (.aload_n 0, 1) := by decide +kernel
theorem dX8_findBestOrder_148 : decode cX8_findBestOrder 148 = .ok (.getfield 18, 3) := by decide +kernel
theorem dX8_findBestOrder_151 : decode cX8_findBestOrder 151 = .ok (.iload 4, 2) := by decide +kernel
theorem dX8_findBestOrder_153 : decode cX8_findBestOrder 153 = .ok (.if_icmp .ne 17, 3) := by decide +kernel
theorem dX8_findBestOrder_156 : decode cX8_findBestOrder 156 = .ok (.aload_n 0, 1) := by decide +kernel
theorem dX8_findBestOrder_157 : decode cX8_findBestOrder 157 = .ok (.getfield 25, 3) := by decide +kernel
theorem dX8_findBestOrder_160 : decode cX8_findBestOrder 160 = .ok (.iconst 0, 1) := by decide +kernel
theorem dX8_findBestOrder_161 : decode cX8_findBestOrder 161 = .ok (.aload_n 0, 1) := by decide +kernel
theorem dX8_findBestOrder_162 : decode cX8_findBestOrder 162 = .ok (.getfield 29, 3) := by decide +kernel
theorem dX8_findBestOrder_165 : decode cX8_findBestOrder 165 = .ok (.iconst 0, 1) := by decide +kernel
theorem dX8_findBestOrder_166 : decode cX8_findBestOrder 166 = .ok (.iload_n 2, 1) := by decide +kernel
theorem dX8_findBestOrder_167 : decode cX8_findBestOrder 167 = .ok (.invokestatic 116, 3) := by decide +kernel
theorem dX8_findBestOrder_170 : decode cX8_findBestOrder 170 = .ok (.aload_n 0, 1) := by decide +kernel
theorem dX8_findBestOrder_171 : decode cX8_findBestOrder 171 = .ok (.iload_n 2, 1) := by decide +kernel
theorem dX8_findBestOrder_172 : decode cX8_findBestOrder 172 = .ok (.invokevirtual 122, 3) := by decide +kernel
theorem dX8_findBestOrder_175 : decode cX8_findBestOrder 175 = .ok (.istore_n 3, 1) := by decide +kernel
theorem dX8_findBestOrder_176 : decode cX8_findBestOrder 176 = .ok (.iinc 4 1, 3) := by decide +kernel
theorem dX8_findBestOrder_179 : decode cX8_findBestOrder 179 = .ok (.goto (-146), 3) := by decide +kernel
theorem dX8_findBestOrder_182 : decode cX8_findBestOrder 182 = .ok (.return_, 1) := by decide +kernel
theorem dX8_listUnsold_0 : decode cX8_listUnsold 0 = .ok (.iconst 0, 1) := by decide +kernel
theorem dX8_listUnsold_1 : decode cX8_listUnsold 1 = .ok (.istore_n 2, 1) := by decide +kernel
theorem dX8_listUnsold_2 : decode cX8_listUnsold 2 = .ok (.iconst 0, 1) := by decide +kernel
theorem dX8_listUnsold_3 : decode cX8_listUnsold 3 = .ok (.istore_n 3, 1) := by decide +kernel
theorem dX8_listUnsold_4 : decode cX8_listUnsold 4 = .ok (.iload_n 3, 1) := by decide +kernel
theorem dX8_listUnsold_5 : decode cX8_listUnsold 5 = .ok (.iconst 5, 1) := by decide +kernel
theorem dX8_listUnsold_6 : decode cX8_listUnsold 6 = .ok (.if_icmp .ge 27, 3) := by decide +kernel
theorem dX8_listUnsold_9 : decode cX8_listUnsold 9 = .ok (.aload_n 1, 1) := by decide +kernel
theorem dX8_listUnsold_10 : decode cX8_listUnsold 10 = .ok (.iload_n 3, 1) := by decide +kernel
theorem dX8_listUnsold_11 : decode cX8_listUnsold 11 = .ok (.invokevirtual 125, 3) := by decide +kernel
theorem dX8_listUnsold_14 : decode cX8_listUnsold 14 = .ok (.ifnull 13, 3) := by decide +kernel
theorem dX8_listUnsold_17 : decode cX8_listUnsold 17 = .ok (.aload_n 0, 1) := by decide +kernel
theorem dX8_listUnsold_18 : decode cX8_listUnsold 18 = .ok (.getfield 25, 3) := by decide +kernel
theorem dX8_listUnsold_21 : decode cX8_listUnsold 21 = .ok (.iload_n 2, 1) := by decide +kernel
theorem dX8_listUnsold_22 : decode cX8_listUnsold 22 = .ok (.iload_n 3, 1) := by decide +kernel
theorem dX8_listUnsold_23 : decode cX8_listUnsold 23 = .ok (.iastore, 1) := by decide +kernel
theorem dX8_listUnsold_24 : decode cX8_listUnsold 24 = .ok (.iinc 2 1, 3) := by decide +kernel
theorem dX8_listUnsold_27 : decode cX8_listUnsold 27 = .ok (.iinc 3 1, 3) := by decide +kernel
theorem dX8_listUnsold_30 : decode cX8_listUnsold 30 = .ok (.goto (-26), 3) := by decide +kernel
theorem dX8_listUnsold_33 : decode cX8_listUnsold 33 = .ok (.iload_n 2, 1) := by decide +kernel
theorem dX8_listUnsold_34 : decode cX8_listUnsold 34 = .ok (.ireturn, 1) := by decide +kernel
theorem dX8_stepOrder_0 : decode cX8_stepOrder 0 = .ok (.iload_n 1, 1) := by decide +kernel
theorem dX8_stepOrder_1 : decode cX8_stepOrder 1 = .ok (.iconst 2, 1) := by decide +kernel
theorem dX8_stepOrder_2 : decode cX8_stepOrder 2 = .ok (.isub, 1) := by decide +kernel
theorem dX8_stepOrder_3 : decode cX8_stepOrder 3 = .ok (.istore_n 2, 1) := by decide +kernel
theorem dX8_stepOrder_4 : decode cX8_stepOrder 4 = .ok (.iload_n 2, 1) := by decide +kernel
theorem dX8_stepOrder_5 : decode cX8_stepOrder 5 = .ok (.ifCond .lt 26, 3) := by decide +kernel
theorem dX8_stepOrder_8 : decode cX8_stepOrder 8 = .ok (.aload_n 0, 1) := by decide +kernel
theorem dX8_stepOrder_9 : decode cX8_stepOrder 9 = .ok (.getfield 25, 3) := by decide +kernel
theorem dX8_stepOrder_12 : decode cX8_stepOrder 12 = .ok (.iload_n 2, 1) := by decide +kernel
theorem dX8_stepOrder_13 : decode cX8_stepOrder 13 = .ok (.iaload, 1) := by decide +kernel
theorem dX8_stepOrder_14 : decode cX8_stepOrder 14 = .ok (.aload_n 0, 1) := by decide +kernel
theorem dX8_stepOrder_15 : decode cX8_stepOrder 15 = .ok (.getfield 25, 3) := by decide +kernel
theorem dX8_stepOrder_18 : decode cX8_stepOrder 18 = .ok (.iload_n 2, 1) := by decide +kernel
theorem dX8_stepOrder_19 : decode cX8_stepOrder 19 = .ok (.iconst 1, 1) := by decide +kernel
theorem dX8_stepOrder_20 : decode cX8_stepOrder 20 = .ok (.iadd, 1) := by decide +kernel
theorem dX8_stepOrder_21 : decode cX8_stepOrder 21 = .ok (.iaload, 1) := by decide +kernel
theorem dX8_stepOrder_22 : decode cX8_stepOrder 22 = .ok (.if_icmp .le 9, 3) := by decide +kernel
theorem dX8_stepOrder_25 : decode cX8_stepOrder 25 = .ok (.iinc 2 (-1), 3) := by decide +kernel
theorem dX8_stepOrder_28 : decode cX8_stepOrder 28 = .ok (.goto (-24), 3) := by decide +kernel
theorem dX8_stepOrder_31 : decode cX8_stepOrder 31 = .ok (.iload_n 2, 1) := by decide +kernel
theorem dX8_stepOrder_32 : decode cX8_stepOrder 32 = .ok (.ifCond .ge 6, 3) := by decide +kernel
theorem dX8_stepOrder_35 : decode cX8_stepOrder 35 = .ok (.bipush (-3), 2) := by decide +kernel
theorem dX8_stepOrder_37 : decode cX8_stepOrder 37 = .ok (.ireturn, 1) := by decide +kernel
theorem dX8_stepOrder_38 : decode cX8_stepOrder 38 = .ok (.iload_n 1, 1) := by decide +kernel
theorem dX8_stepOrder_39 : decode cX8_stepOrder 39 = .ok (.iconst 1, 1) := by decide +kernel
theorem dX8_stepOrder_40 : decode cX8_stepOrder 40 = .ok (.isub, 1) := by decide +kernel
theorem dX8_stepOrder_41 : decode cX8_stepOrder 41 = .ok (.istore_n 3, 1) := by decide +kernel
theorem dX8_stepOrder_42 : decode cX8_stepOrder 42 = .ok (.iload_n 3, 1) := by decide +kernel
theorem dX8_stepOrder_43 : decode cX8_stepOrder 43 = .ok (.iload_n 2, 1) := by decide +kernel
theorem dX8_stepOrder_44 : decode cX8_stepOrder 44 = .ok (.if_icmp .le 24, 3) := by decide +kernel
theorem dX8_stepOrder_47 : decode cX8_stepOrder 47 = .ok (.aload_n 0, 1) := by decide +kernel
theorem dX8_stepOrder_48 : decode cX8_stepOrder 48 = .ok (.getfield 25, 3) := by decide +kernel
theorem dX8_stepOrder_51 : decode cX8_stepOrder 51 = .ok (.iload_n 3, 1) := by decide +kernel
theorem dX8_stepOrder_52 : decode cX8_stepOrder 52 = .ok (.iaload, 1) := by decide +kernel
theorem dX8_stepOrder_53 : decode cX8_stepOrder 53 = .ok (.aload_n 0, 1) := by decide +kernel
theorem dX8_stepOrder_54 : decode cX8_stepOrder 54 = .ok (.getfield 25, 3) := by decide +kernel
theorem dX8_stepOrder_57 : decode cX8_stepOrder 57 = .ok (.iload_n 2, 1) := by decide +kernel
theorem dX8_stepOrder_58 : decode cX8_stepOrder 58 = .ok (.iaload, 1) := by decide +kernel
theorem dX8_stepOrder_59 : decode cX8_stepOrder 59 = .ok (.if_icmp .ge 9, 3) := by decide +kernel
theorem dX8_stepOrder_62 : decode cX8_stepOrder 62 = .ok (.iinc 3 (-1), 3) := by decide +kernel
theorem dX8_stepOrder_65 : decode cX8_stepOrder 65 = .ok (.goto (-23), 3) := by decide +kernel
theorem dX8_stepOrder_68 : decode cX8_stepOrder 68 = .ok (.aload_n 0, 1) := by decide +kernel
theorem dX8_stepOrder_69 : decode cX8_stepOrder 69 = .ok (.iload_n 2, 1) := by decide +kernel
theorem dX8_stepOrder_70 : decode cX8_stepOrder 70 = .ok (.iload_n 3, 1) := by decide +kernel
theorem dX8_stepOrder_71 : decode cX8_stepOrder 71 = .ok (.invokevirtual 128, 3) := by decide +kernel
theorem dX8_stepOrder_74 : decode cX8_stepOrder 74 = .ok (.iload_n 2, 1) := by decide +kernel
theorem dX8_stepOrder_75 : decode cX8_stepOrder 75 = .ok (.iconst 1, 1) := by decide +kernel
theorem dX8_stepOrder_76 : decode cX8_stepOrder 76 = .ok (.iadd, 1) := by decide +kernel
theorem dX8_stepOrder_77 : decode cX8_stepOrder 77 = .ok (.istore 4, 2) := by decide +kernel
theorem dX8_stepOrder_79 : decode cX8_stepOrder 79 = .ok (.iload_n 1, 1) := by decide +kernel
theorem dX8_stepOrder_80 : decode cX8_stepOrder 80 = .ok (.iconst 1, 1) := by decide +kernel
theorem dX8_stepOrder_81 : decode cX8_stepOrder 81 = .ok (.isub, 1) := by decide +kernel
theorem dX8_stepOrder_82 : decode cX8_stepOrder 82 = .ok (.istore 5, 2) := by decide +kernel
theorem dX8_stepOrder_84 : decode cX8_stepOrder 84 = .ok (.iload 4, 2) := by decide +kernel
theorem dX8_stepOrder_86 : decode cX8_stepOrder 86 = .ok (.iload 5, 2) := by decide +kernel
theorem dX8_stepOrder_88 : decode cX8_stepOrder 88 = .ok (.if_icmp .ge 20, 3) := by decide +kernel
theorem dX8_stepOrder_91 : decode cX8_stepOrder 91 = .ok (.aload_n 0, 1) := by decide +kernel
theorem dX8_stepOrder_92 : decode cX8_stepOrder 92 = .ok (.iload 4, 2) := by decide +kernel
theorem dX8_stepOrder_94 : decode cX8_stepOrder 94 = .ok (.iload 5, 2) := by decide +kernel
theorem dX8_stepOrder_96 : decode cX8_stepOrder 96 = .ok (.invokevirtual 128, 3) := by decide +kernel
theorem dX8_stepOrder_99 : decode cX8_stepOrder 99 = .ok (.iinc 4 1, 3) := by decide +kernel
theorem dX8_stepOrder_102 : decode cX8_stepOrder 102 = .ok (.iinc 5 (-1), 3) := by decide +kernel
theorem dX8_stepOrder_105 : decode cX8_stepOrder 105 = .ok (.goto (-21), 3) := by decide +kernel
theorem dX8_stepOrder_108 : decode cX8_stepOrder 108 = .ok (.iload_n 2, 1) := by decide +kernel
theorem dX8_stepOrder_109 : decode cX8_stepOrder 109 = .ok (.ireturn, 1) := by decide +kernel
theorem dX8_swapOrder_0 : decode cX8_swapOrder 0 = .ok (.aload_n 0, 1) := by decide +kernel
theorem dX8_swapOrder_1 : decode cX8_swapOrder 1 = .ok (.getfield 25, 3) := by decide +kernel
theorem dX8_swapOrder_4 : decode cX8_swapOrder 4 = .ok (.iload_n 1, 1) := by decide +kernel
theorem dX8_swapOrder_5 : decode cX8_swapOrder 5 = .ok (.iaload, 1) := by decide +kernel
theorem dX8_swapOrder_6 : decode cX8_swapOrder 6 = .ok (.istore_n 3, 1) := by decide +kernel
theorem dX8_swapOrder_7 : decode cX8_swapOrder 7 = .ok (.aload_n 0, 1) := by decide +kernel
theorem dX8_swapOrder_8 : decode cX8_swapOrder 8 = .ok (.getfield 25, 3) := by decide +kernel
theorem dX8_swapOrder_11 : decode cX8_swapOrder 11 = .ok (.iload_n 1, 1) := by decide +kernel
theorem dX8_swapOrder_12 : decode cX8_swapOrder 12 = .ok (.aload_n 0, 1) := by decide +kernel
theorem dX8_swapOrder_13 : decode cX8_swapOrder 13 = .ok (.getfield 25, 3) := by decide +kernel
theorem dX8_swapOrder_16 : decode cX8_swapOrder 16 = .ok (.iload_n 2, 1) := by decide +kernel
theorem dX8_swapOrder_17 : decode cX8_swapOrder 17 = .ok (.iaload, 1) := by decide +kernel
theorem dX8_swapOrder_18 : decode cX8_swapOrder 18 = .ok (.iastore, 1) := by decide +kernel
theorem dX8_swapOrder_19 : decode cX8_swapOrder 19 = .ok (.aload_n 0, 1) := by decide +kernel
theorem dX8_swapOrder_20 : decode cX8_swapOrder 20 = .ok (.getfield 25, 3) := by decide +kernel
theorem dX8_swapOrder_23 : decode cX8_swapOrder 23 = .ok (.iload_n 2, 1) := by decide +kernel
theorem dX8_swapOrder_24 : decode cX8_swapOrder 24 = .ok (.iload_n 3, 1) := by decide +kernel
theorem dX8_swapOrder_25 : decode cX8_swapOrder 25 = .ok (.iastore, 1) := by decide +kernel
theorem dX8_swapOrder_26 : decode cX8_swapOrder 26 = .ok (.return_, 1) := by decide +kernel
theorem dX8_savePurses_0 : decode cX8_savePurses 0 = .ok (.iconst 0, 1) := by decide +kernel
theorem dX8_savePurses_1 : decode cX8_savePurses 1 = .ok (.istore_n 2, 1) := by decide +kernel
theorem dX8_savePurses_2 : decode cX8_savePurses 2 = .ok (.iload_n 2, 1) := by decide +kernel
theorem dX8_savePurses_3 : decode cX8_savePurses 3 = .ok (.bipush 6, 2) := by decide +kernel
theorem dX8_savePurses_5 : decode cX8_savePurses 5 = .ok (.if_icmp .ge 30, 3) := by decide +kernel
theorem dX8_savePurses_8 : decode cX8_savePurses 8 = .ok (.iload_n 2, 1) := by decide +kernel
theorem dX8_savePurses_9 : decode cX8_savePurses 9 = .ok (.aload_n 1, 1) := by decide +kernel
theorem dX8_savePurses_10 : decode cX8_savePurses 10 = .ok (.arraylength, 1) := by decide +kernel
theorem dX8_savePurses_11 : decode cX8_savePurses 11 = .ok (.if_icmp .ge 24, 3) := by decide +kernel
theorem dX8_savePurses_14 : decode cX8_savePurses 14 = .ok (.aload_n 1, 1) := by decide +kernel
theorem dX8_savePurses_15 : decode cX8_savePurses 15 = .ok (.iload_n 2, 1) := by decide +kernel
theorem dX8_savePurses_16 : decode cX8_savePurses 16 = .ok (.aload_n 0, 1) := by decide +kernel
theorem dX8_savePurses_17 : decode cX8_savePurses 17 = .ok (.getfield 12, 3) := by decide +kernel
theorem dX8_savePurses_20 : decode cX8_savePurses 20 = .ok (.getfield 131, 3) := by decide +kernel
theorem dX8_savePurses_23 : decode cX8_savePurses 23 = .ok (.iload_n 2, 1) := by decide +kernel
theorem dX8_savePurses_24 : decode cX8_savePurses 24 = .ok (.aaload, 1) := by decide +kernel
theorem dX8_savePurses_25 : decode cX8_savePurses 25 = .ok (.getfield 135, 3) := by decide +kernel
theorem dX8_savePurses_28 : decode cX8_savePurses 28 = .ok (.iastore, 1) := by decide +kernel
theorem dX8_savePurses_29 : decode cX8_savePurses 29 = .ok (.iinc 2 1, 3) := by decide +kernel
theorem dX8_savePurses_32 : decode cX8_savePurses 32 = .ok (.goto (-30), 3) := by decide +kernel
theorem dX8_savePurses_35 : decode cX8_savePurses 35 = .ok (.return_, 1) := by decide +kernel
theorem dX8_loadPurses_0 : decode cX8_loadPurses 0 = .ok (.iconst 0, 1) := by decide +kernel
theorem dX8_loadPurses_1 : decode cX8_loadPurses 1 = .ok (.istore_n 2, 1) := by decide +kernel
theorem dX8_loadPurses_2 : decode cX8_loadPurses 2 = .ok (.iload_n 2, 1) := by decide +kernel
theorem dX8_loadPurses_3 : decode cX8_loadPurses 3 = .ok (.bipush 6, 2) := by decide +kernel
theorem dX8_loadPurses_5 : decode cX8_loadPurses 5 = .ok (.if_icmp .ge 30, 3) := by decide +kernel
theorem dX8_loadPurses_8 : decode cX8_loadPurses 8 = .ok (.iload_n 2, 1) := by decide +kernel
theorem dX8_loadPurses_9 : decode cX8_loadPurses 9 = .ok (.aload_n 1, 1) := by decide +kernel
theorem dX8_loadPurses_10 : decode cX8_loadPurses 10 = .ok (.arraylength, 1) := by decide +kernel
theorem dX8_loadPurses_11 : decode cX8_loadPurses 11 = .ok (.if_icmp .ge 24, 3) := by decide +kernel
theorem dX8_loadPurses_14 : decode cX8_loadPurses 14 = .ok (.aload_n 0, 1) := by decide +kernel
theorem dX8_loadPurses_15 : decode cX8_loadPurses 15 = .ok (.getfield 12, 3) := by decide +kernel
theorem dX8_loadPurses_18 : decode cX8_loadPurses 18 = .ok (.getfield 131, 3) := by decide +kernel
theorem dX8_loadPurses_21 : decode cX8_loadPurses 21 = .ok (.iload_n 2, 1) := by decide +kernel
theorem dX8_loadPurses_22 : decode cX8_loadPurses 22 = .ok (.aaload, 1) := by decide +kernel
theorem dX8_loadPurses_23 : decode cX8_loadPurses 23 = .ok (.aload_n 1, 1) := by decide +kernel
theorem dX8_loadPurses_24 : decode cX8_loadPurses 24 = .ok (.iload_n 2, 1) := by decide +kernel
theorem dX8_loadPurses_25 : decode cX8_loadPurses 25 = .ok (.iaload, 1) := by decide +kernel
theorem dX8_loadPurses_26 : decode cX8_loadPurses 26 = .ok (.putfield 135, 3) := by decide +kernel
theorem dX8_loadPurses_29 : decode cX8_loadPurses 29 = .ok (.iinc 2 1, 3) := by decide +kernel
theorem dX8_loadPurses_32 : decode cX8_loadPurses 32 = .ok (.goto (-30), 3) := by decide +kernel
theorem dX8_loadPurses_35 : decode cX8_loadPurses 35 = .ok (.return_, 1) := by decide +kernel
