theorem dX9_init_0 : decode cX9_init 0 = .ok (.aload_n 0, 1) := by decide +kernel
theorem dX9_init_1 : decode cX9_init 1 = .ok (.invokespecial 3, 3) := by decide +kernel
theorem dX9_init_4 : decode cX9_init 4 = .ok (.aload_n 0, 1) := by decide +kernel
theorem dX9_init_5 : decode cX9_init 5 = .ok (.new 9, 3) := by decide +kernel
theorem dX9_init_8 : decode cX9_init 8 = .ok (.dup, 1) := by decide +kernel
theorem dX9_init_9 : decode cX9_init 9 = .ok (.invokespecial 11, 3) := by decide +kernel
theorem dX9_init_12 : decode cX9_init 12 = .ok (.putfield 12, 3) := by decide +kernel
theorem dX9_init_15 : decode cX9_init 15 = .ok (.aload_n 0, 1) := by decide +kernel
theorem dX9_init_16 : decode cX9_init 16 = .ok (.new 9, 3) := by decide +kernel
theorem dX9_init_19 : decode cX9_init 19 = .ok (.dup, 1) := by decide +kernel
theorem dX9_init_20 : decode cX9_init 20 = .ok (.invokespecial 11, 3) := by decide +kernel
theorem dX9_init_23 : decode cX9_init 23 = .ok (.putfield 16, 3) := by decide +kernel
theorem dX9_init_26 : decode cX9_init 26 = .ok (.aload_n 0, 1) := by decide +kernel
theorem dX9_init_27 : decode cX9_init 27 = .ok (.iconst 0, 1) := by decide +kernel
theorem dX9_init_28 : decode cX9_init 28 = .ok (.putfield 19, 3) := by decide +kernel
theorem dX9_init_31 : decode cX9_init 31 = .ok (.aload_n 0, 1) := by decide +kernel
theorem dX9_init_32 : decode cX9_init 32 = .ok (.new 9, 3) := by decide +kernel
theorem dX9_init_35 : decode cX9_init 35 = .ok (.dup, 1) := by decide +kernel
theorem dX9_init_36 : decode cX9_init 36 = .ok (.invokespecial 11, 3) := by decide +kernel
theorem dX9_init_39 : decode cX9_init 39 = .ok (.putfield 23, 3) := by decide +kernel
theorem dX9_init_42 : decode cX9_init 42 = .ok (.aload_n 0, 1) := by decide +kernel
theorem dX9_init_43 : decode cX9_init 43 = .ok (.new 26, 3) := by decide +kernel
theorem dX9_init_46 : decode cX9_init 46 = .ok (.dup, 1) := by decide +kernel
theorem dX9_init_47 : decode cX9_init 47 = .ok (.invokespecial 28, 3) := by decide +kernel
theorem dX9_init_50 : decode cX9_init 50 = .ok (.putfield 29, 3) := by decide +kernel
theorem dX9_init_53 : decode cX9_init 53 = .ok (.aload_n 0, 1) := by decide +kernel
theorem dX9_init_54 : decode cX9_init 54 = .ok (.new 33, 3) := by decide +kernel
theorem dX9_init_57 : decode cX9_init 57 = .ok (.dup, 1) := by decide +kernel
theorem dX9_init_58 : decode cX9_init 58 = .ok (.invokespecial 35, 3) := by decide +kernel
theorem dX9_init_61 : decode cX9_init 61 = .ok (.putfield 36, 3) := by decide +kernel
theorem dX9_init_64 : decode cX9_init 64 = .ok (.aload_n 0, 1) := by decide +kernel
theorem dX9_init_65 : decode cX9_init 65 = .ok (.new 40, 3) := by decide +kernel
theorem dX9_init_68 : decode cX9_init 68 = .ok (.dup, 1) := by decide +kernel
theorem dX9_init_69 : decode cX9_init 69 = .ok (.invokespecial 42, 3) := by decide +kernel
theorem dX9_init_72 : decode cX9_init 72 = .ok (.putfield 43, 3) := by decide +kernel
theorem dX9_init_75 : decode cX9_init 75 = .ok (.aload_n 0, 1) := by decide +kernel
theorem dX9_init_76 : decode cX9_init 76 = .ok (.new 40, 3) := by decide +kernel
theorem dX9_init_79 : decode cX9_init 79 = .ok (.dup, 1) := by decide +kernel
theorem dX9_init_80 : decode cX9_init 80 = .ok (.invokespecial 42, 3) := by decide +kernel
theorem dX9_init_83 : decode cX9_init 83 = .ok (.putfield 47, 3) := by decide +kernel
theorem dX9_init_86 : decode cX9_init 86 = .ok (.aload_n 0, 1) := by decide +kernel
theorem dX9_init_87 : decode cX9_init 87 = .ok (.iconst 4, 1) := by decide +kernel
theorem dX9_init_88 : decode cX9_init 88 = .ok (.anewarray 50, 3) := by decide +kernel
theorem dX9_init_91 : decode cX9_init 91 = .ok (.putfield 52, 3) := by decide +kernel
theorem dX9_init_94 : decode cX9_init 94 = .ok (.aload_n 0, 1) := by decide +kernel
theorem dX9_init_95 : decode cX9_init 95 = .ok (.iconst 4, 1) := by decide +kernel
theorem dX9_init_96 : decode cX9_init 96 = .ok (.anewarray 56, 3) := by decide +kernel
theorem dX9_init_99 : decode cX9_init 99 = .ok (.putfield 58, 3) := by decide +kernel
theorem dX9_init_102 : decode cX9_init 102 = .ok (.aload_n 0, 1) := by decide +kernel
theorem dX9_init_103 : decode cX9_init 103 = .ok (.new 62, 3) := by decide +kernel
theorem dX9_init_106 : decode cX9_init 106 = .ok (.dup, 1) := by decide +kernel
theorem dX9_init_107 : decode cX9_init 107 = .ok (.invokespecial 64, 3) := by decide +kernel
theorem dX9_init_110 : decode cX9_init 110 = .ok (.putfield 65, 3) := by decide +kernel
theorem dX9_init_113 : decode cX9_init 113 = .ok (.iconst 0, 1) := by decide +kernel
theorem dX9_init_114 : decode cX9_init 114 = .ok (.istore_n 1, 1) := by decide +kernel
theorem dX9_init_115 : decode cX9_init 115 = .ok (.iload_n 1, 1) := by decide +kernel
theorem dX9_init_116 : decode cX9_init 116 = .ok (.iconst 4, 1) := by decide +kernel
theorem dX9_init_117 : decode cX9_init 117 = .ok (.if_icmp .ge 22, 3) := by decide +kernel
theorem dX9_init_120 : decode cX9_init 120 = .ok (.aload_n 0, 1) := by decide +kernel
theorem dX9_init_121 : decode cX9_init 121 = .ok (.getfield 52, 3) := by decide +kernel
theorem dX9_init_124 : decode cX9_init 124 = .ok (.iload_n 1, 1) := by decide +kernel
theorem dX9_init_125 : decode cX9_init 125 = .ok (.new 50, 3) := by decide +kernel
theorem dX9_init_128 : decode cX9_init 128 = .ok (.dup, 1) := by decide +kernel
theorem dX9_init_129 : decode cX9_init 129 = .ok (.invokespecial 69, 3) := by decide +kernel
theorem dX9_init_132 : decode cX9_init 132 = .ok (.aastore, 1) := by decide +kernel
theorem dX9_init_133 : decode cX9_init 133 = .ok (.iinc 1 1, 3) := by decide +kernel
theorem dX9_init_136 : decode cX9_init 136 = .ok (.goto (-21), 3) := by decide +kernel
theorem dX9_init_139 : decode cX9_init 139 = .ok (.iconst 0, 1) := by decide +kernel
theorem dX9_init_140 : decode cX9_init 140 = .ok (.istore_n 1, 1) := by decide +kernel
theorem dX9_init_141 : decode cX9_init 141 = .ok (.iload_n 1, 1) := by decide +kernel
theorem dX9_init_142 : decode cX9_init 142 = .ok (.iconst 4, 1) := by decide +kernel
theorem dX9_init_143 : decode cX9_init 143 = .ok (.if_icmp .ge 22, 3) := by decide +kernel
theorem dX9_init_146 : decode cX9_init 146 = .ok (.aload_n 0, 1) := by decide +kernel
theorem dX9_init_147 : decode cX9_init 147 = .ok (.getfield 58, 3) := by decide +kernel
theorem dX9_init_150 : decode cX9_init 150 = .ok (.iload_n 1, 1) := by decide +kernel
theorem dX9_init_151 : decode cX9_init 151 = .ok (.new 56, 3) := by decide +kernel
theorem dX9_init_154 : decode cX9_init 154 = .ok (.dup, 1) := by decide +kernel
theorem dX9_init_155 : decode cX9_init 155 = .ok (.invokespecial 70, 3) := by decide +kernel
theorem dX9_init_158 : decode cX9_init 158 = .ok (.aastore, 1) := by decide +kernel
theorem dX9_init_159 : decode cX9_init 159 = .ok (.iinc 1 1, 3) := by decide +kernel
theorem dX9_init_162 : decode cX9_init 162 = .ok (.goto (-21), 3) := by decide +kernel
theorem dX9_init_165 : decode cX9_init 165 = .ok (.return_, 1) := by decide +kernel
theorem dX9_feed_0 : decode cX9_feed 0 = .ok (.iload_n 3, 1) := by decide +kernel
theorem dX9_feed_1 : decode cX9_feed 1 = .ok (.iconst 1, 1) := by decide +kernel
theorem dX9_feed_2 : decode cX9_feed 2 = .ok (.bipush 8, 2) := by decide +kernel
theorem dX9_feed_4 : decode cX9_feed 4 = .ok (.invokestatic 71, 3) := by decide +kernel
theorem dX9_feed_7 : decode cX9_feed 7 = .ok (.ifCond .ne 5, 3) := by decide +kernel
theorem dX9_feed_10 : decode cX9_feed 10 = .ok (.iconst (-1), 1) := by decide +kernel
theorem dX9_feed_11 : decode cX9_feed 11 = .ok (.ireturn, 1) := by decide +kernel
theorem dX9_feed_12 : decode cX9_feed 12 = .ok (.aload_n 0, 1) := by decide +kernel
theorem dX9_feed_13 : decode cX9_feed 13 = .ok (.getfield 29, 3) := by decide +kernel
theorem dX9_feed_16 : decode cX9_feed 16 = .ok (.lload_n 1, 1) := by decide +kernel
theorem dX9_feed_17 : decode cX9_feed 17 = .ok (.iload_n 3, 1) := by decide +kernel
theorem dX9_feed_18 : decode cX9_feed 18 = .ok (.invokevirtual 75, 3) := by decide +kernel
theorem dX9_feed_21 : decode cX9_feed 21 = .ok (.ireturn, 1) := by decide +kernel
theorem dX9_hall_0 : decode cX9_hall 0 = .ok (.aload_n 0, 1) := by decide +kernel
theorem dX9_hall_1 : decode cX9_hall 1 = .ok (.getfield 23, 3) := by decide +kernel
theorem dX9_hall_4 : decode cX9_hall 4 = .ok (.invokevirtual 79, 3) := by decide +kernel
theorem dX9_hall_7 : decode cX9_hall 7 = .ok (.aload_n 0, 1) := by decide +kernel
theorem dX9_hall_8 : decode cX9_hall 8 = .ok (.getfield 29, 3) := by decide +kernel
theorem dX9_hall_11 : decode cX9_hall 11 = .ok (.aload_n 0, 1) := by decide +kernel
theorem dX9_hall_12 : decode cX9_hall 12 = .ok (.getfield 23, 3) := by decide +kernel
theorem dX9_hall_15 : decode cX9_hall 15 = .ok (.invokevirtual 82, 3) := by decide +kernel
theorem dX9_hall_18 : decode cX9_hall 18 = .ok (.istore_n 1, 1) := by decide +kernel
theorem dX9_hall_19 : decode cX9_hall 19 = .ok (.aload_n 0, 1) := by decide +kernel
theorem dX9_hall_20 : decode cX9_hall 20 = .ok (.getfield 29, 3) := by decide +kernel
theorem dX9_hall_23 : decode cX9_hall 23 = .ok (.invokevirtual 86, 3) := by decide +kernel
theorem dX9_hall_26 : decode cX9_hall 26 = .ok (.iload_n 1, 1) := by decide +kernel
theorem dX9_hall_27 : decode cX9_hall 27 = .ok (.bipush (-3), 2) := by decide +kernel
theorem dX9_hall_29 : decode cX9_hall 29 = .ok (.if_icmp .eq 8, 3) := by decide +kernel
theorem dX9_hall_32 : decode cX9_hall 32 = .ok (.bipush (-100), 2) := by decide +kernel
theorem dX9_hall_34 : decode cX9_hall 34 = .ok (.iload_n 1, 1) := by decide +kernel
theorem dX9_hall_35 : decode cX9_hall 35 = .ok (.isub, 1) := by decide +kernel
theorem dX9_hall_36 : decode cX9_hall 36 = .ok (.ireturn, 1) := by decide +kernel
theorem dX9_hall_37 : decode cX9_hall 37 = .ok (.aload_n 0, 1) := by decide +kernel
theorem dX9_hall_38 : decode cX9_hall 38 = .ok (.getfield 23, 3) := by decide +kernel
theorem dX9_hall_41 : decode cX9_hall 41 = .ok (.aload_n 0, 1) := by decide +kernel
theorem dX9_hall_42 : decode cX9_hall 42 = .ok (.getfield 12, 3) := by decide +kernel
theorem dX9_hall_45 : decode cX9_hall 45 = .ok (.getfield 87, 3) := by decide +kernel
theorem dX9_hall_48 : decode cX9_hall 48 = .ok (.putfield 87, 3) := by decide +kernel
theorem dX9_hall_51 : decode cX9_hall 51 = .ok (.aload_n 0, 1) := by decide +kernel
theorem dX9_hall_52 : decode cX9_hall 52 = .ok (.getfield 12, 3) := by decide +kernel
theorem dX9_hall_55 : decode cX9_hall 55 = .ok (.aload_n 0, 1) := by decide +kernel
theorem dX9_hall_56 : decode cX9_hall 56 = .ok (.getfield 23, 3) := by decide +kernel
theorem dX9_hall_59 : decode cX9_hall 59 = .ok (.invokevirtual 91, 3) := by decide +kernel
theorem dX9_hall_62 : decode cX9_hall 62 = .ok (.aload_n 0, 1) := by decide +kernel
theorem dX9_hall_63 : decode cX9_hall 63 = .ok (.getfield 43, 3) := by decide +kernel
theorem dX9_hall_66 : decode cX9_hall 66 = .ok (.invokevirtual 95, 3) := by decide +kernel
theorem dX9_hall_69 : decode cX9_hall 69 = .ok (.aload_n 0, 1) := by decide +kernel
theorem dX9_hall_70 : decode cX9_hall 70 = .ok (.getfield 12, 3) := by decide +kernel
theorem dX9_hall_73 : decode cX9_hall 73 = .ok (.getfield 96, 3) := by decide +kernel
theorem dX9_hall_76 : decode cX9_hall 76 = .ok (.ireturn, 1) := by decide +kernel
theorem dX9_lot_0 : decode cX9_lot 0 = .ok (.iload_n 1, 1) := by decide +kernel
theorem dX9_lot_1 : decode cX9_lot 1 = .ok (.iconst 1, 1) := by decide +kernel
theorem dX9_lot_2 : decode cX9_lot 2 = .ok (.bipush 60, 2) := by decide +kernel
theorem dX9_lot_4 : decode cX9_lot 4 = .ok (.invokestatic 71, 3) := by decide +kernel
theorem dX9_lot_7 : decode cX9_lot 7 = .ok (.ifCond .eq 13, 3) := by decide +kernel
theorem dX9_lot_10 : decode cX9_lot 10 = .ok (.iload_n 2, 1) := by decide +kernel
theorem dX9_lot_11 : decode cX9_lot 11 = .ok (.iconst 1, 1) := by decide +kernel
theorem dX9_lot_12 : decode cX9_lot 12 = .ok (.bipush 99, 2) := by decide +kernel
theorem dX9_lot_14 : decode cX9_lot 14 = .ok (.invokestatic 71, 3) := by decide +kernel
theorem dX9_lot_17 : decode cX9_lot 17 = .ok (.ifCond .ne 5, 3) := by decide +kernel
theorem dX9_lot_20 : decode cX9_lot 20 = .ok (.iconst (-1), 1) := by decide +kernel
theorem dX9_lot_21 : decode cX9_lot 21 = .ok (.ireturn, 1) := by decide +kernel
theorem dX9_lot_22 : decode cX9_lot 22 = .ok (.aload_n 0, 1) := by decide +kernel
theorem dX9_lot_23 : decode cX9_lot 23 = .ok (.getfield 12, 3) := by decide +kernel
theorem dX9_lot_26 : decode cX9_lot 26 = .ok (.iload_n 1, 1) := by decide +kernel
theorem dX9_lot_27 : decode cX9_lot 27 = .ok (.iload_n 2, 1) := by decide +kernel
theorem dX9_lot_28 : decode cX9_lot 28 = .ok (.invokevirtual 99, 3) := by decide +kernel
theorem dX9_lot_31 : decode cX9_lot 31 = .ok (.ireturn, 1) := by decide +kernel
theorem dX9_lotOf_0 : decode cX9_lotOf 0 = .ok (.aload_n 0, 1) := by decide +kernel
theorem dX9_lotOf_1 : decode cX9_lotOf 1 = .ok (.getfield 12, 3) := by decide +kernel
theorem dX9_lotOf_4 : decode cX9_lotOf 4 = .ok (.iload_n 1, 1) := by decide +kernel
theorem dX9_lotOf_5 : decode cX9_lotOf 5 = .ok (.invokevirtual 103, 3) := by decide +kernel
theorem dX9_lotOf_8 : decode cX9_lotOf 8 = .ok (.astore_n 3, 1) := by decide +kernel
theorem dX9_lotOf_9 : decode cX9_lotOf 9 = .ok (.aload_n 3, 1) := by decide +kernel
theorem dX9_lotOf_10 : decode cX9_lotOf 10 = .ok (.ifnonnull 5, 3) := by decide +kernel
theorem dX9_lotOf_13 : decode cX9_lotOf 13 = .ok (.iconst (-1), 1) := by decide +kernel
theorem dX9_lotOf_14 : decode cX9_lotOf 14 = .ok (.ireturn, 1) := by decide +kernel
theorem dX9_lotOf_15 : decode cX9_lotOf 15 = .ok (.iload_n 2, 1) := by decide +kernel
theorem dX9_lotOf_16 : decode cX9_lotOf 16 = .ok (.tableswitch 69 0 4 #[36, 41, 46, 59, 64], 36) := by decide +kernel
theorem dX9_lotOf_52 : decode cX9_lotOf 52 = .ok (.aload_n 3, 1) := by decide +kernel
theorem dX9_lotOf_53 : decode cX9_lotOf 53 = .ok (.getfield 107, 3) := by decide +kernel
theorem dX9_lotOf_56 : decode cX9_lotOf 56 = .ok (.ireturn, 1) := by decide +kernel
theorem dX9_lotOf_57 : decode cX9_lotOf 57 = .ok (.aload_n 3, 1) := by decide +kernel
theorem dX9_lotOf_58 : decode cX9_lotOf 58 = .ok (.getfield 112, 3) := by decide +kernel
theorem dX9_lotOf_61 : decode cX9_lotOf 61 = .ok (.ireturn, 1) := by decide +kernel
theorem dX9_lotOf_62 : decode cX9_lotOf 62 = .ok (.aload_n 3, 1) := by decide +kernel
theorem dX9_lotOf_63 : decode cX9_lotOf 63 = .ok (.getfield 115, 3) := by decide +kernel
theorem dX9_lotOf_66 : decode cX9_lotOf 66 = .ok (.ifCond .eq 7, 3) := by decide +kernel
theorem dX9_lotOf_69 : decode cX9_lotOf 69 = .ok (.iconst 1, 1) := by decide +kernel
theorem dX9_lotOf_70 : decode cX9_lotOf 70 = .ok (.goto 4, 3) := by decide +kernel
theorem dX9_lotOf_73 : decode cX9_lotOf 73 = .ok (.iconst 0, 1) := by decide +kernel
theorem dX9_lotOf_74 : decode cX9_lotOf 74 = .ok (.ireturn, 1) := by decide +kernel
theorem dX9_lotOf_75 : decode cX9_lotOf 75 = .ok (.aload_n 3, 1) := by decide +kernel
theorem dX9_lotOf_76 : decode cX9_lotOf 76 = .ok (.getfield 118, 3) := by decide +kernel
theorem dX9_lotOf_79 : decode cX9_lotOf 79 = .ok (.ireturn, 1) := by decide +kernel
theorem dX9_lotOf_80 : decode cX9_lotOf 80 = .ok (.aload_n 3, 1) := by decide +kernel
theorem dX9_lotOf_81 : decode cX9_lotOf 81 = .ok (.getfield 121, 3) := by decide +kernel
theorem dX9_lotOf_84 : decode cX9_lotOf 84 = .ok (.ireturn, 1) := by decide +kernel
theorem dX9_lotOf_85 : decode cX9_lotOf 85 = .ok (.iconst (-1), 1) := by decide +kernel
theorem dX9_lotOf_86 : decode cX9_lotOf 86 = .ok (.ireturn, 1) := by decide +kernel
theorem dX9_trim_0 : decode cX9_trim 0 = .ok (.aload_n 0, 1) := by decide +kernel
theorem dX9_trim_1 : decode cX9_trim 1 = .ok (.getfield 12, 3) := by decide +kernel
theorem dX9_trim_4 : decode cX9_trim 4 = .ok (.iload_n 1, 1) := by decide +kernel
theorem dX9_trim_5 : decode cX9_trim 5 = .ok (.invokevirtual 103, 3) := by decide +kernel
theorem dX9_trim_8 : decode cX9_trim 8 = .ok (.astore 4, 2) := by decide +kernel
theorem dX9_trim_10 : decode cX9_trim 10 = .ok (.aload 4, 2) := by decide +kernel
theorem dX9_trim_12 : decode cX9_trim 12 = .ok (.ifnull 12, 3) := by decide +kernel
theorem dX9_trim_15 : decode cX9_trim 15 = .ok (.iload_n 2, 1) := by decide +kernel
theorem dX9_trim_16 : decode cX9_trim 16 = .ok (.iconst 0, 1) := by decide +kernel
theorem dX9_trim_17 : decode cX9_trim 17 = .ok (.iconst 1, 1) := by decide +kernel
theorem dX9_trim_18 : decode cX9_trim 18 = .ok (.invokestatic 71, 3) := by decide +kernel
theorem dX9_trim_21 : decode cX9_trim 21 = .ok (.ifCond .ne 5, 3) := by decide +kernel
theorem dX9_trim_24 : decode cX9_trim 24 = .ok (.iconst (-1), 1) := by decide +kernel
theorem dX9_trim_25 : decode cX9_trim 25 = .ok (.ireturn, 1) := by decide +kernel
theorem dX9_trim_26 : decode cX9_trim 26 = .ok (.iload_n 3, 1) := by decide +kernel
theorem dX9_trim_27 : decode cX9_trim 27 = .ok (.iconst 1, 1) := by decide +kernel
theorem dX9_trim_28 : decode cX9_trim 28 = .ok (.iload_n 2, 1) := by decide +kernel
theorem dX9_trim_29 : decode cX9_trim 29 = .ok (.ifCond .ne 8, 3) := by decide +kernel
theorem dX9_trim_32 : decode cX9_trim 32 = .ok (.bipush 60, 2) := by decide +kernel
theorem dX9_trim_34 : decode cX9_trim 34 = .ok (.goto 5, 3) := by decide +kernel
theorem dX9_trim_37 : decode cX9_trim 37 = .ok (.bipush 99, 2) := by decide +kernel
theorem dX9_trim_39 : decode cX9_trim 39 = .ok (.invokestatic 71, 3) := by decide +kernel
theorem dX9_trim_42 : decode cX9_trim 42 = .ok (.ifCond .ne 5, 3) := by decide +kernel
theorem dX9_trim_45 : decode cX9_trim 45 = .ok (.iconst (-1), 1) := by decide +kernel
theorem dX9_trim_46 : decode cX9_trim 46 = .ok (.ireturn, 1) := by decide +kernel
theorem dX9_trim_47 : decode cX9_trim 47 = .ok (.aload 4, 2) := by decide +kernel
theorem dX9_trim_49 : decode cX9_trim 49 = .ok (.getfield 115, 3) := by decide +kernel
theorem dX9_trim_52 : decode cX9_trim 52 = .ok (.ifCond .ne 14, 3) := by decide +kernel
theorem dX9_trim_55 : decode cX9_trim 55 = .ok (.aload_n 0, 1) := by decide +kernel
theorem dX9_trim_56 : decode cX9_trim 56 = .ok (.getfield 12, 3) := by decide +kernel
theorem dX9_trim_59 : decode cX9_trim 59 = .ok (.getfield 124, 3) := by decide +kernel
theorem dX9_trim_62 : decode cX9_trim 62 = .ok (.iload_n 1, 1) := by decide +kernel
theorem dX9_trim_63 : decode cX9_trim 63 = .ok (.if_icmp .ne 6, 3) := by decide +kernel
theorem dX9_trim_66 : decode cX9_trim 66 = .ok (.bipush (-4), 2) := by decide +kernel
theorem dX9_trim_68 : decode cX9_trim 68 = .ok (.ireturn, 1) := by decide +kernel
theorem dX9_trim_69 : decode cX9_trim 69 = .ok (.iload_n 2, 1) := by decide +kernel
theorem dX9_trim_70 : decode cX9_trim 70 = .ok (.ifCond .ne 11, 3) := by decide +kernel
theorem dX9_trim_73 : decode cX9_trim 73 = .ok (.aload 4, 2) := by decide +kernel
theorem dX9_trim_75 : decode cX9_trim 75 = .ok (.getfield 107, 3) := by decide +kernel
theorem dX9_trim_78 : decode cX9_trim 78 = .ok (.goto 8, 3) := by decide +kernel
theorem dX9_trim_81 : decode cX9_trim 81 = .ok (.aload 4, 2) := by decide +kernel
theorem dX9_trim_83 : decode cX9_trim 83 = .ok (.getfield 112, 3) := by decide +kernel
theorem dX9_trim_86 : decode cX9_trim 86 = .ok (.istore 5, 2) := by decide +kernel
theorem dX9_trim_88 : decode cX9_trim 88 = .ok (.iload_n 2, 1) := by decide +kernel
theorem dX9_trim_89 : decode cX9_trim 89 = .ok (.ifCond .ne 12, 3) := by decide +kernel
theorem dX9_trim_92 : decode cX9_trim 92 = .ok (.aload 4, 2) := by decide +kernel
theorem dX9_trim_94 : decode cX9_trim 94 = .ok (.iload_n 3, 1) := by decide +kernel
theorem dX9_trim_95 : decode cX9_trim 95 = .ok (.putfield 107, 3) := by decide +kernel
theorem dX9_trim_98 : decode cX9_trim 98 = .ok (.goto 9, 3) := by decide +kernel
theorem dX9_trim_101 : decode cX9_trim 101 = .ok (.aload 4, 2) := by decide +kernel
theorem dX9_trim_103 : decode cX9_trim 103 = .ok (.iload_n 3, 1) := by decide +kernel
theorem dX9_trim_104 : decode cX9_trim 104 = .ok (.putfield 112, 3) := by decide +kernel
theorem dX9_trim_107 : decode cX9_trim 107 = .ok (.iload 5, 2) := by decide +kernel
theorem dX9_trim_109 : decode cX9_trim 109 = .ok (.ireturn, 1) := by decide +kernel
theorem dX9_draught_0 : decode cX9_draught 0 = .ok (.iload_n 1, 1) := by decide +kernel
theorem dX9_draught_1 : decode cX9_draught 1 = .ok (.iconst 0, 1) := by decide +kernel
theorem dX9_draught_2 : decode cX9_draught 2 = .ok (.bipush 11, 2) := by decide +kernel
theorem dX9_draught_4 : decode cX9_draught 4 = .ok (.invokestatic 71, 3) := by decide +kernel
theorem dX9_draught_7 : decode cX9_draught 7 = .ok (.ifCond .eq 12, 3) := by decide +kernel
theorem dX9_draught_10 : decode cX9_draught 10 = .ok (.iload_n 2, 1) := by decide +kernel
theorem dX9_draught_11 : decode cX9_draught 11 = .ok (.iconst 0, 1) := by decide +kernel
theorem dX9_draught_12 : decode cX9_draught 12 = .ok (.iconst 3, 1) := by decide +kernel
theorem dX9_draught_13 : decode cX9_draught 13 = .ok (.invokestatic 71, 3) := by decide +kernel
theorem dX9_draught_16 : decode cX9_draught 16 = .ok (.ifCond .ne 5, 3) := by decide +kernel
theorem dX9_draught_19 : decode cX9_draught 19 = .ok (.iconst (-1), 1) := by decide +kernel
theorem dX9_draught_20 : decode cX9_draught 20 = .ok (.ireturn, 1) := by decide +kernel
theorem dX9_draught_21 : decode cX9_draught 21 = .ok (.aload_n 0, 1) := by decide +kernel
theorem dX9_draught_22 : decode cX9_draught 22 = .ok (.getfield 12, 3) := by decide +kernel
theorem dX9_draught_25 : decode cX9_draught 25 = .ok (.getfield 127, 3) := by decide +kernel
theorem dX9_draught_28 : decode cX9_draught 28 = .ok (.iload_n 1, 1) := by decide +kernel
theorem dX9_draught_29 : decode cX9_draught 29 = .ok (.iaload, 1) := by decide +kernel
theorem dX9_draught_30 : decode cX9_draught 30 = .ok (.istore_n 3, 1) := by decide +kernel
theorem dX9_draught_31 : decode cX9_draught 31 = .ok (.aload_n 0, 1) := by decide +kernel
theorem dX9_draught_32 : decode cX9_draught 32 = .ok (.getfield 12, 3) := by decide +kernel
theorem dX9_draught_35 : decode cX9_draught 35 = .ok (.getfield 127, 3) := by decide +kernel
theorem dX9_draught_38 : decode cX9_draught 38 = .ok (.iload_n 1, 1) := by decide +kernel
theorem dX9_draught_39 : decode cX9_draught 39 = .ok (.iload_n 2, 1) := by decide +kernel
theorem dX9_draught_40 : decode cX9_draught 40 = .ok (.iastore, 1) := by decide +kernel
theorem dX9_draught_41 : decode cX9_draught 41 = .ok (.iload_n 3, 1) := by decide +kernel
theorem dX9_draught_42 : decode cX9_draught 42 = .ok (.ireturn, 1) := by decide +kernel
theorem dX9_step_0 : decode cX9_step 0 = .ok (.iload_n 1, 1) := by decide +kernel
theorem dX9_step_1 : decode cX9_step 1 = .ok (.iconst 1, 1) := by decide +kernel
theorem dX9_step_2 : decode cX9_step 2 = .ok (.bipush 20, 2) := by decide +kernel
theorem dX9_step_4 : decode cX9_step 4 = .ok (.invokestatic 71, 3) := by decide +kernel
theorem dX9_step_7 : decode cX9_step 7 = .ok (.ifCond .ne 5, 3) := by decide +kernel
theorem dX9_step_10 : decode cX9_step 10 = .ok (.iconst (-1), 1) := by decide +kernel
theorem dX9_step_11 : decode cX9_step 11 = .ok (.ireturn, 1) := by decide +kernel
theorem dX9_step_12 : decode cX9_step 12 = .ok (.aload_n 0, 1) := by decide +kernel
theorem dX9_step_13 : decode cX9_step 13 = .ok (.getfield 12, 3) := by decide +kernel
theorem dX9_step_16 : decode cX9_step 16 = .ok (.getfield 131, 3) := by decide +kernel
theorem dX9_step_19 : decode cX9_step 19 = .ok (.istore_n 2, 1) := by decide +kernel
theorem dX9_step_20 : decode cX9_step 20 = .ok (.aload_n 0, 1) := by decide +kernel
theorem dX9_step_21 : decode cX9_step 21 = .ok (.getfield 12, 3) := by decide +kernel
theorem dX9_step_24 : decode cX9_step 24 = .ok (.iload_n 1, 1) := by decide +kernel
theorem dX9_step_25 : decode cX9_step 25 = .ok (.putfield 131, 3) := by decide +kernel
theorem dX9_step_28 : decode cX9_step 28 = .ok (.iload_n 2, 1) := by decide +kernel
theorem dX9_step_29 : decode cX9_step 29 = .ok (.ireturn, 1) := by decide +kernel
theorem dX9_bidder_0 : decode cX9_bidder 0 = .ok (.iload_n 1, 1) := by decide +kernel
theorem dX9_bidder_1 : decode cX9_bidder 1 = .ok (.iconst 0, 1) := by decide +kernel
theorem dX9_bidder_2 : decode cX9_bidder 2 = .ok (.iconst 5, 1) := by decide +kernel
theorem dX9_bidder_3 : decode cX9_bidder 3 = .ok (.invokestatic 71, 3) := by decide +kernel
theorem dX9_bidder_6 : decode cX9_bidder 6 = .ok (.ifCond .eq 36, 3) := by decide +kernel
theorem dX9_bidder_9 : decode cX9_bidder 9 = .ok (.iload_n 2, 1) := by decide +kernel
theorem dX9_bidder_10 : decode cX9_bidder 10 = .ok (.iconst 0, 1) := by decide +kernel
theorem dX9_bidder_11 : decode cX9_bidder 11 = .ok (.bipush 9, 2) := by decide +kernel
theorem dX9_bidder_13 : decode cX9_bidder 13 = .ok (.invokestatic 71, 3) := by decide +kernel
theorem dX9_bidder_16 : decode cX9_bidder 16 = .ok (.ifCond .eq 26, 3) := by decide +kernel
theorem dX9_bidder_19 : decode cX9_bidder 19 = .ok (.iload_n 3, 1) := by decide +kernel
theorem dX9_bidder_20 : decode cX9_bidder 20 = .ok (.iconst 0, 1) := by decide +kernel
theorem dX9_bidder_21 : decode cX9_bidder 21 = .ok (.sipush 999, 3) := by decide +kernel
theorem dX9_bidder_24 : decode cX9_bidder 24 = .ok (.invokestatic 71, 3) := by decide +kernel
theorem dX9_bidder_27 : decode cX9_bidder 27 = .ok (.ifCond .eq 15, 3) := by decide +kernel
theorem dX9_bidder_30 : decode cX9_bidder 30 = .ok (.iload 4, 2) := by decide +kernel
theorem dX9_bidder_32 : decode cX9_bidder 32 = .ok (.iconst 0, 1) := by decide +kernel
theorem dX9_bidder_33 : decode cX9_bidder 33 = .ok (.sipush 9999, 3) := by decide +kernel
theorem dX9_bidder_36 : decode cX9_bidder 36 = .ok (.invokestatic 71, 3) := by decide +kernel
theorem dX9_bidder_39 : decode cX9_bidder 39 = .ok (.ifCond .ne 5, 3) := by decide +kernel
theorem dX9_bidder_42 : decode cX9_bidder 42 = .ok (.iconst (-1), 1) := by decide +kernel
theorem dX9_bidder_43 : decode cX9_bidder 43 = .ok (.ireturn, 1) := by decide +kernel
theorem dX9_bidder_44 : decode cX9_bidder 44 = .ok (.aload_n 0, 1) := by decide +kernel
theorem dX9_bidder_45 : decode cX9_bidder 45 = .ok (.getfield 12, 3) := by decide +kernel
theorem dX9_bidder_48 : decode cX9_bidder 48 = .ok (.iload_n 1, 1) := by decide +kernel
theorem dX9_bidder_49 : decode cX9_bidder 49 = .ok (.iload_n 2, 1) := by decide +kernel
theorem dX9_bidder_50 : decode cX9_bidder 50 = .ok (.iload_n 3, 1) := by decide +kernel
theorem dX9_bidder_51 : decode cX9_bidder 51 = .ok (.iload 4, 2) := by decide +kernel
theorem dX9_bidder_53 : decode cX9_bidder 53 = .ok (.invokevirtual 134, 3) := by decide +kernel
theorem dX9_bidder_56 : decode cX9_bidder 56 = .ok (.ireturn, 1) := by decide +kernel
theorem dX9_bidderOf_0 : decode cX9_bidderOf 0 = .ok (.aload_n 0, 1) := by decide +kernel
theorem dX9_bidderOf_1 : decode cX9_bidderOf 1 = .ok (.getfield 12, 3) := by decide +kernel
theorem dX9_bidderOf_4 : decode cX9_bidderOf 4 = .ok (.iload_n 1, 1) := by decide +kernel
theorem dX9_bidderOf_5 : decode cX9_bidderOf 5 = .ok (.invokevirtual 138, 3) := by decide +kernel
theorem dX9_bidderOf_8 : decode cX9_bidderOf 8 = .ok (.astore_n 3, 1) := by decide +kernel
theorem dX9_bidderOf_9 : decode cX9_bidderOf 9 = .ok (.aload_n 3, 1) := by decide +kernel
theorem dX9_bidderOf_10 : decode cX9_bidderOf 10 = .ok (.ifnonnull 5, 3) := by decide +kernel
theorem dX9_bidderOf_13 : decode cX9_bidderOf 13 = .ok (.iconst (-1), 1) := by decide +kernel
theorem dX9_bidderOf_14 : decode cX9_bidderOf 14 = .ok (.ireturn, 1) := by decide +kernel
theorem dX9_bidderOf_15 : decode cX9_bidderOf 15 = .ok (.iload_n 2, 1) := by decide +kernel
theorem dX9_bidderOf_16 : decode cX9_bidderOf 16 = .ok (.tableswitch 65 0 4 #[36, 41, 46, 51, 56], 36) := by decide +kernel
theorem dX9_bidderOf_52 : decode cX9_bidderOf 52 = .ok (.aload_n 3, 1) := by decide +kernel
theorem dX9_bidderOf_53 : decode cX9_bidderOf 53 = .ok (.getfield 142, 3) := by decide +kernel
theorem dX9_bidderOf_56 : decode cX9_bidderOf 56 = .ok (.ireturn, 1) := by decide +kernel
theorem dX9_bidderOf_57 : decode cX9_bidderOf 57 = .ok (.aload_n 3, 1) := by decide +kernel
theorem dX9_bidderOf_58 : decode cX9_bidderOf 58 = .ok (.getfield 147, 3) := by decide +kernel
theorem dX9_bidderOf_61 : decode cX9_bidderOf 61 = .ok (.ireturn, 1) := by decide +kernel
theorem dX9_bidderOf_62 : decode cX9_bidderOf 62 = .ok (.aload_n 3, 1) := by decide +kernel
theorem dX9_bidderOf_63 : decode cX9_bidderOf 63 = .ok (.getfield 150, 3) := by decide +kernel
theorem dX9_bidderOf_66 : decode cX9_bidderOf 66 = .ok (.ireturn, 1) := by decide +kernel
theorem dX9_bidderOf_67 : decode cX9_bidderOf 67 = .ok (.aload_n 3, 1) := by decide +kernel
theorem dX9_bidderOf_68 : decode cX9_bidderOf 68 = .ok (.getfield 153, 3) := by decide +kernel
theorem dX9_bidderOf_71 : decode cX9_bidderOf 71 = .ok (.ireturn, 1) := by decide +kernel
theorem dX9_bidderOf_72 : decode cX9_bidderOf 72 = .ok (.aload_n 0, 1) := by decide +kernel
theorem dX9_bidderOf_73 : decode cX9_bidderOf 73 = .ok (.getfield 12, 3) := by decide +kernel
theorem dX9_bidderOf_76 : decode cX9_bidderOf 76 = .ok (.iload_n 1, 1) := by decide +kernel
theorem dX9_bidderOf_77 : decode cX9_bidderOf 77 = .ok (.invokevirtual 156, 3) := by decide +kernel
theorem dX9_bidderOf_80 : decode cX9_bidderOf 80 = .ok (.ireturn, 1) := by decide +kernel
theorem dX9_bidderOf_81 : decode cX9_bidderOf 81 = .ok (.iconst (-1), 1) := by decide +kernel
theorem dX9_bidderOf_82 : decode cX9_bidderOf 82 = .ok (.ireturn, 1) := by decide +kernel
theorem dX9_mind_0 : decode cX9_mind 0 = .ok (.aload_n 0, 1) := by decide +kernel
theorem dX9_mind_1 : decode cX9_mind 1 = .ok (.getfield 12, 3) := by decide +kernel
theorem dX9_mind_4 : decode cX9_mind 4 = .ok (.iload_n 1, 1) := by decide +kernel
theorem dX9_mind_5 : decode cX9_mind 5 = .ok (.invokevirtual 138, 3) := by decide +kernel
theorem dX9_mind_8 : decode cX9_mind 8 = .ok (.astore 4, 2) := by decide +kernel
theorem dX9_mind_10 : decode cX9_mind 10 = .ok (.aload 4, 2) := by decide +kernel
theorem dX9_mind_12 : decode cX9_mind 12 = .ok (.ifnull 22, 3) := by decide +kernel
theorem dX9_mind_15 : decode cX9_mind 15 = .ok (.iload_n 2, 1) := by decide +kernel
theorem dX9_mind_16 : decode cX9_mind 16 = .ok (.iconst 0, 1) := by decide +kernel
theorem dX9_mind_17 : decode cX9_mind 17 = .ok (.iconst 5, 1) := by decide +kernel
theorem dX9_mind_18 : decode cX9_mind 18 = .ok (.invokestatic 71, 3) := by decide +kernel
theorem dX9_mind_21 : decode cX9_mind 21 = .ok (.ifCond .eq 13, 3) := by decide +kernel
theorem dX9_mind_24 : decode cX9_mind 24 = .ok (.iload_n 3, 1) := by decide +kernel
theorem dX9_mind_25 : decode cX9_mind 25 = .ok (.iconst 0, 1) := by decide +kernel
theorem dX9_mind_26 : decode cX9_mind 26 = .ok (.bipush 9, 2) := by decide +kernel
theorem dX9_mind_28 : decode cX9_mind 28 = .ok (.invokestatic 71, 3) := by decide +kernel
theorem dX9_mind_31 : decode cX9_mind 31 = .ok (.ifCond .ne 5, 3) := by decide +kernel
theorem dX9_mind_34 : decode cX9_mind 34 = .ok (.iconst (-1), 1) := by decide +kernel
theorem dX9_mind_35 : decode cX9_mind 35 = .ok (.ireturn, 1) := by decide +kernel
theorem dX9_mind_36 : decode cX9_mind 36 = .ok (.aload 4, 2) := by decide +kernel
theorem dX9_mind_38 : decode cX9_mind 38 = .ok (.getfield 142, 3) := by decide +kernel
theorem dX9_mind_41 : decode cX9_mind 41 = .ok (.istore 5, 2) := by decide +kernel
theorem dX9_mind_43 : decode cX9_mind 43 = .ok (.aload 4, 2) := by decide +kernel
theorem dX9_mind_45 : decode cX9_mind 45 = .ok (.iload_n 2, 1) := by decide +kernel
theorem dX9_mind_46 : decode cX9_mind 46 = .ok (.putfield 142, 3) := by decide +kernel
theorem dX9_mind_49 : decode cX9_mind 49 = .ok (.aload 4, 2) := by decide +kernel
theorem dX9_mind_51 : decode cX9_mind 51 = .ok (.iload_n 3, 1) := by decide +kernel
theorem dX9_mind_52 : decode cX9_mind 52 = .ok (.putfield 147, 3) := by decide +kernel
theorem dX9_mind_55 : decode cX9_mind 55 = .ok (.iload 5, 2) := by decide +kernel
theorem dX9_mind_57 : decode cX9_mind 57 = .ok (.ireturn, 1) := by decide +kernel
theorem dX9_purse_0 : decode cX9_purse 0 = .ok (.aload_n 0, 1) := by decide +kernel
theorem dX9_purse_1 : decode cX9_purse 1 = .ok (.getfield 12, 3) := by decide +kernel
theorem dX9_purse_4 : decode cX9_purse 4 = .ok (.iload_n 1, 1) := by decide +kernel
theorem dX9_purse_5 : decode cX9_purse 5 = .ok (.invokevirtual 138, 3) := by decide +kernel
theorem dX9_purse_8 : decode cX9_purse 8 = .ok (.astore 4, 2) := by decide +kernel
theorem dX9_purse_10 : decode cX9_purse 10 = .ok (.aload 4, 2) := by decide +kernel
theorem dX9_purse_12 : decode cX9_purse 12 = .ok (.ifnull 12, 3) := by decide +kernel
theorem dX9_purse_15 : decode cX9_purse 15 = .ok (.iload_n 2, 1) := by decide +kernel
theorem dX9_purse_16 : decode cX9_purse 16 = .ok (.iconst 0, 1) := by decide +kernel
theorem dX9_purse_17 : decode cX9_purse 17 = .ok (.iconst 1, 1) := by decide +kernel
theorem dX9_purse_18 : decode cX9_purse 18 = .ok (.invokestatic 71, 3) := by decide +kernel
theorem dX9_purse_21 : decode cX9_purse 21 = .ok (.ifCond .ne 5, 3) := by decide +kernel
theorem dX9_purse_24 : decode cX9_purse 24 = .ok (.iconst (-1), 1) := by decide +kernel
theorem dX9_purse_25 : decode cX9_purse 25 = .ok (.ireturn, 1) := by decide +kernel
theorem dX9_purse_26 : decode cX9_purse 26 = .ok (.iload_n 3, 1) := by decide +kernel
theorem dX9_purse_27 : decode cX9_purse 27 = .ok (.iconst 0, 1) := by decide +kernel
theorem dX9_purse_28 : decode cX9_purse 28 = .ok (.iload_n 2, 1) := by decide +kernel
theorem dX9_purse_29 : decode cX9_purse 29 = .ok (.ifCond .ne 9, 3) := by decide +kernel
theorem dX9_purse_32 : decode cX9_purse 32 = .ok (.sipush 999, 3) := by decide +kernel
theorem dX9_purse_35 : decode cX9_purse 35 = .ok (.goto 6, 3) := by decide +kernel
theorem dX9_purse_38 : decode cX9_purse 38 = .ok (.sipush 9999, 3) := by decide +kernel
theorem dX9_purse_41 : decode cX9_purse 41 = .ok (.invokestatic 71, 3) := by decide +kernel
theorem dX9_purse_44 : decode cX9_purse 44 = .ok (.ifCond .ne 5, 3) := by decide +kernel
theorem dX9_purse_47 : decode cX9_purse 47 = .ok (.iconst (-1), 1) := by decide +kernel
theorem dX9_purse_48 : decode cX9_purse 48 = .ok (.ireturn, 1) := by decide +kernel
theorem dX9_purse_49 : decode cX9_purse 49 = .ok (.iload_n 2, 1) := by decide +kernel
theorem dX9_purse_50 : decode cX9_purse 50 = .ok (.ifCond .ne 11, 3) := by decide +kernel
theorem dX9_purse_53 : decode cX9_purse 53 = .ok (.aload 4, 2) := by decide +kernel
theorem dX9_purse_55 : decode cX9_purse 55 = .ok (.getfield 150, 3) := by decide +kernel
theorem dX9_purse_58 : decode cX9_purse 58 = .ok (.goto 8, 3) := by decide +kernel
theorem dX9_purse_61 : decode cX9_purse 61 = .ok (.aload 4, 2) := by decide +kernel
theorem dX9_purse_63 : decode cX9_purse 63 = .ok (.getfield 153, 3) := by decide +kernel
theorem dX9_purse_66 : decode cX9_purse 66 = .ok (.istore 5, 2) := by decide +kernel
theorem dX9_purse_68 : decode cX9_purse 68 = .ok (.iload_n 2, 1) := by decide +kernel
theorem dX9_purse_69 : decode cX9_purse 69 = .ok (.ifCond .ne 12, 3) := by decide +kernel
theorem dX9_purse_72 : decode cX9_purse 72 = .ok (.aload 4, 2) := by decide +kernel
theorem dX9_purse_74 : decode cX9_purse 74 = .ok (.iload_n 3, 1) := by decide +kernel
theorem dX9_purse_75 : decode cX9_purse 75 = .ok (.putfield 150, 3) := by decide +kernel
theorem dX9_purse_78 : decode cX9_purse 78 = .ok (.goto 9, 3) := by decide +kernel
theorem dX9_purse_81 : decode cX9_purse 81 = .ok (.aload 4, 2) := by decide +kernel
theorem dX9_purse_83 : decode cX9_purse 83 = .ok (.iload_n 3, 1) := by decide +kernel
theorem dX9_purse_84 : decode cX9_purse 84 = .ok (.putfield 153, 3) := by decide +kernel
theorem dX9_purse_87 : decode cX9_purse 87 = .ok (.iload 5, 2) := by decide +kernel
theorem dX9_purse_89 : decode cX9_purse 89 = .ok (.ireturn, 1) := by decide +kernel
theorem dX9_limit_0 : decode cX9_limit 0 = .ok (.aload_n 0, 1) := by decide +kernel
theorem dX9_limit_1 : decode cX9_limit 1 = .ok (.getfield 12, 3) := by decide +kernel
theorem dX9_limit_4 : decode cX9_limit 4 = .ok (.iload_n 1, 1) := by decide +kernel
theorem dX9_limit_5 : decode cX9_limit 5 = .ok (.invokevirtual 138, 3) := by decide +kernel
theorem dX9_limit_8 : decode cX9_limit 8 = .ok (.astore_n 3, 1) := by decide +kernel
theorem dX9_limit_9 : decode cX9_limit 9 = .ok (.aload_n 0, 1) := by decide +kernel
theorem dX9_limit_10 : decode cX9_limit 10 = .ok (.getfield 12, 3) := by decide +kernel
theorem dX9_limit_13 : decode cX9_limit 13 = .ok (.iload_n 2, 1) := by decide +kernel
theorem dX9_limit_14 : decode cX9_limit 14 = .ok (.invokevirtual 103, 3) := by decide +kernel
theorem dX9_limit_17 : decode cX9_limit 17 = .ok (.astore 4, 2) := by decide +kernel
theorem dX9_limit_19 : decode cX9_limit 19 = .ok (.aload_n 3, 1) := by decide +kernel
theorem dX9_limit_20 : decode cX9_limit 20 = .ok (.ifnull 8, 3) := by decide +kernel
theorem dX9_limit_23 : decode cX9_limit 23 = .ok (.aload 4, 2) := by decide +kernel
theorem dX9_limit_25 : decode cX9_limit 25 = .ok (.ifnonnull 5, 3) := by decide +kernel
theorem dX9_limit_28 : decode cX9_limit 28 = .ok (.iconst (-1), 1) := by decide +kernel
theorem dX9_limit_29 : decode cX9_limit 29 = .ok (.ireturn, 1) := by decide +kernel
theorem dX9_limit_30 : decode cX9_limit 30 = .ok (.aload_n 3, 1) := by decide +kernel
theorem dX9_limit_31 : decode cX9_limit 31 = .ok (.aload 4, 2) := by decide +kernel
theorem dX9_limit_33 : decode cX9_limit 33 = .ok (.getfield 112, 3) := by decide +kernel
theorem dX9_limit_36 : decode cX9_limit 36 = .ok (.invokevirtual 160, 3) := by decide +kernel
theorem dX9_limit_39 : decode cX9_limit 39 = .ok (.ireturn, 1) := by decide +kernel
theorem dX9_light_0 : decode cX9_light 0 = .ok (.aload_n 0, 1) := by decide +kernel
theorem dX9_light_1 : decode cX9_light 1 = .ok (.getfield 12, 3) := by decide +kernel
theorem dX9_light_4 : decode cX9_light 4 = .ok (.iload_n 1, 1) := by decide +kernel
theorem dX9_light_5 : decode cX9_light 5 = .ok (.invokevirtual 103, 3) := by decide +kernel
theorem dX9_light_8 : decode cX9_light 8 = .ok (.astore_n 2, 1) := by decide +kernel
theorem dX9_light_9 : decode cX9_light 9 = .ok (.aload_n 2, 1) := by decide +kernel
theorem dX9_light_10 : decode cX9_light 10 = .ok (.ifnonnull 5, 3) := by decide +kernel
theorem dX9_light_13 : decode cX9_light 13 = .ok (.iconst (-1), 1) := by decide +kernel
theorem dX9_light_14 : decode cX9_light 14 = .ok (.ireturn, 1) := by decide +kernel
theorem dX9_light_15 : decode cX9_light 15 = .ok (.aload_n 2, 1) := by decide +kernel
theorem dX9_light_16 : decode cX9_light 16 = .ok (.getfield 115, 3) := by decide +kernel
theorem dX9_light_19 : decode cX9_light 19 = .ok (.ifCond .ne 13, 3) := by decide +kernel
theorem dX9_light_22 : decode cX9_light 22 = .ok (.aload_n 0, 1) := by decide +kernel
theorem dX9_light_23 : decode cX9_light 23 = .ok (.getfield 12, 3) := by decide +kernel
theorem dX9_light_26 : decode cX9_light 26 = .ok (.invokevirtual 163, 3) := by decide +kernel
theorem dX9_light_29 : decode cX9_light 29 = .ok (.ifnull 6, 3) := by decide +kernel
theorem dX9_light_32 : decode cX9_light 32 = .ok (.bipush (-4), 2) := by decide +kernel
theorem dX9_light_34 : decode cX9_light 34 = .ok (.ireturn, 1) := by decide +kernel
theorem dX9_light_35 : decode cX9_light 35 = .ok (.aload_n 0, 1) := by decide +kernel
theorem dX9_light_36 : decode cX9_light 36 = .ok (.getfield 12, 3) := by decide +kernel
theorem dX9_light_39 : decode cX9_light 39 = .ok (.iload_n 1, 1) := by decide +kernel
theorem dX9_light_40 : decode cX9_light 40 = .ok (.invokevirtual 167, 3) := by decide +kernel
theorem dX9_light_43 : decode cX9_light 43 = .ok (.iconst 1, 1) := by decide +kernel
theorem dX9_light_44 : decode cX9_light 44 = .ok (.ireturn, 1) := by decide +kernel
theorem dX9_now_0 : decode cX9_now 0 = .ok (.iload_n 1, 1) := by decide +kernel
theorem dX9_now_1 : decode cX9_now 1 = .ok (.iconst 0, 1) := by decide +kernel
theorem dX9_now_2 : decode cX9_now 2 = .ok (.bipush 6, 2) := by decide +kernel
theorem dX9_now_4 : decode cX9_now 4 = .ok (.invokestatic 71, 3) := by decide +kernel
theorem dX9_now_7 : decode cX9_now 7 = .ok (.ifCond .ne 5, 3) := by decide +kernel
theorem dX9_now_10 : decode cX9_now 10 = .ok (.iconst (-1), 1) := by decide +kernel
theorem dX9_now_11 : decode cX9_now 11 = .ok (.ireturn, 1) := by decide +kernel
theorem dX9_now_12 : decode cX9_now 12 = .ok (.aload_n 0, 1) := by decide +kernel
theorem dX9_now_13 : decode cX9_now 13 = .ok (.getfield 12, 3) := by decide +kernel
theorem dX9_now_16 : decode cX9_now 16 = .ok (.invokevirtual 163, 3) := by decide +kernel
theorem dX9_now_19 : decode cX9_now 19 = .ok (.astore_n 2, 1) := by decide +kernel
theorem dX9_now_20 : decode cX9_now 20 = .ok (.aload_n 2, 1) := by decide +kernel
theorem dX9_now_21 : decode cX9_now 21 = .ok (.ifnonnull 19, 3) := by decide +kernel
theorem dX9_now_24 : decode cX9_now 24 = .ok (.iload_n 1, 1) := by decide +kernel
theorem dX9_now_25 : decode cX9_now 25 = .ok (.ifCond .eq 8, 3) := by decide +kernel
theorem dX9_now_28 : decode cX9_now 28 = .ok (.iload_n 1, 1) := by decide +kernel
theorem dX9_now_29 : decode cX9_now 29 = .ok (.iconst 4, 1) := by decide +kernel
theorem dX9_now_30 : decode cX9_now 30 = .ok (.if_icmp .ne 8, 3) := by decide +kernel
theorem dX9_now_33 : decode cX9_now 33 = .ok (.bipush (-9), 2) := by decide +kernel
theorem dX9_now_35 : decode cX9_now 35 = .ok (.goto 4, 3) := by decide +kernel
theorem dX9_now_38 : decode cX9_now 38 = .ok (.iconst 0, 1) := by decide +kernel
theorem dX9_now_39 : decode cX9_now 39 = .ok (.ireturn, 1) := by decide +kernel
theorem dX9_now_40 : decode cX9_now 40 = .ok (.iload_n 1, 1) := by decide +kernel
theorem dX9_now_41 : decode cX9_now 41 = .ok (.tableswitch 92 0 5 #[39, 47, 55, 63, 71, 79], 39) := by decide +kernel
theorem dX9_now_80 : decode cX9_now 80 = .ok (.aload_n 0, 1) := by decide +kernel
theorem dX9_now_81 : decode cX9_now 81 = .ok (.getfield 12, 3) := by decide +kernel
theorem dX9_now_84 : decode cX9_now 84 = .ok (.getfield 124, 3) := by decide +kernel
theorem dX9_now_87 : decode cX9_now 87 = .ok (.ireturn, 1) := by decide +kernel
theorem dX9_now_88 : decode cX9_now 88 = .ok (.aload_n 0, 1) := by decide +kernel
theorem dX9_now_89 : decode cX9_now 89 = .ok (.getfield 12, 3) := by decide +kernel
theorem dX9_now_92 : decode cX9_now 92 = .ok (.getfield 171, 3) := by decide +kernel
theorem dX9_now_95 : decode cX9_now 95 = .ok (.ireturn, 1) := by decide +kernel
theorem dX9_now_96 : decode cX9_now 96 = .ok (.aload_n 0, 1) := by decide +kernel
theorem dX9_now_97 : decode cX9_now 97 = .ok (.getfield 12, 3) := by decide +kernel
theorem dX9_now_100 : decode cX9_now 100 = .ok (.getfield 174, 3) := by decide +kernel
theorem dX9_now_103 : decode cX9_now 103 = .ok (.ireturn, 1) := by decide +kernel
theorem dX9_now_104 : decode cX9_now 104 = .ok (.aload_n 0, 1) := by decide +kernel
theorem dX9_now_105 : decode cX9_now 105 = .ok (.getfield 12, 3) := by decide +kernel
theorem dX9_now_108 : decode cX9_now 108 = .ok (.getfield 177, 3) := by decide +kernel
theorem dX9_now_111 : decode cX9_now 111 = .ok (.ireturn, 1) := by decide +kernel
theorem dX9_now_112 : decode cX9_now 112 = .ok (.aload_n 0, 1) := by decide +kernel
theorem dX9_now_113 : decode cX9_now 113 = .ok (.getfield 12, 3) := by decide +kernel
theorem dX9_now_116 : decode cX9_now 116 = .ok (.getfield 180, 3) := by decide +kernel
theorem dX9_now_119 : decode cX9_now 119 = .ok (.ireturn, 1) := by decide +kernel
theorem dX9_now_120 : decode cX9_now 120 = .ok (.aload_n 2, 1) := by decide +kernel
theorem dX9_now_121 : decode cX9_now 121 = .ok (.getfield 107, 3) := by decide +kernel
theorem dX9_now_124 : decode cX9_now 124 = .ok (.aload_n 0, 1) := by decide +kernel
theorem dX9_now_125 : decode cX9_now 125 = .ok (.getfield 12, 3) := by decide +kernel
theorem dX9_now_128 : decode cX9_now 128 = .ok (.getfield 174, 3) := by decide +kernel
theorem dX9_now_131 : decode cX9_now 131 = .ok (.isub, 1) := by decide +kernel
theorem dX9_now_132 : decode cX9_now 132 = .ok (.ireturn, 1) := by decide +kernel
theorem dX9_now_133 : decode cX9_now 133 = .ok (.aload_n 0, 1) := by decide +kernel
theorem dX9_now_134 : decode cX9_now 134 = .ok (.getfield 12, 3) := by decide +kernel
theorem dX9_now_137 : decode cX9_now 137 = .ok (.invokevirtual 183, 3) := by decide +kernel
theorem dX9_now_140 : decode cX9_now 140 = .ok (.ireturn, 1) := by decide +kernel
theorem dX9_would_0 : decode cX9_would 0 = .ok (.aload_n 0, 1) := by decide +kernel
theorem dX9_would_1 : decode cX9_would 1 = .ok (.getfield 12, 3) := by decide +kernel
theorem dX9_would_4 : decode cX9_would 4 = .ok (.iload_n 1, 1) := by decide +kernel
theorem dX9_would_5 : decode cX9_would 5 = .ok (.invokevirtual 138, 3) := by decide +kernel
theorem dX9_would_8 : decode cX9_would 8 = .ok (.ifnonnull 5, 3) := by decide +kernel
theorem dX9_would_11 : decode cX9_would 11 = .ok (.iconst (-1), 1) := by decide +kernel
theorem dX9_would_12 : decode cX9_would 12 = .ok (.ireturn, 1) := by decide +kernel
theorem dX9_would_13 : decode cX9_would 13 = .ok (.aload_n 0, 1) := by decide +kernel
theorem dX9_would_14 : decode cX9_would 14 = .ok (.getfield 12, 3) := by decide +kernel
theorem dX9_would_17 : decode cX9_would 17 = .ok (.iload_n 1, 1) := by decide +kernel
theorem dX9_would_18 : decode cX9_would 18 = .ok (.invokevirtual 187, 3) := by decide +kernel
theorem dX9_would_21 : decode cX9_would 21 = .ok (.ireturn, 1) := by decide +kernel
theorem dX9_ticks_0 : decode cX9_ticks 0 = .ok (.iload_n 1, 1) := by decide +kernel
theorem dX9_ticks_1 : decode cX9_ticks 1 = .ok (.iconst 0, 1) := by decide +kernel
theorem dX9_ticks_2 : decode cX9_ticks 2 = .ok (.bipush 60, 2) := by decide +kernel
theorem dX9_ticks_4 : decode cX9_ticks 4 = .ok (.invokestatic 71, 3) := by decide +kernel
theorem dX9_ticks_7 : decode cX9_ticks 7 = .ok (.ifCond .ne 5, 3) := by decide +kernel
theorem dX9_ticks_10 : decode cX9_ticks 10 = .ok (.iconst (-1), 1) := by decide +kernel
theorem dX9_ticks_11 : decode cX9_ticks 11 = .ok (.ireturn, 1) := by decide +kernel
theorem dX9_ticks_12 : decode cX9_ticks 12 = .ok (.aload_n 0, 1) := by decide +kernel
theorem dX9_ticks_13 : decode cX9_ticks 13 = .ok (.getfield 12, 3) := by decide +kernel
theorem dX9_ticks_16 : decode cX9_ticks 16 = .ok (.iload_n 1, 1) := by decide +kernel
theorem dX9_ticks_17 : decode cX9_ticks 17 = .ok (.aconst_null, 1) := by decide +kernel
theorem dX9_ticks_18 : decode cX9_ticks 18 = .ok (.invokevirtual 190, 3) := by decide +kernel
theorem dX9_ticks_21 : decode cX9_ticks 21 = .ok (.ireturn, 1) := by decide +kernel
theorem dX9_call_0 : decode cX9_call 0 = .ok (.aload_n 0, 1) := by decide +kernel
theorem dX9_call_1 : decode cX9_call 1 = .ok (.getfield 12, 3) := by decide +kernel
theorem dX9_call_4 : decode cX9_call 4 = .ok (.iload_n 1, 1) := by decide +kernel
theorem dX9_call_5 : decode cX9_call 5 = .ok (.invokevirtual 138, 3) := by decide +kernel
theorem dX9_call_8 : decode cX9_call 8 = .ok (.astore_n 3, 1) := by decide +kernel
theorem dX9_call_9 : decode cX9_call 9 = .ok (.aload_n 3, 1) := by decide +kernel
theorem dX9_call_10 : decode cX9_call 10 = .ok (.ifnull 14, 3) := by decide +kernel
theorem dX9_call_13 : decode cX9_call 13 = .ok (.iload_n 2, 1) := by decide +kernel
theorem dX9_call_14 : decode cX9_call 14 = .ok (.iconst 1, 1) := by decide +kernel
theorem dX9_call_15 : decode cX9_call 15 = .ok (.sipush 9999, 3) := by decide +kernel
theorem dX9_call_18 : decode cX9_call 18 = .ok (.invokestatic 71, 3) := by decide +kernel
theorem dX9_call_21 : decode cX9_call 21 = .ok (.ifCond .ne 5, 3) := by decide +kernel
theorem dX9_call_24 : decode cX9_call 24 = .ok (.iconst (-1), 1) := by decide +kernel
theorem dX9_call_25 : decode cX9_call 25 = .ok (.ireturn, 1) := by decide +kernel
theorem dX9_call_26 : decode cX9_call 26 = .ok (.aload_n 0, 1) := by decide +kernel
theorem dX9_call_27 : decode cX9_call 27 = .ok (.getfield 12, 3) := by decide +kernel
theorem dX9_call_30 : decode cX9_call 30 = .ok (.invokevirtual 163, 3) := by decide +kernel
theorem dX9_call_33 : decode cX9_call 33 = .ok (.ifnull 22, 3) := by decide +kernel
theorem dX9_call_36 : decode cX9_call 36 = .ok (.iload_n 2, 1) := by decide +kernel
theorem dX9_call_37 : decode cX9_call 37 = .ok (.aload_n 0, 1) := by decide +kernel
theorem dX9_call_38 : decode cX9_call 38 = .ok (.getfield 12, 3) := by decide +kernel
theorem dX9_call_41 : decode cX9_call 41 = .ok (.getfield 177, 3) := by decide +kernel
theorem dX9_call_44 : decode cX9_call 44 = .ok (.if_icmp .le 11, 3) := by decide +kernel
theorem dX9_call_47 : decode cX9_call 47 = .ok (.iload_n 2, 1) := by decide +kernel
theorem dX9_call_48 : decode cX9_call 48 = .ok (.aload_n 3, 1) := by decide +kernel
theorem dX9_call_49 : decode cX9_call 49 = .ok (.getfield 153, 3) := by decide +kernel
theorem dX9_call_52 : decode cX9_call 52 = .ok (.if_icmp .le 6, 3) := by decide +kernel
theorem dX9_call_55 : decode cX9_call 55 = .ok (.bipush (-4), 2) := by decide +kernel
theorem dX9_call_57 : decode cX9_call 57 = .ok (.ireturn, 1) := by decide +kernel
theorem dX9_call_58 : decode cX9_call 58 = .ok (.aload_n 0, 1) := by decide +kernel
theorem dX9_call_59 : decode cX9_call 59 = .ok (.getfield 12, 3) := by decide +kernel
theorem dX9_call_62 : decode cX9_call 62 = .ok (.getfield 177, 3) := by decide +kernel
theorem dX9_call_65 : decode cX9_call 65 = .ok (.istore 4, 2) := by decide +kernel
theorem dX9_call_67 : decode cX9_call 67 = .ok (.aload_n 0, 1) := by decide +kernel
theorem dX9_call_68 : decode cX9_call 68 = .ok (.getfield 12, 3) := by decide +kernel
theorem dX9_call_71 : decode cX9_call 71 = .ok (.iload_n 1, 1) := by decide +kernel
theorem dX9_call_72 : decode cX9_call 72 = .ok (.iload_n 2, 1) := by decide +kernel
theorem dX9_call_73 : decode cX9_call 73 = .ok (.aconst_null, 1) := by decide +kernel
theorem dX9_call_74 : decode cX9_call 74 = .ok (.invokevirtual 194, 3) := by decide +kernel
theorem dX9_call_77 : decode cX9_call 77 = .ok (.iload 4, 2) := by decide +kernel
theorem dX9_call_79 : decode cX9_call 79 = .ok (.ireturn, 1) := by decide +kernel
theorem dX9_snuff_0 : decode cX9_snuff 0 = .ok (.aload_n 0, 1) := by decide +kernel
theorem dX9_snuff_1 : decode cX9_snuff 1 = .ok (.getfield 12, 3) := by decide +kernel
theorem dX9_snuff_4 : decode cX9_snuff 4 = .ok (.invokevirtual 163, 3) := by decide +kernel
theorem dX9_snuff_7 : decode cX9_snuff 7 = .ok (.astore_n 1, 1) := by decide +kernel
theorem dX9_snuff_8 : decode cX9_snuff 8 = .ok (.aload_n 1, 1) := by decide +kernel
theorem dX9_snuff_9 : decode cX9_snuff 9 = .ok (.ifnonnull 6, 3) := by decide +kernel
theorem dX9_snuff_12 : decode cX9_snuff 12 = .ok (.bipush (-4), 2) := by decide +kernel
theorem dX9_snuff_14 : decode cX9_snuff 14 = .ok (.ireturn, 1) := by decide +kernel
theorem dX9_snuff_15 : decode cX9_snuff 15 = .ok (.aload_n 0, 1) := by decide +kernel
theorem dX9_snuff_16 : decode cX9_snuff 16 = .ok (.getfield 12, 3) := by decide +kernel
theorem dX9_snuff_19 : decode cX9_snuff 19 = .ok (.invokevirtual 198, 3) := by decide +kernel
theorem dX9_snuff_22 : decode cX9_snuff 22 = .ok (.aload_n 1, 1) := by decide +kernel
theorem dX9_snuff_23 : decode cX9_snuff 23 = .ok (.getfield 121, 3) := by decide +kernel
theorem dX9_snuff_26 : decode cX9_snuff 26 = .ok (.ireturn, 1) := by decide +kernel
theorem dX9_back_0 : decode cX9_back 0 = .ok (.aload_n 0, 1) := by decide +kernel
theorem dX9_back_1 : decode cX9_back 1 = .ok (.getfield 12, 3) := by decide +kernel
theorem dX9_back_4 : decode cX9_back 4 = .ok (.iload_n 1, 1) := by decide +kernel
theorem dX9_back_5 : decode cX9_back 5 = .ok (.invokevirtual 103, 3) := by decide +kernel
theorem dX9_back_8 : decode cX9_back 8 = .ok (.astore_n 2, 1) := by decide +kernel
theorem dX9_back_9 : decode cX9_back 9 = .ok (.aload_n 2, 1) := by decide +kernel
theorem dX9_back_10 : decode cX9_back 10 = .ok (.ifnonnull 5, 3) := by decide +kernel
theorem dX9_back_13 : decode cX9_back 13 = .ok (.iconst (-1), 1) := by decide +kernel
theorem dX9_back_14 : decode cX9_back 14 = .ok (.ireturn, 1) := by decide +kernel
theorem dX9_back_15 : decode cX9_back 15 = .ok (.aload_n 2, 1) := by decide +kernel
theorem dX9_back_16 : decode cX9_back 16 = .ok (.getfield 115, 3) := by decide +kernel
theorem dX9_back_19 : decode cX9_back 19 = .ok (.ifCond .ne 6, 3) := by decide +kernel
theorem dX9_back_22 : decode cX9_back 22 = .ok (.bipush (-4), 2) := by decide +kernel
theorem dX9_back_24 : decode cX9_back 24 = .ok (.ireturn, 1) := by decide +kernel
theorem dX9_back_25 : decode cX9_back 25 = .ok (.aload_n 0, 1) := by decide +kernel
theorem dX9_back_26 : decode cX9_back 26 = .ok (.getfield 12, 3) := by decide +kernel
theorem dX9_back_29 : decode cX9_back 29 = .ok (.aload_n 2, 1) := by decide +kernel
theorem dX9_back_30 : decode cX9_back 30 = .ok (.getfield 121, 3) := by decide +kernel
theorem dX9_back_33 : decode cX9_back 33 = .ok (.invokevirtual 138, 3) := by decide +kernel
theorem dX9_back_36 : decode cX9_back 36 = .ok (.astore_n 3, 1) := by decide +kernel
theorem dX9_back_37 : decode cX9_back 37 = .ok (.aload_n 3, 1) := by decide +kernel
theorem dX9_back_38 : decode cX9_back 38 = .ok (.ifnull 22, 3) := by decide +kernel
theorem dX9_back_41 : decode cX9_back 41 = .ok (.aload_n 3, 1) := by decide +kernel
theorem dX9_back_42 : decode cX9_back 42 = .ok (.aload_n 3, 1) := by decide +kernel
theorem dX9_back_43 : decode cX9_back 43 = .ok (.getfield 153, 3) := by decide +kernel
theorem dX9_back_46 : decode cX9_back 46 = .ok (.aload_n 2, 1) := by decide +kernel
theorem dX9_back_47 : decode cX9_back 47 = .ok (.getfield 118, 3) := by decide +kernel
theorem dX9_back_50 : decode cX9_back 50 = .ok (.iadd, 1) := by decide +kernel
theorem dX9_back_51 : decode cX9_back 51 = .ok (.sipush 9999, 3) := by decide +kernel
theorem dX9_back_54 : decode cX9_back 54 = .ok (.invokestatic 201, 3) := by decide +kernel
theorem dX9_back_57 : decode cX9_back 57 = .ok (.putfield 153, 3) := by decide +kernel
theorem dX9_back_60 : decode cX9_back 60 = .ok (.aload_n 2, 1) := by decide +kernel
theorem dX9_back_61 : decode cX9_back 61 = .ok (.invokevirtual 206, 3) := by decide +kernel
theorem dX9_back_64 : decode cX9_back 64 = .ok (.iconst 1, 1) := by decide +kernel
theorem dX9_back_65 : decode cX9_back 65 = .ok (.ireturn, 1) := by decide +kernel
theorem dX9_end_0 : decode cX9_end 0 = .ok (.aload_n 0, 1) := by decide +kernel
theorem dX9_end_1 : decode cX9_end 1 = .ok (.getfield 12, 3) := by decide +kernel
theorem dX9_end_4 : decode cX9_end 4 = .ok (.iload_n 1, 1) := by decide +kernel
theorem dX9_end_5 : decode cX9_end 5 = .ok (.invokevirtual 209, 3) := by decide +kernel
theorem dX9_end_8 : decode cX9_end 8 = .ok (.ifnonnull 5, 3) := by decide +kernel
theorem dX9_end_11 : decode cX9_end 11 = .ok (.iconst (-1), 1) := by decide +kernel
theorem dX9_end_12 : decode cX9_end 12 = .ok (.ireturn, 1) := by decide +kernel
theorem dX9_end_13 : decode cX9_end 13 = .ok (.aload_n 0, 1) := by decide +kernel
theorem dX9_end_14 : decode cX9_end 14 = .ok (.getfield 36, 3) := by decide +kernel
theorem dX9_end_17 : decode cX9_end 17 = .ok (.aload_n 0, 1) := by decide +kernel
theorem dX9_end_18 : decode cX9_end 18 = .ok (.getfield 12, 3) := by decide +kernel
theorem dX9_end_21 : decode cX9_end 21 = .ok (.iload_n 1, 1) := by decide +kernel
theorem dX9_end_22 : decode cX9_end 22 = .ok (.aconst_null, 1) := by decide +kernel
theorem dX9_end_23 : decode cX9_end 23 = .ok (.invokevirtual 212, 3) := by decide +kernel
theorem dX9_end_26 : decode cX9_end 26 = .ok (.ireturn, 1) := by decide +kernel
theorem dX9_wins_0 : decode cX9_wins 0 = .ok (.aload_n 0, 1) := by decide +kernel
theorem dX9_wins_1 : decode cX9_wins 1 = .ok (.getfield 12, 3) := by decide +kernel
theorem dX9_wins_4 : decode cX9_wins 4 = .ok (.iload_n 1, 1) := by decide +kernel
theorem dX9_wins_5 : decode cX9_wins 5 = .ok (.invokevirtual 209, 3) := by decide +kernel
theorem dX9_wins_8 : decode cX9_wins 8 = .ok (.ifnull 12, 3) := by decide +kernel
theorem dX9_wins_11 : decode cX9_wins 11 = .ok (.iload_n 2, 1) := by decide +kernel
theorem dX9_wins_12 : decode cX9_wins 12 = .ok (.iconst 0, 1) := by decide +kernel
theorem dX9_wins_13 : decode cX9_wins 13 = .ok (.iconst 1, 1) := by decide +kernel
theorem dX9_wins_14 : decode cX9_wins 14 = .ok (.invokestatic 71, 3) := by decide +kernel
theorem dX9_wins_17 : decode cX9_wins 17 = .ok (.ifCond .ne 5, 3) := by decide +kernel
theorem dX9_wins_20 : decode cX9_wins 20 = .ok (.iconst (-1), 1) := by decide +kernel
theorem dX9_wins_21 : decode cX9_wins 21 = .ok (.ireturn, 1) := by decide +kernel
theorem dX9_wins_22 : decode cX9_wins 22 = .ok (.aload_n 0, 1) := by decide +kernel
theorem dX9_wins_23 : decode cX9_wins 23 = .ok (.getfield 36, 3) := by decide +kernel
theorem dX9_wins_26 : decode cX9_wins 26 = .ok (.aload_n 0, 1) := by decide +kernel
theorem dX9_wins_27 : decode cX9_wins 27 = .ok (.getfield 12, 3) := by decide +kernel
theorem dX9_wins_30 : decode cX9_wins 30 = .ok (.iload_n 1, 1) := by decide +kernel
theorem dX9_wins_31 : decode cX9_wins 31 = .ok (.aconst_null, 1) := by decide +kernel
theorem dX9_wins_32 : decode cX9_wins 32 = .ok (.invokevirtual 212, 3) := by decide +kernel
theorem dX9_wins_35 : decode cX9_wins 35 = .ok (.pop, 1) := by decide +kernel
theorem dX9_wins_36 : decode cX9_wins 36 = .ok (.iload_n 2, 1) := by decide +kernel
theorem dX9_wins_37 : decode cX9_wins 37 = .ok (.ifCond .ne 14, 3) := by decide +kernel
theorem dX9_wins_40 : decode cX9_wins 40 = .ok (.aload_n 0, 1) := by decide +kernel
theorem dX9_wins_41 : decode cX9_wins 41 = .ok (.getfield 36, 3) := by decide +kernel
theorem dX9_wins_44 : decode cX9_wins 44 = .ok (.iload_n 1, 1) := by decide +kernel
theorem dX9_wins_45 : decode cX9_wins 45 = .ok (.invokevirtual 216, 3) := by decide +kernel
theorem dX9_wins_48 : decode cX9_wins 48 = .ok (.goto 11, 3) := by decide +kernel
theorem dX9_wins_51 : decode cX9_wins 51 = .ok (.aload_n 0, 1) := by decide +kernel
theorem dX9_wins_52 : decode cX9_wins 52 = .ok (.getfield 36, 3) := by decide +kernel
theorem dX9_wins_55 : decode cX9_wins 55 = .ok (.iload_n 1, 1) := by decide +kernel
theorem dX9_wins_56 : decode cX9_wins 56 = .ok (.invokevirtual 219, 3) := by decide +kernel
theorem dX9_wins_59 : decode cX9_wins 59 = .ok (.ireturn, 1) := by decide +kernel
theorem dX9_patience_0 : decode cX9_patience 0 = .ok (.aload_n 0, 1) := by decide +kernel
theorem dX9_patience_1 : decode cX9_patience 1 = .ok (.getfield 12, 3) := by decide +kernel
theorem dX9_patience_4 : decode cX9_patience 4 = .ok (.iload_n 1, 1) := by decide +kernel
theorem dX9_patience_5 : decode cX9_patience 5 = .ok (.invokevirtual 138, 3) := by decide +kernel
theorem dX9_patience_8 : decode cX9_patience 8 = .ok (.ifnull 14, 3) := by decide +kernel
theorem dX9_patience_11 : decode cX9_patience 11 = .ok (.aload_n 0, 1) := by decide +kernel
theorem dX9_patience_12 : decode cX9_patience 12 = .ok (.getfield 12, 3) := by decide +kernel
theorem dX9_patience_15 : decode cX9_patience 15 = .ok (.iload_n 2, 1) := by decide +kernel
theorem dX9_patience_16 : decode cX9_patience 16 = .ok (.invokevirtual 209, 3) := by decide +kernel
theorem dX9_patience_19 : decode cX9_patience 19 = .ok (.ifnonnull 5, 3) := by decide +kernel
theorem dX9_patience_22 : decode cX9_patience 22 = .ok (.iconst (-1), 1) := by decide +kernel
theorem dX9_patience_23 : decode cX9_patience 23 = .ok (.ireturn, 1) := by decide +kernel
theorem dX9_patience_24 : decode cX9_patience 24 = .ok (.aload_n 0, 1) := by decide +kernel
theorem dX9_patience_25 : decode cX9_patience 25 = .ok (.getfield 36, 3) := by decide +kernel
theorem dX9_patience_28 : decode cX9_patience 28 = .ok (.aload_n 0, 1) := by decide +kernel
theorem dX9_patience_29 : decode cX9_patience 29 = .ok (.getfield 12, 3) := by decide +kernel
theorem dX9_patience_32 : decode cX9_patience 32 = .ok (.iload_n 1, 1) := by decide +kernel
theorem dX9_patience_33 : decode cX9_patience 33 = .ok (.iload_n 2, 1) := by decide +kernel
theorem dX9_patience_34 : decode cX9_patience 34 = .ok (.invokevirtual 221, 3) := by decide +kernel
theorem dX9_patience_37 : decode cX9_patience 37 = .ok (.ireturn, 1) := by decide +kernel
theorem dX9_gust_0 : decode cX9_gust 0 = .ok (.aload_n 0, 1) := by decide +kernel
theorem dX9_gust_1 : decode cX9_gust 1 = .ok (.getfield 12, 3) := by decide +kernel
theorem dX9_gust_4 : decode cX9_gust 4 = .ok (.iload_n 1, 1) := by decide +kernel
theorem dX9_gust_5 : decode cX9_gust 5 = .ok (.invokevirtual 138, 3) := by decide +kernel
theorem dX9_gust_8 : decode cX9_gust 8 = .ok (.ifnull 14, 3) := by decide +kernel
theorem dX9_gust_11 : decode cX9_gust 11 = .ok (.aload_n 0, 1) := by decide +kernel
theorem dX9_gust_12 : decode cX9_gust 12 = .ok (.getfield 12, 3) := by decide +kernel
theorem dX9_gust_15 : decode cX9_gust 15 = .ok (.iload_n 2, 1) := by decide +kernel
theorem dX9_gust_16 : decode cX9_gust 16 = .ok (.invokevirtual 209, 3) := by decide +kernel
theorem dX9_gust_19 : decode cX9_gust 19 = .ok (.ifnonnull 5, 3) := by decide +kernel
theorem dX9_gust_22 : decode cX9_gust 22 = .ok (.iconst (-1), 1) := by decide +kernel
theorem dX9_gust_23 : decode cX9_gust 23 = .ok (.ireturn, 1) := by decide +kernel
theorem dX9_gust_24 : decode cX9_gust 24 = .ok (.aload_n 0, 1) := by decide +kernel
theorem dX9_gust_25 : decode cX9_gust 25 = .ok (.getfield 36, 3) := by decide +kernel
theorem dX9_gust_28 : decode cX9_gust 28 = .ok (.aload_n 0, 1) := by decide +kernel
theorem dX9_gust_29 : decode cX9_gust 29 = .ok (.getfield 12, 3) := by decide +kernel
theorem dX9_gust_32 : decode cX9_gust 32 = .ok (.iload_n 1, 1) := by decide +kernel
theorem dX9_gust_33 : decode cX9_gust 33 = .ok (.iload_n 2, 1) := by decide +kernel
theorem dX9_gust_34 : decode cX9_gust 34 = .ok (.invokevirtual 225, 3) := by decide +kernel
theorem dX9_gust_37 : decode cX9_gust 37 = .ok (.ireturn, 1) := by decide +kernel
theorem dX9_wax_0 : decode cX9_wax 0 = .ok (.aload_n 0, 1) := by decide +kernel
theorem dX9_wax_1 : decode cX9_wax 1 = .ok (.getfield 12, 3) := by decide +kernel
theorem dX9_wax_4 : decode cX9_wax 4 = .ok (.iload_n 1, 1) := by decide +kernel
theorem dX9_wax_5 : decode cX9_wax 5 = .ok (.invokevirtual 209, 3) := by decide +kernel
theorem dX9_wax_8 : decode cX9_wax 8 = .ok (.ifnull 12, 3) := by decide +kernel
theorem dX9_wax_11 : decode cX9_wax 11 = .ok (.iload_n 2, 1) := by decide +kernel
theorem dX9_wax_12 : decode cX9_wax 12 = .ok (.iconst 0, 1) := by decide +kernel
theorem dX9_wax_13 : decode cX9_wax 13 = .ok (.iconst 1, 1) := by decide +kernel
theorem dX9_wax_14 : decode cX9_wax 14 = .ok (.invokestatic 71, 3) := by decide +kernel
theorem dX9_wax_17 : decode cX9_wax 17 = .ok (.ifCond .ne 5, 3) := by decide +kernel
theorem dX9_wax_20 : decode cX9_wax 20 = .ok (.iconst (-1), 1) := by decide +kernel
theorem dX9_wax_21 : decode cX9_wax 21 = .ok (.ireturn, 1) := by decide +kernel
theorem dX9_wax_22 : decode cX9_wax 22 = .ok (.aload_n 0, 1) := by decide +kernel
theorem dX9_wax_23 : decode cX9_wax 23 = .ok (.getfield 36, 3) := by decide +kernel
theorem dX9_wax_26 : decode cX9_wax 26 = .ok (.aload_n 0, 1) := by decide +kernel
theorem dX9_wax_27 : decode cX9_wax 27 = .ok (.getfield 12, 3) := by decide +kernel
theorem dX9_wax_30 : decode cX9_wax 30 = .ok (.iload_n 1, 1) := by decide +kernel
theorem dX9_wax_31 : decode cX9_wax 31 = .ok (.invokevirtual 228, 3) := by decide +kernel
theorem dX9_wax_34 : decode cX9_wax 34 = .ok (.istore_n 3, 1) := by decide +kernel
theorem dX9_wax_35 : decode cX9_wax 35 = .ok (.iload_n 2, 1) := by decide +kernel
theorem dX9_wax_36 : decode cX9_wax 36 = .ok (.ifCond .ne 7, 3) := by decide +kernel
theorem dX9_wax_39 : decode cX9_wax 39 = .ok (.iload_n 3, 1) := by decide +kernel
theorem dX9_wax_40 : decode cX9_wax 40 = .ok (.goto 10, 3) := by decide +kernel
theorem dX9_wax_43 : decode cX9_wax 43 = .ok (.aload_n 0, 1) := by decide +kernel
theorem dX9_wax_44 : decode cX9_wax 44 = .ok (.getfield 36, 3) := by decide +kernel
theorem dX9_wax_47 : decode cX9_wax 47 = .ok (.getfield 232, 3) := by decide +kernel
theorem dX9_wax_50 : decode cX9_wax 50 = .ok (.ireturn, 1) := by decide +kernel
theorem dX9_silent_0 : decode cX9_silent 0 = .ok (.aload_n 0, 1) := by decide +kernel
theorem dX9_silent_1 : decode cX9_silent 1 = .ok (.getfield 12, 3) := by decide +kernel
theorem dX9_silent_4 : decode cX9_silent 4 = .ok (.iload_n 1, 1) := by decide +kernel
theorem dX9_silent_5 : decode cX9_silent 5 = .ok (.invokevirtual 209, 3) := by decide +kernel
theorem dX9_silent_8 : decode cX9_silent 8 = .ok (.ifnonnull 5, 3) := by decide +kernel
theorem dX9_silent_11 : decode cX9_silent 11 = .ok (.iconst (-1), 1) := by decide +kernel
theorem dX9_silent_12 : decode cX9_silent 12 = .ok (.ireturn, 1) := by decide +kernel
theorem dX9_silent_13 : decode cX9_silent 13 = .ok (.aload_n 0, 1) := by decide +kernel
theorem dX9_silent_14 : decode cX9_silent 14 = .ok (.getfield 36, 3) := by decide +kernel
theorem dX9_silent_17 : decode cX9_silent 17 = .ok (.aload_n 0, 1) := by decide +kernel
theorem dX9_silent_18 : decode cX9_silent 18 = .ok (.getfield 12, 3) := by decide +kernel
theorem dX9_silent_21 : decode cX9_silent 21 = .ok (.iload_n 1, 1) := by decide +kernel
theorem dX9_silent_22 : decode cX9_silent 22 = .ok (.invokevirtual 235, 3) := by decide +kernel
theorem dX9_silent_25 : decode cX9_silent 25 = .ok (.ireturn, 1) := by decide +kernel
theorem dX9_order_0 : decode cX9_order 0 = .ok (.iload_n 1, 1) := by decide +kernel
theorem dX9_order_1 : decode cX9_order 1 = .ok (.ifCond .eq 16, 3) := by decide +kernel
theorem dX9_order_4 : decode cX9_order 4 = .ok (.iload_n 1, 1) := by decide +kernel
theorem dX9_order_5 : decode cX9_order 5 = .ok (.bipush 10, 2) := by decide +kernel
theorem dX9_order_7 : decode cX9_order 7 = .ok (.bipush 14, 2) := by decide +kernel
theorem dX9_order_9 : decode cX9_order 9 = .ok (.invokestatic 71, 3) := by decide +kernel
theorem dX9_order_12 : decode cX9_order 12 = .ok (.ifCond .ne 5, 3) := by decide +kernel
theorem dX9_order_15 : decode cX9_order 15 = .ok (.iconst (-1), 1) := by decide +kernel
theorem dX9_order_16 : decode cX9_order 16 = .ok (.ireturn, 1) := by decide +kernel
theorem dX9_order_17 : decode cX9_order 17 = .ok (.aload_n 0, 1) := by decide +kernel
theorem dX9_order_18 : decode cX9_order 18 = .ok (.getfield 12, 3) := by decide +kernel
theorem dX9_order_21 : decode cX9_order 21 = .ok (.getfield 96, 3) := by decide +kernel
theorem dX9_order_24 : decode cX9_order 24 = .ok (.aload_n 0, 1) := by decide +kernel
theorem dX9_order_25 : decode cX9_order 25 = .ok (.getfield 12, 3) := by decide +kernel
theorem dX9_order_28 : decode cX9_order 28 = .ok (.invokevirtual 238, 3) := by decide +kernel
theorem dX9_order_31 : decode cX9_order 31 = .ok (.isub, 1) := by decide +kernel
theorem dX9_order_32 : decode cX9_order 32 = .ok (.istore_n 2, 1) := by decide +kernel
theorem dX9_order_33 : decode cX9_order 33 = .ok (.iload_n 2, 1) := by decide +kernel
theorem dX9_order_34 : decode cX9_order 34 = .ok (.ifCond .eq 11, 3) := by decide +kernel
theorem dX9_order_37 : decode cX9_order 37 = .ok (.iload_n 1, 1) := by decide +kernel
theorem dX9_order_38 : decode cX9_order 38 = .ok (.bipush 10, 2) := by decide +kernel
theorem dX9_order_40 : decode cX9_order 40 = .ok (.isub, 1) := by decide +kernel
theorem dX9_order_41 : decode cX9_order 41 = .ok (.iload_n 2, 1) := by decide +kernel
theorem dX9_order_42 : decode cX9_order 42 = .ok (.if_icmp .lt 6, 3) := by decide +kernel
theorem dX9_order_45 : decode cX9_order 45 = .ok (.bipush (-3), 2) := by decide +kernel
theorem dX9_order_47 : decode cX9_order 47 = .ok (.ireturn, 1) := by decide +kernel
theorem dX9_order_48 : decode cX9_order 48 = .ok (.aload_n 0, 1) := by decide +kernel
theorem dX9_order_49 : decode cX9_order 49 = .ok (.getfield 36, 3) := by decide +kernel
theorem dX9_order_52 : decode cX9_order 52 = .ok (.aload_n 0, 1) := by decide +kernel
theorem dX9_order_53 : decode cX9_order 53 = .ok (.getfield 12, 3) := by decide +kernel
theorem dX9_order_56 : decode cX9_order 56 = .ok (.invokevirtual 241, 3) := by decide +kernel
theorem dX9_order_59 : decode cX9_order 59 = .ok (.iload_n 1, 1) := by decide +kernel
theorem dX9_order_60 : decode cX9_order 60 = .ok (.ifCond .ne 13, 3) := by decide +kernel
theorem dX9_order_63 : decode cX9_order 63 = .ok (.aload_n 0, 1) := by decide +kernel
theorem dX9_order_64 : decode cX9_order 64 = .ok (.getfield 36, 3) := by decide +kernel
theorem dX9_order_67 : decode cX9_order 67 = .ok (.getfield 232, 3) := by decide +kernel
theorem dX9_order_70 : decode cX9_order 70 = .ok (.goto 14, 3) := by decide +kernel
theorem dX9_order_73 : decode cX9_order 73 = .ok (.aload_n 0, 1) := by decide +kernel
theorem dX9_order_74 : decode cX9_order 74 = .ok (.getfield 36, 3) := by decide +kernel
theorem dX9_order_77 : decode cX9_order 77 = .ok (.iload_n 1, 1) := by decide +kernel
theorem dX9_order_78 : decode cX9_order 78 = .ok (.bipush 10, 2) := by decide +kernel
theorem dX9_order_80 : decode cX9_order 80 = .ok (.isub, 1) := by decide +kernel
theorem dX9_order_81 : decode cX9_order 81 = .ok (.invokevirtual 244, 3) := by decide +kernel
theorem dX9_order_84 : decode cX9_order 84 = .ok (.ireturn, 1) := by decide +kernel
theorem dX9_most_0 : decode cX9_most 0 = .ok (.aload_n 0, 1) := by decide +kernel
theorem dX9_most_1 : decode cX9_most 1 = .ok (.getfield 12, 3) := by decide +kernel
theorem dX9_most_4 : decode cX9_most 4 = .ok (.iload_n 1, 1) := by decide +kernel
theorem dX9_most_5 : decode cX9_most 5 = .ok (.invokevirtual 103, 3) := by decide +kernel
theorem dX9_most_8 : decode cX9_most 8 = .ok (.astore_n 2, 1) := by decide +kernel
theorem dX9_most_9 : decode cX9_most 9 = .ok (.aload_n 2, 1) := by decide +kernel
theorem dX9_most_10 : decode cX9_most 10 = .ok (.ifnonnull 5, 3) := by decide +kernel
theorem dX9_most_13 : decode cX9_most 13 = .ok (.iconst (-1), 1) := by decide +kernel
theorem dX9_most_14 : decode cX9_most 14 = .ok (.ireturn, 1) := by decide +kernel
theorem dX9_most_15 : decode cX9_most 15 = .ok (.aload_n 0, 1) := by decide +kernel
theorem dX9_most_16 : decode cX9_most 16 = .ok (.getfield 12, 3) := by decide +kernel
theorem dX9_most_19 : decode cX9_most 19 = .ok (.aload_n 2, 1) := by decide +kernel
theorem dX9_most_20 : decode cX9_most 20 = .ok (.getfield 112, 3) := by decide +kernel
theorem dX9_most_23 : decode cX9_most 23 = .ok (.invokevirtual 247, 3) := by decide +kernel
theorem dX9_most_26 : decode cX9_most 26 = .ok (.ireturn, 1) := by decide +kernel
theorem dX9_owed_0 : decode cX9_owed 0 = .ok (.iload_n 1, 1) := by decide +kernel
theorem dX9_owed_1 : decode cX9_owed 1 = .ok (.tableswitch 53 0 2 #[27, 35, 43], 27) := by decide +kernel
theorem dX9_owed_28 : decode cX9_owed 28 = .ok (.aload_n 0, 1) := by decide +kernel
theorem dX9_owed_29 : decode cX9_owed 29 = .ok (.getfield 12, 3) := by decide +kernel
theorem dX9_owed_32 : decode cX9_owed 32 = .ok (.invokevirtual 250, 3) := by decide +kernel
theorem dX9_owed_35 : decode cX9_owed 35 = .ok (.ireturn, 1) := by decide +kernel
theorem dX9_owed_36 : decode cX9_owed 36 = .ok (.aload_n 0, 1) := by decide +kernel
theorem dX9_owed_37 : decode cX9_owed 37 = .ok (.getfield 12, 3) := by decide +kernel
theorem dX9_owed_40 : decode cX9_owed 40 = .ok (.invokevirtual 253, 3) := by decide +kernel
theorem dX9_owed_43 : decode cX9_owed 43 = .ok (.ireturn, 1) := by decide +kernel
theorem dX9_owed_44 : decode cX9_owed 44 = .ok (.aload_n 0, 1) := by decide +kernel
theorem dX9_owed_45 : decode cX9_owed 45 = .ok (.getfield 12, 3) := by decide +kernel
theorem dX9_owed_48 : decode cX9_owed 48 = .ok (.bipush (-9), 2) := by decide +kernel
theorem dX9_owed_50 : decode cX9_owed 50 = .ok (.invokevirtual 156, 3) := by decide +kernel
theorem dX9_owed_53 : decode cX9_owed 53 = .ok (.ireturn, 1) := by decide +kernel
theorem dX9_owed_54 : decode cX9_owed 54 = .ok (.iconst (-1), 1) := by decide +kernel
theorem dX9_owed_55 : decode cX9_owed 55 = .ok (.ireturn, 1) := by decide +kernel
theorem dX9_seed_0 : decode cX9_seed 0 = .ok (.aload_n 0, 1) := by decide +kernel
theorem dX9_seed_1 : decode cX9_seed 1 = .ok (.getfield 12, 3) := by decide +kernel
theorem dX9_seed_4 : decode cX9_seed 4 = .ok (.getfield 87, 3) := by decide +kernel
theorem dX9_seed_7 : decode cX9_seed 7 = .ok (.istore_n 2, 1) := by decide +kernel
theorem dX9_seed_8 : decode cX9_seed 8 = .ok (.aload_n 0, 1) := by decide +kernel
theorem dX9_seed_9 : decode cX9_seed 9 = .ok (.getfield 12, 3) := by decide +kernel
theorem dX9_seed_12 : decode cX9_seed 12 = .ok (.iload_n 1, 1) := by decide +kernel
theorem dX9_seed_13 : decode cX9_seed 13 = .ok (.putfield 87, 3) := by decide +kernel
theorem dX9_seed_16 : decode cX9_seed 16 = .ok (.iload_n 2, 1) := by decide +kernel
theorem dX9_seed_17 : decode cX9_seed 17 = .ok (.ireturn, 1) := by decide +kernel
theorem dX9_draw_0 : decode cX9_draw 0 = .ok (.iload_n 1, 1) := by decide +kernel
theorem dX9_draw_1 : decode cX9_draw 1 = .ok (.iconst 0, 1) := by decide +kernel
theorem dX9_draw_2 : decode cX9_draw 2 = .ok (.bipush 11, 2) := by decide +kernel
theorem dX9_draw_4 : decode cX9_draw 4 = .ok (.invokestatic 71, 3) := by decide +kernel
theorem dX9_draw_7 : decode cX9_draw 7 = .ok (.ifCond .ne 5, 3) := by decide +kernel
theorem dX9_draw_10 : decode cX9_draw 10 = .ok (.iconst (-1), 1) := by decide +kernel
theorem dX9_draw_11 : decode cX9_draw 11 = .ok (.ireturn, 1) := by decide +kernel
theorem dX9_draw_12 : decode cX9_draw 12 = .ok (.aload_n 0, 1) := by decide +kernel
theorem dX9_draw_13 : decode cX9_draw 13 = .ok (.getfield 12, 3) := by decide +kernel
theorem dX9_draw_16 : decode cX9_draw 16 = .ok (.aload_n 0, 1) := by decide +kernel
theorem dX9_draw_17 : decode cX9_draw 17 = .ok (.getfield 12, 3) := by decide +kernel
theorem dX9_draw_20 : decode cX9_draw 20 = .ok (.getfield 87, 3) := by decide +kernel
theorem dX9_draw_23 : decode cX9_draw 23 = .ok (.ldc_w 256, 3) := by decide +kernel
theorem dX9_draw_26 : decode cX9_draw 26 = .ok (.imul, 1) := by decide +kernel
theorem dX9_draw_27 : decode cX9_draw 27 = .ok (.sipush 12345, 3) := by decide +kernel
theorem dX9_draw_30 : decode cX9_draw 30 = .ok (.iadd, 1) := by decide +kernel
theorem dX9_draw_31 : decode cX9_draw 31 = .ok (.putfield 87, 3) := by decide +kernel
theorem dX9_draw_34 : decode cX9_draw 34 = .ok (.aload_n 0, 1) := by decide +kernel
theorem dX9_draw_35 : decode cX9_draw 35 = .ok (.getfield 12, 3) := by decide +kernel
theorem dX9_draw_38 : decode cX9_draw 38 = .ok (.getfield 127, 3) := by decide +kernel
theorem dX9_draw_41 : decode cX9_draw 41 = .ok (.iload_n 1, 1) := by decide +kernel
theorem dX9_draw_42 : decode cX9_draw 42 = .ok (.aload_n 0, 1) := by decide +kernel
theorem dX9_draw_43 : decode cX9_draw 43 = .ok (.getfield 12, 3) := by decide +kernel
theorem dX9_draw_46 : decode cX9_draw 46 = .ok (.getfield 87, 3) := by decide +kernel
theorem dX9_draw_49 : decode cX9_draw 49 = .ok (.bipush 16, 2) := by decide +kernel
theorem dX9_draw_51 : decode cX9_draw 51 = .ok (.iushr, 1) := by decide +kernel
theorem dX9_draw_52 : decode cX9_draw 52 = .ok (.iconst 4, 1) := by decide +kernel
theorem dX9_draw_53 : decode cX9_draw 53 = .ok (.irem, 1) := by decide +kernel
theorem dX9_draw_54 : decode cX9_draw 54 = .ok (.iastore, 1) := by decide +kernel
theorem dX9_draw_55 : decode cX9_draw 55 = .ok (.aload_n 0, 1) := by decide +kernel
theorem dX9_draw_56 : decode cX9_draw 56 = .ok (.getfield 12, 3) := by decide +kernel
theorem dX9_draw_59 : decode cX9_draw 59 = .ok (.getfield 127, 3) := by decide +kernel
theorem dX9_draw_62 : decode cX9_draw 62 = .ok (.iload_n 1, 1) := by decide +kernel
theorem dX9_draw_63 : decode cX9_draw 63 = .ok (.iaload, 1) := by decide +kernel
theorem dX9_draw_64 : decode cX9_draw 64 = .ok (.ireturn, 1) := by decide +kernel
theorem dX9_prove_0 : decode cX9_prove 0 = .ok (.aload_n 0, 1) := by decide +kernel
theorem dX9_prove_1 : decode cX9_prove 1 = .ok (.getfield 12, 3) := by decide +kernel
theorem dX9_prove_4 : decode cX9_prove 4 = .ok (.iload_n 1, 1) := by decide +kernel
theorem dX9_prove_5 : decode cX9_prove 5 = .ok (.invokevirtual 209, 3) := by decide +kernel
theorem dX9_prove_8 : decode cX9_prove 8 = .ok (.ifnonnull 5, 3) := by decide +kernel
theorem dX9_prove_11 : decode cX9_prove 11 = .ok (.iconst (-1), 1) := by decide +kernel
theorem dX9_prove_12 : decode cX9_prove 12 = .ok (.ireturn, 1) := by decide +kernel
theorem dX9_prove_13 : decode cX9_prove 13 = .ok (.aload_n 0, 1) := by decide +kernel
theorem dX9_prove_14 : decode cX9_prove 14 = .ok (.getfield 43, 3) := by decide +kernel
theorem dX9_prove_17 : decode cX9_prove 17 = .ok (.invokevirtual 95, 3) := by decide +kernel
theorem dX9_prove_20 : decode cX9_prove 20 = .ok (.aload_n 0, 1) := by decide +kernel
theorem dX9_prove_21 : decode cX9_prove 21 = .ok (.getfield 36, 3) := by decide +kernel
theorem dX9_prove_24 : decode cX9_prove 24 = .ok (.aload_n 0, 1) := by decide +kernel
theorem dX9_prove_25 : decode cX9_prove 25 = .ok (.getfield 12, 3) := by decide +kernel
theorem dX9_prove_28 : decode cX9_prove 28 = .ok (.iload_n 1, 1) := by decide +kernel
theorem dX9_prove_29 : decode cX9_prove 29 = .ok (.aload_n 0, 1) := by decide +kernel
theorem dX9_prove_30 : decode cX9_prove 30 = .ok (.getfield 43, 3) := by decide +kernel
theorem dX9_prove_33 : decode cX9_prove 33 = .ok (.invokevirtual 212, 3) := by decide +kernel
theorem dX9_prove_36 : decode cX9_prove 36 = .ok (.pop, 1) := by decide +kernel
theorem dX9_prove_37 : decode cX9_prove 37 = .ok (.aload_n 0, 1) := by decide +kernel
theorem dX9_prove_38 : decode cX9_prove 38 = .ok (.getfield 43, 3) := by decide +kernel
theorem dX9_prove_41 : decode cX9_prove 41 = .ok (.getfield 257, 3) := by decide +kernel
theorem dX9_prove_44 : decode cX9_prove 44 = .ok (.ireturn, 1) := by decide +kernel
theorem dX9_row_0 : decode cX9_row 0 = .ok (.aload_n 0, 1) := by decide +kernel
theorem dX9_row_1 : decode cX9_row 1 = .ok (.getfield 43, 3) := by decide +kernel
theorem dX9_row_4 : decode cX9_row 4 = .ok (.iload_n 1, 1) := by decide +kernel
theorem dX9_row_5 : decode cX9_row 5 = .ok (.iload_n 2, 1) := by decide +kernel
theorem dX9_row_6 : decode cX9_row 6 = .ok (.invokevirtual 260, 3) := by decide +kernel
theorem dX9_row_9 : decode cX9_row 9 = .ok (.ifCond .eq 15, 3) := by decide +kernel
theorem dX9_row_12 : decode cX9_row 12 = .ok (.aload_n 0, 1) := by decide +kernel
theorem dX9_row_13 : decode cX9_row 13 = .ok (.getfield 43, 3) := by decide +kernel
theorem dX9_row_16 : decode cX9_row 16 = .ok (.iload_n 1, 1) := by decide +kernel
theorem dX9_row_17 : decode cX9_row 17 = .ok (.iload_n 2, 1) := by decide +kernel
theorem dX9_row_18 : decode cX9_row 18 = .ok (.invokevirtual 264, 3) := by decide +kernel
theorem dX9_row_21 : decode cX9_row 21 = .ok (.goto 5, 3) := by decide +kernel
theorem dX9_row_24 : decode cX9_row 24 = .ok (.bipush (-9), 2) := by decide +kernel
theorem dX9_row_26 : decode cX9_row 26 = .ok (.ireturn, 1) := by decide +kernel
theorem dX9_alterRow_0 : decode cX9_alterRow 0 = .ok (.aload_n 0, 1) := by decide +kernel
theorem dX9_alterRow_1 : decode cX9_alterRow 1 = .ok (.getfield 43, 3) := by decide +kernel
theorem dX9_alterRow_4 : decode cX9_alterRow 4 = .ok (.iload_n 1, 1) := by decide +kernel
theorem dX9_alterRow_5 : decode cX9_alterRow 5 = .ok (.iload_n 2, 1) := by decide +kernel
theorem dX9_alterRow_6 : decode cX9_alterRow 6 = .ok (.invokevirtual 260, 3) := by decide +kernel
theorem dX9_alterRow_9 : decode cX9_alterRow 9 = .ok (.ifCond .ne 6, 3) := by decide +kernel
theorem dX9_alterRow_12 : decode cX9_alterRow 12 = .ok (.bipush (-9), 2) := by decide +kernel
theorem dX9_alterRow_14 : decode cX9_alterRow 14 = .ok (.ireturn, 1) := by decide +kernel
theorem dX9_alterRow_15 : decode cX9_alterRow 15 = .ok (.aload_n 0, 1) := by decide +kernel
theorem dX9_alterRow_16 : decode cX9_alterRow 16 = .ok (.getfield 43, 3) := by decide +kernel
theorem dX9_alterRow_19 : decode cX9_alterRow 19 = .ok (.iload_n 1, 1) := by decide +kernel
theorem dX9_alterRow_20 : decode cX9_alterRow 20 = .ok (.iload_n 2, 1) := by decide +kernel
theorem dX9_alterRow_21 : decode cX9_alterRow 21 = .ok (.invokevirtual 264, 3) := by decide +kernel
theorem dX9_alterRow_24 : decode cX9_alterRow 24 = .ok (.istore 4, 2) := by decide +kernel
theorem dX9_alterRow_26 : decode cX9_alterRow 26 = .ok (.aload_n 0, 1) := by decide +kernel
theorem dX9_alterRow_27 : decode cX9_alterRow 27 = .ok (.getfield 43, 3) := by decide +kernel
theorem dX9_alterRow_30 : decode cX9_alterRow 30 = .ok (.iload_n 1, 1) := by decide +kernel
theorem dX9_alterRow_31 : decode cX9_alterRow 31 = .ok (.iload_n 2, 1) := by decide +kernel
theorem dX9_alterRow_32 : decode cX9_alterRow 32 = .ok (.iload_n 3, 1) := by decide +kernel
theorem dX9_alterRow_33 : decode cX9_alterRow 33 = .ok (.invokevirtual 267, 3) := by decide +kernel
theorem dX9_alterRow_36 : decode cX9_alterRow 36 = .ok (.iload 4, 2) := by decide +kernel
theorem dX9_alterRow_38 : decode cX9_alterRow 38 = .ok (.ireturn, 1) := by decide +kernel
theorem dX9_judge_0 : decode cX9_judge 0 = .ok (.aload_n 0, 1) := by decide +kernel
theorem dX9_judge_1 : decode cX9_judge 1 = .ok (.getfield 12, 3) := by decide +kernel
theorem dX9_judge_4 : decode cX9_judge 4 = .ok (.iload_n 1, 1) := by decide +kernel
theorem dX9_judge_5 : decode cX9_judge 5 = .ok (.invokevirtual 209, 3) := by decide +kernel
theorem dX9_judge_8 : decode cX9_judge 8 = .ok (.ifnonnull 5, 3) := by decide +kernel
theorem dX9_judge_11 : decode cX9_judge 11 = .ok (.iconst (-1), 1) := by decide +kernel
theorem dX9_judge_12 : decode cX9_judge 12 = .ok (.ireturn, 1) := by decide +kernel
theorem dX9_judge_13 : decode cX9_judge 13 = .ok (.aload_n 0, 1) := by decide +kernel
theorem dX9_judge_14 : decode cX9_judge 14 = .ok (.getfield 47, 3) := by decide +kernel
theorem dX9_judge_17 : decode cX9_judge 17 = .ok (.invokevirtual 95, 3) := by decide +kernel
theorem dX9_judge_20 : decode cX9_judge 20 = .ok (.aload_n 0, 1) := by decide +kernel
theorem dX9_judge_21 : decode cX9_judge 21 = .ok (.getfield 36, 3) := by decide +kernel
theorem dX9_judge_24 : decode cX9_judge 24 = .ok (.aload_n 0, 1) := by decide +kernel
theorem dX9_judge_25 : decode cX9_judge 25 = .ok (.getfield 12, 3) := by decide +kernel
theorem dX9_judge_28 : decode cX9_judge 28 = .ok (.iload_n 1, 1) := by decide +kernel
theorem dX9_judge_29 : decode cX9_judge 29 = .ok (.aload_n 0, 1) := by decide +kernel
theorem dX9_judge_30 : decode cX9_judge 30 = .ok (.getfield 47, 3) := by decide +kernel
theorem dX9_judge_33 : decode cX9_judge 33 = .ok (.invokevirtual 212, 3) := by decide +kernel
theorem dX9_judge_36 : decode cX9_judge 36 = .ok (.pop, 1) := by decide +kernel
theorem dX9_judge_37 : decode cX9_judge 37 = .ok (.aload_n 0, 1) := by decide +kernel
theorem dX9_judge_38 : decode cX9_judge 38 = .ok (.getfield 43, 3) := by decide +kernel
theorem dX9_judge_41 : decode cX9_judge 41 = .ok (.aload_n 0, 1) := by decide +kernel
theorem dX9_judge_42 : decode cX9_judge 42 = .ok (.getfield 47, 3) := by decide +kernel
theorem dX9_judge_45 : decode cX9_judge 45 = .ok (.invokevirtual 271, 3) := by decide +kernel
theorem dX9_judge_48 : decode cX9_judge 48 = .ok (.ireturn, 1) := by decide +kernel
theorem dX9_draughts_0 : decode cX9_draughts 0 = .ok (.aload_n 0, 1) := by decide +kernel
theorem dX9_draughts_1 : decode cX9_draughts 1 = .ok (.iload_n 1, 1) := by decide +kernel
theorem dX9_draughts_2 : decode cX9_draughts 2 = .ok (.invokevirtual 275, 3) := by decide +kernel
theorem dX9_draughts_5 : decode cX9_draughts 5 = .ok (.astore 5, 2) := by decide +kernel
theorem dX9_draughts_7 : decode cX9_draughts 7 = .ok (.aload 5, 2) := by decide +kernel
theorem dX9_draughts_9 : decode cX9_draughts 9 = .ok (.ifnull 26, 3) := by decide +kernel
theorem dX9_draughts_12 : decode cX9_draughts 12 = .ok (.iload_n 3, 1) := by decide +kernel
theorem dX9_draughts_13 : decode cX9_draughts 13 = .ok (.iconst 0, 1) := by decide +kernel
theorem dX9_draughts_14 : decode cX9_draughts 14 = .ok (.bipush 11, 2) := by decide +kernel
theorem dX9_draughts_16 : decode cX9_draughts 16 = .ok (.invokestatic 71, 3) := by decide +kernel
theorem dX9_draughts_19 : decode cX9_draughts 19 = .ok (.ifCond .eq 16, 3) := by decide +kernel
theorem dX9_draughts_22 : decode cX9_draughts 22 = .ok (.iload 4, 2) := by decide +kernel
theorem dX9_draughts_24 : decode cX9_draughts 24 = .ok (.iconst 0, 1) := by decide +kernel
theorem dX9_draughts_25 : decode cX9_draughts 25 = .ok (.bipush 12, 2) := by decide +kernel
theorem dX9_draughts_27 : decode cX9_draughts 27 = .ok (.iload_n 3, 1) := by decide +kernel
theorem dX9_draughts_28 : decode cX9_draughts 28 = .ok (.isub, 1) := by decide +kernel
theorem dX9_draughts_29 : decode cX9_draughts 29 = .ok (.invokestatic 71, 3) := by decide +kernel
theorem dX9_draughts_32 : decode cX9_draughts 32 = .ok (.ifCond .ne 5, 3) := by decide +kernel
theorem dX9_draughts_35 : decode cX9_draughts 35 = .ok (.iconst (-1), 1) := by decide +kernel
theorem dX9_draughts_36 : decode cX9_draughts 36 = .ok (.ireturn, 1) := by decide +kernel
theorem dX9_draughts_37 : decode cX9_draughts 37 = .ok (.aload 5, 2) := by decide +kernel
theorem dX9_draughts_39 : decode cX9_draughts 39 = .ok (.invokevirtual 279, 3) := by decide +kernel
theorem dX9_draughts_42 : decode cX9_draughts 42 = .ok (.ifCond .eq 6, 3) := by decide +kernel
theorem dX9_draughts_45 : decode cX9_draughts 45 = .ok (.bipush (-11), 2) := by decide +kernel
theorem dX9_draughts_47 : decode cX9_draughts 47 = .ok (.ireturn, 1) := by decide +kernel
theorem dX9_draughts_48 : decode cX9_draughts 48 = .ok (.aload 5, 2) := by decide +kernel
theorem dX9_draughts_50 : decode cX9_draughts 50 = .ok (.getfield 283, 3) := by decide +kernel
theorem dX9_draughts_53 : decode cX9_draughts 53 = .ok (.ifCond .eq 6, 3) := by decide +kernel
theorem dX9_draughts_56 : decode cX9_draughts 56 = .ok (.bipush (-13), 2) := by decide +kernel
theorem dX9_draughts_58 : decode cX9_draughts 58 = .ok (.ireturn, 1) := by decide +kernel
theorem dX9_draughts_59 : decode cX9_draughts 59 = .ok (.iload_n 2, 1) := by decide +kernel
theorem dX9_draughts_60 : decode cX9_draughts 60 = .ok (.ifCond .lt 15, 3) := by decide +kernel
theorem dX9_draughts_63 : decode cX9_draughts 63 = .ok (.iload_n 2, 1) := by decide +kernel
theorem dX9_draughts_64 : decode cX9_draughts 64 = .ok (.aload 5, 2) := by decide +kernel
theorem dX9_draughts_66 : decode cX9_draughts 66 = .ok (.getfield 286, 3) := by decide +kernel
theorem dX9_draughts_69 : decode cX9_draughts 69 = .ok (.iload 4, 2) := by decide +kernel
theorem dX9_draughts_71 : decode cX9_draughts 71 = .ok (.isub, 1) := by decide +kernel
theorem dX9_draughts_72 : decode cX9_draughts 72 = .ok (.if_icmp .le 6, 3) := by decide +kernel
theorem dX9_draughts_75 : decode cX9_draughts 75 = .ok (.bipush (-12), 2) := by decide +kernel
theorem dX9_draughts_77 : decode cX9_draughts 77 = .ok (.ireturn, 1) := by decide +kernel
theorem dX9_draughts_78 : decode cX9_draughts 78 = .ok (.iconst 0, 1) := by decide +kernel
theorem dX9_draughts_79 : decode cX9_draughts 79 = .ok (.istore 6, 2) := by decide +kernel
theorem dX9_draughts_81 : decode cX9_draughts 81 = .ok (.iload 6, 2) := by decide +kernel
theorem dX9_draughts_83 : decode cX9_draughts 83 = .ok (.iload 4, 2) := by decide +kernel
theorem dX9_draughts_85 : decode cX9_draughts 85 = .ok (.if_icmp .ge 38, 3) := by decide +kernel
theorem dX9_draughts_88 : decode cX9_draughts 88 = .ok (.aload_n 0, 1) := by decide +kernel
theorem dX9_draughts_89 : decode cX9_draughts 89 = .ok (.getfield 12, 3) := by decide +kernel
theorem dX9_draughts_92 : decode cX9_draughts 92 = .ok (.getfield 127, 3) := by decide +kernel
theorem dX9_draughts_95 : decode cX9_draughts 95 = .ok (.iload_n 3, 1) := by decide +kernel
theorem dX9_draughts_96 : decode cX9_draughts 96 = .ok (.iload 6, 2) := by decide +kernel
theorem dX9_draughts_98 : decode cX9_draughts 98 = .ok (.iadd, 1) := by decide +kernel
theorem dX9_draughts_99 : decode cX9_draughts 99 = .ok (.iconst 0, 1) := by decide +kernel
theorem dX9_draughts_100 : decode cX9_draughts 100 = .ok (.iconst 3, 1) := by decide +kernel
theorem dX9_draughts_101 : decode cX9_draughts 101 = .ok (.aload 5, 2) := by decide +kernel
theorem dX9_draughts_103 : decode cX9_draughts 103 = .ok (.iload_n 2, 1) := by decide +kernel
theorem dX9_draughts_104 : decode cX9_draughts 104 = .ok (.iload 6, 2) := by decide +kernel
theorem dX9_draughts_106 : decode cX9_draughts 106 = .ok (.iadd, 1) := by decide +kernel
theorem dX9_draughts_107 : decode cX9_draughts 107 = .ok (.invokevirtual 289, 3) := by decide +kernel
theorem dX9_draughts_110 : decode cX9_draughts 110 = .ok (.invokestatic 201, 3) := by decide +kernel
theorem dX9_draughts_113 : decode cX9_draughts 113 = .ok (.invokestatic 292, 3) := by decide +kernel
theorem dX9_draughts_116 : decode cX9_draughts 116 = .ok (.iastore, 1) := by decide +kernel
theorem dX9_draughts_117 : decode cX9_draughts 117 = .ok (.iinc 6 1, 3) := by decide +kernel
theorem dX9_draughts_120 : decode cX9_draughts 120 = .ok (.goto (-39), 3) := by decide +kernel
theorem dX9_draughts_123 : decode cX9_draughts 123 = .ok (.iload 4, 2) := by decide +kernel
theorem dX9_draughts_125 : decode cX9_draughts 125 = .ok (.ireturn, 1) := by decide +kernel
theorem dX9_sheet_0 : decode cX9_sheet 0 = .ok (.aload_n 0, 1) := by decide +kernel
theorem dX9_sheet_1 : decode cX9_sheet 1 = .ok (.iload_n 1, 1) := by decide +kernel
theorem dX9_sheet_2 : decode cX9_sheet 2 = .ok (.invokevirtual 275, 3) := by decide +kernel
theorem dX9_sheet_5 : decode cX9_sheet 5 = .ok (.astore 4, 2) := by decide +kernel
theorem dX9_sheet_7 : decode cX9_sheet 7 = .ok (.aload 4, 2) := by decide +kernel
theorem dX9_sheet_9 : decode cX9_sheet 9 = .ok (.ifnull 12, 3) := by decide +kernel
theorem dX9_sheet_12 : decode cX9_sheet 12 = .ok (.iload_n 2, 1) := by decide +kernel
theorem dX9_sheet_13 : decode cX9_sheet 13 = .ok (.iconst (-1), 1) := by decide +kernel
theorem dX9_sheet_14 : decode cX9_sheet 14 = .ok (.iconst 3, 1) := by decide +kernel
theorem dX9_sheet_15 : decode cX9_sheet 15 = .ok (.invokestatic 71, 3) := by decide +kernel
theorem dX9_sheet_18 : decode cX9_sheet 18 = .ok (.ifCond .ne 5, 3) := by decide +kernel
theorem dX9_sheet_21 : decode cX9_sheet 21 = .ok (.iconst (-1), 1) := by decide +kernel
theorem dX9_sheet_22 : decode cX9_sheet 22 = .ok (.ireturn, 1) := by decide +kernel
theorem dX9_sheet_23 : decode cX9_sheet 23 = .ok (.iload_n 2, 1) := by decide +kernel
theorem dX9_sheet_24 : decode cX9_sheet 24 = .ok (.iconst (-1), 1) := by decide +kernel
theorem dX9_sheet_25 : decode cX9_sheet 25 = .ok (.if_icmp .ne 12, 3) := by decide +kernel
theorem dX9_sheet_28 : decode cX9_sheet 28 = .ok (.aload 4, 2) := by decide +kernel
theorem dX9_sheet_30 : decode cX9_sheet 30 = .ok (.iload_n 2, 1) := by decide +kernel
theorem dX9_sheet_31 : decode cX9_sheet 31 = .ok (.iconst 0, 1) := by decide +kernel
theorem dX9_sheet_32 : decode cX9_sheet 32 = .ok (.invokevirtual 295, 3) := by decide +kernel
theorem dX9_sheet_35 : decode cX9_sheet 35 = .ok (.iconst 1, 1) := by decide +kernel
theorem dX9_sheet_36 : decode cX9_sheet 36 = .ok (.ireturn, 1) := by decide +kernel
theorem dX9_sheet_37 : decode cX9_sheet 37 = .ok (.iload_n 3, 1) := by decide +kernel
theorem dX9_sheet_38 : decode cX9_sheet 38 = .ok (.bipush 40, 2) := by decide +kernel
theorem dX9_sheet_40 : decode cX9_sheet 40 = .ok (.if_icmp .le 5, 3) := by decide +kernel
theorem dX9_sheet_43 : decode cX9_sheet 43 = .ok (.iconst (-1), 1) := by decide +kernel
theorem dX9_sheet_44 : decode cX9_sheet 44 = .ok (.ireturn, 1) := by decide +kernel
theorem dX9_sheet_45 : decode cX9_sheet 45 = .ok (.iload_n 3, 1) := by decide +kernel
theorem dX9_sheet_46 : decode cX9_sheet 46 = .ok (.ifCond .ge 6, 3) := by decide +kernel
theorem dX9_sheet_49 : decode cX9_sheet 49 = .ok (.bipush (-14), 2) := by decide +kernel
theorem dX9_sheet_51 : decode cX9_sheet 51 = .ok (.ireturn, 1) := by decide +kernel
theorem dX9_sheet_52 : decode cX9_sheet 52 = .ok (.aload 4, 2) := by decide +kernel
theorem dX9_sheet_54 : decode cX9_sheet 54 = .ok (.iload_n 2, 1) := by decide +kernel
theorem dX9_sheet_55 : decode cX9_sheet 55 = .ok (.iload_n 3, 1) := by decide +kernel
theorem dX9_sheet_56 : decode cX9_sheet 56 = .ok (.invokevirtual 295, 3) := by decide +kernel
theorem dX9_sheet_59 : decode cX9_sheet 59 = .ok (.iconst 1, 1) := by decide +kernel
theorem dX9_sheet_60 : decode cX9_sheet 60 = .ok (.ireturn, 1) := by decide +kernel
theorem dX9_put_0 : decode cX9_put 0 = .ok (.aload_n 0, 1) := by decide +kernel
theorem dX9_put_1 : decode cX9_put 1 = .ok (.iload_n 1, 1) := by decide +kernel
theorem dX9_put_2 : decode cX9_put 2 = .ok (.invokevirtual 275, 3) := by decide +kernel
theorem dX9_put_5 : decode cX9_put 5 = .ok (.astore 4, 2) := by decide +kernel
theorem dX9_put_7 : decode cX9_put 7 = .ok (.aload 4, 2) := by decide +kernel
theorem dX9_put_9 : decode cX9_put 9 = .ok (.ifnonnull 5, 3) := by decide +kernel
theorem dX9_put_12 : decode cX9_put 12 = .ok (.iconst (-1), 1) := by decide +kernel
theorem dX9_put_13 : decode cX9_put 13 = .ok (.ireturn, 1) := by decide +kernel
theorem dX9_put_14 : decode cX9_put 14 = .ok (.aload 4, 2) := by decide +kernel
theorem dX9_put_16 : decode cX9_put 16 = .ok (.invokevirtual 279, 3) := by decide +kernel
theorem dX9_put_19 : decode cX9_put 19 = .ok (.ifCond .eq 6, 3) := by decide +kernel
theorem dX9_put_22 : decode cX9_put 22 = .ok (.bipush (-11), 2) := by decide +kernel
theorem dX9_put_24 : decode cX9_put 24 = .ok (.ireturn, 1) := by decide +kernel
theorem dX9_put_25 : decode cX9_put 25 = .ok (.aload 4, 2) := by decide +kernel
theorem dX9_put_27 : decode cX9_put 27 = .ok (.iload_n 2, 1) := by decide +kernel
theorem dX9_put_28 : decode cX9_put 28 = .ok (.invokevirtual 299, 3) := by decide +kernel
theorem dX9_put_31 : decode cX9_put 31 = .ok (.ifCond .ne 6, 3) := by decide +kernel
theorem dX9_put_34 : decode cX9_put 34 = .ok (.bipush (-12), 2) := by decide +kernel
theorem dX9_put_36 : decode cX9_put 36 = .ok (.ireturn, 1) := by decide +kernel
theorem dX9_put_37 : decode cX9_put 37 = .ok (.aload 4, 2) := by decide +kernel
theorem dX9_put_39 : decode cX9_put 39 = .ok (.iload_n 2, 1) := by decide +kernel
theorem dX9_put_40 : decode cX9_put 40 = .ok (.iload_n 3, 1) := by decide +kernel
theorem dX9_put_41 : decode cX9_put 41 = .ok (.invokevirtual 302, 3) := by decide +kernel
theorem dX9_put_44 : decode cX9_put 44 = .ok (.iconst 1, 1) := by decide +kernel
theorem dX9_put_45 : decode cX9_put 45 = .ok (.ireturn, 1) := by decide +kernel
theorem dX9_item_0 : decode cX9_item 0 = .ok (.aload_n 0, 1) := by decide +kernel
theorem dX9_item_1 : decode cX9_item 1 = .ok (.iload_n 1, 1) := by decide +kernel
theorem dX9_item_2 : decode cX9_item 2 = .ok (.invokevirtual 275, 3) := by decide +kernel
theorem dX9_item_5 : decode cX9_item 5 = .ok (.astore 4, 2) := by decide +kernel
theorem dX9_item_7 : decode cX9_item 7 = .ok (.aload 4, 2) := by decide +kernel
theorem dX9_item_9 : decode cX9_item 9 = .ok (.ifnull 12, 3) := by decide +kernel
theorem dX9_item_12 : decode cX9_item 12 = .ok (.iload_n 2, 1) := by decide +kernel
theorem dX9_item_13 : decode cX9_item 13 = .ok (.iconst 0, 1) := by decide +kernel
theorem dX9_item_14 : decode cX9_item 14 = .ok (.iconst 3, 1) := by decide +kernel
theorem dX9_item_15 : decode cX9_item 15 = .ok (.invokestatic 71, 3) := by decide +kernel
theorem dX9_item_18 : decode cX9_item 18 = .ok (.ifCond .ne 5, 3) := by decide +kernel
theorem dX9_item_21 : decode cX9_item 21 = .ok (.iconst (-1), 1) := by decide +kernel
theorem dX9_item_22 : decode cX9_item 22 = .ok (.ireturn, 1) := by decide +kernel
theorem dX9_item_23 : decode cX9_item 23 = .ok (.aload 4, 2) := by decide +kernel
theorem dX9_item_25 : decode cX9_item 25 = .ok (.invokevirtual 279, 3) := by decide +kernel
theorem dX9_item_28 : decode cX9_item 28 = .ok (.ifCond .eq 6, 3) := by decide +kernel
theorem dX9_item_31 : decode cX9_item 31 = .ok (.bipush (-11), 2) := by decide +kernel
theorem dX9_item_33 : decode cX9_item 33 = .ok (.ireturn, 1) := by decide +kernel
theorem dX9_item_34 : decode cX9_item 34 = .ok (.aload 4, 2) := by decide +kernel
theorem dX9_item_36 : decode cX9_item 36 = .ok (.getfield 283, 3) := by decide +kernel
theorem dX9_item_39 : decode cX9_item 39 = .ok (.iload_n 2, 1) := by decide +kernel
theorem dX9_item_40 : decode cX9_item 40 = .ok (.if_icmp .eq 6, 3) := by decide +kernel
theorem dX9_item_43 : decode cX9_item 43 = .ok (.bipush (-13), 2) := by decide +kernel
theorem dX9_item_45 : decode cX9_item 45 = .ok (.ireturn, 1) := by decide +kernel
theorem dX9_item_46 : decode cX9_item 46 = .ok (.aload 4, 2) := by decide +kernel
theorem dX9_item_48 : decode cX9_item 48 = .ok (.iload_n 3, 1) := by decide +kernel
theorem dX9_item_49 : decode cX9_item 49 = .ok (.invokevirtual 299, 3) := by decide +kernel
theorem dX9_item_52 : decode cX9_item 52 = .ok (.ifCond .ne 6, 3) := by decide +kernel
theorem dX9_item_55 : decode cX9_item 55 = .ok (.bipush (-12), 2) := by decide +kernel
theorem dX9_item_57 : decode cX9_item 57 = .ok (.ireturn, 1) := by decide +kernel
theorem dX9_item_58 : decode cX9_item 58 = .ok (.aload 4, 2) := by decide +kernel
theorem dX9_item_60 : decode cX9_item 60 = .ok (.iload_n 3, 1) := by decide +kernel
theorem dX9_item_61 : decode cX9_item 61 = .ok (.invokevirtual 289, 3) := by decide +kernel
theorem dX9_item_64 : decode cX9_item 64 = .ok (.ireturn, 1) := by decide +kernel
theorem dX9_shelf_0 : decode cX9_shelf 0 = .ok (.aload_n 0, 1) := by decide +kernel
theorem dX9_shelf_1 : decode cX9_shelf 1 = .ok (.iload_n 1, 1) := by decide +kernel
theorem dX9_shelf_2 : decode cX9_shelf 2 = .ok (.invokevirtual 305, 3) := by decide +kernel
theorem dX9_shelf_5 : decode cX9_shelf 5 = .ok (.astore 4, 2) := by decide +kernel
theorem dX9_shelf_7 : decode cX9_shelf 7 = .ok (.aload 4, 2) := by decide +kernel
theorem dX9_shelf_9 : decode cX9_shelf 9 = .ok (.ifnonnull 5, 3) := by decide +kernel
theorem dX9_shelf_12 : decode cX9_shelf 12 = .ok (.iconst (-1), 1) := by decide +kernel
theorem dX9_shelf_13 : decode cX9_shelf 13 = .ok (.ireturn, 1) := by decide +kernel
theorem dX9_shelf_14 : decode cX9_shelf 14 = .ok (.iload_n 2, 1) := by decide +kernel
theorem dX9_shelf_15 : decode cX9_shelf 15 = .ok (.tableswitch 76 0 2 #[25, 46, 69], 25) := by decide +kernel
theorem dX9_shelf_40 : decode cX9_shelf 40 = .ok (.aload_n 0, 1) := by decide +kernel
theorem dX9_shelf_41 : decode cX9_shelf 41 = .ok (.getfield 12, 3) := by decide +kernel
theorem dX9_shelf_44 : decode cX9_shelf 44 = .ok (.iload_n 3, 1) := by decide +kernel
theorem dX9_shelf_45 : decode cX9_shelf 45 = .ok (.invokevirtual 138, 3) := by decide +kernel
theorem dX9_shelf_48 : decode cX9_shelf 48 = .ok (.ifnonnull 5, 3) := by decide +kernel
theorem dX9_shelf_51 : decode cX9_shelf 51 = .ok (.iconst (-1), 1) := by decide +kernel
theorem dX9_shelf_52 : decode cX9_shelf 52 = .ok (.ireturn, 1) := by decide +kernel
theorem dX9_shelf_53 : decode cX9_shelf 53 = .ok (.aload 4, 2) := by decide +kernel
theorem dX9_shelf_55 : decode cX9_shelf 55 = .ok (.iload_n 3, 1) := by decide +kernel
theorem dX9_shelf_56 : decode cX9_shelf 56 = .ok (.invokevirtual 309, 3) := by decide +kernel
theorem dX9_shelf_59 : decode cX9_shelf 59 = .ok (.iconst 1, 1) := by decide +kernel
theorem dX9_shelf_60 : decode cX9_shelf 60 = .ok (.ireturn, 1) := by decide +kernel
theorem dX9_shelf_61 : decode cX9_shelf 61 = .ok (.aload_n 0, 1) := by decide +kernel
theorem dX9_shelf_62 : decode cX9_shelf 62 = .ok (.iload_n 3, 1) := by decide +kernel
theorem dX9_shelf_63 : decode cX9_shelf 63 = .ok (.invokevirtual 275, 3) := by decide +kernel
theorem dX9_shelf_66 : decode cX9_shelf 66 = .ok (.astore 5, 2) := by decide +kernel
theorem dX9_shelf_68 : decode cX9_shelf 68 = .ok (.aload 5, 2) := by decide +kernel
theorem dX9_shelf_70 : decode cX9_shelf 70 = .ok (.ifnonnull 5, 3) := by decide +kernel
theorem dX9_shelf_73 : decode cX9_shelf 73 = .ok (.iconst (-1), 1) := by decide +kernel
theorem dX9_shelf_74 : decode cX9_shelf 74 = .ok (.ireturn, 1) := by decide +kernel
theorem dX9_shelf_75 : decode cX9_shelf 75 = .ok (.aload 4, 2) := by decide +kernel
theorem dX9_shelf_77 : decode cX9_shelf 77 = .ok (.aload 5, 2) := by decide +kernel
theorem dX9_shelf_79 : decode cX9_shelf 79 = .ok (.invokevirtual 312, 3) := by decide +kernel
theorem dX9_shelf_82 : decode cX9_shelf 82 = .ok (.iconst 1, 1) := by decide +kernel
theorem dX9_shelf_83 : decode cX9_shelf 83 = .ok (.ireturn, 1) := by decide +kernel
theorem dX9_shelf_84 : decode cX9_shelf 84 = .ok (.aload 4, 2) := by decide +kernel
theorem dX9_shelf_86 : decode cX9_shelf 86 = .ok (.invokevirtual 316, 3) := by decide +kernel
theorem dX9_shelf_89 : decode cX9_shelf 89 = .ok (.iconst 1, 1) := by decide +kernel
theorem dX9_shelf_90 : decode cX9_shelf 90 = .ok (.ireturn, 1) := by decide +kernel
theorem dX9_shelf_91 : decode cX9_shelf 91 = .ok (.iconst (-1), 1) := by decide +kernel
theorem dX9_shelf_92 : decode cX9_shelf 92 = .ok (.ireturn, 1) := by decide +kernel
theorem dX9_taken_0 : decode cX9_taken 0 = .ok (.aload_n 0, 1) := by decide +kernel
theorem dX9_taken_1 : decode cX9_taken 1 = .ok (.iload_n 1, 1) := by decide +kernel
theorem dX9_taken_2 : decode cX9_taken 2 = .ok (.invokevirtual 305, 3) := by decide +kernel
theorem dX9_taken_5 : decode cX9_taken 5 = .ok (.astore_n 3, 1) := by decide +kernel
theorem dX9_taken_6 : decode cX9_taken 6 = .ok (.iload_n 2, 1) := by decide +kernel
theorem dX9_taken_7 : decode cX9_taken 7 = .ok (.bipush 10, 2) := by decide +kernel
theorem dX9_taken_9 : decode cX9_taken 9 = .ok (.bipush 13, 2) := by decide +kernel
theorem dX9_taken_11 : decode cX9_taken 11 = .ok (.invokestatic 71, 3) := by decide +kernel
theorem dX9_taken_14 : decode cX9_taken 14 = .ok (.istore 4, 2) := by decide +kernel
theorem dX9_taken_16 : decode cX9_taken 16 = .ok (.aload_n 3, 1) := by decide +kernel
theorem dX9_taken_17 : decode cX9_taken 17 = .ok (.ifnull 17, 3) := by decide +kernel
theorem dX9_taken_20 : decode cX9_taken 20 = .ok (.iload 4, 2) := by decide +kernel
theorem dX9_taken_22 : decode cX9_taken 22 = .ok (.ifCond .ne 14, 3) := by decide +kernel
theorem dX9_taken_25 : decode cX9_taken 25 = .ok (.iload_n 2, 1) := by decide +kernel
theorem dX9_taken_26 : decode cX9_taken 26 = .ok (.iconst 0, 1) := by decide +kernel
theorem dX9_taken_27 : decode cX9_taken 27 = .ok (.iconst 5, 1) := by decide +kernel
theorem dX9_taken_28 : decode cX9_taken 28 = .ok (.invokestatic 71, 3) := by decide +kernel
theorem dX9_taken_31 : decode cX9_taken 31 = .ok (.ifCond .ne 5, 3) := by decide +kernel
theorem dX9_taken_34 : decode cX9_taken 34 = .ok (.iconst (-1), 1) := by decide +kernel
theorem dX9_taken_35 : decode cX9_taken 35 = .ok (.ireturn, 1) := by decide +kernel
theorem dX9_taken_36 : decode cX9_taken 36 = .ok (.aload_n 3, 1) := by decide +kernel
theorem dX9_taken_37 : decode cX9_taken 37 = .ok (.invokevirtual 319, 3) := by decide +kernel
theorem dX9_taken_40 : decode cX9_taken 40 = .ok (.ifCond .eq 29, 3) := by decide +kernel
theorem dX9_taken_43 : decode cX9_taken 43 = .ok (.iload 4, 2) := by decide +kernel
theorem dX9_taken_45 : decode cX9_taken 45 = .ok (.ifCond .eq 21, 3) := by decide +kernel
theorem dX9_taken_48 : decode cX9_taken 48 = .ok (.aload_n 3, 1) := by decide +kernel
theorem dX9_taken_49 : decode cX9_taken 49 = .ok (.getfield 322, 3) := by decide +kernel
theorem dX9_taken_52 : decode cX9_taken 52 = .ok (.iload_n 2, 1) := by decide +kernel
theorem dX9_taken_53 : decode cX9_taken 53 = .ok (.bipush 10, 2) := by decide +kernel
theorem dX9_taken_55 : decode cX9_taken 55 = .ok (.isub, 1) := by decide +kernel
theorem dX9_taken_56 : decode cX9_taken 56 = .ok (.if_icmp .ne 10, 3) := by decide +kernel
theorem dX9_taken_59 : decode cX9_taken 59 = .ok (.aload_n 3, 1) := by decide +kernel
theorem dX9_taken_60 : decode cX9_taken 60 = .ok (.getfield 323, 3) := by decide +kernel
theorem dX9_taken_63 : decode cX9_taken 63 = .ok (.goto 5, 3) := by decide +kernel
theorem dX9_taken_66 : decode cX9_taken 66 = .ok (.bipush (-13), 2) := by decide +kernel
theorem dX9_taken_68 : decode cX9_taken 68 = .ok (.ireturn, 1) := by decide +kernel
theorem dX9_taken_69 : decode cX9_taken 69 = .ok (.aload_n 0, 1) := by decide +kernel
theorem dX9_taken_70 : decode cX9_taken 70 = .ok (.getfield 12, 3) := by decide +kernel
theorem dX9_taken_73 : decode cX9_taken 73 = .ok (.aload_n 3, 1) := by decide +kernel
theorem dX9_taken_74 : decode cX9_taken 74 = .ok (.getfield 324, 3) := by decide +kernel
theorem dX9_taken_77 : decode cX9_taken 77 = .ok (.invokevirtual 138, 3) := by decide +kernel
theorem dX9_taken_80 : decode cX9_taken 80 = .ok (.astore 5, 2) := by decide +kernel
theorem dX9_taken_82 : decode cX9_taken 82 = .ok (.aload 5, 2) := by decide +kernel
theorem dX9_taken_84 : decode cX9_taken 84 = .ok (.ifnonnull 6, 3) := by decide +kernel
theorem dX9_taken_87 : decode cX9_taken 87 = .ok (.bipush (-11), 2) := by decide +kernel
theorem dX9_taken_89 : decode cX9_taken 89 = .ok (.ireturn, 1) := by decide +kernel
theorem dX9_taken_90 : decode cX9_taken 90 = .ok (.iload 4, 2) := by decide +kernel
theorem dX9_taken_92 : decode cX9_taken 92 = .ok (.ifCond .ne 22, 3) := by decide +kernel
theorem dX9_taken_95 : decode cX9_taken 95 = .ok (.aload 5, 2) := by decide +kernel
theorem dX9_taken_97 : decode cX9_taken 97 = .ok (.getfield 142, 3) := by decide +kernel
theorem dX9_taken_100 : decode cX9_taken 100 = .ok (.iload_n 2, 1) := by decide +kernel
theorem dX9_taken_101 : decode cX9_taken 101 = .ok (.invokestatic 327, 3) := by decide +kernel
theorem dX9_taken_104 : decode cX9_taken 104 = .ok (.ifCond .eq 10, 3) := by decide +kernel
theorem dX9_taken_107 : decode cX9_taken 107 = .ok (.aload_n 3, 1) := by decide +kernel
theorem dX9_taken_108 : decode cX9_taken 108 = .ok (.getfield 324, 3) := by decide +kernel
theorem dX9_taken_111 : decode cX9_taken 111 = .ok (.goto 5, 3) := by decide +kernel
theorem dX9_taken_114 : decode cX9_taken 114 = .ok (.bipush (-13), 2) := by decide +kernel
theorem dX9_taken_116 : decode cX9_taken 116 = .ok (.ireturn, 1) := by decide +kernel
theorem dX9_act_0 : decode cX9_act 0 = .ok (.aload_n 0, 1) := by decide +kernel
theorem dX9_act_1 : decode cX9_act 1 = .ok (.getfield 65, 3) := by decide +kernel
theorem dX9_act_4 : decode cX9_act 4 = .ok (.invokevirtual 330, 3) := by decide +kernel
theorem dX9_act_7 : decode cX9_act 7 = .ok (.aload_n 0, 1) := by decide +kernel
theorem dX9_act_8 : decode cX9_act 8 = .ok (.iload_n 1, 1) := by decide +kernel
theorem dX9_act_9 : decode cX9_act 9 = .ok (.invokevirtual 305, 3) := by decide +kernel
theorem dX9_act_12 : decode cX9_act 12 = .ok (.astore 4, 2) := by decide +kernel
theorem dX9_act_14 : decode cX9_act 14 = .ok (.aload 4, 2) := by decide +kernel
theorem dX9_act_16 : decode cX9_act 16 = .ok (.ifnull 20, 3) := by decide +kernel
theorem dX9_act_19 : decode cX9_act 19 = .ok (.aload 4, 2) := by decide +kernel
theorem dX9_act_21 : decode cX9_act 21 = .ok (.invokevirtual 319, 3) := by decide +kernel
theorem dX9_act_24 : decode cX9_act 24 = .ok (.ifCond .ne 12, 3) := by decide +kernel
theorem dX9_act_27 : decode cX9_act 27 = .ok (.iload_n 2, 1) := by decide +kernel
theorem dX9_act_28 : decode cX9_act 28 = .ok (.iconst 0, 1) := by decide +kernel
theorem dX9_act_29 : decode cX9_act 29 = .ok (.iconst 3, 1) := by decide +kernel
theorem dX9_act_30 : decode cX9_act 30 = .ok (.invokestatic 71, 3) := by decide +kernel
theorem dX9_act_33 : decode cX9_act 33 = .ok (.ifCond .ne 5, 3) := by decide +kernel
theorem dX9_act_36 : decode cX9_act 36 = .ok (.iconst 0, 1) := by decide +kernel
theorem dX9_act_37 : decode cX9_act 37 = .ok (.ireturn, 1) := by decide +kernel
theorem dX9_act_38 : decode cX9_act 38 = .ok (.aload_n 0, 1) := by decide +kernel
theorem dX9_act_39 : decode cX9_act 39 = .ok (.getfield 12, 3) := by decide +kernel
theorem dX9_act_42 : decode cX9_act 42 = .ok (.aload 4, 2) := by decide +kernel
theorem dX9_act_44 : decode cX9_act 44 = .ok (.getfield 324, 3) := by decide +kernel
theorem dX9_act_47 : decode cX9_act 47 = .ok (.invokevirtual 138, 3) := by decide +kernel
theorem dX9_act_50 : decode cX9_act 50 = .ok (.astore 5, 2) := by decide +kernel
theorem dX9_act_52 : decode cX9_act 52 = .ok (.aload 5, 2) := by decide +kernel
theorem dX9_act_54 : decode cX9_act 54 = .ok (.ifnonnull 5, 3) := by decide +kernel
theorem dX9_act_57 : decode cX9_act 57 = .ok (.iconst 0, 1) := by decide +kernel
theorem dX9_act_58 : decode cX9_act 58 = .ok (.ireturn, 1) := by decide +kernel
theorem dX9_act_59 : decode cX9_act 59 = .ok (.aload_n 0, 1) := by decide +kernel
theorem dX9_act_60 : decode cX9_act 60 = .ok (.getfield 65, 3) := by decide +kernel
theorem dX9_act_63 : decode cX9_act 63 = .ok (.aload 5, 2) := by decide +kernel
theorem dX9_act_65 : decode cX9_act 65 = .ok (.aload 4, 2) := by decide +kernel
theorem dX9_act_67 : decode cX9_act 67 = .ok (.getfield 324, 3) := by decide +kernel
theorem dX9_act_70 : decode cX9_act 70 = .ok (.iload_n 2, 1) := by decide +kernel
theorem dX9_act_71 : decode cX9_act 71 = .ok (.iload_n 3, 1) := by decide +kernel
theorem dX9_act_72 : decode cX9_act 72 = .ok (.invokevirtual 331, 3) := by decide +kernel
theorem dX9_act_75 : decode cX9_act 75 = .ok (.ireturn, 1) := by decide +kernel
theorem dX9_trace_0 : decode cX9_trace 0 = .ok (.aload_n 0, 1) := by decide +kernel
theorem dX9_trace_1 : decode cX9_trace 1 = .ok (.getfield 65, 3) := by decide +kernel
theorem dX9_trace_4 : decode cX9_trace 4 = .ok (.iload_n 1, 1) := by decide +kernel
theorem dX9_trace_5 : decode cX9_trace 5 = .ok (.invokevirtual 335, 3) := by decide +kernel
theorem dX9_trace_8 : decode cX9_trace 8 = .ok (.ireturn, 1) := by decide +kernel
theorem dX9_many_0 : decode cX9_many 0 = .ok (.iload_n 1, 1) := by decide +kernel
theorem dX9_many_1 : decode cX9_many 1 = .ok (.tableswitch 87 0 5 #[39, 47, 55, 63, 71, 79], 39) := by decide +kernel
theorem dX9_many_40 : decode cX9_many 40 = .ok (.aload_n 0, 1) := by decide +kernel
theorem dX9_many_41 : decode cX9_many 41 = .ok (.getfield 12, 3) := by decide +kernel
theorem dX9_many_44 : decode cX9_many 44 = .ok (.getfield 96, 3) := by decide +kernel
theorem dX9_many_47 : decode cX9_many 47 = .ok (.ireturn, 1) := by decide +kernel
theorem dX9_many_48 : decode cX9_many 48 = .ok (.aload_n 0, 1) := by decide +kernel
theorem dX9_many_49 : decode cX9_many 49 = .ok (.getfield 12, 3) := by decide +kernel
theorem dX9_many_52 : decode cX9_many 52 = .ok (.getfield 338, 3) := by decide +kernel
theorem dX9_many_55 : decode cX9_many 55 = .ok (.ireturn, 1) := by decide +kernel
theorem dX9_many_56 : decode cX9_many 56 = .ok (.aload_n 0, 1) := by decide +kernel
theorem dX9_many_57 : decode cX9_many 57 = .ok (.getfield 12, 3) := by decide +kernel
theorem dX9_many_60 : decode cX9_many 60 = .ok (.invokevirtual 238, 3) := by decide +kernel
theorem dX9_many_63 : decode cX9_many 63 = .ok (.ireturn, 1) := by decide +kernel
theorem dX9_many_64 : decode cX9_many 64 = .ok (.aload_n 0, 1) := by decide +kernel
theorem dX9_many_65 : decode cX9_many 65 = .ok (.getfield 43, 3) := by decide +kernel
theorem dX9_many_68 : decode cX9_many 68 = .ok (.getfield 257, 3) := by decide +kernel
theorem dX9_many_71 : decode cX9_many 71 = .ok (.ireturn, 1) := by decide +kernel
theorem dX9_many_72 : decode cX9_many 72 = .ok (.aload_n 0, 1) := by decide +kernel
theorem dX9_many_73 : decode cX9_many 73 = .ok (.getfield 29, 3) := by decide +kernel
theorem dX9_many_76 : decode cX9_many 76 = .ok (.getfield 341, 3) := by decide +kernel
theorem dX9_many_79 : decode cX9_many 79 = .ok (.ireturn, 1) := by decide +kernel
theorem dX9_many_80 : decode cX9_many 80 = .ok (.aload_n 0, 1) := by decide +kernel
theorem dX9_many_81 : decode cX9_many 81 = .ok (.getfield 65, 3) := by decide +kernel
theorem dX9_many_84 : decode cX9_many 84 = .ok (.getfield 342, 3) := by decide +kernel
theorem dX9_many_87 : decode cX9_many 87 = .ok (.ireturn, 1) := by decide +kernel
theorem dX9_many_88 : decode cX9_many 88 = .ok (.iconst (-1), 1) := by decide +kernel
theorem dX9_many_89 : decode cX9_many 89 = .ok (.ireturn, 1) := by decide +kernel
theorem dX9_keep_0 : decode cX9_keep 0 = .ok (.aload_n 0, 1) := by decide +kernel
theorem dX9_keep_1 : decode cX9_keep 1 = .ok (.getfield 16, 3) := by decide +kernel
theorem dX9_keep_4 : decode cX9_keep 4 = .ok (.aload_n 0, 1) := by decide +kernel
theorem dX9_keep_5 : decode cX9_keep 5 = .ok (.getfield 12, 3) := by decide +kernel
theorem dX9_keep_8 : decode cX9_keep 8 = .ok (.invokevirtual 91, 3) := by decide +kernel
theorem dX9_keep_11 : decode cX9_keep 11 = .ok (.aload_n 0, 1) := by decide +kernel
theorem dX9_keep_12 : decode cX9_keep 12 = .ok (.iconst 1, 1) := by decide +kernel
theorem dX9_keep_13 : decode cX9_keep 13 = .ok (.putfield 19, 3) := by decide +kernel
theorem dX9_keep_16 : decode cX9_keep 16 = .ok (.iconst 1, 1) := by decide +kernel
theorem dX9_keep_17 : decode cX9_keep 17 = .ok (.ireturn, 1) := by decide +kernel
theorem dX9_again_0 : decode cX9_again 0 = .ok (.aload_n 0, 1) := by decide +kernel
theorem dX9_again_1 : decode cX9_again 1 = .ok (.getfield 19, 3) := by decide +kernel
theorem dX9_again_4 : decode cX9_again 4 = .ok (.ifCond .ne 6, 3) := by decide +kernel
theorem dX9_again_7 : decode cX9_again 7 = .ok (.bipush (-3), 2) := by decide +kernel
theorem dX9_again_9 : decode cX9_again 9 = .ok (.ireturn, 1) := by decide +kernel
theorem dX9_again_10 : decode cX9_again 10 = .ok (.aload_n 0, 1) := by decide +kernel
theorem dX9_again_11 : decode cX9_again 11 = .ok (.getfield 12, 3) := by decide +kernel
theorem dX9_again_14 : decode cX9_again 14 = .ok (.aload_n 0, 1) := by decide +kernel
theorem dX9_again_15 : decode cX9_again 15 = .ok (.getfield 16, 3) := by decide +kernel
theorem dX9_again_18 : decode cX9_again 18 = .ok (.invokevirtual 91, 3) := by decide +kernel
theorem dX9_again_21 : decode cX9_again 21 = .ok (.aload_n 0, 1) := by decide +kernel
theorem dX9_again_22 : decode cX9_again 22 = .ok (.getfield 12, 3) := by decide +kernel
theorem dX9_again_25 : decode cX9_again 25 = .ok (.getfield 96, 3) := by decide +kernel
theorem dX9_again_28 : decode cX9_again 28 = .ok (.ireturn, 1) := by decide +kernel
theorem dX9_sheetAt_0 : decode cX9_sheetAt 0 = .ok (.iload_n 1, 1) := by decide +kernel
theorem dX9_sheetAt_1 : decode cX9_sheetAt 1 = .ok (.iconst 0, 1) := by decide +kernel
theorem dX9_sheetAt_2 : decode cX9_sheetAt 2 = .ok (.iconst 3, 1) := by decide +kernel
theorem dX9_sheetAt_3 : decode cX9_sheetAt 3 = .ok (.invokestatic 71, 3) := by decide +kernel
theorem dX9_sheetAt_6 : decode cX9_sheetAt 6 = .ok (.ifCond .eq 12, 3) := by decide +kernel
theorem dX9_sheetAt_9 : decode cX9_sheetAt 9 = .ok (.aload_n 0, 1) := by decide +kernel
theorem dX9_sheetAt_10 : decode cX9_sheetAt 10 = .ok (.getfield 52, 3) := by decide +kernel
theorem dX9_sheetAt_13 : decode cX9_sheetAt 13 = .ok (.iload_n 1, 1) := by decide +kernel
theorem dX9_sheetAt_14 : decode cX9_sheetAt 14 = .ok (.aaload, 1) := by decide +kernel
theorem dX9_sheetAt_15 : decode cX9_sheetAt 15 = .ok (.goto 4, 3) := by decide +kernel
theorem dX9_sheetAt_18 : decode cX9_sheetAt 18 = .ok (.aconst_null, 1) := by decide +kernel
theorem dX9_sheetAt_19 : decode cX9_sheetAt 19 = .ok (.areturn, 1) := by decide +kernel
theorem dX9_shelfAt_0 : decode cX9_shelfAt 0 = .ok (.iload_n 1, 1) := by decide +kernel
theorem dX9_shelfAt_1 : decode cX9_shelfAt 1 = .ok (.iconst 0, 1) := by decide +kernel
theorem dX9_shelfAt_2 : decode cX9_shelfAt 2 = .ok (.iconst 3, 1) := by decide +kernel
theorem dX9_shelfAt_3 : decode cX9_shelfAt 3 = .ok (.invokestatic 71, 3) := by decide +kernel
theorem dX9_shelfAt_6 : decode cX9_shelfAt 6 = .ok (.ifCond .eq 12, 3) := by decide +kernel
theorem dX9_shelfAt_9 : decode cX9_shelfAt 9 = .ok (.aload_n 0, 1) := by decide +kernel
theorem dX9_shelfAt_10 : decode cX9_shelfAt 10 = .ok (.getfield 58, 3) := by decide +kernel
theorem dX9_shelfAt_13 : decode cX9_shelfAt 13 = .ok (.iload_n 1, 1) := by decide +kernel
theorem dX9_shelfAt_14 : decode cX9_shelfAt 14 = .ok (.aaload, 1) := by decide +kernel
theorem dX9_shelfAt_15 : decode cX9_shelfAt 15 = .ok (.goto 4, 3) := by decide +kernel
theorem dX9_shelfAt_18 : decode cX9_shelfAt 18 = .ok (.aconst_null, 1) := by decide +kernel
theorem dX9_shelfAt_19 : decode cX9_shelfAt 19 = .ok (.areturn, 1) := by decide +kernel
theorem dX9_within_0 : decode cX9_within 0 = .ok (.iload_n 0, 1) := by decide +kernel
theorem dX9_within_1 : decode cX9_within 1 = .ok (.iload_n 1, 1) := by decide +kernel
theorem dX9_within_2 : decode cX9_within 2 = .ok (.if_icmp .lt 12, 3) := by decide +kernel
theorem dX9_within_5 : decode cX9_within 5 = .ok (.iload_n 0, 1) := by decide +kernel
theorem dX9_within_6 : decode cX9_within 6 = .ok (.iload_n 2, 1) := by decide +kernel
theorem dX9_within_7 : decode cX9_within 7 = .ok (.if_icmp .gt 7, 3) := by decide +kernel
theorem dX9_within_10 : decode cX9_within 10 = .ok (.iconst 1, 1) := by decide +kernel
theorem dX9_within_11 : decode cX9_within 11 = .ok (.goto 4, 3) := by decide +kernel
theorem dX9_within_14 : decode cX9_within 14 = .ok (.iconst 0, 1) := by decide +kernel
theorem dX9_within_15 : decode cX9_within 15 = .ok (.ireturn, 1) := by decide +kernel
theorem dX9_kindAbove_0 : decode cX9_kindAbove 0 = .ok (.iload_n 0, 1) := by decide +kernel
theorem dX9_kindAbove_1 : decode cX9_kindAbove 1 = .ok (.tableswitch 31 3 5 #[27, 29, 27], 27) := by decide +kernel
theorem dX9_kindAbove_28 : decode cX9_kindAbove 28 = .ok (.iconst 1, 1) := by decide +kernel
theorem dX9_kindAbove_29 : decode cX9_kindAbove 29 = .ok (.ireturn, 1) := by decide +kernel
theorem dX9_kindAbove_30 : decode cX9_kindAbove 30 = .ok (.iconst 2, 1) := by decide +kernel
theorem dX9_kindAbove_31 : decode cX9_kindAbove 31 = .ok (.ireturn, 1) := by decide +kernel
theorem dX9_kindAbove_32 : decode cX9_kindAbove 32 = .ok (.iconst 0, 1) := by decide +kernel
theorem dX9_kindAbove_33 : decode cX9_kindAbove 33 = .ok (.ireturn, 1) := by decide +kernel
theorem dX9_isUnder_0 : decode cX9_isUnder 0 = .ok (.iload_n 0, 1) := by decide +kernel
theorem dX9_isUnder_1 : decode cX9_isUnder 1 = .ok (.invokestatic 343, 3) := by decide +kernel
theorem dX9_isUnder_4 : decode cX9_isUnder 4 = .ok (.istore_n 2, 1) := by decide +kernel
theorem dX9_isUnder_5 : decode cX9_isUnder 5 = .ok (.iload_n 0, 1) := by decide +kernel
theorem dX9_isUnder_6 : decode cX9_isUnder 6 = .ok (.iload_n 1, 1) := by decide +kernel
theorem dX9_isUnder_7 : decode cX9_isUnder 7 = .ok (.if_icmp .eq 16, 3) := by decide +kernel
theorem dX9_isUnder_10 : decode cX9_isUnder 10 = .ok (.iload_n 2, 1) := by decide +kernel
theorem dX9_isUnder_11 : decode cX9_isUnder 11 = .ok (.iload_n 1, 1) := by decide +kernel
theorem dX9_isUnder_12 : decode cX9_isUnder 12 = .ok (.if_icmp .eq 11, 3) := by decide +kernel
theorem dX9_isUnder_15 : decode cX9_isUnder 15 = .ok (.iload_n 2, 1) := by decide +kernel
theorem dX9_isUnder_16 : decode cX9_isUnder 16 = .ok (.invokestatic 343, 3) := by decide +kernel
theorem dX9_isUnder_19 : decode cX9_isUnder 19 = .ok (.iload_n 1, 1) := by decide +kernel
theorem dX9_isUnder_20 : decode cX9_isUnder 20 = .ok (.if_icmp .ne 7, 3) := by decide +kernel
theorem dX9_isUnder_23 : decode cX9_isUnder 23 = .ok (.iconst 1, 1) := by decide +kernel
theorem dX9_isUnder_24 : decode cX9_isUnder 24 = .ok (.goto 4, 3) := by decide +kernel
theorem dX9_isUnder_27 : decode cX9_isUnder 27 = .ok (.iconst 0, 1) := by decide +kernel
theorem dX9_isUnder_28 : decode cX9_isUnder 28 = .ok (.ireturn, 1) := by decide +kernel
