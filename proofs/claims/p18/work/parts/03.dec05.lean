theorem dX10_goesThrough_124 : decode cX10_goesThrough 124 = .ok (.goto (-119), 3) := by decide +kernel
theorem dX10_goesThrough_127 : decode cX10_goesThrough 127 = .ok (.return_, 1) := by decide +kernel
theorem dX10_tellsBy_0 : decode cX10_tellsBy 0 = .ok (.iconst 0, 1) := by decide +kernel
theorem dX10_tellsBy_1 : decode cX10_tellsBy 1 = .ok (.istore_n 3, 1) := by decide +kernel
theorem dX10_tellsBy_2 : decode cX10_tellsBy 2 = .ok (.iload_n 3, 1) := by decide +kernel
theorem dX10_tellsBy_3 : decode cX10_tellsBy 3 = .ok (.aload_n 0, 1) := by decide +kernel
theorem dX10_tellsBy_4 : decode cX10_tellsBy 4 = .ok (.getfield 298, 3) := by decide +kernel
theorem dX10_tellsBy_7 : decode cX10_tellsBy 7 = .ok (.if_icmp .ge 119, 3) := by decide +kernel
theorem dX10_tellsBy_10 : decode cX10_tellsBy 10 = .ok (.aload_n 0, 1) := by decide +kernel
theorem dX10_tellsBy_11 : decode cX10_tellsBy 11 = .ok (.getfield 33, 3) := by decide +kernel
theorem dX10_tellsBy_14 : decode cX10_tellsBy 14 = .ok (.iload_n 3, 1) := by decide +kernel
theorem dX10_tellsBy_15 : decode cX10_tellsBy 15 = .ok (.iaload, 1) := by decide +kernel
theorem dX10_tellsBy_16 : decode cX10_tellsBy 16 = .ok (.iload_n 1, 1) := by decide +kernel
theorem dX10_tellsBy_17 : decode cX10_tellsBy 17 = .ok (.if_icmp .eq 6, 3) := by decide +kernel
theorem dX10_tellsBy_20 : decode cX10_tellsBy 20 = .ok (.goto 100, 3) := by decide +kernel
theorem dX10_tellsBy_23 : decode cX10_tellsBy 23 = .ok (.aload_n 0, 1) := by decide +kernel
theorem dX10_tellsBy_24 : decode cX10_tellsBy 24 = .ok (.aload_n 0, 1) := by decide +kernel
theorem dX10_tellsBy_25 : decode cX10_tellsBy 25 = .ok (.getfield 39, 3) := by decide +kernel
theorem dX10_tellsBy_28 : decode cX10_tellsBy 28 = .ok (.iload_n 3, 1) := by decide +kernel
theorem dX10_tellsBy_29 : decode cX10_tellsBy 29 = .ok (.iaload, 1) := by decide +kernel
theorem dX10_tellsBy_30 : decode cX10_tellsBy 30 = .ok (.aload_n 0, 1) := by decide +kernel
theorem dX10_tellsBy_31 : decode cX10_tellsBy 31 = .ok (.getfield 42, 3) := by decide +kernel
theorem dX10_tellsBy_34 : decode cX10_tellsBy 34 = .ok (.iload_n 3, 1) := by decide +kernel
theorem dX10_tellsBy_35 : decode cX10_tellsBy 35 = .ok (.iaload, 1) := by decide +kernel
theorem dX10_tellsBy_36 : decode cX10_tellsBy 36 = .ok (.invokevirtual 339, 3) := by decide +kernel
theorem dX10_tellsBy_39 : decode cX10_tellsBy 39 = .ok (.aload_n 0, 1) := by decide +kernel
theorem dX10_tellsBy_40 : decode cX10_tellsBy 40 = .ok (.getfield 75, 3) := by decide +kernel
theorem dX10_tellsBy_43 : decode cX10_tellsBy 43 = .ok (.iconst 0, 1) := by decide +kernel
theorem dX10_tellsBy_44 : decode cX10_tellsBy 44 = .ok (.baload, 1) := by decide +kernel
theorem dX10_tellsBy_45 : decode cX10_tellsBy 45 = .ok (.ifCond .ne 75, 3) := by decide +kernel
theorem dX10_tellsBy_48 : decode cX10_tellsBy 48 = .ok (.aload_n 0, 1) := by decide +kernel
theorem dX10_tellsBy_49 : decode cX10_tellsBy 49 = .ok (.getfield 72, 3) := by decide +kernel
theorem dX10_tellsBy_52 : decode cX10_tellsBy 52 = .ok (.iconst 0, 1) := by decide +kernel
theorem dX10_tellsBy_53 : decode cX10_tellsBy 53 = .ok (.iaload, 1) := by decide +kernel
theorem dX10_tellsBy_54 : decode cX10_tellsBy 54 = .ok (.iconst 1, 1) := by decide +kernel
theorem dX10_tellsBy_55 : decode cX10_tellsBy 55 = .ok (.if_icmp .eq 6, 3) := by decide +kernel
theorem dX10_tellsBy_58 : decode cX10_tellsBy 58 = .ok (.goto 62, 3) := by decide +kernel
theorem dX10_tellsBy_61 : decode cX10_tellsBy 61 = .ok (.aload_n 0, 1) := by decide +kernel
theorem dX10_tellsBy_62 : decode cX10_tellsBy 62 = .ok (.aload_n 0, 1) := by decide +kernel
theorem dX10_tellsBy_63 : decode cX10_tellsBy 63 = .ok (.getfield 36, 3) := by decide +kernel
theorem dX10_tellsBy_66 : decode cX10_tellsBy 66 = .ok (.iload_n 3, 1) := by decide +kernel
theorem dX10_tellsBy_67 : decode cX10_tellsBy 67 = .ok (.iaload, 1) := by decide +kernel
theorem dX10_tellsBy_68 : decode cX10_tellsBy 68 = .ok (.aload_n 0, 1) := by decide +kernel
theorem dX10_tellsBy_69 : decode cX10_tellsBy 69 = .ok (.getfield 39, 3) := by decide +kernel
theorem dX10_tellsBy_72 : decode cX10_tellsBy 72 = .ok (.iload_n 3, 1) := by decide +kernel
theorem dX10_tellsBy_73 : decode cX10_tellsBy 73 = .ok (.iaload, 1) := by decide +kernel
theorem dX10_tellsBy_74 : decode cX10_tellsBy 74 = .ok (.invokevirtual 339, 3) := by decide +kernel
theorem dX10_tellsBy_77 : decode cX10_tellsBy 77 = .ok (.aload_n 0, 1) := by decide +kernel
theorem dX10_tellsBy_78 : decode cX10_tellsBy 78 = .ok (.getfield 75, 3) := by decide +kernel
theorem dX10_tellsBy_81 : decode cX10_tellsBy 81 = .ok (.iconst 0, 1) := by decide +kernel
theorem dX10_tellsBy_82 : decode cX10_tellsBy 82 = .ok (.baload, 1) := by decide +kernel
theorem dX10_tellsBy_83 : decode cX10_tellsBy 83 = .ok (.ifCond .eq 7, 3) := by decide +kernel
theorem dX10_tellsBy_86 : decode cX10_tellsBy 86 = .ok (.iconst 0, 1) := by decide +kernel
theorem dX10_tellsBy_87 : decode cX10_tellsBy 87 = .ok (.goto 9, 3) := by decide +kernel
theorem dX10_tellsBy_90 : decode cX10_tellsBy 90 = .ok (.aload_n 0, 1) := by decide +kernel
theorem dX10_tellsBy_91 : decode cX10_tellsBy 91 = .ok (.getfield 72, 3) := by decide +kernel
theorem dX10_tellsBy_94 : decode cX10_tellsBy 94 = .ok (.iconst 0, 1) := by decide +kernel
theorem dX10_tellsBy_95 : decode cX10_tellsBy 95 = .ok (.iaload, 1) := by decide +kernel
theorem dX10_tellsBy_96 : decode cX10_tellsBy 96 = .ok (.istore 4, 2) := by decide +kernel
theorem dX10_tellsBy_98 : decode cX10_tellsBy 98 = .ok (.iload 4, 2) := by decide +kernel
theorem dX10_tellsBy_100 : decode cX10_tellsBy 100 = .ok (.ifCond .ge 7, 3) := by decide +kernel
theorem dX10_tellsBy_103 : decode cX10_tellsBy 103 = .ok (.iconst 0, 1) := by decide +kernel
theorem dX10_tellsBy_104 : decode cX10_tellsBy 104 = .ok (.goto 15, 3) := by decide +kernel
theorem dX10_tellsBy_107 : decode cX10_tellsBy 107 = .ok (.iload 4, 2) := by decide +kernel
theorem dX10_tellsBy_109 : decode cX10_tellsBy 109 = .ok (.iload_n 2, 1) := by decide +kernel
theorem dX10_tellsBy_110 : decode cX10_tellsBy 110 = .ok (.if_icmp .le 7, 3) := by decide +kernel
theorem dX10_tellsBy_113 : decode cX10_tellsBy 113 = .ok (.iload_n 2, 1) := by decide +kernel
theorem dX10_tellsBy_114 : decode cX10_tellsBy 114 = .ok (.goto 5, 3) := by decide +kernel
theorem dX10_tellsBy_117 : decode cX10_tellsBy 117 = .ok (.iload 4, 2) := by decide +kernel
theorem dX10_tellsBy_119 : decode cX10_tellsBy 119 = .ok (.ireturn, 1) := by decide +kernel
theorem dX10_tellsBy_120 : decode cX10_tellsBy 120 = .ok (.iinc 3 1, 3) := by decide +kernel
theorem dX10_tellsBy_123 : decode cX10_tellsBy 123 = .ok (.goto (-121), 3) := by decide +kernel
theorem dX10_tellsBy_126 : decode cX10_tellsBy 126 = .ok (.iconst 0, 1) := by decide +kernel
theorem dX10_tellsBy_127 : decode cX10_tellsBy 127 = .ok (.ireturn, 1) := by decide +kernel
theorem dX10_byCell_0 : decode cX10_byCell 0 = .ok (.aload_n 0, 1) := by decide +kernel
theorem dX10_byCell_1 : decode cX10_byCell 1 = .ok (.iload_n 2, 1) := by decide +kernel
theorem dX10_byCell_2 : decode cX10_byCell 2 = .ok (.putfield 304, 3) := by decide +kernel
theorem dX10_byCell_5 : decode cX10_byCell 5 = .ok (.aload_n 0, 1) := by decide +kernel
theorem dX10_byCell_6 : decode cX10_byCell 6 = .ok (.iload_n 3, 1) := by decide +kernel
theorem dX10_byCell_7 : decode cX10_byCell 7 = .ok (.putfield 314, 3) := by decide +kernel
theorem dX10_byCell_10 : decode cX10_byCell 10 = .ok (.aload_n 0, 1) := by decide +kernel
theorem dX10_byCell_11 : decode cX10_byCell 11 = .ok (.iconst 0, 1) := by decide +kernel
theorem dX10_byCell_12 : decode cX10_byCell 12 = .ok (.putfield 317, 3) := by decide +kernel
theorem dX10_byCell_15 : decode cX10_byCell 15 = .ok (.aload_n 0, 1) := by decide +kernel
theorem dX10_byCell_16 : decode cX10_byCell 16 = .ok (.iconst 0, 1) := by decide +kernel
theorem dX10_byCell_17 : decode cX10_byCell 17 = .ok (.putfield 320, 3) := by decide +kernel
theorem dX10_byCell_20 : decode cX10_byCell 20 = .ok (.aload_n 0, 1) := by decide +kernel
theorem dX10_byCell_21 : decode cX10_byCell 21 = .ok (.iconst 0, 1) := by decide +kernel
theorem dX10_byCell_22 : decode cX10_byCell 22 = .ok (.putfield 323, 3) := by decide +kernel
theorem dX10_byCell_25 : decode cX10_byCell 25 = .ok (.aload_n 0, 1) := by decide +kernel
theorem dX10_byCell_26 : decode cX10_byCell 26 = .ok (.iload_n 1, 1) := by decide +kernel
theorem dX10_byCell_27 : decode cX10_byCell 27 = .ok (.iload 4, 2) := by decide +kernel
theorem dX10_byCell_29 : decode cX10_byCell 29 = .ok (.invokevirtual 342, 3) := by decide +kernel
theorem dX10_byCell_32 : decode cX10_byCell 32 = .ok (.ireturn, 1) := by decide +kernel
theorem dX10_mistAt_0 : decode cX10_mistAt 0 = .ok (.aload_n 0, 1) := by decide +kernel
theorem dX10_mistAt_1 : decode cX10_mistAt 1 = .ok (.bipush 109, 2) := by decide +kernel
theorem dX10_mistAt_3 : decode cX10_mistAt 3 = .ok (.iload_n 1, 1) := by decide +kernel
theorem dX10_mistAt_4 : decode cX10_mistAt 4 = .ok (.iconst 0, 1) := by decide +kernel
theorem dX10_mistAt_5 : decode cX10_mistAt 5 = .ok (.bipush 99, 2) := by decide +kernel
theorem dX10_mistAt_7 : decode cX10_mistAt 7 = .ok (.invokevirtual 345, 3) := by decide +kernel
theorem dX10_mistAt_10 : decode cX10_mistAt 10 = .ok (.ireturn, 1) := by decide +kernel
theorem dX10_yardsAt_0 : decode cX10_yardsAt 0 = .ok (.aload_n 0, 1) := by decide +kernel
theorem dX10_yardsAt_1 : decode cX10_yardsAt 1 = .ok (.bipush 121, 2) := by decide +kernel
theorem dX10_yardsAt_3 : decode cX10_yardsAt 3 = .ok (.iload_n 1, 1) := by decide +kernel
theorem dX10_yardsAt_4 : decode cX10_yardsAt 4 = .ok (.aload_n 0, 1) := by decide +kernel
theorem dX10_yardsAt_5 : decode cX10_yardsAt 5 = .ok (.iload_n 1, 1) := by decide +kernel
theorem dX10_yardsAt_6 : decode cX10_yardsAt 6 = .ok (.invokevirtual 349, 3) := by decide +kernel
theorem dX10_yardsAt_9 : decode cX10_yardsAt 9 = .ok (.sipush 999, 3) := by decide +kernel
theorem dX10_yardsAt_12 : decode cX10_yardsAt 12 = .ok (.invokevirtual 345, 3) := by decide +kernel
theorem dX10_yardsAt_15 : decode cX10_yardsAt 15 = .ok (.ireturn, 1) := by decide +kernel
theorem dX10_levelAt_0 : decode cX10_levelAt 0 = .ok (.bipush 10, 2) := by decide +kernel
theorem dX10_levelAt_2 : decode cX10_levelAt 2 = .ok (.aload_n 0, 1) := by decide +kernel
theorem dX10_levelAt_3 : decode cX10_levelAt 3 = .ok (.getfield 17, 3) := by decide +kernel
theorem dX10_levelAt_6 : decode cX10_levelAt 6 = .ok (.iload_n 1, 1) := by decide +kernel
theorem dX10_levelAt_7 : decode cX10_levelAt 7 = .ok (.iaload, 1) := by decide +kernel
theorem dX10_levelAt_8 : decode cX10_levelAt 8 = .ok (.imul, 1) := by decide +kernel
theorem dX10_levelAt_9 : decode cX10_levelAt 9 = .ok (.aload_n 0, 1) := by decide +kernel
theorem dX10_levelAt_10 : decode cX10_levelAt 10 = .ok (.getfield 24, 3) := by decide +kernel
theorem dX10_levelAt_13 : decode cX10_levelAt 13 = .ok (.iload_n 1, 1) := by decide +kernel
theorem dX10_levelAt_14 : decode cX10_levelAt 14 = .ok (.iaload, 1) := by decide +kernel
theorem dX10_levelAt_15 : decode cX10_levelAt 15 = .ok (.iadd, 1) := by decide +kernel
theorem dX10_levelAt_16 : decode cX10_levelAt 16 = .ok (.aload_n 0, 1) := by decide +kernel
theorem dX10_levelAt_17 : decode cX10_levelAt 17 = .ok (.getfield 21, 3) := by decide +kernel
theorem dX10_levelAt_20 : decode cX10_levelAt 20 = .ok (.iload_n 1, 1) := by decide +kernel
theorem dX10_levelAt_21 : decode cX10_levelAt 21 = .ok (.iaload, 1) := by decide +kernel
theorem dX10_levelAt_22 : decode cX10_levelAt 22 = .ok (.iconst 2, 1) := by decide +kernel
theorem dX10_levelAt_23 : decode cX10_levelAt 23 = .ok (.if_icmp .ne 8, 3) := by decide +kernel
theorem dX10_levelAt_26 : decode cX10_levelAt 26 = .ok (.bipush 30, 2) := by decide +kernel
theorem dX10_levelAt_28 : decode cX10_levelAt 28 = .ok (.goto 4, 3) := by decide +kernel
theorem dX10_levelAt_31 : decode cX10_levelAt 31 = .ok (.iconst 0, 1) := by decide +kernel
theorem dX10_levelAt_32 : decode cX10_levelAt 32 = .ok (.iadd, 1) := by decide +kernel
theorem dX10_levelAt_33 : decode cX10_levelAt 33 = .ok (.ireturn, 1) := by decide +kernel
theorem dX10_bounded_0 : decode cX10_bounded 0 = .ok (.iload_n 0, 1) := by decide +kernel
theorem dX10_bounded_1 : decode cX10_bounded 1 = .ok (.ifCond .ge 7, 3) := by decide +kernel
theorem dX10_bounded_4 : decode cX10_bounded 4 = .ok (.iconst 0, 1) := by decide +kernel
theorem dX10_bounded_5 : decode cX10_bounded 5 = .ok (.goto 17, 3) := by decide +kernel
theorem dX10_bounded_8 : decode cX10_bounded 8 = .ok (.iload_n 0, 1) := by decide +kernel
theorem dX10_bounded_9 : decode cX10_bounded 9 = .ok (.sipush 9999, 3) := by decide +kernel
theorem dX10_bounded_12 : decode cX10_bounded 12 = .ok (.if_icmp .le 9, 3) := by decide +kernel
theorem dX10_bounded_15 : decode cX10_bounded 15 = .ok (.sipush 9999, 3) := by decide +kernel
theorem dX10_bounded_18 : decode cX10_bounded 18 = .ok (.goto 4, 3) := by decide +kernel
theorem dX10_bounded_21 : decode cX10_bounded 21 = .ok (.iload_n 0, 1) := by decide +kernel
theorem dX10_bounded_22 : decode cX10_bounded 22 = .ok (.ireturn, 1) := by decide +kernel
theorem dX10_cools_0 : decode cX10_cools 0 = .ok (.iconst 0, 1) := by decide +kernel
theorem dX10_cools_1 : decode cX10_cools 1 = .ok (.istore_n 1, 1) := by decide +kernel
theorem dX10_cools_2 : decode cX10_cools 2 = .ok (.iload_n 1, 1) := by decide +kernel
theorem dX10_cools_3 : decode cX10_cools 3 = .ok (.sipush 144, 3) := by decide +kernel
theorem dX10_cools_6 : decode cX10_cools 6 = .ok (.if_icmp .ge 72, 3) := by decide +kernel
theorem dX10_cools_9 : decode cX10_cools 9 = .ok (.aload_n 0, 1) := by decide +kernel
theorem dX10_cools_10 : decode cX10_cools 10 = .ok (.getfield 79, 3) := by decide +kernel
theorem dX10_cools_13 : decode cX10_cools 13 = .ok (.iload_n 1, 1) := by decide +kernel
theorem dX10_cools_14 : decode cX10_cools 14 = .ok (.aload_n 0, 1) := by decide +kernel
theorem dX10_cools_15 : decode cX10_cools 15 = .ok (.getfield 24, 3) := by decide +kernel
theorem dX10_cools_18 : decode cX10_cools 18 = .ok (.iload_n 1, 1) := by decide +kernel
theorem dX10_cools_19 : decode cX10_cools 19 = .ok (.iaload, 1) := by decide +kernel
theorem dX10_cools_20 : decode cX10_cools 20 = .ok (.aload_n 0, 1) := by decide +kernel
theorem dX10_cools_21 : decode cX10_cools 21 = .ok (.bipush 99, 2) := by decide +kernel
theorem dX10_cools_23 : decode cX10_cools 23 = .ok (.iload_n 1, 1) := by decide +kernel
theorem dX10_cools_24 : decode cX10_cools 24 = .ok (.iconst 0, 1) := by decide +kernel
theorem dX10_cools_25 : decode cX10_cools 25 = .ok (.bipush 99, 2) := by decide +kernel
theorem dX10_cools_27 : decode cX10_cools 27 = .ok (.invokevirtual 345, 3) := by decide +kernel
theorem dX10_cools_30 : decode cX10_cools 30 = .ok (.iadd, 1) := by decide +kernel
theorem dX10_cools_31 : decode cX10_cools 31 = .ok (.invokestatic 352, 3) := by decide +kernel
theorem dX10_cools_34 : decode cX10_cools 34 = .ok (.iastore, 1) := by decide +kernel
theorem dX10_cools_35 : decode cX10_cools 35 = .ok (.aload_n 0, 1) := by decide +kernel
theorem dX10_cools_36 : decode cX10_cools 36 = .ok (.getfield 82, 3) := by decide +kernel
theorem dX10_cools_39 : decode cX10_cools 39 = .ok (.iload_n 1, 1) := by decide +kernel
theorem dX10_cools_40 : decode cX10_cools 40 = .ok (.aload_n 0, 1) := by decide +kernel
theorem dX10_cools_41 : decode cX10_cools 41 = .ok (.getfield 27, 3) := by decide +kernel
theorem dX10_cools_44 : decode cX10_cools 44 = .ok (.iload_n 1, 1) := by decide +kernel
theorem dX10_cools_45 : decode cX10_cools 45 = .ok (.iaload, 1) := by decide +kernel
theorem dX10_cools_46 : decode cX10_cools 46 = .ok (.aload_n 0, 1) := by decide +kernel
theorem dX10_cools_47 : decode cX10_cools 47 = .ok (.bipush 119, 2) := by decide +kernel
theorem dX10_cools_49 : decode cX10_cools 49 = .ok (.iload_n 1, 1) := by decide +kernel
theorem dX10_cools_50 : decode cX10_cools 50 = .ok (.iconst 0, 1) := by decide +kernel
theorem dX10_cools_51 : decode cX10_cools 51 = .ok (.bipush 99, 2) := by decide +kernel
theorem dX10_cools_53 : decode cX10_cools 53 = .ok (.invokevirtual 345, 3) := by decide +kernel
theorem dX10_cools_56 : decode cX10_cools 56 = .ok (.iadd, 1) := by decide +kernel
theorem dX10_cools_57 : decode cX10_cools 57 = .ok (.aload_n 0, 1) := by decide +kernel
theorem dX10_cools_58 : decode cX10_cools 58 = .ok (.bipush 115, 2) := by decide +kernel
theorem dX10_cools_60 : decode cX10_cools 60 = .ok (.iload_n 1, 1) := by decide +kernel
theorem dX10_cools_61 : decode cX10_cools 61 = .ok (.iconst 0, 1) := by decide +kernel
theorem dX10_cools_62 : decode cX10_cools 62 = .ok (.bipush 99, 2) := by decide +kernel
theorem dX10_cools_64 : decode cX10_cools 64 = .ok (.invokevirtual 345, 3) := by decide +kernel
theorem dX10_cools_67 : decode cX10_cools 67 = .ok (.isub, 1) := by decide +kernel
theorem dX10_cools_68 : decode cX10_cools 68 = .ok (.invokestatic 352, 3) := by decide +kernel
theorem dX10_cools_71 : decode cX10_cools 71 = .ok (.iastore, 1) := by decide +kernel
theorem dX10_cools_72 : decode cX10_cools 72 = .ok (.iinc 1 1, 3) := by decide +kernel
theorem dX10_cools_75 : decode cX10_cools 75 = .ok (.goto (-73), 3) := by decide +kernel
theorem dX10_cools_78 : decode cX10_cools 78 = .ok (.iconst 0, 1) := by decide +kernel
theorem dX10_cools_79 : decode cX10_cools 79 = .ok (.istore_n 1, 1) := by decide +kernel
theorem dX10_cools_80 : decode cX10_cools 80 = .ok (.iload_n 1, 1) := by decide +kernel
theorem dX10_cools_81 : decode cX10_cools 81 = .ok (.sipush 144, 3) := by decide +kernel
theorem dX10_cools_84 : decode cX10_cools 84 = .ok (.if_icmp .ge 33, 3) := by decide +kernel
theorem dX10_cools_87 : decode cX10_cools 87 = .ok (.aload_n 0, 1) := by decide +kernel
theorem dX10_cools_88 : decode cX10_cools 88 = .ok (.getfield 24, 3) := by decide +kernel
theorem dX10_cools_91 : decode cX10_cools 91 = .ok (.iload_n 1, 1) := by decide +kernel
theorem dX10_cools_92 : decode cX10_cools 92 = .ok (.aload_n 0, 1) := by decide +kernel
theorem dX10_cools_93 : decode cX10_cools 93 = .ok (.getfield 79, 3) := by decide +kernel
theorem dX10_cools_96 : decode cX10_cools 96 = .ok (.iload_n 1, 1) := by decide +kernel
theorem dX10_cools_97 : decode cX10_cools 97 = .ok (.iaload, 1) := by decide +kernel
theorem dX10_cools_98 : decode cX10_cools 98 = .ok (.iastore, 1) := by decide +kernel
theorem dX10_cools_99 : decode cX10_cools 99 = .ok (.aload_n 0, 1) := by decide +kernel
theorem dX10_cools_100 : decode cX10_cools 100 = .ok (.getfield 27, 3) := by decide +kernel
theorem dX10_cools_103 : decode cX10_cools 103 = .ok (.iload_n 1, 1) := by decide +kernel
theorem dX10_cools_104 : decode cX10_cools 104 = .ok (.aload_n 0, 1) := by decide +kernel
theorem dX10_cools_105 : decode cX10_cools 105 = .ok (.getfield 82, 3) := by decide +kernel
theorem dX10_cools_108 : decode cX10_cools 108 = .ok (.iload_n 1, 1) := by decide +kernel
theorem dX10_cools_109 : decode cX10_cools 109 = .ok (.iaload, 1) := by decide +kernel
theorem dX10_cools_110 : decode cX10_cools 110 = .ok (.iastore, 1) := by decide +kernel
theorem dX10_cools_111 : decode cX10_cools 111 = .ok (.iinc 1 1, 3) := by decide +kernel
theorem dX10_cools_114 : decode cX10_cools 114 = .ok (.goto (-34), 3) := by decide +kernel
theorem dX10_cools_117 : decode cX10_cools 117 = .ok (.return_, 1) := by decide +kernel
theorem dX10_lowestBeside_0 : decode cX10_lowestBeside 0 = .ok (.iconst (-1), 1) := by decide +kernel
theorem dX10_lowestBeside_1 : decode cX10_lowestBeside 1 = .ok (.istore_n 2, 1) := by decide +kernel
theorem dX10_lowestBeside_2 : decode cX10_lowestBeside 2 = .ok (.iconst 0, 1) := by decide +kernel
theorem dX10_lowestBeside_3 : decode cX10_lowestBeside 3 = .ok (.istore_n 3, 1) := by decide +kernel
theorem dX10_lowestBeside_4 : decode cX10_lowestBeside 4 = .ok (.iload_n 3, 1) := by decide +kernel
theorem dX10_lowestBeside_5 : decode cX10_lowestBeside 5 = .ok (.iconst 4, 1) := by decide +kernel
theorem dX10_lowestBeside_6 : decode cX10_lowestBeside 6 = .ok (.if_icmp .ge 44, 3) := by decide +kernel
theorem dX10_lowestBeside_9 : decode cX10_lowestBeside 9 = .ok (.iload_n 1, 1) := by decide +kernel
theorem dX10_lowestBeside_10 : decode cX10_lowestBeside 10 = .ok (.iload_n 3, 1) := by decide +kernel
theorem dX10_lowestBeside_11 : decode cX10_lowestBeside 11 = .ok (.invokestatic 162, 3) := by decide +kernel
theorem dX10_lowestBeside_14 : decode cX10_lowestBeside 14 = .ok (.istore 4, 2) := by decide +kernel
theorem dX10_lowestBeside_16 : decode cX10_lowestBeside 16 = .ok (.iload 4, 2) := by decide +kernel
theorem dX10_lowestBeside_18 : decode cX10_lowestBeside 18 = .ok (.iconst (-1), 1) := by decide +kernel
theorem dX10_lowestBeside_19 : decode cX10_lowestBeside 19 = .ok (.if_icmp .eq 25, 3) := by decide +kernel
theorem dX10_lowestBeside_22 : decode cX10_lowestBeside 22 = .ok (.iload_n 2, 1) := by decide +kernel
theorem dX10_lowestBeside_23 : decode cX10_lowestBeside 23 = .ok (.iconst (-1), 1) := by decide +kernel
theorem dX10_lowestBeside_24 : decode cX10_lowestBeside 24 = .ok (.if_icmp .eq 17, 3) := by decide +kernel
theorem dX10_lowestBeside_27 : decode cX10_lowestBeside 27 = .ok (.aload_n 0, 1) := by decide +kernel
theorem dX10_lowestBeside_28 : decode cX10_lowestBeside 28 = .ok (.iload 4, 2) := by decide +kernel
theorem dX10_lowestBeside_30 : decode cX10_lowestBeside 30 = .ok (.invokevirtual 355, 3) := by decide +kernel
theorem dX10_lowestBeside_33 : decode cX10_lowestBeside 33 = .ok (.aload_n 0, 1) := by decide +kernel
theorem dX10_lowestBeside_34 : decode cX10_lowestBeside 34 = .ok (.iload_n 2, 1) := by decide +kernel
theorem dX10_lowestBeside_35 : decode cX10_lowestBeside 35 = .ok (.invokevirtual 355, 3) := by decide +kernel
theorem dX10_lowestBeside_38 : decode cX10_lowestBeside 38 = .ok (.if_icmp .ge 6, 3) := by decide +kernel
theorem dX10_lowestBeside_41 : decode cX10_lowestBeside 41 = .ok (.iload 4, 2) := by decide +kernel
theorem dX10_lowestBeside_43 : decode cX10_lowestBeside 43 = .ok (.istore_n 2, 1) := by decide +kernel
theorem dX10_lowestBeside_44 : decode cX10_lowestBeside 44 = .ok (.iinc 3 1, 3) := by decide +kernel
theorem dX10_lowestBeside_47 : decode cX10_lowestBeside 47 = .ok (.goto (-43), 3) := by decide +kernel
theorem dX10_lowestBeside_50 : decode cX10_lowestBeside 50 = .ok (.iload_n 2, 1) := by decide +kernel
theorem dX10_lowestBeside_51 : decode cX10_lowestBeside 51 = .ok (.ireturn, 1) := by decide +kernel
theorem dX10_runsDown_0 : decode cX10_runsDown 0 = .ok (.iconst 0, 1) := by decide +kernel
theorem dX10_runsDown_1 : decode cX10_runsDown 1 = .ok (.istore_n 1, 1) := by decide +kernel
theorem dX10_runsDown_2 : decode cX10_runsDown 2 = .ok (.iload_n 1, 1) := by decide +kernel
theorem dX10_runsDown_3 : decode cX10_runsDown 3 = .ok (.sipush 144, 3) := by decide +kernel
theorem dX10_runsDown_6 : decode cX10_runsDown 6 = .ok (.if_icmp .ge 76, 3) := by decide +kernel
theorem dX10_runsDown_9 : decode cX10_runsDown 9 = .ok (.aload_n 0, 1) := by decide +kernel
theorem dX10_runsDown_10 : decode cX10_runsDown 10 = .ok (.iload_n 1, 1) := by decide +kernel
theorem dX10_runsDown_11 : decode cX10_runsDown 11 = .ok (.invokevirtual 358, 3) := by decide +kernel
theorem dX10_runsDown_14 : decode cX10_runsDown 14 = .ok (.istore_n 2, 1) := by decide +kernel
theorem dX10_runsDown_15 : decode cX10_runsDown 15 = .ok (.aload_n 0, 1) := by decide +kernel
theorem dX10_runsDown_16 : decode cX10_runsDown 16 = .ok (.iload_n 1, 1) := by decide +kernel
theorem dX10_runsDown_17 : decode cX10_runsDown 17 = .ok (.invokevirtual 355, 3) := by decide +kernel
theorem dX10_runsDown_20 : decode cX10_runsDown 20 = .ok (.aload_n 0, 1) := by decide +kernel
theorem dX10_runsDown_21 : decode cX10_runsDown 21 = .ok (.iload_n 2, 1) := by decide +kernel
theorem dX10_runsDown_22 : decode cX10_runsDown 22 = .ok (.invokevirtual 355, 3) := by decide +kernel
theorem dX10_runsDown_25 : decode cX10_runsDown 25 = .ok (.isub, 1) := by decide +kernel
theorem dX10_runsDown_26 : decode cX10_runsDown 26 = .ok (.istore_n 3, 1) := by decide +kernel
theorem dX10_runsDown_27 : decode cX10_runsDown 27 = .ok (.aload_n 0, 1) := by decide +kernel
theorem dX10_runsDown_28 : decode cX10_runsDown 28 = .ok (.getfield 24, 3) := by decide +kernel
theorem dX10_runsDown_31 : decode cX10_runsDown 31 = .ok (.iload_n 1, 1) := by decide +kernel
theorem dX10_runsDown_32 : decode cX10_runsDown 32 = .ok (.iaload, 1) := by decide +kernel
theorem dX10_runsDown_33 : decode cX10_runsDown 33 = .ok (.iconst 3, 1) := by decide +kernel
theorem dX10_runsDown_34 : decode cX10_runsDown 34 = .ok (.iadd, 1) := by decide +kernel
theorem dX10_runsDown_35 : decode cX10_runsDown 35 = .ok (.iconst 4, 1) := by decide +kernel
theorem dX10_runsDown_36 : decode cX10_runsDown 36 = .ok (.idiv, 1) := by decide +kernel
theorem dX10_runsDown_37 : decode cX10_runsDown 37 = .ok (.istore 4, 2) := by decide +kernel
theorem dX10_runsDown_39 : decode cX10_runsDown 39 = .ok (.aload_n 0, 1) := by decide +kernel
theorem dX10_runsDown_40 : decode cX10_runsDown 40 = .ok (.getfield 88, 3) := by decide +kernel
theorem dX10_runsDown_43 : decode cX10_runsDown 43 = .ok (.iload_n 1, 1) := by decide +kernel
theorem dX10_runsDown_44 : decode cX10_runsDown 44 = .ok (.iload_n 2, 1) := by decide +kernel
theorem dX10_runsDown_45 : decode cX10_runsDown 45 = .ok (.iastore, 1) := by decide +kernel
theorem dX10_runsDown_46 : decode cX10_runsDown 46 = .ok (.aload_n 0, 1) := by decide +kernel
theorem dX10_runsDown_47 : decode cX10_runsDown 47 = .ok (.getfield 85, 3) := by decide +kernel
theorem dX10_runsDown_50 : decode cX10_runsDown 50 = .ok (.iload_n 1, 1) := by decide +kernel
theorem dX10_runsDown_51 : decode cX10_runsDown 51 = .ok (.iload_n 3, 1) := by decide +kernel
theorem dX10_runsDown_52 : decode cX10_runsDown 52 = .ok (.ifCond .gt 7, 3) := by decide +kernel
theorem dX10_runsDown_55 : decode cX10_runsDown 55 = .ok (.iconst 0, 1) := by decide +kernel
theorem dX10_runsDown_56 : decode cX10_runsDown 56 = .ok (.goto 19, 3) := by decide +kernel
theorem dX10_runsDown_59 : decode cX10_runsDown 59 = .ok (.iload 4, 2) := by decide +kernel
theorem dX10_runsDown_61 : decode cX10_runsDown 61 = .ok (.iload_n 3, 1) := by decide +kernel
theorem dX10_runsDown_62 : decode cX10_runsDown 62 = .ok (.iconst 2, 1) := by decide +kernel
theorem dX10_runsDown_63 : decode cX10_runsDown 63 = .ok (.idiv, 1) := by decide +kernel
theorem dX10_runsDown_64 : decode cX10_runsDown 64 = .ok (.if_icmp .ge 8, 3) := by decide +kernel
theorem dX10_runsDown_67 : decode cX10_runsDown 67 = .ok (.iload 4, 2) := by decide +kernel
theorem dX10_runsDown_69 : decode cX10_runsDown 69 = .ok (.goto 6, 3) := by decide +kernel
theorem dX10_runsDown_72 : decode cX10_runsDown 72 = .ok (.iload_n 3, 1) := by decide +kernel
theorem dX10_runsDown_73 : decode cX10_runsDown 73 = .ok (.iconst 2, 1) := by decide +kernel
theorem dX10_runsDown_74 : decode cX10_runsDown 74 = .ok (.idiv, 1) := by decide +kernel
theorem dX10_runsDown_75 : decode cX10_runsDown 75 = .ok (.iastore, 1) := by decide +kernel
theorem dX10_runsDown_76 : decode cX10_runsDown 76 = .ok (.iinc 1 1, 3) := by decide +kernel
theorem dX10_runsDown_79 : decode cX10_runsDown 79 = .ok (.goto (-77), 3) := by decide +kernel
theorem dX10_runsDown_82 : decode cX10_runsDown 82 = .ok (.iconst 0, 1) := by decide +kernel
theorem dX10_runsDown_83 : decode cX10_runsDown 83 = .ok (.istore_n 1, 1) := by decide +kernel
theorem dX10_runsDown_84 : decode cX10_runsDown 84 = .ok (.iload_n 1, 1) := by decide +kernel
theorem dX10_runsDown_85 : decode cX10_runsDown 85 = .ok (.sipush 144, 3) := by decide +kernel
theorem dX10_runsDown_88 : decode cX10_runsDown 88 = .ok (.if_icmp .ge 40, 3) := by decide +kernel
theorem dX10_runsDown_91 : decode cX10_runsDown 91 = .ok (.aload_n 0, 1) := by decide +kernel
theorem dX10_runsDown_92 : decode cX10_runsDown 92 = .ok (.getfield 24, 3) := by decide +kernel
theorem dX10_runsDown_95 : decode cX10_runsDown 95 = .ok (.iload_n 1, 1) := by decide +kernel
theorem dX10_runsDown_96 : decode cX10_runsDown 96 = .ok (.dup2, 1) := by decide +kernel
theorem dX10_runsDown_97 : decode cX10_runsDown 97 = .ok (.iaload, 1) := by decide +kernel
theorem dX10_runsDown_98 : decode cX10_runsDown 98 = .ok (.aload_n 0, 1) := by decide +kernel
theorem dX10_runsDown_99 : decode cX10_runsDown 99 = .ok (.getfield 85, 3) := by decide +kernel
theorem dX10_runsDown_102 : decode cX10_runsDown 102 = .ok (.iload_n 1, 1) := by decide +kernel
theorem dX10_runsDown_103 : decode cX10_runsDown 103 = .ok (.iaload, 1) := by decide +kernel
theorem dX10_runsDown_104 : decode cX10_runsDown 104 = .ok (.isub, 1) := by decide +kernel
theorem dX10_runsDown_105 : decode cX10_runsDown 105 = .ok (.iastore, 1) := by decide +kernel
theorem dX10_runsDown_106 : decode cX10_runsDown 106 = .ok (.aload_n 0, 1) := by decide +kernel
theorem dX10_runsDown_107 : decode cX10_runsDown 107 = .ok (.dup, 1) := by decide +kernel
theorem dX10_runsDown_108 : decode cX10_runsDown 108 = .ok (.getfield 361, 3) := by decide +kernel
theorem dX10_runsDown_111 : decode cX10_runsDown 111 = .ok (.aload_n 0, 1) := by decide +kernel
theorem dX10_runsDown_112 : decode cX10_runsDown 112 = .ok (.getfield 85, 3) := by decide +kernel
theorem dX10_runsDown_115 : decode cX10_runsDown 115 = .ok (.iload_n 1, 1) := by decide +kernel
theorem dX10_runsDown_116 : decode cX10_runsDown 116 = .ok (.iaload, 1) := by decide +kernel
theorem dX10_runsDown_117 : decode cX10_runsDown 117 = .ok (.i2l, 1) := by decide +kernel
theorem dX10_runsDown_118 : decode cX10_runsDown 118 = .ok (.ladd, 1) := by decide +kernel
theorem dX10_runsDown_119 : decode cX10_runsDown 119 = .ok (.putfield 361, 3) := by decide +kernel
theorem dX10_runsDown_122 : decode cX10_runsDown 122 = .ok (.iinc 1 1, 3) := by decide +kernel
theorem dX10_runsDown_125 : decode cX10_runsDown 125 = .ok (.goto (-41), 3) := by decide +kernel
theorem dX10_runsDown_128 : decode cX10_runsDown 128 = .ok (.iconst 0, 1) := by decide +kernel
theorem dX10_runsDown_129 : decode cX10_runsDown 129 = .ok (.istore_n 1, 1) := by decide +kernel
theorem dX10_runsDown_130 : decode cX10_runsDown 130 = .ok (.iload_n 1, 1) := by decide +kernel
theorem dX10_runsDown_131 : decode cX10_runsDown 131 = .ok (.sipush 144, 3) := by decide +kernel
theorem dX10_runsDown_134 : decode cX10_runsDown 134 = .ok (.if_icmp .ge 29, 3) := by decide +kernel
theorem dX10_runsDown_137 : decode cX10_runsDown 137 = .ok (.aload_n 0, 1) := by decide +kernel
theorem dX10_runsDown_138 : decode cX10_runsDown 138 = .ok (.getfield 24, 3) := by decide +kernel
theorem dX10_runsDown_141 : decode cX10_runsDown 141 = .ok (.aload_n 0, 1) := by decide +kernel
theorem dX10_runsDown_142 : decode cX10_runsDown 142 = .ok (.getfield 88, 3) := by decide +kernel
theorem dX10_runsDown_145 : decode cX10_runsDown 145 = .ok (.iload_n 1, 1) := by decide +kernel
theorem dX10_runsDown_146 : decode cX10_runsDown 146 = .ok (.iaload, 1) := by decide +kernel
theorem dX10_runsDown_147 : decode cX10_runsDown 147 = .ok (.dup2, 1) := by decide +kernel
theorem dX10_runsDown_148 : decode cX10_runsDown 148 = .ok (.iaload, 1) := by decide +kernel
theorem dX10_runsDown_149 : decode cX10_runsDown 149 = .ok (.aload_n 0, 1) := by decide +kernel
theorem dX10_runsDown_150 : decode cX10_runsDown 150 = .ok (.getfield 85, 3) := by decide +kernel
theorem dX10_runsDown_153 : decode cX10_runsDown 153 = .ok (.iload_n 1, 1) := by decide +kernel
theorem dX10_runsDown_154 : decode cX10_runsDown 154 = .ok (.iaload, 1) := by decide +kernel
theorem dX10_runsDown_155 : decode cX10_runsDown 155 = .ok (.iadd, 1) := by decide +kernel
theorem dX10_runsDown_156 : decode cX10_runsDown 156 = .ok (.iastore, 1) := by decide +kernel
theorem dX10_runsDown_157 : decode cX10_runsDown 157 = .ok (.iinc 1 1, 3) := by decide +kernel
theorem dX10_runsDown_160 : decode cX10_runsDown 160 = .ok (.goto (-30), 3) := by decide +kernel
theorem dX10_runsDown_163 : decode cX10_runsDown 163 = .ok (.iconst 0, 1) := by decide +kernel
theorem dX10_runsDown_164 : decode cX10_runsDown 164 = .ok (.istore_n 1, 1) := by decide +kernel
theorem dX10_runsDown_165 : decode cX10_runsDown 165 = .ok (.iload_n 1, 1) := by decide +kernel
theorem dX10_runsDown_166 : decode cX10_runsDown 166 = .ok (.sipush 144, 3) := by decide +kernel
theorem dX10_runsDown_169 : decode cX10_runsDown 169 = .ok (.if_icmp .ge 39, 3) := by decide +kernel
theorem dX10_runsDown_172 : decode cX10_runsDown 172 = .ok (.aload_n 0, 1) := by decide +kernel
theorem dX10_runsDown_173 : decode cX10_runsDown 173 = .ok (.getfield 24, 3) := by decide +kernel
theorem dX10_runsDown_176 : decode cX10_runsDown 176 = .ok (.iload_n 1, 1) := by decide +kernel
theorem dX10_runsDown_177 : decode cX10_runsDown 177 = .ok (.aload_n 0, 1) := by decide +kernel
theorem dX10_runsDown_178 : decode cX10_runsDown 178 = .ok (.getfield 24, 3) := by decide +kernel
theorem dX10_runsDown_181 : decode cX10_runsDown 181 = .ok (.iload_n 1, 1) := by decide +kernel
theorem dX10_runsDown_182 : decode cX10_runsDown 182 = .ok (.iaload, 1) := by decide +kernel
theorem dX10_runsDown_183 : decode cX10_runsDown 183 = .ok (.sipush 9999, 3) := by decide +kernel
theorem dX10_runsDown_186 : decode cX10_runsDown 186 = .ok (.if_icmp .le 9, 3) := by decide +kernel
theorem dX10_runsDown_189 : decode cX10_runsDown 189 = .ok (.sipush 9999, 3) := by decide +kernel
theorem dX10_runsDown_192 : decode cX10_runsDown 192 = .ok (.goto 9, 3) := by decide +kernel
theorem dX10_runsDown_195 : decode cX10_runsDown 195 = .ok (.aload_n 0, 1) := by decide +kernel
theorem dX10_runsDown_196 : decode cX10_runsDown 196 = .ok (.getfield 24, 3) := by decide +kernel
theorem dX10_runsDown_199 : decode cX10_runsDown 199 = .ok (.iload_n 1, 1) := by decide +kernel
theorem dX10_runsDown_200 : decode cX10_runsDown 200 = .ok (.iaload, 1) := by decide +kernel
theorem dX10_runsDown_201 : decode cX10_runsDown 201 = .ok (.iastore, 1) := by decide +kernel
theorem dX10_runsDown_202 : decode cX10_runsDown 202 = .ok (.iinc 1 1, 3) := by decide +kernel
theorem dX10_runsDown_205 : decode cX10_runsDown 205 = .ok (.goto (-40), 3) := by decide +kernel
theorem dX10_runsDown_208 : decode cX10_runsDown 208 = .ok (.return_, 1) := by decide +kernel
theorem dX10_stepOne_0 : decode cX10_stepOne 0 = .ok (.aload_n 0, 1) := by decide +kernel
theorem dX10_stepOne_1 : decode cX10_stepOne 1 = .ok (.invokevirtual 365, 3) := by decide +kernel
theorem dX10_stepOne_4 : decode cX10_stepOne 4 = .ok (.aload_n 0, 1) := by decide +kernel
theorem dX10_stepOne_5 : decode cX10_stepOne 5 = .ok (.invokevirtual 368, 3) := by decide +kernel
theorem dX10_stepOne_8 : decode cX10_stepOne 8 = .ok (.aload_n 0, 1) := by decide +kernel
theorem dX10_stepOne_9 : decode cX10_stepOne 9 = .ok (.dup, 1) := by decide +kernel
theorem dX10_stepOne_10 : decode cX10_stepOne 10 = .ok (.getfield 301, 3) := by decide +kernel
theorem dX10_stepOne_13 : decode cX10_stepOne 13 = .ok (.iconst 1, 1) := by decide +kernel
theorem dX10_stepOne_14 : decode cX10_stepOne 14 = .ok (.iadd, 1) := by decide +kernel
theorem dX10_stepOne_15 : decode cX10_stepOne 15 = .ok (.putfield 301, 3) := by decide +kernel
theorem dX10_stepOne_18 : decode cX10_stepOne 18 = .ok (.return_, 1) := by decide +kernel
theorem dX10_isNight_0 : decode cX10_isNight 0 = .ok (.iload_n 0, 1) := by decide +kernel
theorem dX10_isNight_1 : decode cX10_isNight 1 = .ok (.i2l, 1) := by decide +kernel
theorem dX10_isNight_2 : decode cX10_isNight 2 = .ok (.lconst 1, 1) := by decide +kernel
theorem dX10_isNight_3 : decode cX10_isNight 3 = .ok (.ldc2_w 371, 3) := by decide +kernel
theorem dX10_isNight_6 : decode cX10_isNight 6 = .ok (.invokestatic 154, 3) := by decide +kernel
theorem dX10_isNight_9 : decode cX10_isNight 9 = .ok (.ireturn, 1) := by decide +kernel
theorem dX10_steps_0 : decode cX10_steps 0 = .ok (.iload_n 1, 1) := by decide +kernel
theorem dX10_steps_1 : decode cX10_steps 1 = .ok (.invokestatic 373, 3) := by decide +kernel
theorem dX10_steps_4 : decode cX10_steps 4 = .ok (.ifCond .ne 5, 3) := by decide +kernel
theorem dX10_steps_7 : decode cX10_steps 7 = .ok (.iconst (-1), 1) := by decide +kernel
theorem dX10_steps_8 : decode cX10_steps 8 = .ok (.ireturn, 1) := by decide +kernel
theorem dX10_steps_9 : decode cX10_steps 9 = .ok (.aload_n 0, 1) := by decide +kernel
theorem dX10_steps_10 : decode cX10_steps 10 = .ok (.getfield 361, 3) := by decide +kernel
theorem dX10_steps_13 : decode cX10_steps 13 = .ok (.lstore_n 2, 1) := by decide +kernel
theorem dX10_steps_14 : decode cX10_steps 14 = .ok (.iconst 0, 1) := by decide +kernel
theorem dX10_steps_15 : decode cX10_steps 15 = .ok (.istore 4, 2) := by decide +kernel
theorem dX10_steps_17 : decode cX10_steps 17 = .ok (.iload 4, 2) := by decide +kernel
theorem dX10_steps_19 : decode cX10_steps 19 = .ok (.iload_n 1, 1) := by decide +kernel
theorem dX10_steps_20 : decode cX10_steps 20 = .ok (.if_icmp .ge 13, 3) := by decide +kernel
theorem dX10_steps_23 : decode cX10_steps 23 = .ok (.aload_n 0, 1) := by decide +kernel
theorem dX10_steps_24 : decode cX10_steps 24 = .ok (.invokevirtual 376, 3) := by decide +kernel
theorem dX10_steps_27 : decode cX10_steps 27 = .ok (.iinc 4 1, 3) := by decide +kernel
theorem dX10_steps_30 : decode cX10_steps 30 = .ok (.goto (-13), 3) := by decide +kernel
theorem dX10_steps_33 : decode cX10_steps 33 = .ok (.aload_n 0, 1) := by decide +kernel
theorem dX10_steps_34 : decode cX10_steps 34 = .ok (.getfield 361, 3) := by decide +kernel
theorem dX10_steps_37 : decode cX10_steps 37 = .ok (.lload_n 2, 1) := by decide +kernel
theorem dX10_steps_38 : decode cX10_steps 38 = .ok (.lsub, 1) := by decide +kernel
theorem dX10_steps_39 : decode cX10_steps 39 = .ok (.l2i, 1) := by decide +kernel
theorem dX10_steps_40 : decode cX10_steps 40 = .ok (.ireturn, 1) := by decide +kernel
theorem dX10_cell_0 : decode cX10_cell 0 = .ok (.iload_n 1, 1) := by decide +kernel
theorem dX10_cell_1 : decode cX10_cell 1 = .ok (.iload_n 2, 1) := by decide +kernel
theorem dX10_cell_2 : decode cX10_cell 2 = .ok (.invokestatic 166, 3) := by decide +kernel
theorem dX10_cell_5 : decode cX10_cell 5 = .ok (.ifCond .ne 5, 3) := by decide +kernel
theorem dX10_cell_8 : decode cX10_cell 8 = .ok (.iconst (-1), 1) := by decide +kernel
theorem dX10_cell_9 : decode cX10_cell 9 = .ok (.ireturn, 1) := by decide +kernel
theorem dX10_cell_10 : decode cX10_cell 10 = .ok (.iload_n 1, 1) := by decide +kernel
theorem dX10_cell_11 : decode cX10_cell 11 = .ok (.iload_n 2, 1) := by decide +kernel
theorem dX10_cell_12 : decode cX10_cell 12 = .ok (.invokestatic 174, 3) := by decide +kernel
theorem dX10_cell_15 : decode cX10_cell 15 = .ok (.istore 4, 2) := by decide +kernel
theorem dX10_cell_17 : decode cX10_cell 17 = .ok (.iload_n 3, 1) := by decide +kernel
theorem dX10_cell_18 : decode cX10_cell 18 = .ok (.tableswitch 128 0 7 #[46, 54, 62, 70, 78, 85, 114, 121], 46) := by decide +kernel
theorem dX10_cell_64 : decode cX10_cell 64 = .ok (.aload_n 0, 1) := by decide +kernel
theorem dX10_cell_65 : decode cX10_cell 65 = .ok (.getfield 17, 3) := by decide +kernel
theorem dX10_cell_68 : decode cX10_cell 68 = .ok (.iload 4, 2) := by decide +kernel
theorem dX10_cell_70 : decode cX10_cell 70 = .ok (.iaload, 1) := by decide +kernel
theorem dX10_cell_71 : decode cX10_cell 71 = .ok (.ireturn, 1) := by decide +kernel
theorem dX10_cell_72 : decode cX10_cell 72 = .ok (.aload_n 0, 1) := by decide +kernel
theorem dX10_cell_73 : decode cX10_cell 73 = .ok (.getfield 21, 3) := by decide +kernel
theorem dX10_cell_76 : decode cX10_cell 76 = .ok (.iload 4, 2) := by decide +kernel
theorem dX10_cell_78 : decode cX10_cell 78 = .ok (.iaload, 1) := by decide +kernel
theorem dX10_cell_79 : decode cX10_cell 79 = .ok (.ireturn, 1) := by decide +kernel
theorem dX10_cell_80 : decode cX10_cell 80 = .ok (.aload_n 0, 1) := by decide +kernel
theorem dX10_cell_81 : decode cX10_cell 81 = .ok (.getfield 24, 3) := by decide +kernel
theorem dX10_cell_84 : decode cX10_cell 84 = .ok (.iload 4, 2) := by decide +kernel
theorem dX10_cell_86 : decode cX10_cell 86 = .ok (.iaload, 1) := by decide +kernel
theorem dX10_cell_87 : decode cX10_cell 87 = .ok (.ireturn, 1) := by decide +kernel
theorem dX10_cell_88 : decode cX10_cell 88 = .ok (.aload_n 0, 1) := by decide +kernel
theorem dX10_cell_89 : decode cX10_cell 89 = .ok (.getfield 27, 3) := by decide +kernel
theorem dX10_cell_92 : decode cX10_cell 92 = .ok (.iload 4, 2) := by decide +kernel
theorem dX10_cell_94 : decode cX10_cell 94 = .ok (.iaload, 1) := by decide +kernel
theorem dX10_cell_95 : decode cX10_cell 95 = .ok (.ireturn, 1) := by decide +kernel
theorem dX10_cell_96 : decode cX10_cell 96 = .ok (.aload_n 0, 1) := by decide +kernel
theorem dX10_cell_97 : decode cX10_cell 97 = .ok (.iload 4, 2) := by decide +kernel
theorem dX10_cell_99 : decode cX10_cell 99 = .ok (.invokevirtual 349, 3) := by decide +kernel
theorem dX10_cell_102 : decode cX10_cell 102 = .ok (.ireturn, 1) := by decide +kernel
theorem dX10_cell_103 : decode cX10_cell 103 = .ok (.aload_n 0, 1) := by decide +kernel
theorem dX10_cell_104 : decode cX10_cell 104 = .ok (.iload 4, 2) := by decide +kernel
theorem dX10_cell_106 : decode cX10_cell 106 = .ok (.invokevirtual 349, 3) := by decide +kernel
theorem dX10_cell_109 : decode cX10_cell 109 = .ok (.ifCond .le 20, 3) := by decide +kernel
theorem dX10_cell_112 : decode cX10_cell 112 = .ok (.aload_n 0, 1) := by decide +kernel
theorem dX10_cell_113 : decode cX10_cell 113 = .ok (.getfield 17, 3) := by decide +kernel
theorem dX10_cell_116 : decode cX10_cell 116 = .ok (.iload 4, 2) := by decide +kernel
theorem dX10_cell_118 : decode cX10_cell 118 = .ok (.iaload, 1) := by decide +kernel
theorem dX10_cell_119 : decode cX10_cell 119 = .ok (.aload_n 0, 1) := by decide +kernel
theorem dX10_cell_120 : decode cX10_cell 120 = .ok (.iload 4, 2) := by decide +kernel
theorem dX10_cell_122 : decode cX10_cell 122 = .ok (.invokevirtual 349, 3) := by decide +kernel
theorem dX10_cell_125 : decode cX10_cell 125 = .ok (.iadd, 1) := by decide +kernel
theorem dX10_cell_126 : decode cX10_cell 126 = .ok (.goto 5, 3) := by decide +kernel
theorem dX10_cell_129 : decode cX10_cell 129 = .ok (.bipush (-2), 2) := by decide +kernel
theorem dX10_cell_131 : decode cX10_cell 131 = .ok (.ireturn, 1) := by decide +kernel
theorem dX10_cell_132 : decode cX10_cell 132 = .ok (.aload_n 0, 1) := by decide +kernel
theorem dX10_cell_133 : decode cX10_cell 133 = .ok (.iload 4, 2) := by decide +kernel
theorem dX10_cell_135 : decode cX10_cell 135 = .ok (.invokevirtual 379, 3) := by decide +kernel
theorem dX10_cell_138 : decode cX10_cell 138 = .ok (.ireturn, 1) := by decide +kernel
theorem dX10_cell_139 : decode cX10_cell 139 = .ok (.aload_n 0, 1) := by decide +kernel
theorem dX10_cell_140 : decode cX10_cell 140 = .ok (.iload 4, 2) := by decide +kernel
theorem dX10_cell_142 : decode cX10_cell 142 = .ok (.invokevirtual 355, 3) := by decide +kernel
theorem dX10_cell_145 : decode cX10_cell 145 = .ok (.ireturn, 1) := by decide +kernel
theorem dX10_cell_146 : decode cX10_cell 146 = .ok (.iconst (-1), 1) := by decide +kernel
theorem dX10_cell_147 : decode cX10_cell 147 = .ok (.ireturn, 1) := by decide +kernel
theorem dX10_misty_0 : decode cX10_misty 0 = .ok (.iconst 0, 1) := by decide +kernel
theorem dX10_misty_1 : decode cX10_misty 1 = .ok (.istore_n 1, 1) := by decide +kernel
theorem dX10_misty_2 : decode cX10_misty 2 = .ok (.iconst 0, 1) := by decide +kernel
theorem dX10_misty_3 : decode cX10_misty 3 = .ok (.istore_n 2, 1) := by decide +kernel
theorem dX10_misty_4 : decode cX10_misty 4 = .ok (.iload_n 2, 1) := by decide +kernel
theorem dX10_misty_5 : decode cX10_misty 5 = .ok (.sipush 144, 3) := by decide +kernel
theorem dX10_misty_8 : decode cX10_misty 8 = .ok (.if_icmp .ge 25, 3) := by decide +kernel
theorem dX10_misty_11 : decode cX10_misty 11 = .ok (.iload_n 1, 1) := by decide +kernel
theorem dX10_misty_12 : decode cX10_misty 12 = .ok (.aload_n 0, 1) := by decide +kernel
theorem dX10_misty_13 : decode cX10_misty 13 = .ok (.iload_n 2, 1) := by decide +kernel
theorem dX10_misty_14 : decode cX10_misty 14 = .ok (.invokevirtual 349, 3) := by decide +kernel
theorem dX10_misty_17 : decode cX10_misty 17 = .ok (.ifCond .le 7, 3) := by decide +kernel
theorem dX10_misty_20 : decode cX10_misty 20 = .ok (.iconst 1, 1) := by decide +kernel
theorem dX10_misty_21 : decode cX10_misty 21 = .ok (.goto 4, 3) := by decide +kernel
theorem dX10_misty_24 : decode cX10_misty 24 = .ok (.iconst 0, 1) := by decide +kernel
theorem dX10_misty_25 : decode cX10_misty 25 = .ok (.iadd, 1) := by decide +kernel
theorem dX10_misty_26 : decode cX10_misty 26 = .ok (.istore_n 1, 1) := by decide +kernel
theorem dX10_misty_27 : decode cX10_misty 27 = .ok (.iinc 2 1, 3) := by decide +kernel
theorem dX10_misty_30 : decode cX10_misty 30 = .ok (.goto (-26), 3) := by decide +kernel
theorem dX10_misty_33 : decode cX10_misty 33 = .ok (.iload_n 1, 1) := by decide +kernel
theorem dX10_misty_34 : decode cX10_misty 34 = .ok (.ireturn, 1) := by decide +kernel
theorem dX10_highestTop_0 : decode cX10_highestTop 0 = .ok (.iconst 0, 1) := by decide +kernel
theorem dX10_highestTop_1 : decode cX10_highestTop 1 = .ok (.istore_n 1, 1) := by decide +kernel
theorem dX10_highestTop_2 : decode cX10_highestTop 2 = .ok (.iconst 0, 1) := by decide +kernel
theorem dX10_highestTop_3 : decode cX10_highestTop 3 = .ok (.istore_n 2, 1) := by decide +kernel
theorem dX10_highestTop_4 : decode cX10_highestTop 4 = .ok (.iload_n 2, 1) := by decide +kernel
theorem dX10_highestTop_5 : decode cX10_highestTop 5 = .ok (.sipush 144, 3) := by decide +kernel
theorem dX10_highestTop_8 : decode cX10_highestTop 8 = .ok (.if_icmp .ge 40, 3) := by decide +kernel
theorem dX10_highestTop_11 : decode cX10_highestTop 11 = .ok (.aload_n 0, 1) := by decide +kernel
theorem dX10_highestTop_12 : decode cX10_highestTop 12 = .ok (.iload_n 2, 1) := by decide +kernel
theorem dX10_highestTop_13 : decode cX10_highestTop 13 = .ok (.invokevirtual 349, 3) := by decide +kernel
theorem dX10_highestTop_16 : decode cX10_highestTop 16 = .ok (.istore_n 3, 1) := by decide +kernel
theorem dX10_highestTop_17 : decode cX10_highestTop 17 = .ok (.iload_n 3, 1) := by decide +kernel
theorem dX10_highestTop_18 : decode cX10_highestTop 18 = .ok (.ifCond .le 24, 3) := by decide +kernel
theorem dX10_highestTop_21 : decode cX10_highestTop 21 = .ok (.aload_n 0, 1) := by decide +kernel
theorem dX10_highestTop_22 : decode cX10_highestTop 22 = .ok (.getfield 17, 3) := by decide +kernel
theorem dX10_highestTop_25 : decode cX10_highestTop 25 = .ok (.iload_n 2, 1) := by decide +kernel
theorem dX10_highestTop_26 : decode cX10_highestTop 26 = .ok (.iaload, 1) := by decide +kernel
theorem dX10_highestTop_27 : decode cX10_highestTop 27 = .ok (.iload_n 3, 1) := by decide +kernel
theorem dX10_highestTop_28 : decode cX10_highestTop 28 = .ok (.iadd, 1) := by decide +kernel
theorem dX10_highestTop_29 : decode cX10_highestTop 29 = .ok (.iload_n 1, 1) := by decide +kernel
theorem dX10_highestTop_30 : decode cX10_highestTop 30 = .ok (.if_icmp .le 12, 3) := by decide +kernel
theorem dX10_highestTop_33 : decode cX10_highestTop 33 = .ok (.aload_n 0, 1) := by decide +kernel
theorem dX10_highestTop_34 : decode cX10_highestTop 34 = .ok (.getfield 17, 3) := by decide +kernel
theorem dX10_highestTop_37 : decode cX10_highestTop 37 = .ok (.iload_n 2, 1) := by decide +kernel
theorem dX10_highestTop_38 : decode cX10_highestTop 38 = .ok (.iaload, 1) := by decide +kernel
theorem dX10_highestTop_39 : decode cX10_highestTop 39 = .ok (.iload_n 3, 1) := by decide +kernel
theorem dX10_highestTop_40 : decode cX10_highestTop 40 = .ok (.iadd, 1) := by decide +kernel
theorem dX10_highestTop_41 : decode cX10_highestTop 41 = .ok (.istore_n 1, 1) := by decide +kernel
theorem dX10_highestTop_42 : decode cX10_highestTop 42 = .ok (.iinc 2 1, 3) := by decide +kernel
theorem dX10_highestTop_45 : decode cX10_highestTop 45 = .ok (.goto (-41), 3) := by decide +kernel
theorem dX10_highestTop_48 : decode cX10_highestTop 48 = .ok (.iload_n 1, 1) := by decide +kernel
theorem dX10_highestTop_49 : decode cX10_highestTop 49 = .ok (.ireturn, 1) := by decide +kernel
theorem dX10_sums_0 : decode cX10_sums 0 = .ok (.iconst 0, 1) := by decide +kernel
theorem dX10_sums_1 : decode cX10_sums 1 = .ok (.istore_n 2, 1) := by decide +kernel
theorem dX10_sums_2 : decode cX10_sums 2 = .ok (.iload_n 1, 1) := by decide +kernel
theorem dX10_sums_3 : decode cX10_sums 3 = .ok (.tableswitch 101 0 4 #[33, 59, 85, 91, 96], 33) := by decide +kernel
theorem dX10_sums_36 : decode cX10_sums 36 = .ok (.iconst 0, 1) := by decide +kernel
theorem dX10_sums_37 : decode cX10_sums 37 = .ok (.istore_n 3, 1) := by decide +kernel
theorem dX10_sums_38 : decode cX10_sums 38 = .ok (.iload_n 3, 1) := by decide +kernel
theorem dX10_sums_39 : decode cX10_sums 39 = .ok (.sipush 144, 3) := by decide +kernel
theorem dX10_sums_42 : decode cX10_sums 42 = .ok (.if_icmp .ge 18, 3) := by decide +kernel
theorem dX10_sums_45 : decode cX10_sums 45 = .ok (.iload_n 2, 1) := by decide +kernel
theorem dX10_sums_46 : decode cX10_sums 46 = .ok (.aload_n 0, 1) := by decide +kernel
theorem dX10_sums_47 : decode cX10_sums 47 = .ok (.getfield 24, 3) := by decide +kernel
theorem dX10_sums_50 : decode cX10_sums 50 = .ok (.iload_n 3, 1) := by decide +kernel
theorem dX10_sums_51 : decode cX10_sums 51 = .ok (.iaload, 1) := by decide +kernel
theorem dX10_sums_52 : decode cX10_sums 52 = .ok (.iadd, 1) := by decide +kernel
theorem dX10_sums_53 : decode cX10_sums 53 = .ok (.istore_n 2, 1) := by decide +kernel
theorem dX10_sums_54 : decode cX10_sums 54 = .ok (.iinc 3 1, 3) := by decide +kernel
theorem dX10_sums_57 : decode cX10_sums 57 = .ok (.goto (-19), 3) := by decide +kernel
theorem dX10_sums_60 : decode cX10_sums 60 = .ok (.iload_n 2, 1) := by decide +kernel
theorem dX10_sums_61 : decode cX10_sums 61 = .ok (.ireturn, 1) := by decide +kernel
theorem dX10_sums_62 : decode cX10_sums 62 = .ok (.iconst 0, 1) := by decide +kernel
theorem dX10_sums_63 : decode cX10_sums 63 = .ok (.istore_n 3, 1) := by decide +kernel
theorem dX10_sums_64 : decode cX10_sums 64 = .ok (.iload_n 3, 1) := by decide +kernel
theorem dX10_sums_65 : decode cX10_sums 65 = .ok (.sipush 144, 3) := by decide +kernel
theorem dX10_sums_68 : decode cX10_sums 68 = .ok (.if_icmp .ge 18, 3) := by decide +kernel
theorem dX10_sums_71 : decode cX10_sums 71 = .ok (.iload_n 2, 1) := by decide +kernel
theorem dX10_sums_72 : decode cX10_sums 72 = .ok (.aload_n 0, 1) := by decide +kernel
theorem dX10_sums_73 : decode cX10_sums 73 = .ok (.getfield 27, 3) := by decide +kernel
theorem dX10_sums_76 : decode cX10_sums 76 = .ok (.iload_n 3, 1) := by decide +kernel
theorem dX10_sums_77 : decode cX10_sums 77 = .ok (.iaload, 1) := by decide +kernel
theorem dX10_sums_78 : decode cX10_sums 78 = .ok (.iadd, 1) := by decide +kernel
theorem dX10_sums_79 : decode cX10_sums 79 = .ok (.istore_n 2, 1) := by decide +kernel
theorem dX10_sums_80 : decode cX10_sums 80 = .ok (.iinc 3 1, 3) := by decide +kernel
theorem dX10_sums_83 : decode cX10_sums 83 = .ok (.goto (-19), 3) := by decide +kernel
theorem dX10_sums_86 : decode cX10_sums 86 = .ok (.iload_n 2, 1) := by decide +kernel
theorem dX10_sums_87 : decode cX10_sums 87 = .ok (.ireturn, 1) := by decide +kernel
theorem dX10_sums_88 : decode cX10_sums 88 = .ok (.aload_n 0, 1) := by decide +kernel
theorem dX10_sums_89 : decode cX10_sums 89 = .ok (.getfield 361, 3) := by decide +kernel
theorem dX10_sums_92 : decode cX10_sums 92 = .ok (.l2i, 1) := by decide +kernel
theorem dX10_sums_93 : decode cX10_sums 93 = .ok (.ireturn, 1) := by decide +kernel
theorem dX10_sums_94 : decode cX10_sums 94 = .ok (.aload_n 0, 1) := by decide +kernel
theorem dX10_sums_95 : decode cX10_sums 95 = .ok (.invokevirtual 382, 3) := by decide +kernel
theorem dX10_sums_98 : decode cX10_sums 98 = .ok (.ireturn, 1) := by decide +kernel
theorem dX10_sums_99 : decode cX10_sums 99 = .ok (.aload_n 0, 1) := by decide +kernel
theorem dX10_sums_100 : decode cX10_sums 100 = .ok (.invokevirtual 385, 3) := by decide +kernel
theorem dX10_sums_103 : decode cX10_sums 103 = .ok (.ireturn, 1) := by decide +kernel
theorem dX10_sums_104 : decode cX10_sums 104 = .ok (.iconst (-1), 1) := by decide +kernel
theorem dX10_sums_105 : decode cX10_sums 105 = .ok (.ireturn, 1) := by decide +kernel
theorem dX10_setsAside_0 : decode cX10_setsAside 0 = .ok (.iconst 0, 1) := by decide +kernel
theorem dX10_setsAside_1 : decode cX10_setsAside 1 = .ok (.istore_n 2, 1) := by decide +kernel
theorem dX10_setsAside_2 : decode cX10_setsAside 2 = .ok (.iload_n 2, 1) := by decide +kernel
theorem dX10_setsAside_3 : decode cX10_setsAside 3 = .ok (.sipush 144, 3) := by decide +kernel
theorem dX10_setsAside_6 : decode cX10_setsAside 6 = .ok (.if_icmp .ge 81, 3) := by decide +kernel
theorem dX10_setsAside_9 : decode cX10_setsAside 9 = .ok (.aload_n 0, 1) := by decide +kernel
theorem dX10_setsAside_10 : decode cX10_setsAside 10 = .ok (.getfield 91, 3) := by decide +kernel
theorem dX10_setsAside_13 : decode cX10_setsAside 13 = .ok (.sipush 144, 3) := by decide +kernel
theorem dX10_setsAside_16 : decode cX10_setsAside 16 = .ok (.iload_n 1, 1) := by decide +kernel
theorem dX10_setsAside_17 : decode cX10_setsAside 17 = .ok (.imul, 1) := by decide +kernel
theorem dX10_setsAside_18 : decode cX10_setsAside 18 = .ok (.iload_n 2, 1) := by decide +kernel
theorem dX10_setsAside_19 : decode cX10_setsAside 19 = .ok (.iadd, 1) := by decide +kernel
theorem dX10_setsAside_20 : decode cX10_setsAside 20 = .ok (.aload_n 0, 1) := by decide +kernel
theorem dX10_setsAside_21 : decode cX10_setsAside 21 = .ok (.getfield 24, 3) := by decide +kernel
theorem dX10_setsAside_24 : decode cX10_setsAside 24 = .ok (.iload_n 2, 1) := by decide +kernel
theorem dX10_setsAside_25 : decode cX10_setsAside 25 = .ok (.iaload, 1) := by decide +kernel
theorem dX10_setsAside_26 : decode cX10_setsAside 26 = .ok (.iastore, 1) := by decide +kernel
theorem dX10_setsAside_27 : decode cX10_setsAside 27 = .ok (.aload_n 0, 1) := by decide +kernel
theorem dX10_setsAside_28 : decode cX10_setsAside 28 = .ok (.getfield 94, 3) := by decide +kernel
theorem dX10_setsAside_31 : decode cX10_setsAside 31 = .ok (.sipush 144, 3) := by decide +kernel
theorem dX10_setsAside_34 : decode cX10_setsAside 34 = .ok (.iload_n 1, 1) := by decide +kernel
theorem dX10_setsAside_35 : decode cX10_setsAside 35 = .ok (.imul, 1) := by decide +kernel
theorem dX10_setsAside_36 : decode cX10_setsAside 36 = .ok (.iload_n 2, 1) := by decide +kernel
theorem dX10_setsAside_37 : decode cX10_setsAside 37 = .ok (.iadd, 1) := by decide +kernel
theorem dX10_setsAside_38 : decode cX10_setsAside 38 = .ok (.aload_n 0, 1) := by decide +kernel
theorem dX10_setsAside_39 : decode cX10_setsAside 39 = .ok (.getfield 27, 3) := by decide +kernel
theorem dX10_setsAside_42 : decode cX10_setsAside 42 = .ok (.iload_n 2, 1) := by decide +kernel
theorem dX10_setsAside_43 : decode cX10_setsAside 43 = .ok (.iaload, 1) := by decide +kernel
theorem dX10_setsAside_44 : decode cX10_setsAside 44 = .ok (.iastore, 1) := by decide +kernel
theorem dX10_setsAside_45 : decode cX10_setsAside 45 = .ok (.aload_n 0, 1) := by decide +kernel
theorem dX10_setsAside_46 : decode cX10_setsAside 46 = .ok (.getfield 97, 3) := by decide +kernel
theorem dX10_setsAside_49 : decode cX10_setsAside 49 = .ok (.sipush 144, 3) := by decide +kernel
theorem dX10_setsAside_52 : decode cX10_setsAside 52 = .ok (.iload_n 1, 1) := by decide +kernel
theorem dX10_setsAside_53 : decode cX10_setsAside 53 = .ok (.imul, 1) := by decide +kernel
theorem dX10_setsAside_54 : decode cX10_setsAside 54 = .ok (.iload_n 2, 1) := by decide +kernel
theorem dX10_setsAside_55 : decode cX10_setsAside 55 = .ok (.iadd, 1) := by decide +kernel
theorem dX10_setsAside_56 : decode cX10_setsAside 56 = .ok (.aload_n 0, 1) := by decide +kernel
theorem dX10_setsAside_57 : decode cX10_setsAside 57 = .ok (.getfield 17, 3) := by decide +kernel
theorem dX10_setsAside_60 : decode cX10_setsAside 60 = .ok (.iload_n 2, 1) := by decide +kernel
theorem dX10_setsAside_61 : decode cX10_setsAside 61 = .ok (.iaload, 1) := by decide +kernel
theorem dX10_setsAside_62 : decode cX10_setsAside 62 = .ok (.iastore, 1) := by decide +kernel
theorem dX10_setsAside_63 : decode cX10_setsAside 63 = .ok (.aload_n 0, 1) := by decide +kernel
theorem dX10_setsAside_64 : decode cX10_setsAside 64 = .ok (.getfield 100, 3) := by decide +kernel
theorem dX10_setsAside_67 : decode cX10_setsAside 67 = .ok (.sipush 144, 3) := by decide +kernel
theorem dX10_setsAside_70 : decode cX10_setsAside 70 = .ok (.iload_n 1, 1) := by decide +kernel
theorem dX10_setsAside_71 : decode cX10_setsAside 71 = .ok (.imul, 1) := by decide +kernel
theorem dX10_setsAside_72 : decode cX10_setsAside 72 = .ok (.iload_n 2, 1) := by decide +kernel
theorem dX10_setsAside_73 : decode cX10_setsAside 73 = .ok (.iadd, 1) := by decide +kernel
theorem dX10_setsAside_74 : decode cX10_setsAside 74 = .ok (.aload_n 0, 1) := by decide +kernel
theorem dX10_setsAside_75 : decode cX10_setsAside 75 = .ok (.getfield 21, 3) := by decide +kernel
theorem dX10_setsAside_78 : decode cX10_setsAside 78 = .ok (.iload_n 2, 1) := by decide +kernel
theorem dX10_setsAside_79 : decode cX10_setsAside 79 = .ok (.iaload, 1) := by decide +kernel
theorem dX10_setsAside_80 : decode cX10_setsAside 80 = .ok (.iastore, 1) := by decide +kernel
theorem dX10_setsAside_81 : decode cX10_setsAside 81 = .ok (.iinc 2 1, 3) := by decide +kernel
theorem dX10_setsAside_84 : decode cX10_setsAside 84 = .ok (.goto (-82), 3) := by decide +kernel
theorem dX10_setsAside_87 : decode cX10_setsAside 87 = .ok (.aload_n 0, 1) := by decide +kernel
theorem dX10_setsAside_88 : decode cX10_setsAside 88 = .ok (.getfield 103, 3) := by decide +kernel
theorem dX10_setsAside_91 : decode cX10_setsAside 91 = .ok (.iload_n 1, 1) := by decide +kernel
theorem dX10_setsAside_92 : decode cX10_setsAside 92 = .ok (.aload_n 0, 1) := by decide +kernel
theorem dX10_setsAside_93 : decode cX10_setsAside 93 = .ok (.getfield 301, 3) := by decide +kernel
theorem dX10_setsAside_96 : decode cX10_setsAside 96 = .ok (.iastore, 1) := by decide +kernel
theorem dX10_setsAside_97 : decode cX10_setsAside 97 = .ok (.aload_n 0, 1) := by decide +kernel
theorem dX10_setsAside_98 : decode cX10_setsAside 98 = .ok (.getfield 106, 3) := by decide +kernel
theorem dX10_setsAside_101 : decode cX10_setsAside 101 = .ok (.iload_n 1, 1) := by decide +kernel
theorem dX10_setsAside_102 : decode cX10_setsAside 102 = .ok (.aload_n 0, 1) := by decide +kernel
theorem dX10_setsAside_103 : decode cX10_setsAside 103 = .ok (.getfield 361, 3) := by decide +kernel
theorem dX10_setsAside_106 : decode cX10_setsAside 106 = .ok (.lastore, 1) := by decide +kernel
theorem dX10_setsAside_107 : decode cX10_setsAside 107 = .ok (.return_, 1) := by decide +kernel
theorem dX10_putsBack_0 : decode cX10_putsBack 0 = .ok (.iconst 0, 1) := by decide +kernel
theorem dX10_putsBack_1 : decode cX10_putsBack 1 = .ok (.istore_n 2, 1) := by decide +kernel
theorem dX10_putsBack_2 : decode cX10_putsBack 2 = .ok (.iload_n 2, 1) := by decide +kernel
theorem dX10_putsBack_3 : decode cX10_putsBack 3 = .ok (.sipush 144, 3) := by decide +kernel
theorem dX10_putsBack_6 : decode cX10_putsBack 6 = .ok (.if_icmp .ge 81, 3) := by decide +kernel
theorem dX10_putsBack_9 : decode cX10_putsBack 9 = .ok (.aload_n 0, 1) := by decide +kernel
theorem dX10_putsBack_10 : decode cX10_putsBack 10 = .ok (.getfield 24, 3) := by decide +kernel
theorem dX10_putsBack_13 : decode cX10_putsBack 13 = .ok (.iload_n 2, 1) := by decide +kernel
theorem dX10_putsBack_14 : decode cX10_putsBack 14 = .ok (.aload_n 0, 1) := by decide +kernel
theorem dX10_putsBack_15 : decode cX10_putsBack 15 = .ok (.getfield 91, 3) := by decide +kernel
theorem dX10_putsBack_18 : decode cX10_putsBack 18 = .ok (.sipush 144, 3) := by decide +kernel
theorem dX10_putsBack_21 : decode cX10_putsBack 21 = .ok (.iload_n 1, 1) := by decide +kernel
theorem dX10_putsBack_22 : decode cX10_putsBack 22 = .ok (.imul, 1) := by decide +kernel
theorem dX10_putsBack_23 : decode cX10_putsBack 23 = .ok (.iload_n 2, 1) := by decide +kernel
theorem dX10_putsBack_24 : decode cX10_putsBack 24 = .ok (.iadd, 1) := by decide +kernel
theorem dX10_putsBack_25 : decode cX10_putsBack 25 = .ok (.iaload, 1) := by decide +kernel
theorem dX10_putsBack_26 : decode cX10_putsBack 26 = .ok (.iastore, 1) := by decide +kernel
theorem dX10_putsBack_27 : decode cX10_putsBack 27 = .ok (.aload_n 0, 1) := by decide +kernel
theorem dX10_putsBack_28 : decode cX10_putsBack 28 = .ok (.getfield 27, 3) := by decide +kernel
theorem dX10_putsBack_31 : decode cX10_putsBack 31 = .ok (.iload_n 2, 1) := by decide +kernel
theorem dX10_putsBack_32 : decode cX10_putsBack 32 = .ok (.aload_n 0, 1) := by decide +kernel
theorem dX10_putsBack_33 : decode cX10_putsBack 33 = .ok (.getfield 94, 3) := by decide +kernel
theorem dX10_putsBack_36 : decode cX10_putsBack 36 = .ok (.sipush 144, 3) := by decide +kernel
theorem dX10_putsBack_39 : decode cX10_putsBack 39 = .ok (.iload_n 1, 1) := by decide +kernel
theorem dX10_putsBack_40 : decode cX10_putsBack 40 = .ok (.imul, 1) := by decide +kernel
theorem dX10_putsBack_41 : decode cX10_putsBack 41 = .ok (.iload_n 2, 1) := by decide +kernel
theorem dX10_putsBack_42 : decode cX10_putsBack 42 = .ok (.iadd, 1) := by decide +kernel
theorem dX10_putsBack_43 : decode cX10_putsBack 43 = .ok (.iaload, 1) := by decide +kernel
theorem dX10_putsBack_44 : decode cX10_putsBack 44 = .ok (.iastore, 1) := by decide +kernel
theorem dX10_putsBack_45 : decode cX10_putsBack 45 = .ok (.aload_n 0, 1) := by decide +kernel
theorem dX10_putsBack_46 : decode cX10_putsBack 46 = .ok (.getfield 17, 3) := by decide +kernel
theorem dX10_putsBack_49 : decode cX10_putsBack 49 = .ok (.iload_n 2, 1) := by decide +kernel
theorem dX10_putsBack_50 : decode cX10_putsBack 50 = .ok (.aload_n 0, 1) := by decide +kernel
theorem dX10_putsBack_51 : decode cX10_putsBack 51 = .ok (.getfield 97, 3) := by decide +kernel
theorem dX10_putsBack_54 : decode cX10_putsBack 54 = .ok (.sipush 144, 3) := by decide +kernel
theorem dX10_putsBack_57 : decode cX10_putsBack 57 = .ok (.iload_n 1, 1) := by decide +kernel
theorem dX10_putsBack_58 : decode cX10_putsBack 58 = .ok (.imul, 1) := by decide +kernel
theorem dX10_putsBack_59 : decode cX10_putsBack 59 = .ok (.iload_n 2, 1) := by decide +kernel
theorem dX10_putsBack_60 : decode cX10_putsBack 60 = .ok (.iadd, 1) := by decide +kernel
theorem dX10_putsBack_61 : decode cX10_putsBack 61 = .ok (.iaload, 1) := by decide +kernel
theorem dX10_putsBack_62 : decode cX10_putsBack 62 = .ok (.iastore, 1) := by decide +kernel
theorem dX10_putsBack_63 : decode cX10_putsBack 63 = .ok (.aload_n 0, 1) := by decide +kernel
theorem dX10_putsBack_64 : decode cX10_putsBack 64 = .ok (.getfield 21, 3) := by decide +kernel
theorem dX10_putsBack_67 : decode cX10_putsBack 67 = .ok (.iload_n 2, 1) := by decide +kernel
theorem dX10_putsBack_68 : decode cX10_putsBack 68 = .ok (.aload_n 0, 1) := by decide +kernel
theorem dX10_putsBack_69 : decode cX10_putsBack 69 = .ok (.getfield 100, 3) := by decide +kernel
theorem dX10_putsBack_72 : decode cX10_putsBack 72 = .ok (.sipush 144, 3) := by decide +kernel
theorem dX10_putsBack_75 : decode cX10_putsBack 75 = .ok (.iload_n 1, 1) := by decide +kernel
theorem dX10_putsBack_76 : decode cX10_putsBack 76 = .ok (.imul, 1) := by decide +kernel
theorem dX10_putsBack_77 : decode cX10_putsBack 77 = .ok (.iload_n 2, 1) := by decide +kernel
theorem dX10_putsBack_78 : decode cX10_putsBack 78 = .ok (.iadd, 1) := by decide +kernel
theorem dX10_putsBack_79 : decode cX10_putsBack 79 = .ok (.iaload, 1) := by decide +kernel
theorem dX10_putsBack_80 : decode cX10_putsBack 80 = .ok (.iastore, 1) := by decide +kernel
theorem dX10_putsBack_81 : decode cX10_putsBack 81 = .ok (.iinc 2 1, 3) := by decide +kernel
theorem dX10_putsBack_84 : decode cX10_putsBack 84 = .ok (.goto (-82), 3) := by decide +kernel
theorem dX10_putsBack_87 : decode cX10_putsBack 87 = .ok (.aload_n 0, 1) := by decide +kernel
theorem dX10_putsBack_88 : decode cX10_putsBack 88 = .ok (.aload_n 0, 1) := by decide +kernel
theorem dX10_putsBack_89 : decode cX10_putsBack 89 = .ok (.getfield 103, 3) := by decide +kernel
theorem dX10_putsBack_92 : decode cX10_putsBack 92 = .ok (.iload_n 1, 1) := by decide +kernel
theorem dX10_putsBack_93 : decode cX10_putsBack 93 = .ok (.iaload, 1) := by decide +kernel
theorem dX10_putsBack_94 : decode cX10_putsBack 94 = .ok (.putfield 301, 3) := by decide +kernel
theorem dX10_putsBack_97 : decode cX10_putsBack 97 = .ok (.aload_n 0, 1) := by decide +kernel
theorem dX10_putsBack_98 : decode cX10_putsBack 98 = .ok (.aload_n 0, 1) := by decide +kernel
theorem dX10_putsBack_99 : decode cX10_putsBack 99 = .ok (.getfield 106, 3) := by decide +kernel
theorem dX10_putsBack_102 : decode cX10_putsBack 102 = .ok (.iload_n 1, 1) := by decide +kernel
theorem dX10_putsBack_103 : decode cX10_putsBack 103 = .ok (.laload, 1) := by decide +kernel
theorem dX10_putsBack_104 : decode cX10_putsBack 104 = .ok (.putfield 361, 3) := by decide +kernel
theorem dX10_putsBack_107 : decode cX10_putsBack 107 = .ok (.return_, 1) := by decide +kernel
theorem dX10_lowestMisty_0 : decode cX10_lowestMisty 0 = .ok (.iconst 0, 1) := by decide +kernel
theorem dX10_lowestMisty_1 : decode cX10_lowestMisty 1 = .ok (.istore_n 1, 1) := by decide +kernel
theorem dX10_lowestMisty_2 : decode cX10_lowestMisty 2 = .ok (.aload_n 0, 1) := by decide +kernel
theorem dX10_lowestMisty_3 : decode cX10_lowestMisty 3 = .ok (.iload_n 1, 1) := by decide +kernel
theorem dX10_lowestMisty_4 : decode cX10_lowestMisty 4 = .ok (.invokevirtual 349, 3) := by decide +kernel
theorem dX10_lowestMisty_7 : decode cX10_lowestMisty 7 = .ok (.ifCond .ne 9, 3) := by decide +kernel
theorem dX10_lowestMisty_10 : decode cX10_lowestMisty 10 = .ok (.iinc 1 1, 3) := by decide +kernel
theorem dX10_lowestMisty_13 : decode cX10_lowestMisty 13 = .ok (.goto (-11), 3) := by decide +kernel
theorem dX10_lowestMisty_16 : decode cX10_lowestMisty 16 = .ok (.iload_n 1, 1) := by decide +kernel
theorem dX10_lowestMisty_17 : decode cX10_lowestMisty 17 = .ok (.ireturn, 1) := by decide +kernel
theorem dX10_night_0 : decode cX10_night 0 = .ok (.iload_n 1, 1) := by decide +kernel
theorem dX10_night_1 : decode cX10_night 1 = .ok (.invokestatic 373, 3) := by decide +kernel
theorem dX10_night_4 : decode cX10_night 4 = .ok (.ifCond .eq 15, 3) := by decide +kernel
theorem dX10_night_7 : decode cX10_night 7 = .ok (.iload_n 2, 1) := by decide +kernel
theorem dX10_night_8 : decode cX10_night 8 = .ok (.i2l, 1) := by decide +kernel
theorem dX10_night_9 : decode cX10_night 9 = .ok (.lconst 0, 1) := by decide +kernel
theorem dX10_night_10 : decode cX10_night 10 = .ok (.ldc2_w 172, 3) := by decide +kernel
theorem dX10_night_13 : decode cX10_night 13 = .ok (.invokestatic 154, 3) := by decide +kernel
theorem dX10_night_16 : decode cX10_night 16 = .ok (.ifCond .ne 5, 3) := by decide +kernel
theorem dX10_night_19 : decode cX10_night 19 = .ok (.iconst (-1), 1) := by decide +kernel
theorem dX10_night_20 : decode cX10_night 20 = .ok (.ireturn, 1) := by decide +kernel
theorem dX10_night_21 : decode cX10_night 21 = .ok (.aload_n 0, 1) := by decide +kernel
theorem dX10_night_22 : decode cX10_night 22 = .ok (.iconst 0, 1) := by decide +kernel
theorem dX10_night_23 : decode cX10_night 23 = .ok (.invokevirtual 388, 3) := by decide +kernel
theorem dX10_night_26 : decode cX10_night 26 = .ok (.bipush (-2), 2) := by decide +kernel
theorem dX10_night_28 : decode cX10_night 28 = .ok (.istore_n 3, 1) := by decide +kernel
theorem dX10_night_29 : decode cX10_night 29 = .ok (.bipush (-2), 2) := by decide +kernel
theorem dX10_night_31 : decode cX10_night 31 = .ok (.istore 4, 2) := by decide +kernel
theorem dX10_night_33 : decode cX10_night 33 = .ok (.bipush (-2), 2) := by decide +kernel
theorem dX10_night_35 : decode cX10_night 35 = .ok (.istore 5, 2) := by decide +kernel
theorem dX10_night_37 : decode cX10_night 37 = .ok (.bipush (-2), 2) := by decide +kernel
theorem dX10_night_39 : decode cX10_night 39 = .ok (.istore 6, 2) := by decide +kernel
theorem dX10_night_41 : decode cX10_night 41 = .ok (.iconst 0, 1) := by decide +kernel
theorem dX10_night_42 : decode cX10_night 42 = .ok (.istore 7, 2) := by decide +kernel
theorem dX10_night_44 : decode cX10_night 44 = .ok (.iconst 0, 1) := by decide +kernel
theorem dX10_night_45 : decode cX10_night 45 = .ok (.istore 8, 2) := by decide +kernel
theorem dX10_night_47 : decode cX10_night 47 = .ok (.iload 8, 2) := by decide +kernel
theorem dX10_night_49 : decode cX10_night 49 = .ok (.iload_n 1, 1) := by decide +kernel
theorem dX10_night_50 : decode cX10_night 50 = .ok (.if_icmp .ge 66, 3) := by decide +kernel
theorem dX10_night_53 : decode cX10_night 53 = .ok (.aload_n 0, 1) := by decide +kernel
theorem dX10_night_54 : decode cX10_night 54 = .ok (.invokevirtual 376, 3) := by decide +kernel
theorem dX10_night_57 : decode cX10_night 57 = .ok (.aload_n 0, 1) := by decide +kernel
theorem dX10_night_58 : decode cX10_night 58 = .ok (.invokevirtual 385, 3) := by decide +kernel
theorem dX10_night_61 : decode cX10_night 61 = .ok (.istore 9, 2) := by decide +kernel
theorem dX10_night_63 : decode cX10_night 63 = .ok (.aload_n 0, 1) := by decide +kernel
theorem dX10_night_64 : decode cX10_night 64 = .ok (.invokevirtual 382, 3) := by decide +kernel
theorem dX10_night_67 : decode cX10_night 67 = .ok (.ifCond .ne 6, 3) := by decide +kernel
theorem dX10_night_70 : decode cX10_night 70 = .ok (.goto 40, 3) := by decide +kernel
theorem dX10_night_73 : decode cX10_night 73 = .ok (.iinc 7 1, 3) := by decide +kernel
theorem dX10_night_76 : decode cX10_night 76 = .ok (.iload 6, 2) := by decide +kernel
theorem dX10_night_78 : decode cX10_night 78 = .ok (.bipush (-2), 2) := by decide +kernel
theorem dX10_night_80 : decode cX10_night 80 = .ok (.if_icmp .ne 15, 3) := by decide +kernel
theorem dX10_night_83 : decode cX10_night 83 = .ok (.aload_n 0, 1) := by decide +kernel
theorem dX10_night_84 : decode cX10_night 84 = .ok (.getfield 301, 3) := by decide +kernel
theorem dX10_night_87 : decode cX10_night 87 = .ok (.istore 6, 2) := by decide +kernel
theorem dX10_night_89 : decode cX10_night 89 = .ok (.aload_n 0, 1) := by decide +kernel
theorem dX10_night_90 : decode cX10_night 90 = .ok (.invokevirtual 391, 3) := by decide +kernel
theorem dX10_night_93 : decode cX10_night 93 = .ok (.istore 5, 2) := by decide +kernel
theorem dX10_night_95 : decode cX10_night 95 = .ok (.iload 9, 2) := by decide +kernel
theorem dX10_night_97 : decode cX10_night 97 = .ok (.iload_n 3, 1) := by decide +kernel
theorem dX10_night_98 : decode cX10_night 98 = .ok (.if_icmp .le 12, 3) := by decide +kernel
theorem dX10_night_101 : decode cX10_night 101 = .ok (.iload 9, 2) := by decide +kernel
theorem dX10_night_103 : decode cX10_night 103 = .ok (.istore_n 3, 1) := by decide +kernel
theorem dX10_night_104 : decode cX10_night 104 = .ok (.aload_n 0, 1) := by decide +kernel
theorem dX10_night_105 : decode cX10_night 105 = .ok (.getfield 301, 3) := by decide +kernel
theorem dX10_night_108 : decode cX10_night 108 = .ok (.istore 4, 2) := by decide +kernel
theorem dX10_night_110 : decode cX10_night 110 = .ok (.iinc 8 1, 3) := by decide +kernel
theorem dX10_night_113 : decode cX10_night 113 = .ok (.goto (-66), 3) := by decide +kernel
theorem dX10_night_116 : decode cX10_night 116 = .ok (.aload_n 0, 1) := by decide +kernel
theorem dX10_night_117 : decode cX10_night 117 = .ok (.iconst 0, 1) := by decide +kernel
theorem dX10_night_118 : decode cX10_night 118 = .ok (.invokevirtual 394, 3) := by decide +kernel
theorem dX10_night_121 : decode cX10_night 121 = .ok (.iload_n 2, 1) := by decide +kernel
theorem dX10_night_122 : decode cX10_night 122 = .ok (.ifCond .ne 7, 3) := by decide +kernel
theorem dX10_night_125 : decode cX10_night 125 = .ok (.iload_n 3, 1) := by decide +kernel
theorem dX10_night_126 : decode cX10_night 126 = .ok (.goto 35, 3) := by decide +kernel
theorem dX10_night_129 : decode cX10_night 129 = .ok (.iload_n 2, 1) := by decide +kernel
theorem dX10_night_130 : decode cX10_night 130 = .ok (.iconst 1, 1) := by decide +kernel
theorem dX10_night_131 : decode cX10_night 131 = .ok (.if_icmp .ne 8, 3) := by decide +kernel
theorem dX10_night_134 : decode cX10_night 134 = .ok (.iload 4, 2) := by decide +kernel
theorem dX10_night_136 : decode cX10_night 136 = .ok (.goto 25, 3) := by decide +kernel
theorem dX10_night_139 : decode cX10_night 139 = .ok (.iload_n 2, 1) := by decide +kernel
theorem dX10_night_140 : decode cX10_night 140 = .ok (.iconst 2, 1) := by decide +kernel
theorem dX10_night_141 : decode cX10_night 141 = .ok (.if_icmp .ne 8, 3) := by decide +kernel
theorem dX10_night_144 : decode cX10_night 144 = .ok (.iload 5, 2) := by decide +kernel
theorem dX10_night_146 : decode cX10_night 146 = .ok (.goto 15, 3) := by decide +kernel
theorem dX10_night_149 : decode cX10_night 149 = .ok (.iload_n 2, 1) := by decide +kernel
theorem dX10_night_150 : decode cX10_night 150 = .ok (.iconst 3, 1) := by decide +kernel
theorem dX10_night_151 : decode cX10_night 151 = .ok (.if_icmp .ne 8, 3) := by decide +kernel
theorem dX10_night_154 : decode cX10_night 154 = .ok (.iload 6, 2) := by decide +kernel
theorem dX10_night_156 : decode cX10_night 156 = .ok (.goto 5, 3) := by decide +kernel
theorem dX10_night_159 : decode cX10_night 159 = .ok (.iload 7, 2) := by decide +kernel
theorem dX10_night_161 : decode cX10_night 161 = .ok (.ireturn, 1) := by decide +kernel
theorem dX10_sun_0 : decode cX10_sun 0 = .ok (.iload_n 1, 1) := by decide +kernel
theorem dX10_sun_1 : decode cX10_sun 1 = .ok (.iload_n 2, 1) := by decide +kernel
theorem dX10_sun_2 : decode cX10_sun 2 = .ok (.invokestatic 166, 3) := by decide +kernel
theorem dX10_sun_5 : decode cX10_sun 5 = .ok (.ifCond .eq 33, 3) := by decide +kernel
theorem dX10_sun_8 : decode cX10_sun 8 = .ok (.iload 4, 2) := by decide +kernel
theorem dX10_sun_10 : decode cX10_sun 10 = .ok (.invokestatic 373, 3) := by decide +kernel
theorem dX10_sun_13 : decode cX10_sun 13 = .ok (.ifCond .eq 25, 3) := by decide +kernel
theorem dX10_sun_16 : decode cX10_sun 16 = .ok (.iload_n 3, 1) := by decide +kernel
theorem dX10_sun_17 : decode cX10_sun 17 = .ok (.i2l, 1) := by decide +kernel
theorem dX10_sun_18 : decode cX10_sun 18 = .ok (.aload_n 0, 1) := by decide +kernel
theorem dX10_sun_19 : decode cX10_sun 19 = .ok (.getfield 17, 3) := by decide +kernel
theorem dX10_sun_22 : decode cX10_sun 22 = .ok (.iload_n 1, 1) := by decide +kernel
theorem dX10_sun_23 : decode cX10_sun 23 = .ok (.iload_n 2, 1) := by decide +kernel
theorem dX10_sun_24 : decode cX10_sun 24 = .ok (.invokestatic 174, 3) := by decide +kernel
theorem dX10_sun_27 : decode cX10_sun 27 = .ok (.iaload, 1) := by decide +kernel
theorem dX10_sun_28 : decode cX10_sun 28 = .ok (.i2l, 1) := by decide +kernel
theorem dX10_sun_29 : decode cX10_sun 29 = .ok (.ldc2_w 397, 3) := by decide +kernel
theorem dX10_sun_32 : decode cX10_sun 32 = .ok (.invokestatic 154, 3) := by decide +kernel
theorem dX10_sun_35 : decode cX10_sun 35 = .ok (.ifCond .ne 5, 3) := by decide +kernel
theorem dX10_sun_38 : decode cX10_sun 38 = .ok (.iconst (-1), 1) := by decide +kernel
theorem dX10_sun_39 : decode cX10_sun 39 = .ok (.ireturn, 1) := by decide +kernel
theorem dX10_sun_40 : decode cX10_sun 40 = .ok (.iload_n 1, 1) := by decide +kernel
theorem dX10_sun_41 : decode cX10_sun 41 = .ok (.iload_n 2, 1) := by decide +kernel
theorem dX10_sun_42 : decode cX10_sun 42 = .ok (.invokestatic 174, 3) := by decide +kernel
theorem dX10_sun_45 : decode cX10_sun 45 = .ok (.istore 5, 2) := by decide +kernel
theorem dX10_sun_47 : decode cX10_sun 47 = .ok (.aload_n 0, 1) := by decide +kernel
theorem dX10_sun_48 : decode cX10_sun 48 = .ok (.iconst 0, 1) := by decide +kernel
theorem dX10_sun_49 : decode cX10_sun 49 = .ok (.invokevirtual 388, 3) := by decide +kernel
theorem dX10_sun_52 : decode cX10_sun 52 = .ok (.iconst 0, 1) := by decide +kernel
theorem dX10_sun_53 : decode cX10_sun 53 = .ok (.istore 6, 2) := by decide +kernel
theorem dX10_sun_55 : decode cX10_sun 55 = .ok (.iconst 0, 1) := by decide +kernel
theorem dX10_sun_56 : decode cX10_sun 56 = .ok (.istore 7, 2) := by decide +kernel
theorem dX10_sun_58 : decode cX10_sun 58 = .ok (.iload 7, 2) := by decide +kernel
theorem dX10_sun_60 : decode cX10_sun 60 = .ok (.iload 4, 2) := by decide +kernel
theorem dX10_sun_62 : decode cX10_sun 62 = .ok (.if_icmp .ge 50, 3) := by decide +kernel
theorem dX10_sun_65 : decode cX10_sun 65 = .ok (.aload_n 0, 1) := by decide +kernel
theorem dX10_sun_66 : decode cX10_sun 66 = .ok (.invokevirtual 376, 3) := by decide +kernel
theorem dX10_sun_69 : decode cX10_sun 69 = .ok (.aload_n 0, 1) := by decide +kernel
theorem dX10_sun_70 : decode cX10_sun 70 = .ok (.iload 5, 2) := by decide +kernel
theorem dX10_sun_72 : decode cX10_sun 72 = .ok (.invokevirtual 349, 3) := by decide +kernel
theorem dX10_sun_75 : decode cX10_sun 75 = .ok (.istore 8, 2) := by decide +kernel
theorem dX10_sun_77 : decode cX10_sun 77 = .ok (.iload 6, 2) := by decide +kernel
theorem dX10_sun_79 : decode cX10_sun 79 = .ok (.iload 8, 2) := by decide +kernel
theorem dX10_sun_81 : decode cX10_sun 81 = .ok (.ifCond .eq 17, 3) := by decide +kernel
theorem dX10_sun_84 : decode cX10_sun 84 = .ok (.iload_n 3, 1) := by decide +kernel
theorem dX10_sun_85 : decode cX10_sun 85 = .ok (.aload_n 0, 1) := by decide +kernel
theorem dX10_sun_86 : decode cX10_sun 86 = .ok (.getfield 17, 3) := by decide +kernel
theorem dX10_sun_89 : decode cX10_sun 89 = .ok (.iload 5, 2) := by decide +kernel
theorem dX10_sun_91 : decode cX10_sun 91 = .ok (.iaload, 1) := by decide +kernel
theorem dX10_sun_92 : decode cX10_sun 92 = .ok (.iload 8, 2) := by decide +kernel
theorem dX10_sun_94 : decode cX10_sun 94 = .ok (.iadd, 1) := by decide +kernel
theorem dX10_sun_95 : decode cX10_sun 95 = .ok (.if_icmp .lt 7, 3) := by decide +kernel
theorem dX10_sun_98 : decode cX10_sun 98 = .ok (.iconst 1, 1) := by decide +kernel
theorem dX10_sun_99 : decode cX10_sun 99 = .ok (.goto 4, 3) := by decide +kernel
theorem dX10_sun_102 : decode cX10_sun 102 = .ok (.iconst 0, 1) := by decide +kernel
theorem dX10_sun_103 : decode cX10_sun 103 = .ok (.iadd, 1) := by decide +kernel
theorem dX10_sun_104 : decode cX10_sun 104 = .ok (.istore 6, 2) := by decide +kernel
theorem dX10_sun_106 : decode cX10_sun 106 = .ok (.iinc 7 1, 3) := by decide +kernel
theorem dX10_sun_109 : decode cX10_sun 109 = .ok (.goto (-51), 3) := by decide +kernel
theorem dX10_sun_112 : decode cX10_sun 112 = .ok (.aload_n 0, 1) := by decide +kernel
theorem dX10_sun_113 : decode cX10_sun 113 = .ok (.iconst 0, 1) := by decide +kernel
theorem dX10_sun_114 : decode cX10_sun 114 = .ok (.invokevirtual 394, 3) := by decide +kernel
theorem dX10_sun_117 : decode cX10_sun 117 = .ok (.iload 6, 2) := by decide +kernel
theorem dX10_sun_119 : decode cX10_sun 119 = .ok (.ireturn, 1) := by decide +kernel
theorem dX10_band_0 : decode cX10_band 0 = .ok (.iload_n 1, 1) := by decide +kernel
theorem dX10_band_1 : decode cX10_band 1 = .ok (.invokestatic 373, 3) := by decide +kernel
theorem dX10_band_4 : decode cX10_band 4 = .ok (.ifCond .eq 15, 3) := by decide +kernel
theorem dX10_band_7 : decode cX10_band 7 = .ok (.iload_n 2, 1) := by decide +kernel
theorem dX10_band_8 : decode cX10_band 8 = .ok (.i2l, 1) := by decide +kernel
theorem dX10_band_9 : decode cX10_band 9 = .ok (.lconst 1, 1) := by decide +kernel
theorem dX10_band_10 : decode cX10_band 10 = .ok (.ldc2_w 177, 3) := by decide +kernel
theorem dX10_band_13 : decode cX10_band 13 = .ok (.invokestatic 154, 3) := by decide +kernel
theorem dX10_band_16 : decode cX10_band 16 = .ok (.ifCond .ne 5, 3) := by decide +kernel
theorem dX10_band_19 : decode cX10_band 19 = .ok (.iconst (-1), 1) := by decide +kernel
theorem dX10_band_20 : decode cX10_band 20 = .ok (.ireturn, 1) := by decide +kernel
theorem dX10_band_21 : decode cX10_band 21 = .ok (.aload_n 0, 1) := by decide +kernel
theorem dX10_band_22 : decode cX10_band 22 = .ok (.iconst 0, 1) := by decide +kernel
theorem dX10_band_23 : decode cX10_band 23 = .ok (.invokevirtual 388, 3) := by decide +kernel
theorem dX10_band_26 : decode cX10_band 26 = .ok (.iconst 0, 1) := by decide +kernel
theorem dX10_band_27 : decode cX10_band 27 = .ok (.istore_n 3, 1) := by decide +kernel
theorem dX10_band_28 : decode cX10_band 28 = .ok (.iconst 0, 1) := by decide +kernel
theorem dX10_band_29 : decode cX10_band 29 = .ok (.istore 4, 2) := by decide +kernel
theorem dX10_band_31 : decode cX10_band 31 = .ok (.iload 4, 2) := by decide +kernel
theorem dX10_band_33 : decode cX10_band 33 = .ok (.iload_n 1, 1) := by decide +kernel
theorem dX10_band_34 : decode cX10_band 34 = .ok (.if_icmp .ge 64, 3) := by decide +kernel
theorem dX10_band_37 : decode cX10_band 37 = .ok (.aload_n 0, 1) := by decide +kernel
theorem dX10_band_38 : decode cX10_band 38 = .ok (.invokevirtual 376, 3) := by decide +kernel
theorem dX10_band_41 : decode cX10_band 41 = .ok (.iconst 0, 1) := by decide +kernel
theorem dX10_band_42 : decode cX10_band 42 = .ok (.istore 5, 2) := by decide +kernel
theorem dX10_band_44 : decode cX10_band 44 = .ok (.iload 5, 2) := by decide +kernel
theorem dX10_band_46 : decode cX10_band 46 = .ok (.sipush 144, 3) := by decide +kernel
theorem dX10_band_49 : decode cX10_band 49 = .ok (.if_icmp .ge 43, 3) := by decide +kernel
theorem dX10_band_52 : decode cX10_band 52 = .ok (.aload_n 0, 1) := by decide +kernel
theorem dX10_band_53 : decode cX10_band 53 = .ok (.getfield 24, 3) := by decide +kernel
theorem dX10_band_56 : decode cX10_band 56 = .ok (.iload 5, 2) := by decide +kernel
theorem dX10_band_58 : decode cX10_band 58 = .ok (.iaload, 1) := by decide +kernel
theorem dX10_band_59 : decode cX10_band 59 = .ok (.iload_n 2, 1) := by decide +kernel
theorem dX10_band_60 : decode cX10_band 60 = .ok (.if_icmp .lt 26, 3) := by decide +kernel
theorem dX10_band_63 : decode cX10_band 63 = .ok (.aload_n 0, 1) := by decide +kernel
theorem dX10_band_64 : decode cX10_band 64 = .ok (.getfield 17, 3) := by decide +kernel
theorem dX10_band_67 : decode cX10_band 67 = .ok (.iload 5, 2) := by decide +kernel
theorem dX10_band_69 : decode cX10_band 69 = .ok (.iaload, 1) := by decide +kernel
theorem dX10_band_70 : decode cX10_band 70 = .ok (.iconst 1, 1) := by decide +kernel
theorem dX10_band_71 : decode cX10_band 71 = .ok (.iadd, 1) := by decide +kernel
theorem dX10_band_72 : decode cX10_band 72 = .ok (.iload_n 3, 1) := by decide +kernel
theorem dX10_band_73 : decode cX10_band 73 = .ok (.if_icmp .le 13, 3) := by decide +kernel
theorem dX10_band_76 : decode cX10_band 76 = .ok (.aload_n 0, 1) := by decide +kernel
theorem dX10_band_77 : decode cX10_band 77 = .ok (.getfield 17, 3) := by decide +kernel
theorem dX10_band_80 : decode cX10_band 80 = .ok (.iload 5, 2) := by decide +kernel
theorem dX10_band_82 : decode cX10_band 82 = .ok (.iaload, 1) := by decide +kernel
theorem dX10_band_83 : decode cX10_band 83 = .ok (.iconst 1, 1) := by decide +kernel
theorem dX10_band_84 : decode cX10_band 84 = .ok (.iadd, 1) := by decide +kernel
theorem dX10_band_85 : decode cX10_band 85 = .ok (.istore_n 3, 1) := by decide +kernel
theorem dX10_band_86 : decode cX10_band 86 = .ok (.iinc 5 1, 3) := by decide +kernel
theorem dX10_band_89 : decode cX10_band 89 = .ok (.goto (-45), 3) := by decide +kernel
theorem dX10_band_92 : decode cX10_band 92 = .ok (.iinc 4 1, 3) := by decide +kernel
theorem dX10_band_95 : decode cX10_band 95 = .ok (.goto (-64), 3) := by decide +kernel
theorem dX10_band_98 : decode cX10_band 98 = .ok (.aload_n 0, 1) := by decide +kernel
theorem dX10_band_99 : decode cX10_band 99 = .ok (.iconst 0, 1) := by decide +kernel
theorem dX10_band_100 : decode cX10_band 100 = .ok (.invokevirtual 394, 3) := by decide +kernel
theorem dX10_band_103 : decode cX10_band 103 = .ok (.iload_n 3, 1) := by decide +kernel
theorem dX10_band_104 : decode cX10_band 104 = .ok (.bipush 99, 2) := by decide +kernel
theorem dX10_band_106 : decode cX10_band 106 = .ok (.if_icmp .le 8, 3) := by decide +kernel
theorem dX10_band_109 : decode cX10_band 109 = .ok (.bipush (-2), 2) := by decide +kernel
theorem dX10_band_111 : decode cX10_band 111 = .ok (.goto 4, 3) := by decide +kernel
theorem dX10_band_114 : decode cX10_band 114 = .ok (.iload_n 3, 1) := by decide +kernel
theorem dX10_band_115 : decode cX10_band 115 = .ok (.ireturn, 1) := by decide +kernel
theorem dX10_laysNight_0 : decode cX10_laysNight 0 = .ok (.aload_n 0, 1) := by decide +kernel
theorem dX10_laysNight_1 : decode cX10_laysNight 1 = .ok (.iconst 0, 1) := by decide +kernel
theorem dX10_laysNight_2 : decode cX10_laysNight 2 = .ok (.invokevirtual 388, 3) := by decide +kernel
theorem dX10_laysNight_5 : decode cX10_laysNight 5 = .ok (.iload_n 1, 1) := by decide +kernel
theorem dX10_laysNight_6 : decode cX10_laysNight 6 = .ok (.iconst (-1), 1) := by decide +kernel
theorem dX10_laysNight_7 : decode cX10_laysNight 7 = .ok (.if_icmp .eq 10, 3) := by decide +kernel
theorem dX10_laysNight_10 : decode cX10_laysNight 10 = .ok (.aload_n 0, 1) := by decide +kernel
theorem dX10_laysNight_11 : decode cX10_laysNight 11 = .ok (.getfield 21, 3) := by decide +kernel
theorem dX10_laysNight_14 : decode cX10_laysNight 14 = .ok (.iload_n 1, 1) := by decide +kernel
theorem dX10_laysNight_15 : decode cX10_laysNight 15 = .ok (.iconst 2, 1) := by decide +kernel
theorem dX10_laysNight_16 : decode cX10_laysNight 16 = .ok (.iastore, 1) := by decide +kernel
theorem dX10_laysNight_17 : decode cX10_laysNight 17 = .ok (.iconst 0, 1) := by decide +kernel
theorem dX10_laysNight_18 : decode cX10_laysNight 18 = .ok (.istore_n 3, 1) := by decide +kernel
theorem dX10_laysNight_19 : decode cX10_laysNight 19 = .ok (.iload_n 3, 1) := by decide +kernel
theorem dX10_laysNight_20 : decode cX10_laysNight 20 = .ok (.iload_n 2, 1) := by decide +kernel
theorem dX10_laysNight_21 : decode cX10_laysNight 21 = .ok (.if_icmp .ge 13, 3) := by decide +kernel
theorem dX10_laysNight_24 : decode cX10_laysNight 24 = .ok (.aload_n 0, 1) := by decide +kernel
theorem dX10_laysNight_25 : decode cX10_laysNight 25 = .ok (.invokevirtual 376, 3) := by decide +kernel
theorem dX10_laysNight_28 : decode cX10_laysNight 28 = .ok (.iinc 3 1, 3) := by decide +kernel
theorem dX10_laysNight_31 : decode cX10_laysNight 31 = .ok (.goto (-12), 3) := by decide +kernel
theorem dX10_laysNight_34 : decode cX10_laysNight 34 = .ok (.return_, 1) := by decide +kernel
theorem dX10_works_0 : decode cX10_works 0 = .ok (.iload_n 1, 1) := by decide +kernel
theorem dX10_works_1 : decode cX10_works 1 = .ok (.iload_n 2, 1) := by decide +kernel
theorem dX10_works_2 : decode cX10_works 2 = .ok (.invokestatic 166, 3) := by decide +kernel
theorem dX10_works_5 : decode cX10_works 5 = .ok (.ifCond .eq 37, 3) := by decide +kernel
theorem dX10_works_8 : decode cX10_works 8 = .ok (.iload_n 3, 1) := by decide +kernel
theorem dX10_works_9 : decode cX10_works 9 = .ok (.invokestatic 373, 3) := by decide +kernel
theorem dX10_works_12 : decode cX10_works 12 = .ok (.ifCond .eq 30, 3) := by decide +kernel
theorem dX10_works_15 : decode cX10_works 15 = .ok (.iload 4, 2) := by decide +kernel
theorem dX10_works_17 : decode cX10_works 17 = .ok (.i2l, 1) := by decide +kernel
theorem dX10_works_18 : decode cX10_works 18 = .ok (.lconst 0, 1) := by decide +kernel
theorem dX10_works_19 : decode cX10_works 19 = .ok (.ldc2_w 399, 3) := by decide +kernel
theorem dX10_works_22 : decode cX10_works 22 = .ok (.invokestatic 154, 3) := by decide +kernel
theorem dX10_works_25 : decode cX10_works 25 = .ok (.ifCond .eq 17, 3) := by decide +kernel
theorem dX10_works_28 : decode cX10_works 28 = .ok (.aload_n 0, 1) := by decide +kernel
theorem dX10_works_29 : decode cX10_works 29 = .ok (.getfield 21, 3) := by decide +kernel
theorem dX10_works_32 : decode cX10_works 32 = .ok (.iload_n 1, 1) := by decide +kernel
theorem dX10_works_33 : decode cX10_works 33 = .ok (.iload_n 2, 1) := by decide +kernel
theorem dX10_works_34 : decode cX10_works 34 = .ok (.invokestatic 174, 3) := by decide +kernel
theorem dX10_works_37 : decode cX10_works 37 = .ok (.iaload, 1) := by decide +kernel
theorem dX10_works_38 : decode cX10_works 38 = .ok (.iconst 2, 1) := by decide +kernel
theorem dX10_works_39 : decode cX10_works 39 = .ok (.if_icmp .ne 5, 3) := by decide +kernel
theorem dX10_works_42 : decode cX10_works 42 = .ok (.iconst (-1), 1) := by decide +kernel
theorem dX10_works_43 : decode cX10_works 43 = .ok (.ireturn, 1) := by decide +kernel
theorem dX10_works_44 : decode cX10_works 44 = .ok (.aload_n 0, 1) := by decide +kernel
theorem dX10_works_45 : decode cX10_works 45 = .ok (.iconst (-1), 1) := by decide +kernel
theorem dX10_works_46 : decode cX10_works 46 = .ok (.iload_n 3, 1) := by decide +kernel
theorem dX10_works_47 : decode cX10_works 47 = .ok (.invokevirtual 401, 3) := by decide +kernel
theorem dX10_works_50 : decode cX10_works 50 = .ok (.iconst 0, 1) := by decide +kernel
theorem dX10_works_51 : decode cX10_works 51 = .ok (.istore 5, 2) := by decide +kernel
theorem dX10_works_53 : decode cX10_works 53 = .ok (.iload 5, 2) := by decide +kernel
theorem dX10_works_55 : decode cX10_works 55 = .ok (.sipush 144, 3) := by decide +kernel
theorem dX10_works_58 : decode cX10_works 58 = .ok (.if_icmp .ge 23, 3) := by decide +kernel
theorem dX10_works_61 : decode cX10_works 61 = .ok (.aload_n 0, 1) := by decide +kernel
theorem dX10_works_62 : decode cX10_works 62 = .ok (.getfield 110, 3) := by decide +kernel
theorem dX10_works_65 : decode cX10_works 65 = .ok (.iload 5, 2) := by decide +kernel
theorem dX10_works_67 : decode cX10_works 67 = .ok (.aload_n 0, 1) := by decide +kernel
theorem dX10_works_68 : decode cX10_works 68 = .ok (.getfield 24, 3) := by decide +kernel
theorem dX10_works_71 : decode cX10_works 71 = .ok (.iload 5, 2) := by decide +kernel
theorem dX10_works_73 : decode cX10_works 73 = .ok (.iaload, 1) := by decide +kernel
theorem dX10_works_74 : decode cX10_works 74 = .ok (.iastore, 1) := by decide +kernel
theorem dX10_works_75 : decode cX10_works 75 = .ok (.iinc 5 1, 3) := by decide +kernel
theorem dX10_works_78 : decode cX10_works 78 = .ok (.goto (-25), 3) := by decide +kernel
theorem dX10_works_81 : decode cX10_works 81 = .ok (.aload_n 0, 1) := by decide +kernel
theorem dX10_works_82 : decode cX10_works 82 = .ok (.iconst 0, 1) := by decide +kernel
theorem dX10_works_83 : decode cX10_works 83 = .ok (.invokevirtual 394, 3) := by decide +kernel
theorem dX10_works_86 : decode cX10_works 86 = .ok (.aload_n 0, 1) := by decide +kernel
theorem dX10_works_87 : decode cX10_works 87 = .ok (.iload_n 1, 1) := by decide +kernel
theorem dX10_works_88 : decode cX10_works 88 = .ok (.iload_n 2, 1) := by decide +kernel
theorem dX10_works_89 : decode cX10_works 89 = .ok (.invokestatic 174, 3) := by decide +kernel
theorem dX10_works_92 : decode cX10_works 92 = .ok (.iload_n 3, 1) := by decide +kernel
theorem dX10_works_93 : decode cX10_works 93 = .ok (.invokevirtual 401, 3) := by decide +kernel
theorem dX10_works_96 : decode cX10_works 96 = .ok (.iconst 0, 1) := by decide +kernel
theorem dX10_works_97 : decode cX10_works 97 = .ok (.istore 5, 2) := by decide +kernel
theorem dX10_works_99 : decode cX10_works 99 = .ok (.iconst 0, 1) := by decide +kernel
theorem dX10_works_100 : decode cX10_works 100 = .ok (.istore 6, 2) := by decide +kernel
theorem dX10_works_102 : decode cX10_works 102 = .ok (.bipush (-2), 2) := by decide +kernel
theorem dX10_works_104 : decode cX10_works 104 = .ok (.istore 7, 2) := by decide +kernel
theorem dX10_works_106 : decode cX10_works 106 = .ok (.iconst 0, 1) := by decide +kernel
theorem dX10_works_107 : decode cX10_works 107 = .ok (.istore 8, 2) := by decide +kernel
theorem dX10_works_109 : decode cX10_works 109 = .ok (.iconst 0, 1) := by decide +kernel
theorem dX10_works_110 : decode cX10_works 110 = .ok (.istore 9, 2) := by decide +kernel
theorem dX10_works_112 : decode cX10_works 112 = .ok (.iload 9, 2) := by decide +kernel
theorem dX10_works_114 : decode cX10_works 114 = .ok (.sipush 144, 3) := by decide +kernel
theorem dX10_works_117 : decode cX10_works 117 = .ok (.if_icmp .ge 74, 3) := by decide +kernel
theorem dX10_works_120 : decode cX10_works 120 = .ok (.aload_n 0, 1) := by decide +kernel
theorem dX10_works_121 : decode cX10_works 121 = .ok (.getfield 24, 3) := by decide +kernel
theorem dX10_works_124 : decode cX10_works 124 = .ok (.iload 9, 2) := by decide +kernel
theorem dX10_works_126 : decode cX10_works 126 = .ok (.iaload, 1) := by decide +kernel
theorem dX10_works_127 : decode cX10_works 127 = .ok (.aload_n 0, 1) := by decide +kernel
theorem dX10_works_128 : decode cX10_works 128 = .ok (.getfield 110, 3) := by decide +kernel
theorem dX10_works_131 : decode cX10_works 131 = .ok (.iload 9, 2) := by decide +kernel
theorem dX10_works_133 : decode cX10_works 133 = .ok (.iaload, 1) := by decide +kernel
theorem dX10_works_134 : decode cX10_works 134 = .ok (.isub, 1) := by decide +kernel
theorem dX10_works_135 : decode cX10_works 135 = .ok (.istore 10, 2) := by decide +kernel
theorem dX10_works_137 : decode cX10_works 137 = .ok (.iload 5, 2) := by decide +kernel
theorem dX10_works_139 : decode cX10_works 139 = .ok (.iload 10, 2) := by decide +kernel
theorem dX10_works_141 : decode cX10_works 141 = .ok (.ifCond .le 7, 3) := by decide +kernel
theorem dX10_works_144 : decode cX10_works 144 = .ok (.iconst 1, 1) := by decide +kernel
theorem dX10_works_145 : decode cX10_works 145 = .ok (.goto 4, 3) := by decide +kernel
theorem dX10_works_148 : decode cX10_works 148 = .ok (.iconst 0, 1) := by decide +kernel
theorem dX10_works_149 : decode cX10_works 149 = .ok (.iadd, 1) := by decide +kernel
theorem dX10_works_150 : decode cX10_works 150 = .ok (.istore 5, 2) := by decide +kernel
theorem dX10_works_152 : decode cX10_works 152 = .ok (.iload 6, 2) := by decide +kernel
theorem dX10_works_154 : decode cX10_works 154 = .ok (.iload 10, 2) := by decide +kernel
theorem dX10_works_156 : decode cX10_works 156 = .ok (.ifCond .ge 7, 3) := by decide +kernel
theorem dX10_works_159 : decode cX10_works 159 = .ok (.iconst 1, 1) := by decide +kernel
theorem dX10_works_160 : decode cX10_works 160 = .ok (.goto 4, 3) := by decide +kernel
theorem dX10_works_163 : decode cX10_works 163 = .ok (.iconst 0, 1) := by decide +kernel
theorem dX10_works_164 : decode cX10_works 164 = .ok (.iadd, 1) := by decide +kernel
theorem dX10_works_165 : decode cX10_works 165 = .ok (.istore 6, 2) := by decide +kernel
theorem dX10_works_167 : decode cX10_works 167 = .ok (.iload 10, 2) := by decide +kernel
theorem dX10_works_169 : decode cX10_works 169 = .ok (.iload 8, 2) := by decide +kernel
theorem dX10_works_171 : decode cX10_works 171 = .ok (.if_icmp .gt 6, 3) := by decide +kernel
theorem dX10_works_174 : decode cX10_works 174 = .ok (.goto 11, 3) := by decide +kernel
theorem dX10_works_177 : decode cX10_works 177 = .ok (.iload 9, 2) := by decide +kernel
theorem dX10_works_179 : decode cX10_works 179 = .ok (.istore 7, 2) := by decide +kernel
theorem dX10_works_181 : decode cX10_works 181 = .ok (.iload 10, 2) := by decide +kernel
theorem dX10_works_183 : decode cX10_works 183 = .ok (.istore 8, 2) := by decide +kernel
theorem dX10_works_185 : decode cX10_works 185 = .ok (.iinc 9 1, 3) := by decide +kernel
theorem dX10_works_188 : decode cX10_works 188 = .ok (.goto (-76), 3) := by decide +kernel
theorem dX10_works_191 : decode cX10_works 191 = .ok (.aload_n 0, 1) := by decide +kernel
theorem dX10_works_192 : decode cX10_works 192 = .ok (.iconst 0, 1) := by decide +kernel
theorem dX10_works_193 : decode cX10_works 193 = .ok (.invokevirtual 394, 3) := by decide +kernel
theorem dX10_works_196 : decode cX10_works 196 = .ok (.iload 4, 2) := by decide +kernel
theorem dX10_works_198 : decode cX10_works 198 = .ok (.ifCond .ne 8, 3) := by decide +kernel
theorem dX10_works_201 : decode cX10_works 201 = .ok (.iload 5, 2) := by decide +kernel
theorem dX10_works_203 : decode cX10_works 203 = .ok (.goto 27, 3) := by decide +kernel
theorem dX10_works_206 : decode cX10_works 206 = .ok (.iload 4, 2) := by decide +kernel
theorem dX10_works_208 : decode cX10_works 208 = .ok (.iconst 1, 1) := by decide +kernel
theorem dX10_works_209 : decode cX10_works 209 = .ok (.if_icmp .ne 8, 3) := by decide +kernel
theorem dX10_works_212 : decode cX10_works 212 = .ok (.iload 6, 2) := by decide +kernel
theorem dX10_works_214 : decode cX10_works 214 = .ok (.goto 16, 3) := by decide +kernel
theorem dX10_works_217 : decode cX10_works 217 = .ok (.iload 4, 2) := by decide +kernel
theorem dX10_works_219 : decode cX10_works 219 = .ok (.iconst 2, 1) := by decide +kernel
theorem dX10_works_220 : decode cX10_works 220 = .ok (.if_icmp .ne 8, 3) := by decide +kernel
theorem dX10_works_223 : decode cX10_works 223 = .ok (.iload 7, 2) := by decide +kernel
theorem dX10_works_225 : decode cX10_works 225 = .ok (.goto 5, 3) := by decide +kernel
theorem dX10_works_228 : decode cX10_works 228 = .ok (.iload 8, 2) := by decide +kernel
theorem dX10_works_230 : decode cX10_works 230 = .ok (.ireturn, 1) := by decide +kernel
theorem dX10_dam_0 : decode cX10_dam 0 = .ok (.iload_n 1, 1) := by decide +kernel
theorem dX10_dam_1 : decode cX10_dam 1 = .ok (.i2l, 1) := by decide +kernel
theorem dX10_dam_2 : decode cX10_dam 2 = .ok (.lconst 0, 1) := by decide +kernel
theorem dX10_dam_3 : decode cX10_dam 3 = .ok (.ldc2_w 404, 3) := by decide +kernel
theorem dX10_dam_6 : decode cX10_dam 6 = .ok (.invokestatic 154, 3) := by decide +kernel
theorem dX10_dam_9 : decode cX10_dam 9 = .ok (.ifCond .eq 25, 3) := by decide +kernel
theorem dX10_dam_12 : decode cX10_dam 12 = .ok (.iload_n 2, 1) := by decide +kernel
theorem dX10_dam_13 : decode cX10_dam 13 = .ok (.i2l, 1) := by decide +kernel
theorem dX10_dam_14 : decode cX10_dam 14 = .ok (.lconst 1, 1) := by decide +kernel
theorem dX10_dam_15 : decode cX10_dam 15 = .ok (.ldc2_w 406, 3) := by decide +kernel
theorem dX10_dam_18 : decode cX10_dam 18 = .ok (.invokestatic 154, 3) := by decide +kernel
theorem dX10_dam_21 : decode cX10_dam 21 = .ok (.ifCond .eq 13, 3) := by decide +kernel
theorem dX10_dam_24 : decode cX10_dam 24 = .ok (.iload_n 3, 1) := by decide +kernel
theorem dX10_dam_25 : decode cX10_dam 25 = .ok (.i2l, 1) := by decide +kernel
theorem dX10_dam_26 : decode cX10_dam 26 = .ok (.lconst 0, 1) := by decide +kernel
theorem dX10_dam_27 : decode cX10_dam 27 = .ok (.lconst 1, 1) := by decide +kernel
theorem dX10_dam_28 : decode cX10_dam 28 = .ok (.invokestatic 154, 3) := by decide +kernel
theorem dX10_dam_31 : decode cX10_dam 31 = .ok (.ifCond .ne 5, 3) := by decide +kernel
theorem dX10_dam_34 : decode cX10_dam 34 = .ok (.iconst (-1), 1) := by decide +kernel
theorem dX10_dam_35 : decode cX10_dam 35 = .ok (.ireturn, 1) := by decide +kernel
theorem dX10_dam_36 : decode cX10_dam 36 = .ok (.iconst (-1), 1) := by decide +kernel
theorem dX10_dam_37 : decode cX10_dam 37 = .ok (.istore 4, 2) := by decide +kernel
theorem dX10_dam_39 : decode cX10_dam 39 = .ok (.iconst 0, 1) := by decide +kernel
theorem dX10_dam_40 : decode cX10_dam 40 = .ok (.istore 5, 2) := by decide +kernel
theorem dX10_dam_42 : decode cX10_dam 42 = .ok (.iconst 0, 1) := by decide +kernel
theorem dX10_dam_43 : decode cX10_dam 43 = .ok (.istore 6, 2) := by decide +kernel
theorem dX10_dam_45 : decode cX10_dam 45 = .ok (.iload 6, 2) := by decide +kernel
theorem dX10_dam_47 : decode cX10_dam 47 = .ok (.sipush 144, 3) := by decide +kernel
theorem dX10_dam_50 : decode cX10_dam 50 = .ok (.if_icmp .ge 62, 3) := by decide +kernel
theorem dX10_dam_53 : decode cX10_dam 53 = .ok (.iload 6, 2) := by decide +kernel
theorem dX10_dam_55 : decode cX10_dam 55 = .ok (.iload_n 1, 1) := by decide +kernel
theorem dX10_dam_56 : decode cX10_dam 56 = .ok (.if_icmp .ne 6, 3) := by decide +kernel
theorem dX10_dam_59 : decode cX10_dam 59 = .ok (.goto 47, 3) := by decide +kernel
theorem dX10_dam_62 : decode cX10_dam 62 = .ok (.aload_n 0, 1) := by decide +kernel
theorem dX10_dam_63 : decode cX10_dam 63 = .ok (.iload 6, 2) := by decide +kernel
theorem dX10_dam_65 : decode cX10_dam 65 = .ok (.iload_n 2, 1) := by decide +kernel
