theorem dX9_tells_64 : decode cX9_tells 64 = .ok (.iinc 5 1, 3) := by decide +kernel
theorem dX9_tells_67 : decode cX9_tells 67 = .ok (.goto (-47), 3) := by decide +kernel
theorem dX9_tells_70 : decode cX9_tells 70 = .ok (.iload_n 3, 1) := by decide +kernel
theorem dX9_tells_71 : decode cX9_tells 71 = .ok (.ireturn, 1) := by decide +kernel
theorem dX9_held_0 : decode cX9_held 0 = .ok (.iload_n 1, 1) := by decide +kernel
theorem dX9_held_1 : decode cX9_held 1 = .ok (.iload_n 2, 1) := by decide +kernel
theorem dX9_held_2 : decode cX9_held 2 = .ok (.invokestatic 252, 3) := by decide +kernel
theorem dX9_held_5 : decode cX9_held 5 = .ok (.ifCond .ne 5, 3) := by decide +kernel
theorem dX9_held_8 : decode cX9_held 8 = .ok (.iconst (-1), 1) := by decide +kernel
theorem dX9_held_9 : decode cX9_held 9 = .ok (.ireturn, 1) := by decide +kernel
theorem dX9_held_10 : decode cX9_held 10 = .ok (.iconst 0, 1) := by decide +kernel
theorem dX9_held_11 : decode cX9_held 11 = .ok (.istore_n 3, 1) := by decide +kernel
theorem dX9_held_12 : decode cX9_held 12 = .ok (.iconst 0, 1) := by decide +kernel
theorem dX9_held_13 : decode cX9_held 13 = .ok (.istore 4, 2) := by decide +kernel
theorem dX9_held_15 : decode cX9_held 15 = .ok (.iload 4, 2) := by decide +kernel
theorem dX9_held_17 : decode cX9_held 17 = .ok (.aload_n 0, 1) := by decide +kernel
theorem dX9_held_18 : decode cX9_held 18 = .ok (.getfield 46, 3) := by decide +kernel
theorem dX9_held_21 : decode cX9_held 21 = .ok (.getfield 236, 3) := by decide +kernel
theorem dX9_held_24 : decode cX9_held 24 = .ok (.if_icmp .ge 64, 3) := by decide +kernel
theorem dX9_held_27 : decode cX9_held 27 = .ok (.aload_n 0, 1) := by decide +kernel
theorem dX9_held_28 : decode cX9_held 28 = .ok (.getfield 71, 3) := by decide +kernel
theorem dX9_held_31 : decode cX9_held 31 = .ok (.aload_n 0, 1) := by decide +kernel
theorem dX9_held_32 : decode cX9_held 32 = .ok (.getfield 46, 3) := by decide +kernel
theorem dX9_held_35 : decode cX9_held 35 = .ok (.getfield 237, 3) := by decide +kernel
theorem dX9_held_38 : decode cX9_held 38 = .ok (.iload 4, 2) := by decide +kernel
theorem dX9_held_40 : decode cX9_held 40 = .ok (.iaload, 1) := by decide +kernel
theorem dX9_held_41 : decode cX9_held 41 = .ok (.aload_n 0, 1) := by decide +kernel
theorem dX9_held_42 : decode cX9_held 42 = .ok (.getfield 46, 3) := by decide +kernel
theorem dX9_held_45 : decode cX9_held 45 = .ok (.getfield 240, 3) := by decide +kernel
theorem dX9_held_48 : decode cX9_held 48 = .ok (.iload 4, 2) := by decide +kernel
theorem dX9_held_50 : decode cX9_held 50 = .ok (.iaload, 1) := by decide +kernel
theorem dX9_held_51 : decode cX9_held 51 = .ok (.aload_n 0, 1) := by decide +kernel
theorem dX9_held_52 : decode cX9_held 52 = .ok (.getfield 46, 3) := by decide +kernel
theorem dX9_held_55 : decode cX9_held 55 = .ok (.getfield 243, 3) := by decide +kernel
theorem dX9_held_58 : decode cX9_held 58 = .ok (.iload 4, 2) := by decide +kernel
theorem dX9_held_60 : decode cX9_held 60 = .ok (.iaload, 1) := by decide +kernel
theorem dX9_held_61 : decode cX9_held 61 = .ok (.invokevirtual 266, 3) := by decide +kernel
theorem dX9_held_64 : decode cX9_held 64 = .ok (.istore 5, 2) := by decide +kernel
theorem dX9_held_66 : decode cX9_held 66 = .ok (.iload_n 3, 1) := by decide +kernel
theorem dX9_held_67 : decode cX9_held 67 = .ok (.aload_n 0, 1) := by decide +kernel
theorem dX9_held_68 : decode cX9_held 68 = .ok (.getfield 46, 3) := by decide +kernel
theorem dX9_held_71 : decode cX9_held 71 = .ok (.iload 4, 2) := by decide +kernel
theorem dX9_held_73 : decode cX9_held 73 = .ok (.iload 5, 2) := by decide +kernel
theorem dX9_held_75 : decode cX9_held 75 = .ok (.iload_n 1, 1) := by decide +kernel
theorem dX9_held_76 : decode cX9_held 76 = .ok (.iload_n 2, 1) := by decide +kernel
theorem dX9_held_77 : decode cX9_held 77 = .ok (.invokevirtual 269, 3) := by decide +kernel
theorem dX9_held_80 : decode cX9_held 80 = .ok (.iadd, 1) := by decide +kernel
theorem dX9_held_81 : decode cX9_held 81 = .ok (.istore_n 3, 1) := by decide +kernel
theorem dX9_held_82 : decode cX9_held 82 = .ok (.iinc 4 1, 3) := by decide +kernel
theorem dX9_held_85 : decode cX9_held 85 = .ok (.goto (-70), 3) := by decide +kernel
theorem dX9_held_88 : decode cX9_held 88 = .ok (.iload_n 3, 1) := by decide +kernel
theorem dX9_held_89 : decode cX9_held 89 = .ok (.ireturn, 1) := by decide +kernel
theorem dX9_odds_0 : decode cX9_odds 0 = .ok (.iload_n 1, 1) := by decide +kernel
theorem dX9_odds_1 : decode cX9_odds 1 = .ok (.iload_n 2, 1) := by decide +kernel
theorem dX9_odds_2 : decode cX9_odds 2 = .ok (.iload_n 3, 1) := by decide +kernel
theorem dX9_odds_3 : decode cX9_odds 3 = .ok (.invokestatic 232, 3) := by decide +kernel
theorem dX9_odds_6 : decode cX9_odds 6 = .ok (.ifCond .eq 22, 3) := by decide +kernel
theorem dX9_odds_9 : decode cX9_odds 9 = .ok (.iload 4, 2) := by decide +kernel
theorem dX9_odds_11 : decode cX9_odds 11 = .ok (.bipush 99, 2) := by decide +kernel
theorem dX9_odds_13 : decode cX9_odds 13 = .ok (.invokestatic 98, 3) := by decide +kernel
theorem dX9_odds_16 : decode cX9_odds 16 = .ok (.ifCond .eq 12, 3) := by decide +kernel
theorem dX9_odds_19 : decode cX9_odds 19 = .ok (.iload 5, 2) := by decide +kernel
theorem dX9_odds_21 : decode cX9_odds 21 = .ok (.iconst 2, 1) := by decide +kernel
theorem dX9_odds_22 : decode cX9_odds 22 = .ok (.invokestatic 98, 3) := by decide +kernel
theorem dX9_odds_25 : decode cX9_odds 25 = .ok (.ifCond .ne 5, 3) := by decide +kernel
theorem dX9_odds_28 : decode cX9_odds 28 = .ok (.iconst (-1), 1) := by decide +kernel
theorem dX9_odds_29 : decode cX9_odds 29 = .ok (.ireturn, 1) := by decide +kernel
theorem dX9_odds_30 : decode cX9_odds 30 = .ok (.iconst 0, 1) := by decide +kernel
theorem dX9_odds_31 : decode cX9_odds 31 = .ok (.istore 6, 2) := by decide +kernel
theorem dX9_odds_33 : decode cX9_odds 33 = .ok (.iconst 0, 1) := by decide +kernel
theorem dX9_odds_34 : decode cX9_odds 34 = .ok (.istore 7, 2) := by decide +kernel
theorem dX9_odds_36 : decode cX9_odds 36 = .ok (.iconst 0, 1) := by decide +kernel
theorem dX9_odds_37 : decode cX9_odds 37 = .ok (.istore 8, 2) := by decide +kernel
theorem dX9_odds_39 : decode cX9_odds 39 = .ok (.iconst 0, 1) := by decide +kernel
theorem dX9_odds_40 : decode cX9_odds 40 = .ok (.istore 9, 2) := by decide +kernel
theorem dX9_odds_42 : decode cX9_odds 42 = .ok (.iload 9, 2) := by decide +kernel
theorem dX9_odds_44 : decode cX9_odds 44 = .ok (.aload_n 0, 1) := by decide +kernel
theorem dX9_odds_45 : decode cX9_odds 45 = .ok (.getfield 46, 3) := by decide +kernel
theorem dX9_odds_48 : decode cX9_odds 48 = .ok (.getfield 236, 3) := by decide +kernel
theorem dX9_odds_51 : decode cX9_odds 51 = .ok (.if_icmp .ge 65, 3) := by decide +kernel
theorem dX9_odds_54 : decode cX9_odds 54 = .ok (.aload_n 0, 1) := by decide +kernel
theorem dX9_odds_55 : decode cX9_odds 55 = .ok (.getfield 46, 3) := by decide +kernel
theorem dX9_odds_58 : decode cX9_odds 58 = .ok (.iload 9, 2) := by decide +kernel
theorem dX9_odds_60 : decode cX9_odds 60 = .ok (.iload_n 1, 1) := by decide +kernel
theorem dX9_odds_61 : decode cX9_odds 61 = .ok (.iload_n 2, 1) := by decide +kernel
theorem dX9_odds_62 : decode cX9_odds 62 = .ok (.iload_n 3, 1) := by decide +kernel
theorem dX9_odds_63 : decode cX9_odds 63 = .ok (.iload 4, 2) := by decide +kernel
theorem dX9_odds_65 : decode cX9_odds 65 = .ok (.invokevirtual 273, 3) := by decide +kernel
theorem dX9_odds_68 : decode cX9_odds 68 = .ok (.ifCond .ne 6, 3) := by decide +kernel
theorem dX9_odds_71 : decode cX9_odds 71 = .ok (.goto 39, 3) := by decide +kernel
theorem dX9_odds_74 : decode cX9_odds 74 = .ok (.iinc 6 1, 3) := by decide +kernel
theorem dX9_odds_77 : decode cX9_odds 77 = .ok (.aload_n 0, 1) := by decide +kernel
theorem dX9_odds_78 : decode cX9_odds 78 = .ok (.getfield 46, 3) := by decide +kernel
theorem dX9_odds_81 : decode cX9_odds 81 = .ok (.getfield 246, 3) := by decide +kernel
theorem dX9_odds_84 : decode cX9_odds 84 = .ok (.iload 9, 2) := by decide +kernel
theorem dX9_odds_86 : decode cX9_odds 86 = .ok (.iaload, 1) := by decide +kernel
theorem dX9_odds_87 : decode cX9_odds 87 = .ok (.ifCond .le 6, 3) := by decide +kernel
theorem dX9_odds_90 : decode cX9_odds 90 = .ok (.iinc 7 1, 3) := by decide +kernel
theorem dX9_odds_93 : decode cX9_odds 93 = .ok (.iload 8, 2) := by decide +kernel
theorem dX9_odds_95 : decode cX9_odds 95 = .ok (.aload_n 0, 1) := by decide +kernel
theorem dX9_odds_96 : decode cX9_odds 96 = .ok (.getfield 46, 3) := by decide +kernel
theorem dX9_odds_99 : decode cX9_odds 99 = .ok (.getfield 246, 3) := by decide +kernel
theorem dX9_odds_102 : decode cX9_odds 102 = .ok (.iload 9, 2) := by decide +kernel
theorem dX9_odds_104 : decode cX9_odds 104 = .ok (.iaload, 1) := by decide +kernel
theorem dX9_odds_105 : decode cX9_odds 105 = .ok (.invokestatic 182, 3) := by decide +kernel
theorem dX9_odds_108 : decode cX9_odds 108 = .ok (.istore 8, 2) := by decide +kernel
theorem dX9_odds_110 : decode cX9_odds 110 = .ok (.iinc 9 1, 3) := by decide +kernel
theorem dX9_odds_113 : decode cX9_odds 113 = .ok (.goto (-71), 3) := by decide +kernel
theorem dX9_odds_116 : decode cX9_odds 116 = .ok (.iload 6, 2) := by decide +kernel
theorem dX9_odds_118 : decode cX9_odds 118 = .ok (.ifCond .ne 6, 3) := by decide +kernel
theorem dX9_odds_121 : decode cX9_odds 121 = .ok (.bipush (-2), 2) := by decide +kernel
theorem dX9_odds_123 : decode cX9_odds 123 = .ok (.ireturn, 1) := by decide +kernel
theorem dX9_odds_124 : decode cX9_odds 124 = .ok (.iload 5, 2) := by decide +kernel
theorem dX9_odds_126 : decode cX9_odds 126 = .ok (.iconst 2, 1) := by decide +kernel
theorem dX9_odds_127 : decode cX9_odds 127 = .ok (.if_icmp .ne 6, 3) := by decide +kernel
theorem dX9_odds_130 : decode cX9_odds 130 = .ok (.iload 8, 2) := by decide +kernel
theorem dX9_odds_132 : decode cX9_odds 132 = .ok (.ireturn, 1) := by decide +kernel
theorem dX9_odds_133 : decode cX9_odds 133 = .ok (.iload 7, 2) := by decide +kernel
theorem dX9_odds_135 : decode cX9_odds 135 = .ok (.i2l, 1) := by decide +kernel
theorem dX9_odds_136 : decode cX9_odds 136 = .ok (.iload 6, 2) := by decide +kernel
theorem dX9_odds_138 : decode cX9_odds 138 = .ok (.i2l, 1) := by decide +kernel
theorem dX9_odds_139 : decode cX9_odds 139 = .ok (.iload 5, 2) := by decide +kernel
theorem dX9_odds_141 : decode cX9_odds 141 = .ok (.invokestatic 277, 3) := by decide +kernel
theorem dX9_odds_144 : decode cX9_odds 144 = .ok (.l2i, 1) := by decide +kernel
theorem dX9_odds_145 : decode cX9_odds 145 = .ok (.ireturn, 1) := by decide +kernel
theorem dX9_when_0 : decode cX9_when 0 = .ok (.iload_n 1, 1) := by decide +kernel
theorem dX9_when_1 : decode cX9_when 1 = .ok (.bipush 99, 2) := by decide +kernel
theorem dX9_when_3 : decode cX9_when 3 = .ok (.invokestatic 98, 3) := by decide +kernel
theorem dX9_when_6 : decode cX9_when 6 = .ok (.ifCond .eq 20, 3) := by decide +kernel
theorem dX9_when_9 : decode cX9_when 9 = .ok (.iload_n 2, 1) := by decide +kernel
theorem dX9_when_10 : decode cX9_when 10 = .ok (.bipush 99, 2) := by decide +kernel
theorem dX9_when_12 : decode cX9_when 12 = .ok (.invokestatic 98, 3) := by decide +kernel
theorem dX9_when_15 : decode cX9_when 15 = .ok (.ifCond .eq 11, 3) := by decide +kernel
theorem dX9_when_18 : decode cX9_when 18 = .ok (.iload_n 3, 1) := by decide +kernel
theorem dX9_when_19 : decode cX9_when 19 = .ok (.iconst 1, 1) := by decide +kernel
theorem dX9_when_20 : decode cX9_when 20 = .ok (.invokestatic 98, 3) := by decide +kernel
theorem dX9_when_23 : decode cX9_when 23 = .ok (.ifCond .ne 5, 3) := by decide +kernel
theorem dX9_when_26 : decode cX9_when 26 = .ok (.iconst (-1), 1) := by decide +kernel
theorem dX9_when_27 : decode cX9_when 27 = .ok (.ireturn, 1) := by decide +kernel
theorem dX9_when_28 : decode cX9_when 28 = .ok (.iconst 0, 1) := by decide +kernel
theorem dX9_when_29 : decode cX9_when 29 = .ok (.istore 4, 2) := by decide +kernel
theorem dX9_when_31 : decode cX9_when 31 = .ok (.ldc_w 265, 3) := by decide +kernel
theorem dX9_when_34 : decode cX9_when 34 = .ok (.istore 5, 2) := by decide +kernel
theorem dX9_when_36 : decode cX9_when 36 = .ok (.iconst 0, 1) := by decide +kernel
theorem dX9_when_37 : decode cX9_when 37 = .ok (.istore 6, 2) := by decide +kernel
theorem dX9_when_39 : decode cX9_when 39 = .ok (.iload 6, 2) := by decide +kernel
theorem dX9_when_41 : decode cX9_when 41 = .ok (.sipush 999, 3) := by decide +kernel
theorem dX9_when_44 : decode cX9_when 44 = .ok (.if_icmp .gt 37, 3) := by decide +kernel
theorem dX9_when_47 : decode cX9_when 47 = .ok (.aload_n 0, 1) := by decide +kernel
theorem dX9_when_48 : decode cX9_when 48 = .ok (.getfield 46, 3) := by decide +kernel
theorem dX9_when_51 : decode cX9_when 51 = .ok (.iload 6, 2) := by decide +kernel
theorem dX9_when_53 : decode cX9_when 53 = .ok (.iload_n 1, 1) := by decide +kernel
theorem dX9_when_54 : decode cX9_when 54 = .ok (.iload_n 2, 1) := by decide +kernel
theorem dX9_when_55 : decode cX9_when 55 = .ok (.invokevirtual 281, 3) := by decide +kernel
theorem dX9_when_58 : decode cX9_when 58 = .ok (.istore 7, 2) := by decide +kernel
theorem dX9_when_60 : decode cX9_when 60 = .ok (.iload 7, 2) := by decide +kernel
theorem dX9_when_62 : decode cX9_when 62 = .ok (.iload 5, 2) := by decide +kernel
theorem dX9_when_64 : decode cX9_when 64 = .ok (.if_icmp .ge 11, 3) := by decide +kernel
theorem dX9_when_67 : decode cX9_when 67 = .ok (.iload 6, 2) := by decide +kernel
theorem dX9_when_69 : decode cX9_when 69 = .ok (.istore 4, 2) := by decide +kernel
theorem dX9_when_71 : decode cX9_when 71 = .ok (.iload 7, 2) := by decide +kernel
theorem dX9_when_73 : decode cX9_when 73 = .ok (.istore 5, 2) := by decide +kernel
theorem dX9_when_75 : decode cX9_when 75 = .ok (.iinc 6 1, 3) := by decide +kernel
theorem dX9_when_78 : decode cX9_when 78 = .ok (.goto (-39), 3) := by decide +kernel
theorem dX9_when_81 : decode cX9_when 81 = .ok (.iload_n 3, 1) := by decide +kernel
theorem dX9_when_82 : decode cX9_when 82 = .ok (.ifCond .ne 8, 3) := by decide +kernel
theorem dX9_when_85 : decode cX9_when 85 = .ok (.iload 4, 2) := by decide +kernel
theorem dX9_when_87 : decode cX9_when 87 = .ok (.goto 5, 3) := by decide +kernel
theorem dX9_when_90 : decode cX9_when 90 = .ok (.iload 5, 2) := by decide +kernel
theorem dX9_when_92 : decode cX9_when 92 = .ok (.ireturn, 1) := by decide +kernel
theorem dX9_lid_0 : decode cX9_lid 0 = .ok (.iload_n 1, 1) := by decide +kernel
theorem dX9_lid_1 : decode cX9_lid 1 = .ok (.iconst 1, 1) := by decide +kernel
theorem dX9_lid_2 : decode cX9_lid 2 = .ok (.if_icmp .lt 41, 3) := by decide +kernel
theorem dX9_lid_5 : decode cX9_lid 5 = .ok (.iload_n 1, 1) := by decide +kernel
theorem dX9_lid_6 : decode cX9_lid 6 = .ok (.sipush 200, 3) := by decide +kernel
theorem dX9_lid_9 : decode cX9_lid 9 = .ok (.if_icmp .gt 34, 3) := by decide +kernel
theorem dX9_lid_12 : decode cX9_lid 12 = .ok (.iload_n 2, 1) := by decide +kernel
theorem dX9_lid_13 : decode cX9_lid 13 = .ok (.iconst 1, 1) := by decide +kernel
theorem dX9_lid_14 : decode cX9_lid 14 = .ok (.if_icmp .lt 29, 3) := by decide +kernel
theorem dX9_lid_17 : decode cX9_lid 17 = .ok (.iload_n 2, 1) := by decide +kernel
theorem dX9_lid_18 : decode cX9_lid 18 = .ok (.bipush 12, 2) := by decide +kernel
theorem dX9_lid_20 : decode cX9_lid 20 = .ok (.if_icmp .gt 23, 3) := by decide +kernel
theorem dX9_lid_23 : decode cX9_lid 23 = .ok (.iload_n 3, 1) := by decide +kernel
theorem dX9_lid_24 : decode cX9_lid 24 = .ok (.iconst 1, 1) := by decide +kernel
theorem dX9_lid_25 : decode cX9_lid 25 = .ok (.if_icmp .lt 18, 3) := by decide +kernel
theorem dX9_lid_28 : decode cX9_lid 28 = .ok (.iload_n 3, 1) := by decide +kernel
theorem dX9_lid_29 : decode cX9_lid 29 = .ok (.bipush 9, 2) := by decide +kernel
theorem dX9_lid_31 : decode cX9_lid 31 = .ok (.if_icmp .gt 12, 3) := by decide +kernel
theorem dX9_lid_34 : decode cX9_lid 34 = .ok (.iload 4, 2) := by decide +kernel
theorem dX9_lid_36 : decode cX9_lid 36 = .ok (.iconst 1, 1) := by decide +kernel
theorem dX9_lid_37 : decode cX9_lid 37 = .ok (.invokestatic 98, 3) := by decide +kernel
theorem dX9_lid_40 : decode cX9_lid 40 = .ok (.ifCond .ne 7, 3) := by decide +kernel
theorem dX9_lid_43 : decode cX9_lid 43 = .ok (.ldc2_w 284, 3) := by decide +kernel
theorem dX9_lid_46 : decode cX9_lid 46 = .ok (.lreturn, 1) := by decide +kernel
theorem dX9_lid_47 : decode cX9_lid 47 = .ok (.aload_n 0, 1) := by decide +kernel
theorem dX9_lid_48 : decode cX9_lid 48 = .ok (.getfield 53, 3) := by decide +kernel
theorem dX9_lid_51 : decode cX9_lid 51 = .ok (.iload_n 1, 1) := by decide +kernel
theorem dX9_lid_52 : decode cX9_lid 52 = .ok (.iload_n 2, 1) := by decide +kernel
theorem dX9_lid_53 : decode cX9_lid 53 = .ok (.iload_n 3, 1) := by decide +kernel
theorem dX9_lid_54 : decode cX9_lid 54 = .ok (.invokevirtual 286, 3) := by decide +kernel
theorem dX9_lid_57 : decode cX9_lid 57 = .ok (.aload_n 0, 1) := by decide +kernel
theorem dX9_lid_58 : decode cX9_lid 58 = .ok (.getfield 53, 3) := by decide +kernel
theorem dX9_lid_61 : decode cX9_lid 61 = .ok (.iload_n 2, 1) := by decide +kernel
theorem dX9_lid_62 : decode cX9_lid 62 = .ok (.iload_n 3, 1) := by decide +kernel
theorem dX9_lid_63 : decode cX9_lid 63 = .ok (.invokevirtual 290, 3) := by decide +kernel
theorem dX9_lid_66 : decode cX9_lid 66 = .ok (.iload 4, 2) := by decide +kernel
theorem dX9_lid_68 : decode cX9_lid 68 = .ok (.invokestatic 277, 3) := by decide +kernel
theorem dX9_lid_71 : decode cX9_lid 71 = .ok (.lreturn, 1) := by decide +kernel
theorem dX9_seed_0 : decode cX9_seed 0 = .ok (.iload_n 1, 1) := by decide +kernel
theorem dX9_seed_1 : decode cX9_seed 1 = .ok (.ldc_w 294, 3) := by decide +kernel
theorem dX9_seed_4 : decode cX9_seed 4 = .ok (.invokestatic 98, 3) := by decide +kernel
theorem dX9_seed_7 : decode cX9_seed 7 = .ok (.ifCond .ne 5, 3) := by decide +kernel
theorem dX9_seed_10 : decode cX9_seed 10 = .ok (.iconst 0, 1) := by decide +kernel
theorem dX9_seed_11 : decode cX9_seed 11 = .ok (.ireturn, 1) := by decide +kernel
theorem dX9_seed_12 : decode cX9_seed 12 = .ok (.aload_n 0, 1) := by decide +kernel
theorem dX9_seed_13 : decode cX9_seed 13 = .ok (.getfield 10, 3) := by decide +kernel
theorem dX9_seed_16 : decode cX9_seed 16 = .ok (.iload_n 1, 1) := by decide +kernel
theorem dX9_seed_17 : decode cX9_seed 17 = .ok (.putfield 295, 3) := by decide +kernel
theorem dX9_seed_20 : decode cX9_seed 20 = .ok (.iconst 1, 1) := by decide +kernel
theorem dX9_seed_21 : decode cX9_seed 21 = .ok (.ireturn, 1) := by decide +kernel
theorem dX9_draw_0 : decode cX9_draw 0 = .ok (.iload_n 1, 1) := by decide +kernel
theorem dX9_draw_1 : decode cX9_draw 1 = .ok (.invokestatic 128, 3) := by decide +kernel
theorem dX9_draw_4 : decode cX9_draw 4 = .ok (.ifCond .ne 5, 3) := by decide +kernel
theorem dX9_draw_7 : decode cX9_draw 7 = .ok (.iconst (-1), 1) := by decide +kernel
theorem dX9_draw_8 : decode cX9_draw 8 = .ok (.ireturn, 1) := by decide +kernel
theorem dX9_draw_9 : decode cX9_draw 9 = .ok (.aload_n 0, 1) := by decide +kernel
theorem dX9_draw_10 : decode cX9_draw 10 = .ok (.getfield 10, 3) := by decide +kernel
theorem dX9_draw_13 : decode cX9_draw 13 = .ok (.getfield 132, 3) := by decide +kernel
theorem dX9_draw_16 : decode cX9_draw 16 = .ok (.istore_n 2, 1) := by decide +kernel
theorem dX9_draw_17 : decode cX9_draw 17 = .ok (.iconst 0, 1) := by decide +kernel
theorem dX9_draw_18 : decode cX9_draw 18 = .ok (.istore_n 3, 1) := by decide +kernel
theorem dX9_draw_19 : decode cX9_draw 19 = .ok (.iload_n 3, 1) := by decide +kernel
theorem dX9_draw_20 : decode cX9_draw 20 = .ok (.iload_n 1, 1) := by decide +kernel
theorem dX9_draw_21 : decode cX9_draw 21 = .ok (.if_icmp .ge 31, 3) := by decide +kernel
theorem dX9_draw_24 : decode cX9_draw 24 = .ok (.aload_n 0, 1) := by decide +kernel
theorem dX9_draw_25 : decode cX9_draw 25 = .ok (.getfield 10, 3) := by decide +kernel
theorem dX9_draw_28 : decode cX9_draw 28 = .ok (.invokevirtual 298, 3) := by decide +kernel
theorem dX9_draw_31 : decode cX9_draw 31 = .ok (.aload_n 0, 1) := by decide +kernel
theorem dX9_draw_32 : decode cX9_draw 32 = .ok (.getfield 25, 3) := by decide +kernel
theorem dX9_draw_35 : decode cX9_draw 35 = .ok (.aload_n 0, 1) := by decide +kernel
theorem dX9_draw_36 : decode cX9_draw 36 = .ok (.getfield 10, 3) := by decide +kernel
theorem dX9_draw_39 : decode cX9_draw 39 = .ok (.aload_n 0, 1) := by decide +kernel
theorem dX9_draw_40 : decode cX9_draw 40 = .ok (.getfield 71, 3) := by decide +kernel
theorem dX9_draw_43 : decode cX9_draw 43 = .ok (.invokevirtual 135, 3) := by decide +kernel
theorem dX9_draw_46 : decode cX9_draw 46 = .ok (.iinc 3 1, 3) := by decide +kernel
theorem dX9_draw_49 : decode cX9_draw 49 = .ok (.goto (-30), 3) := by decide +kernel
theorem dX9_draw_52 : decode cX9_draw 52 = .ok (.aload_n 0, 1) := by decide +kernel
theorem dX9_draw_53 : decode cX9_draw 53 = .ok (.getfield 10, 3) := by decide +kernel
theorem dX9_draw_56 : decode cX9_draw 56 = .ok (.getfield 132, 3) := by decide +kernel
theorem dX9_draw_59 : decode cX9_draw 59 = .ok (.iload_n 2, 1) := by decide +kernel
theorem dX9_draw_60 : decode cX9_draw 60 = .ok (.isub, 1) := by decide +kernel
theorem dX9_draw_61 : decode cX9_draw 61 = .ok (.ireturn, 1) := by decide +kernel
theorem dX9_keep_0 : decode cX9_keep 0 = .ok (.aload_n 0, 1) := by decide +kernel
theorem dX9_keep_1 : decode cX9_keep 1 = .ok (.getfield 16, 3) := by decide +kernel
theorem dX9_keep_4 : decode cX9_keep 4 = .ok (.aload_n 0, 1) := by decide +kernel
theorem dX9_keep_5 : decode cX9_keep 5 = .ok (.getfield 10, 3) := by decide +kernel
theorem dX9_keep_8 : decode cX9_keep 8 = .ok (.invokevirtual 169, 3) := by decide +kernel
theorem dX9_keep_11 : decode cX9_keep 11 = .ok (.aload_n 0, 1) := by decide +kernel
theorem dX9_keep_12 : decode cX9_keep 12 = .ok (.iconst 1, 1) := by decide +kernel
theorem dX9_keep_13 : decode cX9_keep 13 = .ok (.putfield 90, 3) := by decide +kernel
theorem dX9_keep_16 : decode cX9_keep 16 = .ok (.aload_n 0, 1) := by decide +kernel
theorem dX9_keep_17 : decode cX9_keep 17 = .ok (.getfield 10, 3) := by decide +kernel
theorem dX9_keep_20 : decode cX9_keep 20 = .ok (.getfield 176, 3) := by decide +kernel
theorem dX9_keep_23 : decode cX9_keep 23 = .ok (.ireturn, 1) := by decide +kernel
theorem dX9_undo_0 : decode cX9_undo 0 = .ok (.aload_n 0, 1) := by decide +kernel
theorem dX9_undo_1 : decode cX9_undo 1 = .ok (.getfield 90, 3) := by decide +kernel
theorem dX9_undo_4 : decode cX9_undo 4 = .ok (.ifCond .ne 5, 3) := by decide +kernel
theorem dX9_undo_7 : decode cX9_undo 7 = .ok (.iconst 0, 1) := by decide +kernel
theorem dX9_undo_8 : decode cX9_undo 8 = .ok (.ireturn, 1) := by decide +kernel
theorem dX9_undo_9 : decode cX9_undo 9 = .ok (.aload_n 0, 1) := by decide +kernel
theorem dX9_undo_10 : decode cX9_undo 10 = .ok (.getfield 10, 3) := by decide +kernel
theorem dX9_undo_13 : decode cX9_undo 13 = .ok (.aload_n 0, 1) := by decide +kernel
theorem dX9_undo_14 : decode cX9_undo 14 = .ok (.getfield 16, 3) := by decide +kernel
theorem dX9_undo_17 : decode cX9_undo 17 = .ok (.invokevirtual 169, 3) := by decide +kernel
theorem dX9_undo_20 : decode cX9_undo 20 = .ok (.iconst 1, 1) := by decide +kernel
theorem dX9_undo_21 : decode cX9_undo 21 = .ok (.ireturn, 1) := by decide +kernel
theorem dX9_check_0 : decode cX9_check 0 = .ok (.iload_n 1, 1) := by decide +kernel
theorem dX9_check_1 : decode cX9_check 1 = .ok (.bipush 11, 2) := by decide +kernel
theorem dX9_check_3 : decode cX9_check 3 = .ok (.invokestatic 98, 3) := by decide +kernel
theorem dX9_check_6 : decode cX9_check 6 = .ok (.ifCond .eq 25, 3) := by decide +kernel
theorem dX9_check_9 : decode cX9_check 9 = .ok (.iload_n 2, 1) := by decide +kernel
theorem dX9_check_10 : decode cX9_check 10 = .ok (.bipush 12, 2) := by decide +kernel
theorem dX9_check_12 : decode cX9_check 12 = .ok (.invokestatic 98, 3) := by decide +kernel
theorem dX9_check_15 : decode cX9_check 15 = .ok (.ifCond .eq 16, 3) := by decide +kernel
theorem dX9_check_18 : decode cX9_check 18 = .ok (.iconst 4, 1) := by decide +kernel
theorem dX9_check_19 : decode cX9_check 19 = .ok (.iload_n 2, 1) := by decide +kernel
theorem dX9_check_20 : decode cX9_check 20 = .ok (.imul, 1) := by decide +kernel
theorem dX9_check_21 : decode cX9_check 21 = .ok (.aload_n 0, 1) := by decide +kernel
theorem dX9_check_22 : decode cX9_check 22 = .ok (.getfield 60, 3) := by decide +kernel
theorem dX9_check_25 : decode cX9_check 25 = .ok (.getfield 116, 3) := by decide +kernel
theorem dX9_check_28 : decode cX9_check 28 = .ok (.if_icmp .le 6, 3) := by decide +kernel
theorem dX9_check_31 : decode cX9_check 31 = .ok (.bipush (-2), 2) := by decide +kernel
theorem dX9_check_33 : decode cX9_check 33 = .ok (.ireturn, 1) := by decide +kernel
theorem dX9_check_34 : decode cX9_check 34 = .ok (.aload_n 0, 1) := by decide +kernel
theorem dX9_check_35 : decode cX9_check 35 = .ok (.getfield 60, 3) := by decide +kernel
theorem dX9_check_38 : decode cX9_check 38 = .ok (.iconst 0, 1) := by decide +kernel
theorem dX9_check_39 : decode cX9_check 39 = .ok (.putfield 116, 3) := by decide +kernel
theorem dX9_check_42 : decode cX9_check 42 = .ok (.iconst 0, 1) := by decide +kernel
theorem dX9_check_43 : decode cX9_check 43 = .ok (.istore_n 3, 1) := by decide +kernel
theorem dX9_check_44 : decode cX9_check 44 = .ok (.iload_n 3, 1) := by decide +kernel
theorem dX9_check_45 : decode cX9_check 45 = .ok (.iload_n 2, 1) := by decide +kernel
theorem dX9_check_46 : decode cX9_check 46 = .ok (.if_icmp .ge 36, 3) := by decide +kernel
theorem dX9_check_49 : decode cX9_check 49 = .ok (.aload_n 0, 1) := by decide +kernel
theorem dX9_check_50 : decode cX9_check 50 = .ok (.getfield 60, 3) := by decide +kernel
theorem dX9_check_53 : decode cX9_check 53 = .ok (.iload_n 3, 1) := by decide +kernel
theorem dX9_check_54 : decode cX9_check 54 = .ok (.invokevirtual 301, 3) := by decide +kernel
theorem dX9_check_57 : decode cX9_check 57 = .ok (.aload_n 0, 1) := by decide +kernel
theorem dX9_check_58 : decode cX9_check 58 = .ok (.getfield 10, 3) := by decide +kernel
theorem dX9_check_61 : decode cX9_check 61 = .ok (.getfield 107, 3) := by decide +kernel
theorem dX9_check_64 : decode cX9_check 64 = .ok (.bipush 12, 2) := by decide +kernel
theorem dX9_check_66 : decode cX9_check 66 = .ok (.iload_n 1, 1) := by decide +kernel
theorem dX9_check_67 : decode cX9_check 67 = .ok (.imul, 1) := by decide +kernel
theorem dX9_check_68 : decode cX9_check 68 = .ok (.iload_n 3, 1) := by decide +kernel
theorem dX9_check_69 : decode cX9_check 69 = .ok (.iadd, 1) := by decide +kernel
theorem dX9_check_70 : decode cX9_check 70 = .ok (.iaload, 1) := by decide +kernel
theorem dX9_check_71 : decode cX9_check 71 = .ok (.if_icmp .eq 5, 3) := by decide +kernel
theorem dX9_check_74 : decode cX9_check 74 = .ok (.iload_n 3, 1) := by decide +kernel
theorem dX9_check_75 : decode cX9_check 75 = .ok (.ireturn, 1) := by decide +kernel
theorem dX9_check_76 : decode cX9_check 76 = .ok (.iinc 3 1, 3) := by decide +kernel
theorem dX9_check_79 : decode cX9_check 79 = .ok (.goto (-35), 3) := by decide +kernel
theorem dX9_check_82 : decode cX9_check 82 = .ok (.iconst (-1), 1) := by decide +kernel
theorem dX9_check_83 : decode cX9_check 83 = .ok (.ireturn, 1) := by decide +kernel
theorem dX9_count_0 : decode cX9_count 0 = .ok (.iload_n 1, 1) := by decide +kernel
theorem dX9_count_1 : decode cX9_count 1 = .ok (.tableswitch 87 0 5 #[39, 47, 55, 63, 71, 79], 39) := by decide +kernel
theorem dX9_count_40 : decode cX9_count 40 = .ok (.aload_n 0, 1) := by decide +kernel
theorem dX9_count_41 : decode cX9_count 41 = .ok (.getfield 10, 3) := by decide +kernel
theorem dX9_count_44 : decode cX9_count 44 = .ok (.getfield 176, 3) := by decide +kernel
theorem dX9_count_47 : decode cX9_count 47 = .ok (.ireturn, 1) := by decide +kernel
theorem dX9_count_48 : decode cX9_count 48 = .ok (.aload_n 0, 1) := by decide +kernel
theorem dX9_count_49 : decode cX9_count 49 = .ok (.getfield 71, 3) := by decide +kernel
theorem dX9_count_52 : decode cX9_count 52 = .ok (.getfield 304, 3) := by decide +kernel
theorem dX9_count_55 : decode cX9_count 55 = .ok (.ireturn, 1) := by decide +kernel
theorem dX9_count_56 : decode cX9_count 56 = .ok (.aload_n 0, 1) := by decide +kernel
theorem dX9_count_57 : decode cX9_count 57 = .ok (.getfield 60, 3) := by decide +kernel
theorem dX9_count_60 : decode cX9_count 60 = .ok (.getfield 116, 3) := by decide +kernel
theorem dX9_count_63 : decode cX9_count 63 = .ok (.ireturn, 1) := by decide +kernel
theorem dX9_count_64 : decode cX9_count 64 = .ok (.aload_n 0, 1) := by decide +kernel
theorem dX9_count_65 : decode cX9_count 65 = .ok (.getfield 46, 3) := by decide +kernel
theorem dX9_count_68 : decode cX9_count 68 = .ok (.getfield 236, 3) := by decide +kernel
theorem dX9_count_71 : decode cX9_count 71 = .ok (.ireturn, 1) := by decide +kernel
theorem dX9_count_72 : decode cX9_count 72 = .ok (.aload_n 0, 1) := by decide +kernel
theorem dX9_count_73 : decode cX9_count 73 = .ok (.getfield 39, 3) := by decide +kernel
theorem dX9_count_76 : decode cX9_count 76 = .ok (.getfield 210, 3) := by decide +kernel
theorem dX9_count_79 : decode cX9_count 79 = .ok (.ireturn, 1) := by decide +kernel
theorem dX9_count_80 : decode cX9_count 80 = .ok (.aload_n 0, 1) := by decide +kernel
theorem dX9_count_81 : decode cX9_count 81 = .ok (.getfield 10, 3) := by decide +kernel
theorem dX9_count_84 : decode cX9_count 84 = .ok (.getfield 295, 3) := by decide +kernel
theorem dX9_count_87 : decode cX9_count 87 = .ok (.ireturn, 1) := by decide +kernel
theorem dX9_count_88 : decode cX9_count 88 = .ok (.iload_n 1, 1) := by decide +kernel
theorem dX9_count_89 : decode cX9_count 89 = .ok (.bipush 100, 2) := by decide +kernel
theorem dX9_count_91 : decode cX9_count 91 = .ok (.if_icmp .ge 7, 3) := by decide +kernel
theorem dX9_count_94 : decode cX9_count 94 = .ok (.iconst (-1), 1) := by decide +kernel
theorem dX9_count_95 : decode cX9_count 95 = .ok (.goto 14, 3) := by decide +kernel
theorem dX9_count_98 : decode cX9_count 98 = .ok (.aload_n 0, 1) := by decide +kernel
theorem dX9_count_99 : decode cX9_count 99 = .ok (.getfield 10, 3) := by decide +kernel
theorem dX9_count_102 : decode cX9_count 102 = .ok (.iload_n 1, 1) := by decide +kernel
theorem dX9_count_103 : decode cX9_count 103 = .ok (.bipush 100, 2) := by decide +kernel
theorem dX9_count_105 : decode cX9_count 105 = .ok (.isub, 1) := by decide +kernel
theorem dX9_count_106 : decode cX9_count 106 = .ok (.invokevirtual 307, 3) := by decide +kernel
theorem dX9_count_109 : decode cX9_count 109 = .ok (.ireturn, 1) := by decide +kernel
theorem dX9_isWithin_0 : decode cX9_isWithin 0 = .ok (.iload_n 0, 1) := by decide +kernel
theorem dX9_isWithin_1 : decode cX9_isWithin 1 = .ok (.ifCond .lt 12, 3) := by decide +kernel
theorem dX9_isWithin_4 : decode cX9_isWithin 4 = .ok (.iload_n 0, 1) := by decide +kernel
theorem dX9_isWithin_5 : decode cX9_isWithin 5 = .ok (.iload_n 1, 1) := by decide +kernel
theorem dX9_isWithin_6 : decode cX9_isWithin 6 = .ok (.if_icmp .gt 7, 3) := by decide +kernel
theorem dX9_isWithin_9 : decode cX9_isWithin 9 = .ok (.iconst 1, 1) := by decide +kernel
theorem dX9_isWithin_10 : decode cX9_isWithin 10 = .ok (.goto 4, 3) := by decide +kernel
theorem dX9_isWithin_13 : decode cX9_isWithin 13 = .ok (.iconst 0, 1) := by decide +kernel
theorem dX9_isWithin_14 : decode cX9_isWithin 14 = .ok (.ireturn, 1) := by decide +kernel
theorem dX9_isPlace_0 : decode cX9_isPlace 0 = .ok (.iload_n 0, 1) := by decide +kernel
theorem dX9_isPlace_1 : decode cX9_isPlace 1 = .ok (.bipush 11, 2) := by decide +kernel
theorem dX9_isPlace_3 : decode cX9_isPlace 3 = .ok (.invokestatic 98, 3) := by decide +kernel
theorem dX9_isPlace_6 : decode cX9_isPlace 6 = .ok (.ifCond .eq 16, 3) := by decide +kernel
theorem dX9_isPlace_9 : decode cX9_isPlace 9 = .ok (.iload_n 1, 1) := by decide +kernel
theorem dX9_isPlace_10 : decode cX9_isPlace 10 = .ok (.bipush 11, 2) := by decide +kernel
theorem dX9_isPlace_12 : decode cX9_isPlace 12 = .ok (.invokestatic 98, 3) := by decide +kernel
theorem dX9_isPlace_15 : decode cX9_isPlace 15 = .ok (.ifCond .eq 7, 3) := by decide +kernel
theorem dX9_isPlace_18 : decode cX9_isPlace 18 = .ok (.iconst 1, 1) := by decide +kernel
theorem dX9_isPlace_19 : decode cX9_isPlace 19 = .ok (.goto 4, 3) := by decide +kernel
theorem dX9_isPlace_22 : decode cX9_isPlace 22 = .ok (.iconst 0, 1) := by decide +kernel
theorem dX9_isPlace_23 : decode cX9_isPlace 23 = .ok (.ireturn, 1) := by decide +kernel
theorem dX9_isNight_0 : decode cX9_isNight 0 = .ok (.iload_n 0, 1) := by decide +kernel
theorem dX9_isNight_1 : decode cX9_isNight 1 = .ok (.iconst 1, 1) := by decide +kernel
theorem dX9_isNight_2 : decode cX9_isNight 2 = .ok (.if_icmp .lt 13, 3) := by decide +kernel
theorem dX9_isNight_5 : decode cX9_isNight 5 = .ok (.iload_n 0, 1) := by decide +kernel
theorem dX9_isNight_6 : decode cX9_isNight 6 = .ok (.bipush 60, 2) := by decide +kernel
theorem dX9_isNight_8 : decode cX9_isNight 8 = .ok (.if_icmp .gt 7, 3) := by decide +kernel
theorem dX9_isNight_11 : decode cX9_isNight 11 = .ok (.iconst 1, 1) := by decide +kernel
theorem dX9_isNight_12 : decode cX9_isNight 12 = .ok (.goto 4, 3) := by decide +kernel
theorem dX9_isNight_15 : decode cX9_isNight 15 = .ok (.iconst 0, 1) := by decide +kernel
theorem dX9_isNight_16 : decode cX9_isNight 16 = .ok (.ireturn, 1) := by decide +kernel
theorem dX9_isEvening_0 : decode cX9_isEvening 0 = .ok (.iload_n 0, 1) := by decide +kernel
theorem dX9_isEvening_1 : decode cX9_isEvening 1 = .ok (.bipush 99, 2) := by decide +kernel
theorem dX9_isEvening_3 : decode cX9_isEvening 3 = .ok (.invokestatic 98, 3) := by decide +kernel
theorem dX9_isEvening_6 : decode cX9_isEvening 6 = .ok (.ifCond .eq 25, 3) := by decide +kernel
theorem dX9_isEvening_9 : decode cX9_isEvening 9 = .ok (.iload_n 1, 1) := by decide +kernel
theorem dX9_isEvening_10 : decode cX9_isEvening 10 = .ok (.bipush 99, 2) := by decide +kernel
theorem dX9_isEvening_12 : decode cX9_isEvening 12 = .ok (.invokestatic 98, 3) := by decide +kernel
theorem dX9_isEvening_15 : decode cX9_isEvening 15 = .ok (.ifCond .eq 16, 3) := by decide +kernel
theorem dX9_isEvening_18 : decode cX9_isEvening 18 = .ok (.iload_n 2, 1) := by decide +kernel
theorem dX9_isEvening_19 : decode cX9_isEvening 19 = .ok (.bipush 99, 2) := by decide +kernel
theorem dX9_isEvening_21 : decode cX9_isEvening 21 = .ok (.invokestatic 98, 3) := by decide +kernel
theorem dX9_isEvening_24 : decode cX9_isEvening 24 = .ok (.ifCond .eq 7, 3) := by decide +kernel
theorem dX9_isEvening_27 : decode cX9_isEvening 27 = .ok (.iconst 1, 1) := by decide +kernel
theorem dX9_isEvening_28 : decode cX9_isEvening 28 = .ok (.goto 4, 3) := by decide +kernel
theorem dX9_isEvening_31 : decode cX9_isEvening 31 = .ok (.iconst 0, 1) := by decide +kernel
theorem dX9_isEvening_32 : decode cX9_isEvening 32 = .ok (.ireturn, 1) := by decide +kernel
theorem dX9_arePrices_0 : decode cX9_arePrices 0 = .ok (.iload_n 0, 1) := by decide +kernel
theorem dX9_arePrices_1 : decode cX9_arePrices 1 = .ok (.sipush 999, 3) := by decide +kernel
theorem dX9_arePrices_4 : decode cX9_arePrices 4 = .ok (.invokestatic 98, 3) := by decide +kernel
theorem dX9_arePrices_7 : decode cX9_arePrices 7 = .ok (.ifCond .eq 17, 3) := by decide +kernel
theorem dX9_arePrices_10 : decode cX9_arePrices 10 = .ok (.iload_n 1, 1) := by decide +kernel
theorem dX9_arePrices_11 : decode cX9_arePrices 11 = .ok (.sipush 999, 3) := by decide +kernel
theorem dX9_arePrices_14 : decode cX9_arePrices 14 = .ok (.invokestatic 98, 3) := by decide +kernel
theorem dX9_arePrices_17 : decode cX9_arePrices 17 = .ok (.ifCond .eq 7, 3) := by decide +kernel
theorem dX9_arePrices_20 : decode cX9_arePrices 20 = .ok (.iconst 1, 1) := by decide +kernel
theorem dX9_arePrices_21 : decode cX9_arePrices 21 = .ok (.goto 4, 3) := by decide +kernel
theorem dX9_arePrices_24 : decode cX9_arePrices 24 = .ok (.iconst 0, 1) := by decide +kernel
theorem dX9_arePrices_25 : decode cX9_arePrices 25 = .ok (.ireturn, 1) := by decide +kernel
theorem dX9_orNothing_0 : decode cX9_orNothing 0 = .ok (.iload_n 0, 1) := by decide +kernel
theorem dX9_orNothing_1 : decode cX9_orNothing 1 = .ok (.ifCond .le 7, 3) := by decide +kernel
theorem dX9_orNothing_4 : decode cX9_orNothing 4 = .ok (.iload_n 0, 1) := by decide +kernel
theorem dX9_orNothing_5 : decode cX9_orNothing 5 = .ok (.goto 5, 3) := by decide +kernel
theorem dX9_orNothing_8 : decode cX9_orNothing 8 = .ok (.bipush (-2), 2) := by decide +kernel
theorem dX9_orNothing_10 : decode cX9_orNothing 10 = .ok (.ireturn, 1) := by decide +kernel
theorem dX9_sumOf_0 : decode cX9_sumOf 0 = .ok (.iconst 0, 1) := by decide +kernel
theorem dX9_sumOf_1 : decode cX9_sumOf 1 = .ok (.istore_n 1, 1) := by decide +kernel
theorem dX9_sumOf_2 : decode cX9_sumOf 2 = .ok (.aload_n 0, 1) := by decide +kernel
theorem dX9_sumOf_3 : decode cX9_sumOf 3 = .ok (.astore_n 2, 1) := by decide +kernel
theorem dX9_sumOf_4 : decode cX9_sumOf 4 = .ok (.aload_n 2, 1) := by decide +kernel
theorem dX9_sumOf_5 : decode cX9_sumOf 5 = .ok (.arraylength, 1) := by decide +kernel
theorem dX9_sumOf_6 : decode cX9_sumOf 6 = .ok (.istore_n 3, 1) := by decide +kernel
theorem dX9_sumOf_7 : decode cX9_sumOf 7 = .ok (.iconst 0, 1) := by decide +kernel
theorem dX9_sumOf_8 : decode cX9_sumOf 8 = .ok (.istore 4, 2) := by decide +kernel
theorem dX9_sumOf_10 : decode cX9_sumOf 10 = .ok (.iload 4, 2) := by decide +kernel
theorem dX9_sumOf_12 : decode cX9_sumOf 12 = .ok (.iload_n 3, 1) := by decide +kernel
theorem dX9_sumOf_13 : decode cX9_sumOf 13 = .ok (.if_icmp .ge 20, 3) := by decide +kernel
theorem dX9_sumOf_16 : decode cX9_sumOf 16 = .ok (.aload_n 2, 1) := by decide +kernel
theorem dX9_sumOf_17 : decode cX9_sumOf 17 = .ok (.iload 4, 2) := by decide +kernel
theorem dX9_sumOf_19 : decode cX9_sumOf 19 = .ok (.iaload, 1) := by decide +kernel
theorem dX9_sumOf_20 : decode cX9_sumOf 20 = .ok (.istore 5, 2) := by decide +kernel
theorem dX9_sumOf_22 : decode cX9_sumOf 22 = .ok (.iload_n 1, 1) := by decide +kernel
theorem dX9_sumOf_23 : decode cX9_sumOf 23 = .ok (.iload 5, 2) := by decide +kernel
theorem dX9_sumOf_25 : decode cX9_sumOf 25 = .ok (.iadd, 1) := by decide +kernel
theorem dX9_sumOf_26 : decode cX9_sumOf 26 = .ok (.istore_n 1, 1) := by decide +kernel
theorem dX9_sumOf_27 : decode cX9_sumOf 27 = .ok (.iinc 4 1, 3) := by decide +kernel
theorem dX9_sumOf_30 : decode cX9_sumOf 30 = .ok (.goto (-20), 3) := by decide +kernel
theorem dX9_sumOf_33 : decode cX9_sumOf 33 = .ok (.iload_n 1, 1) := by decide +kernel
theorem dX9_sumOf_34 : decode cX9_sumOf 34 = .ok (.ireturn, 1) := by decide +kernel
theorem dX9_bounded_0 : decode cX9_bounded 0 = .ok (.iconst 0, 1) := by decide +kernel
theorem dX9_bounded_1 : decode cX9_bounded 1 = .ok (.iload_n 0, 1) := by decide +kernel
theorem dX9_bounded_2 : decode cX9_bounded 2 = .ok (.iload_n 1, 1) := by decide +kernel
theorem dX9_bounded_3 : decode cX9_bounded 3 = .ok (.invokestatic 310, 3) := by decide +kernel
theorem dX9_bounded_6 : decode cX9_bounded 6 = .ok (.invokestatic 182, 3) := by decide +kernel
theorem dX9_bounded_9 : decode cX9_bounded 9 = .ok (.ireturn, 1) := by decide +kernel
theorem dX9_lowestTerm_0 : decode cX9_lowestTerm 0 = .ok (.lload_n 0, 1) := by decide +kernel
theorem dX9_lowestTerm_1 : decode cX9_lowestTerm 1 = .ok (.lstore 5, 2) := by decide +kernel
theorem dX9_lowestTerm_3 : decode cX9_lowestTerm 3 = .ok (.lload_n 2, 1) := by decide +kernel
theorem dX9_lowestTerm_4 : decode cX9_lowestTerm 4 = .ok (.lstore 7, 2) := by decide +kernel
theorem dX9_lowestTerm_6 : decode cX9_lowestTerm 6 = .ok (.iconst 0, 1) := by decide +kernel
theorem dX9_lowestTerm_7 : decode cX9_lowestTerm 7 = .ok (.istore 9, 2) := by decide +kernel
theorem dX9_lowestTerm_9 : decode cX9_lowestTerm 9 = .ok (.iload 9, 2) := by decide +kernel
theorem dX9_lowestTerm_11 : decode cX9_lowestTerm 11 = .ok (.sipush 200, 3) := by decide +kernel
theorem dX9_lowestTerm_14 : decode cX9_lowestTerm 14 = .ok (.if_icmp .ge 31, 3) := by decide +kernel
theorem dX9_lowestTerm_17 : decode cX9_lowestTerm 17 = .ok (.lload 5, 2) := by decide +kernel
theorem dX9_lowestTerm_19 : decode cX9_lowestTerm 19 = .ok (.lconst 0, 1) := by decide +kernel
theorem dX9_lowestTerm_20 : decode cX9_lowestTerm 20 = .ok (.lcmp, 1) := by decide +kernel
theorem dX9_lowestTerm_21 : decode cX9_lowestTerm 21 = .ok (.ifCond .eq 24, 3) := by decide +kernel
theorem dX9_lowestTerm_24 : decode cX9_lowestTerm 24 = .ok (.lload 7, 2) := by decide +kernel
theorem dX9_lowestTerm_26 : decode cX9_lowestTerm 26 = .ok (.lload 5, 2) := by decide +kernel
theorem dX9_lowestTerm_28 : decode cX9_lowestTerm 28 = .ok (.lrem, 1) := by decide +kernel
theorem dX9_lowestTerm_29 : decode cX9_lowestTerm 29 = .ok (.lstore 10, 2) := by decide +kernel
theorem dX9_lowestTerm_31 : decode cX9_lowestTerm 31 = .ok (.lload 5, 2) := by decide +kernel
theorem dX9_lowestTerm_33 : decode cX9_lowestTerm 33 = .ok (.lstore 7, 2) := by decide +kernel
theorem dX9_lowestTerm_35 : decode cX9_lowestTerm 35 = .ok (.lload 10, 2) := by decide +kernel
theorem dX9_lowestTerm_37 : decode cX9_lowestTerm 37 = .ok (.lstore 5, 2) := by decide +kernel
theorem dX9_lowestTerm_39 : decode cX9_lowestTerm 39 = .ok (.iinc 9 1, 3) := by decide +kernel
theorem dX9_lowestTerm_42 : decode cX9_lowestTerm 42 = .ok (.goto (-33), 3) := by decide +kernel
theorem dX9_lowestTerm_45 : decode cX9_lowestTerm 45 = .ok (.lload 7, 2) := by decide +kernel
theorem dX9_lowestTerm_47 : decode cX9_lowestTerm 47 = .ok (.lconst 0, 1) := by decide +kernel
theorem dX9_lowestTerm_48 : decode cX9_lowestTerm 48 = .ok (.lcmp, 1) := by decide +kernel
theorem dX9_lowestTerm_49 : decode cX9_lowestTerm 49 = .ok (.ifCond .ne 5, 3) := by decide +kernel
theorem dX9_lowestTerm_52 : decode cX9_lowestTerm 52 = .ok (.lconst 0, 1) := by decide +kernel
theorem dX9_lowestTerm_53 : decode cX9_lowestTerm 53 = .ok (.lreturn, 1) := by decide +kernel
theorem dX9_lowestTerm_54 : decode cX9_lowestTerm 54 = .ok (.iload 4, 2) := by decide +kernel
theorem dX9_lowestTerm_56 : decode cX9_lowestTerm 56 = .ok (.ifCond .ne 10, 3) := by decide +kernel
theorem dX9_lowestTerm_59 : decode cX9_lowestTerm 59 = .ok (.lload_n 0, 1) := by decide +kernel
theorem dX9_lowestTerm_60 : decode cX9_lowestTerm 60 = .ok (.lload 7, 2) := by decide +kernel
theorem dX9_lowestTerm_62 : decode cX9_lowestTerm 62 = .ok (.ldiv, 1) := by decide +kernel
theorem dX9_lowestTerm_63 : decode cX9_lowestTerm 63 = .ok (.goto 7, 3) := by decide +kernel
theorem dX9_lowestTerm_66 : decode cX9_lowestTerm 66 = .ok (.lload_n 2, 1) := by decide +kernel
theorem dX9_lowestTerm_67 : decode cX9_lowestTerm 67 = .ok (.lload 7, 2) := by decide +kernel
theorem dX9_lowestTerm_69 : decode cX9_lowestTerm 69 = .ok (.ldiv, 1) := by decide +kernel
theorem dX9_lowestTerm_70 : decode cX9_lowestTerm 70 = .ok (.lreturn, 1) := by decide +kernel
theorem dX9_passTrial_0 : decode cX9_passTrial 0 = .ok (.aload_n 0, 1) := by decide +kernel
theorem dX9_passTrial_1 : decode cX9_passTrial 1 = .ok (.getfield 19, 3) := by decide +kernel
theorem dX9_passTrial_4 : decode cX9_passTrial 4 = .ok (.aload_n 0, 1) := by decide +kernel
theorem dX9_passTrial_5 : decode cX9_passTrial 5 = .ok (.getfield 10, 3) := by decide +kernel
theorem dX9_passTrial_8 : decode cX9_passTrial 8 = .ok (.invokevirtual 169, 3) := by decide +kernel
theorem dX9_passTrial_11 : decode cX9_passTrial 11 = .ok (.iload_n 2, 1) := by decide +kernel
theorem dX9_passTrial_12 : decode cX9_passTrial 12 = .ok (.sipush 143, 3) := by decide +kernel
theorem dX9_passTrial_15 : decode cX9_passTrial 15 = .ok (.invokestatic 98, 3) := by decide +kernel
theorem dX9_passTrial_18 : decode cX9_passTrial 18 = .ok (.ifCond .eq 13, 3) := by decide +kernel
theorem dX9_passTrial_21 : decode cX9_passTrial 21 = .ok (.aload_n 0, 1) := by decide +kernel
theorem dX9_passTrial_22 : decode cX9_passTrial 22 = .ok (.getfield 19, 3) := by decide +kernel
theorem dX9_passTrial_25 : decode cX9_passTrial 25 = .ok (.getfield 104, 3) := by decide +kernel
theorem dX9_passTrial_28 : decode cX9_passTrial 28 = .ok (.iload_n 2, 1) := by decide +kernel
theorem dX9_passTrial_29 : decode cX9_passTrial 29 = .ok (.iconst 2, 1) := by decide +kernel
theorem dX9_passTrial_30 : decode cX9_passTrial 30 = .ok (.iastore, 1) := by decide +kernel
theorem dX9_passTrial_31 : decode cX9_passTrial 31 = .ok (.iconst 0, 1) := by decide +kernel
theorem dX9_passTrial_32 : decode cX9_passTrial 32 = .ok (.istore_n 3, 1) := by decide +kernel
theorem dX9_passTrial_33 : decode cX9_passTrial 33 = .ok (.iload_n 3, 1) := by decide +kernel
theorem dX9_passTrial_34 : decode cX9_passTrial 34 = .ok (.iload_n 1, 1) := by decide +kernel
theorem dX9_passTrial_35 : decode cX9_passTrial 35 = .ok (.if_icmp .ge 24, 3) := by decide +kernel
theorem dX9_passTrial_38 : decode cX9_passTrial 38 = .ok (.aload_n 0, 1) := by decide +kernel
theorem dX9_passTrial_39 : decode cX9_passTrial 39 = .ok (.getfield 25, 3) := by decide +kernel
theorem dX9_passTrial_42 : decode cX9_passTrial 42 = .ok (.aload_n 0, 1) := by decide +kernel
theorem dX9_passTrial_43 : decode cX9_passTrial 43 = .ok (.getfield 19, 3) := by decide +kernel
theorem dX9_passTrial_46 : decode cX9_passTrial 46 = .ok (.aload_n 0, 1) := by decide +kernel
theorem dX9_passTrial_47 : decode cX9_passTrial 47 = .ok (.getfield 71, 3) := by decide +kernel
theorem dX9_passTrial_50 : decode cX9_passTrial 50 = .ok (.invokevirtual 135, 3) := by decide +kernel
theorem dX9_passTrial_53 : decode cX9_passTrial 53 = .ok (.iinc 3 1, 3) := by decide +kernel
theorem dX9_passTrial_56 : decode cX9_passTrial 56 = .ok (.goto (-23), 3) := by decide +kernel
theorem dX9_passTrial_59 : decode cX9_passTrial 59 = .ok (.return_, 1) := by decide +kernel
theorem dX9_heightFreeOf_0 : decode cX9_heightFreeOf 0 = .ok (.iconst 0, 1) := by decide +kernel
theorem dX9_heightFreeOf_1 : decode cX9_heightFreeOf 1 = .ok (.istore_n 2, 1) := by decide +kernel
theorem dX9_heightFreeOf_2 : decode cX9_heightFreeOf 2 = .ok (.iconst 0, 1) := by decide +kernel
theorem dX9_heightFreeOf_3 : decode cX9_heightFreeOf 3 = .ok (.istore_n 3, 1) := by decide +kernel
theorem dX9_heightFreeOf_4 : decode cX9_heightFreeOf 4 = .ok (.iload_n 3, 1) := by decide +kernel
theorem dX9_heightFreeOf_5 : decode cX9_heightFreeOf 5 = .ok (.sipush 144, 3) := by decide +kernel
theorem dX9_heightFreeOf_8 : decode cX9_heightFreeOf 8 = .ok (.if_icmp .ge 38, 3) := by decide +kernel
theorem dX9_heightFreeOf_11 : decode cX9_heightFreeOf 11 = .ok (.aload_n 0, 1) := by decide +kernel
theorem dX9_heightFreeOf_12 : decode cX9_heightFreeOf 12 = .ok (.getfield 19, 3) := by decide +kernel
theorem dX9_heightFreeOf_15 : decode cX9_heightFreeOf 15 = .ok (.getfield 107, 3) := by decide +kernel
theorem dX9_heightFreeOf_18 : decode cX9_heightFreeOf 18 = .ok (.iload_n 3, 1) := by decide +kernel
theorem dX9_heightFreeOf_19 : decode cX9_heightFreeOf 19 = .ok (.iaload, 1) := by decide +kernel
theorem dX9_heightFreeOf_20 : decode cX9_heightFreeOf 20 = .ok (.iload_n 1, 1) := by decide +kernel
theorem dX9_heightFreeOf_21 : decode cX9_heightFreeOf 21 = .ok (.if_icmp .lt 19, 3) := by decide +kernel
theorem dX9_heightFreeOf_24 : decode cX9_heightFreeOf 24 = .ok (.iload_n 2, 1) := by decide +kernel
theorem dX9_heightFreeOf_25 : decode cX9_heightFreeOf 25 = .ok (.aload_n 0, 1) := by decide +kernel
theorem dX9_heightFreeOf_26 : decode cX9_heightFreeOf 26 = .ok (.getfield 19, 3) := by decide +kernel
theorem dX9_heightFreeOf_29 : decode cX9_heightFreeOf 29 = .ok (.getfield 101, 3) := by decide +kernel
theorem dX9_heightFreeOf_32 : decode cX9_heightFreeOf 32 = .ok (.iload_n 3, 1) := by decide +kernel
theorem dX9_heightFreeOf_33 : decode cX9_heightFreeOf 33 = .ok (.iaload, 1) := by decide +kernel
theorem dX9_heightFreeOf_34 : decode cX9_heightFreeOf 34 = .ok (.iconst 1, 1) := by decide +kernel
theorem dX9_heightFreeOf_35 : decode cX9_heightFreeOf 35 = .ok (.iadd, 1) := by decide +kernel
theorem dX9_heightFreeOf_36 : decode cX9_heightFreeOf 36 = .ok (.invokestatic 182, 3) := by decide +kernel
theorem dX9_heightFreeOf_39 : decode cX9_heightFreeOf 39 = .ok (.istore_n 2, 1) := by decide +kernel
theorem dX9_heightFreeOf_40 : decode cX9_heightFreeOf 40 = .ok (.iinc 3 1, 3) := by decide +kernel
theorem dX9_heightFreeOf_43 : decode cX9_heightFreeOf 43 = .ok (.goto (-39), 3) := by decide +kernel
theorem dX9_heightFreeOf_46 : decode cX9_heightFreeOf 46 = .ok (.iload_n 2, 1) := by decide +kernel
theorem dX9_heightFreeOf_47 : decode cX9_heightFreeOf 47 = .ok (.ireturn, 1) := by decide +kernel
theorem dX9_tellWorks_0 : decode cX9_tellWorks 0 = .ok (.iconst 0, 1) := by decide +kernel
theorem dX9_tellWorks_1 : decode cX9_tellWorks 1 = .ok (.istore_n 2, 1) := by decide +kernel
theorem dX9_tellWorks_2 : decode cX9_tellWorks 2 = .ok (.iconst 0, 1) := by decide +kernel
theorem dX9_tellWorks_3 : decode cX9_tellWorks 3 = .ok (.istore_n 3, 1) := by decide +kernel
theorem dX9_tellWorks_4 : decode cX9_tellWorks 4 = .ok (.bipush (-2), 2) := by decide +kernel
theorem dX9_tellWorks_6 : decode cX9_tellWorks 6 = .ok (.istore 4, 2) := by decide +kernel
theorem dX9_tellWorks_8 : decode cX9_tellWorks 8 = .ok (.iconst 0, 1) := by decide +kernel
theorem dX9_tellWorks_9 : decode cX9_tellWorks 9 = .ok (.istore 5, 2) := by decide +kernel
theorem dX9_tellWorks_11 : decode cX9_tellWorks 11 = .ok (.iconst 0, 1) := by decide +kernel
theorem dX9_tellWorks_12 : decode cX9_tellWorks 12 = .ok (.istore 6, 2) := by decide +kernel
theorem dX9_tellWorks_14 : decode cX9_tellWorks 14 = .ok (.iload 6, 2) := by decide +kernel
theorem dX9_tellWorks_16 : decode cX9_tellWorks 16 = .ok (.sipush 144, 3) := by decide +kernel
theorem dX9_tellWorks_19 : decode cX9_tellWorks 19 = .ok (.if_icmp .ge 60, 3) := by decide +kernel
theorem dX9_tellWorks_22 : decode cX9_tellWorks 22 = .ok (.aload_n 0, 1) := by decide +kernel
theorem dX9_tellWorks_23 : decode cX9_tellWorks 23 = .ok (.getfield 19, 3) := by decide +kernel
theorem dX9_tellWorks_26 : decode cX9_tellWorks 26 = .ok (.getfield 107, 3) := by decide +kernel
theorem dX9_tellWorks_29 : decode cX9_tellWorks 29 = .ok (.iload 6, 2) := by decide +kernel
theorem dX9_tellWorks_31 : decode cX9_tellWorks 31 = .ok (.iaload, 1) := by decide +kernel
theorem dX9_tellWorks_32 : decode cX9_tellWorks 32 = .ok (.aload_n 0, 1) := by decide +kernel
theorem dX9_tellWorks_33 : decode cX9_tellWorks 33 = .ok (.getfield 64, 3) := by decide +kernel
theorem dX9_tellWorks_36 : decode cX9_tellWorks 36 = .ok (.iload 6, 2) := by decide +kernel
theorem dX9_tellWorks_38 : decode cX9_tellWorks 38 = .ok (.iaload, 1) := by decide +kernel
theorem dX9_tellWorks_39 : decode cX9_tellWorks 39 = .ok (.isub, 1) := by decide +kernel
theorem dX9_tellWorks_40 : decode cX9_tellWorks 40 = .ok (.istore 7, 2) := by decide +kernel
theorem dX9_tellWorks_42 : decode cX9_tellWorks 42 = .ok (.iload 7, 2) := by decide +kernel
theorem dX9_tellWorks_44 : decode cX9_tellWorks 44 = .ok (.ifCond .le 6, 3) := by decide +kernel
theorem dX9_tellWorks_47 : decode cX9_tellWorks 47 = .ok (.iinc 2 1, 3) := by decide +kernel
theorem dX9_tellWorks_50 : decode cX9_tellWorks 50 = .ok (.iload 7, 2) := by decide +kernel
theorem dX9_tellWorks_52 : decode cX9_tellWorks 52 = .ok (.ifCond .ge 6, 3) := by decide +kernel
theorem dX9_tellWorks_55 : decode cX9_tellWorks 55 = .ok (.iinc 3 1, 3) := by decide +kernel
theorem dX9_tellWorks_58 : decode cX9_tellWorks 58 = .ok (.iload 7, 2) := by decide +kernel
theorem dX9_tellWorks_60 : decode cX9_tellWorks 60 = .ok (.iload 5, 2) := by decide +kernel
theorem dX9_tellWorks_62 : decode cX9_tellWorks 62 = .ok (.if_icmp .le 11, 3) := by decide +kernel
theorem dX9_tellWorks_65 : decode cX9_tellWorks 65 = .ok (.iload 6, 2) := by decide +kernel
theorem dX9_tellWorks_67 : decode cX9_tellWorks 67 = .ok (.istore 4, 2) := by decide +kernel
theorem dX9_tellWorks_69 : decode cX9_tellWorks 69 = .ok (.iload 7, 2) := by decide +kernel
theorem dX9_tellWorks_71 : decode cX9_tellWorks 71 = .ok (.istore 5, 2) := by decide +kernel
theorem dX9_tellWorks_73 : decode cX9_tellWorks 73 = .ok (.iinc 6 1, 3) := by decide +kernel
theorem dX9_tellWorks_76 : decode cX9_tellWorks 76 = .ok (.goto (-62), 3) := by decide +kernel
theorem dX9_tellWorks_79 : decode cX9_tellWorks 79 = .ok (.iload_n 1, 1) := by decide +kernel
theorem dX9_tellWorks_80 : decode cX9_tellWorks 80 = .ok (.tableswitch 35 0 2 #[28, 30, 32], 28) := by decide +kernel
theorem dX9_tellWorks_108 : decode cX9_tellWorks 108 = .ok (.iload_n 2, 1) := by decide +kernel
theorem dX9_tellWorks_109 : decode cX9_tellWorks 109 = .ok (.ireturn, 1) := by decide +kernel
theorem dX9_tellWorks_110 : decode cX9_tellWorks 110 = .ok (.iload_n 3, 1) := by decide +kernel
theorem dX9_tellWorks_111 : decode cX9_tellWorks 111 = .ok (.ireturn, 1) := by decide +kernel
theorem dX9_tellWorks_112 : decode cX9_tellWorks 112 = .ok (.iload 4, 2) := by decide +kernel
theorem dX9_tellWorks_114 : decode cX9_tellWorks 114 = .ok (.ireturn, 1) := by decide +kernel
theorem dX9_tellWorks_115 : decode cX9_tellWorks 115 = .ok (.iload 5, 2) := by decide +kernel
theorem dX9_tellWorks_117 : decode cX9_tellWorks 117 = .ok (.ireturn, 1) := by decide +kernel
theorem dX10_init_0 : decode cX10_init 0 = .ok (.aload_n 0, 1) := by decide +kernel
theorem dX10_init_1 : decode cX10_init 1 = .ok (.invokespecial 1, 3) := by decide +kernel
theorem dX10_init_4 : decode cX10_init 4 = .ok (.aload_n 0, 1) := by decide +kernel
theorem dX10_init_5 : decode cX10_init 5 = .ok (.sipush 220, 3) := by decide +kernel
theorem dX10_init_8 : decode cX10_init 8 = .ok (.newarray .byte, 2) := by decide +kernel
theorem dX10_init_10 : decode cX10_init 10 = .ok (.putfield 7, 3) := by decide +kernel
theorem dX10_init_13 : decode cX10_init 13 = .ok (.aload_n 0, 1) := by decide +kernel
theorem dX10_init_14 : decode cX10_init 14 = .ok (.iconst 1, 1) := by decide +kernel
theorem dX10_init_15 : decode cX10_init 15 = .ok (.putfield 13, 3) := by decide +kernel
theorem dX10_init_18 : decode cX10_init 18 = .ok (.aload_n 0, 1) := by decide +kernel
theorem dX10_init_19 : decode cX10_init 19 = .ok (.sipush 144, 3) := by decide +kernel
theorem dX10_init_22 : decode cX10_init 22 = .ok (.newarray .int, 2) := by decide +kernel
theorem dX10_init_24 : decode cX10_init 24 = .ok (.putfield 17, 3) := by decide +kernel
theorem dX10_init_27 : decode cX10_init 27 = .ok (.aload_n 0, 1) := by decide +kernel
theorem dX10_init_28 : decode cX10_init 28 = .ok (.sipush 144, 3) := by decide +kernel
theorem dX10_init_31 : decode cX10_init 31 = .ok (.newarray .int, 2) := by decide +kernel
theorem dX10_init_33 : decode cX10_init 33 = .ok (.putfield 21, 3) := by decide +kernel
theorem dX10_init_36 : decode cX10_init 36 = .ok (.aload_n 0, 1) := by decide +kernel
theorem dX10_init_37 : decode cX10_init 37 = .ok (.sipush 144, 3) := by decide +kernel
theorem dX10_init_40 : decode cX10_init 40 = .ok (.newarray .int, 2) := by decide +kernel
theorem dX10_init_42 : decode cX10_init 42 = .ok (.putfield 24, 3) := by decide +kernel
theorem dX10_init_45 : decode cX10_init 45 = .ok (.aload_n 0, 1) := by decide +kernel
theorem dX10_init_46 : decode cX10_init 46 = .ok (.sipush 144, 3) := by decide +kernel
theorem dX10_init_49 : decode cX10_init 49 = .ok (.newarray .int, 2) := by decide +kernel
theorem dX10_init_51 : decode cX10_init 51 = .ok (.putfield 27, 3) := by decide +kernel
theorem dX10_init_54 : decode cX10_init 54 = .ok (.aload_n 0, 1) := by decide +kernel
theorem dX10_init_55 : decode cX10_init 55 = .ok (.bipush 100, 2) := by decide +kernel
theorem dX10_init_57 : decode cX10_init 57 = .ok (.newarray .int, 2) := by decide +kernel
theorem dX10_init_59 : decode cX10_init 59 = .ok (.putfield 30, 3) := by decide +kernel
theorem dX10_init_62 : decode cX10_init 62 = .ok (.aload_n 0, 1) := by decide +kernel
theorem dX10_init_63 : decode cX10_init 63 = .ok (.bipush 14, 2) := by decide +kernel
theorem dX10_init_65 : decode cX10_init 65 = .ok (.newarray .int, 2) := by decide +kernel
theorem dX10_init_67 : decode cX10_init 67 = .ok (.putfield 33, 3) := by decide +kernel
theorem dX10_init_70 : decode cX10_init 70 = .ok (.aload_n 0, 1) := by decide +kernel
theorem dX10_init_71 : decode cX10_init 71 = .ok (.bipush 14, 2) := by decide +kernel
theorem dX10_init_73 : decode cX10_init 73 = .ok (.newarray .int, 2) := by decide +kernel
theorem dX10_init_75 : decode cX10_init 75 = .ok (.putfield 36, 3) := by decide +kernel
theorem dX10_init_78 : decode cX10_init 78 = .ok (.aload_n 0, 1) := by decide +kernel
theorem dX10_init_79 : decode cX10_init 79 = .ok (.bipush 14, 2) := by decide +kernel
theorem dX10_init_81 : decode cX10_init 81 = .ok (.newarray .int, 2) := by decide +kernel
theorem dX10_init_83 : decode cX10_init 83 = .ok (.putfield 39, 3) := by decide +kernel
theorem dX10_init_86 : decode cX10_init 86 = .ok (.aload_n 0, 1) := by decide +kernel
theorem dX10_init_87 : decode cX10_init 87 = .ok (.bipush 14, 2) := by decide +kernel
theorem dX10_init_89 : decode cX10_init 89 = .ok (.newarray .int, 2) := by decide +kernel
theorem dX10_init_91 : decode cX10_init 91 = .ok (.putfield 42, 3) := by decide +kernel
theorem dX10_init_94 : decode cX10_init 94 = .ok (.aload_n 0, 1) := by decide +kernel
theorem dX10_init_95 : decode cX10_init 95 = .ok (.sipush 200, 3) := by decide +kernel
theorem dX10_init_98 : decode cX10_init 98 = .ok (.newarray .int, 2) := by decide +kernel
theorem dX10_init_100 : decode cX10_init 100 = .ok (.putfield 45, 3) := by decide +kernel
theorem dX10_init_103 : decode cX10_init 103 = .ok (.aload_n 0, 1) := by decide +kernel
theorem dX10_init_104 : decode cX10_init 104 = .ok (.sipush 200, 3) := by decide +kernel
theorem dX10_init_107 : decode cX10_init 107 = .ok (.newarray .int, 2) := by decide +kernel
theorem dX10_init_109 : decode cX10_init 109 = .ok (.putfield 48, 3) := by decide +kernel
theorem dX10_init_112 : decode cX10_init 112 = .ok (.aload_n 0, 1) := by decide +kernel
theorem dX10_init_113 : decode cX10_init 113 = .ok (.bipush 14, 2) := by decide +kernel
theorem dX10_init_115 : decode cX10_init 115 = .ok (.newarray .int, 2) := by decide +kernel
theorem dX10_init_117 : decode cX10_init 117 = .ok (.putfield 51, 3) := by decide +kernel
theorem dX10_init_120 : decode cX10_init 120 = .ok (.aload_n 0, 1) := by decide +kernel
theorem dX10_init_121 : decode cX10_init 121 = .ok (.bipush 14, 2) := by decide +kernel
theorem dX10_init_123 : decode cX10_init 123 = .ok (.newarray .int, 2) := by decide +kernel
theorem dX10_init_125 : decode cX10_init 125 = .ok (.putfield 54, 3) := by decide +kernel
theorem dX10_init_128 : decode cX10_init 128 = .ok (.aload_n 0, 1) := by decide +kernel
theorem dX10_init_129 : decode cX10_init 129 = .ok (.bipush 14, 2) := by decide +kernel
theorem dX10_init_131 : decode cX10_init 131 = .ok (.newarray .int, 2) := by decide +kernel
theorem dX10_init_133 : decode cX10_init 133 = .ok (.putfield 57, 3) := by decide +kernel
theorem dX10_init_136 : decode cX10_init 136 = .ok (.aload_n 0, 1) := by decide +kernel
theorem dX10_init_137 : decode cX10_init 137 = .ok (.bipush 14, 2) := by decide +kernel
theorem dX10_init_139 : decode cX10_init 139 = .ok (.newarray .int, 2) := by decide +kernel
theorem dX10_init_141 : decode cX10_init 141 = .ok (.putfield 60, 3) := by decide +kernel
theorem dX10_init_144 : decode cX10_init 144 = .ok (.aload_n 0, 1) := by decide +kernel
theorem dX10_init_145 : decode cX10_init 145 = .ok (.sipush 200, 3) := by decide +kernel
theorem dX10_init_148 : decode cX10_init 148 = .ok (.newarray .int, 2) := by decide +kernel
theorem dX10_init_150 : decode cX10_init 150 = .ok (.putfield 63, 3) := by decide +kernel
theorem dX10_init_153 : decode cX10_init 153 = .ok (.aload_n 0, 1) := by decide +kernel
theorem dX10_init_154 : decode cX10_init 154 = .ok (.sipush 200, 3) := by decide +kernel
theorem dX10_init_157 : decode cX10_init 157 = .ok (.newarray .int, 2) := by decide +kernel
theorem dX10_init_159 : decode cX10_init 159 = .ok (.putfield 66, 3) := by decide +kernel
theorem dX10_init_162 : decode cX10_init 162 = .ok (.aload_n 0, 1) := by decide +kernel
theorem dX10_init_163 : decode cX10_init 163 = .ok (.sipush 240, 3) := by decide +kernel
theorem dX10_init_166 : decode cX10_init 166 = .ok (.newarray .int, 2) := by decide +kernel
theorem dX10_init_168 : decode cX10_init 168 = .ok (.putfield 69, 3) := by decide +kernel
theorem dX10_init_171 : decode cX10_init 171 = .ok (.aload_n 0, 1) := by decide +kernel
theorem dX10_init_172 : decode cX10_init 172 = .ok (.sipush 240, 3) := by decide +kernel
theorem dX10_init_175 : decode cX10_init 175 = .ok (.newarray .int, 2) := by decide +kernel
theorem dX10_init_177 : decode cX10_init 177 = .ok (.putfield 72, 3) := by decide +kernel
theorem dX10_init_180 : decode cX10_init 180 = .ok (.aload_n 0, 1) := by decide +kernel
theorem dX10_init_181 : decode cX10_init 181 = .ok (.sipush 240, 3) := by decide +kernel
theorem dX10_init_184 : decode cX10_init 184 = .ok (.newarray .boolean, 2) := by decide +kernel
theorem dX10_init_186 : decode cX10_init 186 = .ok (.putfield 75, 3) := by decide +kernel
theorem dX10_init_189 : decode cX10_init 189 = .ok (.aload_n 0, 1) := by decide +kernel
theorem dX10_init_190 : decode cX10_init 190 = .ok (.sipush 144, 3) := by decide +kernel
theorem dX10_init_193 : decode cX10_init 193 = .ok (.newarray .int, 2) := by decide +kernel
theorem dX10_init_195 : decode cX10_init 195 = .ok (.putfield 79, 3) := by decide +kernel
theorem dX10_init_198 : decode cX10_init 198 = .ok (.aload_n 0, 1) := by decide +kernel
theorem dX10_init_199 : decode cX10_init 199 = .ok (.sipush 144, 3) := by decide +kernel
theorem dX10_init_202 : decode cX10_init 202 = .ok (.newarray .int, 2) := by decide +kernel
theorem dX10_init_204 : decode cX10_init 204 = .ok (.putfield 82, 3) := by decide +kernel
theorem dX10_init_207 : decode cX10_init 207 = .ok (.aload_n 0, 1) := by decide +kernel
theorem dX10_init_208 : decode cX10_init 208 = .ok (.sipush 144, 3) := by decide +kernel
theorem dX10_init_211 : decode cX10_init 211 = .ok (.newarray .int, 2) := by decide +kernel
theorem dX10_init_213 : decode cX10_init 213 = .ok (.putfield 85, 3) := by decide +kernel
theorem dX10_init_216 : decode cX10_init 216 = .ok (.aload_n 0, 1) := by decide +kernel
theorem dX10_init_217 : decode cX10_init 217 = .ok (.sipush 144, 3) := by decide +kernel
theorem dX10_init_220 : decode cX10_init 220 = .ok (.newarray .int, 2) := by decide +kernel
theorem dX10_init_222 : decode cX10_init 222 = .ok (.putfield 88, 3) := by decide +kernel
theorem dX10_init_225 : decode cX10_init 225 = .ok (.aload_n 0, 1) := by decide +kernel
theorem dX10_init_226 : decode cX10_init 226 = .ok (.sipush 288, 3) := by decide +kernel
theorem dX10_init_229 : decode cX10_init 229 = .ok (.newarray .int, 2) := by decide +kernel
theorem dX10_init_231 : decode cX10_init 231 = .ok (.putfield 91, 3) := by decide +kernel
theorem dX10_init_234 : decode cX10_init 234 = .ok (.aload_n 0, 1) := by decide +kernel
theorem dX10_init_235 : decode cX10_init 235 = .ok (.sipush 288, 3) := by decide +kernel
theorem dX10_init_238 : decode cX10_init 238 = .ok (.newarray .int, 2) := by decide +kernel
theorem dX10_init_240 : decode cX10_init 240 = .ok (.putfield 94, 3) := by decide +kernel
theorem dX10_init_243 : decode cX10_init 243 = .ok (.aload_n 0, 1) := by decide +kernel
theorem dX10_init_244 : decode cX10_init 244 = .ok (.sipush 288, 3) := by decide +kernel
theorem dX10_init_247 : decode cX10_init 247 = .ok (.newarray .int, 2) := by decide +kernel
theorem dX10_init_249 : decode cX10_init 249 = .ok (.putfield 97, 3) := by decide +kernel
theorem dX10_init_252 : decode cX10_init 252 = .ok (.aload_n 0, 1) := by decide +kernel
theorem dX10_init_253 : decode cX10_init 253 = .ok (.sipush 288, 3) := by decide +kernel
theorem dX10_init_256 : decode cX10_init 256 = .ok (.newarray .int, 2) := by decide +kernel
theorem dX10_init_258 : decode cX10_init 258 = .ok (.putfield 100, 3) := by decide +kernel
theorem dX10_init_261 : decode cX10_init 261 = .ok (.aload_n 0, 1) := by decide +kernel
theorem dX10_init_262 : decode cX10_init 262 = .ok (.iconst 2, 1) := by decide +kernel
theorem dX10_init_263 : decode cX10_init 263 = .ok (.newarray .int, 2) := by decide +kernel
theorem dX10_init_265 : decode cX10_init 265 = .ok (.putfield 103, 3) := by decide +kernel
theorem dX10_init_268 : decode cX10_init 268 = .ok (.aload_n 0, 1) := by decide +kernel
theorem dX10_init_269 : decode cX10_init 269 = .ok (.iconst 2, 1) := by decide +kernel
theorem dX10_init_270 : decode cX10_init 270 = .ok (.newarray .long, 2) := by decide +kernel
theorem dX10_init_272 : decode cX10_init 272 = .ok (.putfield 106, 3) := by decide +kernel
theorem dX10_init_275 : decode cX10_init 275 = .ok (.aload_n 0, 1) := by decide +kernel
theorem dX10_init_276 : decode cX10_init 276 = .ok (.sipush 144, 3) := by decide +kernel
theorem dX10_init_279 : decode cX10_init 279 = .ok (.newarray .int, 2) := by decide +kernel
theorem dX10_init_281 : decode cX10_init 281 = .ok (.putfield 110, 3) := by decide +kernel
theorem dX10_init_284 : decode cX10_init 284 = .ok (.aload_n 0, 1) := by decide +kernel
theorem dX10_init_285 : decode cX10_init 285 = .ok (.bipush 20, 2) := by decide +kernel
theorem dX10_init_287 : decode cX10_init 287 = .ok (.newarray .boolean, 2) := by decide +kernel
theorem dX10_init_289 : decode cX10_init 289 = .ok (.putfield 113, 3) := by decide +kernel
theorem dX10_init_292 : decode cX10_init 292 = .ok (.aload_n 0, 1) := by decide +kernel
theorem dX10_init_293 : decode cX10_init 293 = .ok (.bipush 20, 2) := by decide +kernel
theorem dX10_init_295 : decode cX10_init 295 = .ok (.newarray .int, 2) := by decide +kernel
theorem dX10_init_297 : decode cX10_init 297 = .ok (.putfield 116, 3) := by decide +kernel
theorem dX10_init_300 : decode cX10_init 300 = .ok (.aload_n 0, 1) := by decide +kernel
theorem dX10_init_301 : decode cX10_init 301 = .ok (.bipush 20, 2) := by decide +kernel
theorem dX10_init_303 : decode cX10_init 303 = .ok (.newarray .int, 2) := by decide +kernel
theorem dX10_init_305 : decode cX10_init 305 = .ok (.putfield 119, 3) := by decide +kernel
theorem dX10_init_308 : decode cX10_init 308 = .ok (.aload_n 0, 1) := by decide +kernel
theorem dX10_init_309 : decode cX10_init 309 = .ok (.bipush 20, 2) := by decide +kernel
theorem dX10_init_311 : decode cX10_init 311 = .ok (.newarray .int, 2) := by decide +kernel
theorem dX10_init_313 : decode cX10_init 313 = .ok (.putfield 122, 3) := by decide +kernel
theorem dX10_init_316 : decode cX10_init 316 = .ok (.aload_n 0, 1) := by decide +kernel
theorem dX10_init_317 : decode cX10_init 317 = .ok (.bipush 20, 2) := by decide +kernel
theorem dX10_init_319 : decode cX10_init 319 = .ok (.newarray .int, 2) := by decide +kernel
theorem dX10_init_321 : decode cX10_init 321 = .ok (.putfield 125, 3) := by decide +kernel
theorem dX10_init_324 : decode cX10_init 324 = .ok (.aload_n 0, 1) := by decide +kernel
theorem dX10_init_325 : decode cX10_init 325 = .ok (.sipush 600, 3) := by decide +kernel
theorem dX10_init_328 : decode cX10_init 328 = .ok (.newarray .int, 2) := by decide +kernel
theorem dX10_init_330 : decode cX10_init 330 = .ok (.putfield 128, 3) := by decide +kernel
theorem dX10_init_333 : decode cX10_init 333 = .ok (.aload_n 0, 1) := by decide +kernel
theorem dX10_init_334 : decode cX10_init 334 = .ok (.sipush 3010, 3) := by decide +kernel
theorem dX10_init_337 : decode cX10_init 337 = .ok (.newarray .boolean, 2) := by decide +kernel
theorem dX10_init_339 : decode cX10_init 339 = .ok (.putfield 131, 3) := by decide +kernel
theorem dX10_init_342 : decode cX10_init 342 = .ok (.aload_n 0, 1) := by decide +kernel
theorem dX10_init_343 : decode cX10_init 343 = .ok (.sipush 180, 3) := by decide +kernel
theorem dX10_init_346 : decode cX10_init 346 = .ok (.newarray .int, 2) := by decide +kernel
theorem dX10_init_348 : decode cX10_init 348 = .ok (.putfield 134, 3) := by decide +kernel
theorem dX10_init_351 : decode cX10_init 351 = .ok (.aload_n 0, 1) := by decide +kernel
theorem dX10_init_352 : decode cX10_init 352 = .ok (.bipush 60, 2) := by decide +kernel
theorem dX10_init_354 : decode cX10_init 354 = .ok (.newarray .int, 2) := by decide +kernel
theorem dX10_init_356 : decode cX10_init 356 = .ok (.putfield 137, 3) := by decide +kernel
theorem dX10_init_359 : decode cX10_init 359 = .ok (.aload_n 0, 1) := by decide +kernel
theorem dX10_init_360 : decode cX10_init 360 = .ok (.bipush 60, 2) := by decide +kernel
theorem dX10_init_362 : decode cX10_init 362 = .ok (.newarray .int, 2) := by decide +kernel
theorem dX10_init_364 : decode cX10_init 364 = .ok (.putfield 140, 3) := by decide +kernel
theorem dX10_init_367 : decode cX10_init 367 = .ok (.aload_n 0, 1) := by decide +kernel
theorem dX10_init_368 : decode cX10_init 368 = .ok (.bipush 121, 2) := by decide +kernel
theorem dX10_init_370 : decode cX10_init 370 = .ok (.newarray .long, 2) := by decide +kernel
theorem dX10_init_372 : decode cX10_init 372 = .ok (.putfield 143, 3) := by decide +kernel
theorem dX10_init_375 : decode cX10_init 375 = .ok (.aload_n 0, 1) := by decide +kernel
theorem dX10_init_376 : decode cX10_init 376 = .ok (.bipush 121, 2) := by decide +kernel
theorem dX10_init_378 : decode cX10_init 378 = .ok (.newarray .long, 2) := by decide +kernel
theorem dX10_init_380 : decode cX10_init 380 = .ok (.putfield 146, 3) := by decide +kernel
theorem dX10_init_383 : decode cX10_init 383 = .ok (.aload_n 0, 1) := by decide +kernel
theorem dX10_init_384 : decode cX10_init 384 = .ok (.bipush 100, 2) := by decide +kernel
theorem dX10_init_386 : decode cX10_init 386 = .ok (.newarray .int, 2) := by decide +kernel
theorem dX10_init_388 : decode cX10_init 388 = .ok (.putfield 149, 3) := by decide +kernel
theorem dX10_init_391 : decode cX10_init 391 = .ok (.return_, 1) := by decide +kernel
theorem dX10_lies_0 : decode cX10_lies 0 = .ok (.lload_n 0, 1) := by decide +kernel
theorem dX10_lies_1 : decode cX10_lies 1 = .ok (.lload_n 2, 1) := by decide +kernel
theorem dX10_lies_2 : decode cX10_lies 2 = .ok (.lcmp, 1) := by decide +kernel
theorem dX10_lies_3 : decode cX10_lies 3 = .ok (.ifCond .lt 14, 3) := by decide +kernel
theorem dX10_lies_6 : decode cX10_lies 6 = .ok (.lload_n 0, 1) := by decide +kernel
theorem dX10_lies_7 : decode cX10_lies 7 = .ok (.lload 4, 2) := by decide +kernel
theorem dX10_lies_9 : decode cX10_lies 9 = .ok (.lcmp, 1) := by decide +kernel
theorem dX10_lies_10 : decode cX10_lies 10 = .ok (.ifCond .gt 7, 3) := by decide +kernel
theorem dX10_lies_13 : decode cX10_lies 13 = .ok (.iconst 1, 1) := by decide +kernel
theorem dX10_lies_14 : decode cX10_lies 14 = .ok (.goto 4, 3) := by decide +kernel
theorem dX10_lies_17 : decode cX10_lies 17 = .ok (.iconst 0, 1) := by decide +kernel
theorem dX10_lies_18 : decode cX10_lies 18 = .ok (.ireturn, 1) := by decide +kernel
theorem dX10_isSide_0 : decode cX10_isSide 0 = .ok (.iload_n 0, 1) := by decide +kernel
theorem dX10_isSide_1 : decode cX10_isSide 1 = .ok (.i2l, 1) := by decide +kernel
theorem dX10_isSide_2 : decode cX10_isSide 2 = .ok (.lconst 0, 1) := by decide +kernel
theorem dX10_isSide_3 : decode cX10_isSide 3 = .ok (.ldc2_w 152, 3) := by decide +kernel
theorem dX10_isSide_6 : decode cX10_isSide 6 = .ok (.invokestatic 154, 3) := by decide +kernel
theorem dX10_isSide_9 : decode cX10_isSide 9 = .ok (.ireturn, 1) := by decide +kernel
theorem dX10_isCell_0 : decode cX10_isCell 0 = .ok (.iload_n 0, 1) := by decide +kernel
theorem dX10_isCell_1 : decode cX10_isCell 1 = .ok (.invokestatic 158, 3) := by decide +kernel
theorem dX10_isCell_4 : decode cX10_isCell 4 = .ok (.ifCond .eq 14, 3) := by decide +kernel
theorem dX10_isCell_7 : decode cX10_isCell 7 = .ok (.iload_n 1, 1) := by decide +kernel
theorem dX10_isCell_8 : decode cX10_isCell 8 = .ok (.invokestatic 158, 3) := by decide +kernel
theorem dX10_isCell_11 : decode cX10_isCell 11 = .ok (.ifCond .eq 7, 3) := by decide +kernel
theorem dX10_isCell_14 : decode cX10_isCell 14 = .ok (.iconst 1, 1) := by decide +kernel
theorem dX10_isCell_15 : decode cX10_isCell 15 = .ok (.goto 4, 3) := by decide +kernel
theorem dX10_isCell_18 : decode cX10_isCell 18 = .ok (.iconst 0, 1) := by decide +kernel
theorem dX10_isCell_19 : decode cX10_isCell 19 = .ok (.ireturn, 1) := by decide +kernel
theorem dX10_cellAt_0 : decode cX10_cellAt 0 = .ok (.bipush 12, 2) := by decide +kernel
theorem dX10_cellAt_2 : decode cX10_cellAt 2 = .ok (.iload_n 1, 1) := by decide +kernel
theorem dX10_cellAt_3 : decode cX10_cellAt 3 = .ok (.imul, 1) := by decide +kernel
theorem dX10_cellAt_4 : decode cX10_cellAt 4 = .ok (.iload_n 0, 1) := by decide +kernel
theorem dX10_cellAt_5 : decode cX10_cellAt 5 = .ok (.iadd, 1) := by decide +kernel
theorem dX10_cellAt_6 : decode cX10_cellAt 6 = .ok (.ireturn, 1) := by decide +kernel
theorem dX10_beside_0 : decode cX10_beside 0 = .ok (.iload_n 1, 1) := by decide +kernel
theorem dX10_beside_1 : decode cX10_beside 1 = .ok (.ifCond .ne 19, 3) := by decide +kernel
theorem dX10_beside_4 : decode cX10_beside 4 = .ok (.iload_n 0, 1) := by decide +kernel
theorem dX10_beside_5 : decode cX10_beside 5 = .ok (.bipush 12, 2) := by decide +kernel
theorem dX10_beside_7 : decode cX10_beside 7 = .ok (.idiv, 1) := by decide +kernel
theorem dX10_beside_8 : decode cX10_beside 8 = .ok (.ifCond .le 10, 3) := by decide +kernel
theorem dX10_beside_11 : decode cX10_beside 11 = .ok (.iload_n 0, 1) := by decide +kernel
theorem dX10_beside_12 : decode cX10_beside 12 = .ok (.bipush 12, 2) := by decide +kernel
theorem dX10_beside_14 : decode cX10_beside 14 = .ok (.isub, 1) := by decide +kernel
theorem dX10_beside_15 : decode cX10_beside 15 = .ok (.goto 4, 3) := by decide +kernel
theorem dX10_beside_18 : decode cX10_beside 18 = .ok (.iconst (-1), 1) := by decide +kernel
theorem dX10_beside_19 : decode cX10_beside 19 = .ok (.ireturn, 1) := by decide +kernel
theorem dX10_beside_20 : decode cX10_beside 20 = .ok (.iload_n 1, 1) := by decide +kernel
theorem dX10_beside_21 : decode cX10_beside 21 = .ok (.iconst 1, 1) := by decide +kernel
theorem dX10_beside_22 : decode cX10_beside 22 = .ok (.if_icmp .ne 18, 3) := by decide +kernel
theorem dX10_beside_25 : decode cX10_beside 25 = .ok (.iload_n 0, 1) := by decide +kernel
theorem dX10_beside_26 : decode cX10_beside 26 = .ok (.bipush 12, 2) := by decide +kernel
theorem dX10_beside_28 : decode cX10_beside 28 = .ok (.irem, 1) := by decide +kernel
theorem dX10_beside_29 : decode cX10_beside 29 = .ok (.ifCond .le 9, 3) := by decide +kernel
theorem dX10_beside_32 : decode cX10_beside 32 = .ok (.iload_n 0, 1) := by decide +kernel
theorem dX10_beside_33 : decode cX10_beside 33 = .ok (.iconst 1, 1) := by decide +kernel
theorem dX10_beside_34 : decode cX10_beside 34 = .ok (.isub, 1) := by decide +kernel
theorem dX10_beside_35 : decode cX10_beside 35 = .ok (.goto 4, 3) := by decide +kernel
theorem dX10_beside_38 : decode cX10_beside 38 = .ok (.iconst (-1), 1) := by decide +kernel
theorem dX10_beside_39 : decode cX10_beside 39 = .ok (.ireturn, 1) := by decide +kernel
theorem dX10_beside_40 : decode cX10_beside 40 = .ok (.iload_n 1, 1) := by decide +kernel
theorem dX10_beside_41 : decode cX10_beside 41 = .ok (.iconst 2, 1) := by decide +kernel
theorem dX10_beside_42 : decode cX10_beside 42 = .ok (.if_icmp .ne 20, 3) := by decide +kernel
theorem dX10_beside_45 : decode cX10_beside 45 = .ok (.iload_n 0, 1) := by decide +kernel
theorem dX10_beside_46 : decode cX10_beside 46 = .ok (.bipush 12, 2) := by decide +kernel
theorem dX10_beside_48 : decode cX10_beside 48 = .ok (.irem, 1) := by decide +kernel
theorem dX10_beside_49 : decode cX10_beside 49 = .ok (.bipush 11, 2) := by decide +kernel
theorem dX10_beside_51 : decode cX10_beside 51 = .ok (.if_icmp .ge 9, 3) := by decide +kernel
theorem dX10_beside_54 : decode cX10_beside 54 = .ok (.iload_n 0, 1) := by decide +kernel
theorem dX10_beside_55 : decode cX10_beside 55 = .ok (.iconst 1, 1) := by decide +kernel
theorem dX10_beside_56 : decode cX10_beside 56 = .ok (.iadd, 1) := by decide +kernel
theorem dX10_beside_57 : decode cX10_beside 57 = .ok (.goto 4, 3) := by decide +kernel
theorem dX10_beside_60 : decode cX10_beside 60 = .ok (.iconst (-1), 1) := by decide +kernel
theorem dX10_beside_61 : decode cX10_beside 61 = .ok (.ireturn, 1) := by decide +kernel
theorem dX10_beside_62 : decode cX10_beside 62 = .ok (.iload_n 0, 1) := by decide +kernel
theorem dX10_beside_63 : decode cX10_beside 63 = .ok (.bipush 12, 2) := by decide +kernel
theorem dX10_beside_65 : decode cX10_beside 65 = .ok (.idiv, 1) := by decide +kernel
theorem dX10_beside_66 : decode cX10_beside 66 = .ok (.bipush 11, 2) := by decide +kernel
theorem dX10_beside_68 : decode cX10_beside 68 = .ok (.if_icmp .ge 10, 3) := by decide +kernel
theorem dX10_beside_71 : decode cX10_beside 71 = .ok (.iload_n 0, 1) := by decide +kernel
theorem dX10_beside_72 : decode cX10_beside 72 = .ok (.bipush 12, 2) := by decide +kernel
theorem dX10_beside_74 : decode cX10_beside 74 = .ok (.iadd, 1) := by decide +kernel
theorem dX10_beside_75 : decode cX10_beside 75 = .ok (.goto 4, 3) := by decide +kernel
theorem dX10_beside_78 : decode cX10_beside 78 = .ok (.iconst (-1), 1) := by decide +kernel
theorem dX10_beside_79 : decode cX10_beside 79 = .ok (.ireturn, 1) := by decide +kernel
theorem dX10_treesBeside_0 : decode cX10_treesBeside 0 = .ok (.iconst 0, 1) := by decide +kernel
theorem dX10_treesBeside_1 : decode cX10_treesBeside 1 = .ok (.istore_n 2, 1) := by decide +kernel
theorem dX10_treesBeside_2 : decode cX10_treesBeside 2 = .ok (.iconst 0, 1) := by decide +kernel
theorem dX10_treesBeside_3 : decode cX10_treesBeside 3 = .ok (.istore_n 3, 1) := by decide +kernel
theorem dX10_treesBeside_4 : decode cX10_treesBeside 4 = .ok (.iload_n 3, 1) := by decide +kernel
theorem dX10_treesBeside_5 : decode cX10_treesBeside 5 = .ok (.iconst 4, 1) := by decide +kernel
theorem dX10_treesBeside_6 : decode cX10_treesBeside 6 = .ok (.if_icmp .ge 40, 3) := by decide +kernel
theorem dX10_treesBeside_9 : decode cX10_treesBeside 9 = .ok (.iload_n 2, 1) := by decide +kernel
theorem dX10_treesBeside_10 : decode cX10_treesBeside 10 = .ok (.iload_n 1, 1) := by decide +kernel
theorem dX10_treesBeside_11 : decode cX10_treesBeside 11 = .ok (.iload_n 3, 1) := by decide +kernel
theorem dX10_treesBeside_12 : decode cX10_treesBeside 12 = .ok (.invokestatic 162, 3) := by decide +kernel
theorem dX10_treesBeside_15 : decode cX10_treesBeside 15 = .ok (.iconst (-1), 1) := by decide +kernel
theorem dX10_treesBeside_16 : decode cX10_treesBeside 16 = .ok (.if_icmp .eq 21, 3) := by decide +kernel
theorem dX10_treesBeside_19 : decode cX10_treesBeside 19 = .ok (.aload_n 0, 1) := by decide +kernel
theorem dX10_treesBeside_20 : decode cX10_treesBeside 20 = .ok (.getfield 21, 3) := by decide +kernel
theorem dX10_treesBeside_23 : decode cX10_treesBeside 23 = .ok (.iload_n 1, 1) := by decide +kernel
theorem dX10_treesBeside_24 : decode cX10_treesBeside 24 = .ok (.iload_n 3, 1) := by decide +kernel
theorem dX10_treesBeside_25 : decode cX10_treesBeside 25 = .ok (.invokestatic 162, 3) := by decide +kernel
theorem dX10_treesBeside_28 : decode cX10_treesBeside 28 = .ok (.iaload, 1) := by decide +kernel
theorem dX10_treesBeside_29 : decode cX10_treesBeside 29 = .ok (.iconst 2, 1) := by decide +kernel
theorem dX10_treesBeside_30 : decode cX10_treesBeside 30 = .ok (.if_icmp .ne 7, 3) := by decide +kernel
theorem dX10_treesBeside_33 : decode cX10_treesBeside 33 = .ok (.iconst 1, 1) := by decide +kernel
theorem dX10_treesBeside_34 : decode cX10_treesBeside 34 = .ok (.goto 4, 3) := by decide +kernel
theorem dX10_treesBeside_37 : decode cX10_treesBeside 37 = .ok (.iconst 0, 1) := by decide +kernel
theorem dX10_treesBeside_38 : decode cX10_treesBeside 38 = .ok (.iadd, 1) := by decide +kernel
theorem dX10_treesBeside_39 : decode cX10_treesBeside 39 = .ok (.istore_n 2, 1) := by decide +kernel
theorem dX10_treesBeside_40 : decode cX10_treesBeside 40 = .ok (.iinc 3 1, 3) := by decide +kernel
theorem dX10_treesBeside_43 : decode cX10_treesBeside 43 = .ok (.goto (-39), 3) := by decide +kernel
theorem dX10_treesBeside_46 : decode cX10_treesBeside 46 = .ok (.iload_n 2, 1) := by decide +kernel
theorem dX10_treesBeside_47 : decode cX10_treesBeside 47 = .ok (.ireturn, 1) := by decide +kernel
theorem dX10_ground_0 : decode cX10_ground 0 = .ok (.iload_n 1, 1) := by decide +kernel
theorem dX10_ground_1 : decode cX10_ground 1 = .ok (.iload_n 2, 1) := by decide +kernel
theorem dX10_ground_2 : decode cX10_ground 2 = .ok (.invokestatic 166, 3) := by decide +kernel
theorem dX10_ground_5 : decode cX10_ground 5 = .ok (.ifCond .eq 28, 3) := by decide +kernel
theorem dX10_ground_8 : decode cX10_ground 8 = .ok (.iload_n 3, 1) := by decide +kernel
theorem dX10_ground_9 : decode cX10_ground 9 = .ok (.i2l, 1) := by decide +kernel
theorem dX10_ground_10 : decode cX10_ground 10 = .ok (.lconst 0, 1) := by decide +kernel
theorem dX10_ground_11 : decode cX10_ground 11 = .ok (.ldc2_w 170, 3) := by decide +kernel
theorem dX10_ground_14 : decode cX10_ground 14 = .ok (.invokestatic 154, 3) := by decide +kernel
theorem dX10_ground_17 : decode cX10_ground 17 = .ok (.ifCond .eq 16, 3) := by decide +kernel
theorem dX10_ground_20 : decode cX10_ground 20 = .ok (.iload 4, 2) := by decide +kernel
theorem dX10_ground_22 : decode cX10_ground 22 = .ok (.i2l, 1) := by decide +kernel
theorem dX10_ground_23 : decode cX10_ground 23 = .ok (.lconst 0, 1) := by decide +kernel
theorem dX10_ground_24 : decode cX10_ground 24 = .ok (.ldc2_w 172, 3) := by decide +kernel
theorem dX10_ground_27 : decode cX10_ground 27 = .ok (.invokestatic 154, 3) := by decide +kernel
theorem dX10_ground_30 : decode cX10_ground 30 = .ok (.ifCond .ne 5, 3) := by decide +kernel
theorem dX10_ground_33 : decode cX10_ground 33 = .ok (.iconst 0, 1) := by decide +kernel
theorem dX10_ground_34 : decode cX10_ground 34 = .ok (.ireturn, 1) := by decide +kernel
theorem dX10_ground_35 : decode cX10_ground 35 = .ok (.aload_n 0, 1) := by decide +kernel
theorem dX10_ground_36 : decode cX10_ground 36 = .ok (.getfield 17, 3) := by decide +kernel
theorem dX10_ground_39 : decode cX10_ground 39 = .ok (.iload_n 1, 1) := by decide +kernel
theorem dX10_ground_40 : decode cX10_ground 40 = .ok (.iload_n 2, 1) := by decide +kernel
theorem dX10_ground_41 : decode cX10_ground 41 = .ok (.invokestatic 174, 3) := by decide +kernel
theorem dX10_ground_44 : decode cX10_ground 44 = .ok (.iload_n 3, 1) := by decide +kernel
theorem dX10_ground_45 : decode cX10_ground 45 = .ok (.iastore, 1) := by decide +kernel
theorem dX10_ground_46 : decode cX10_ground 46 = .ok (.aload_n 0, 1) := by decide +kernel
theorem dX10_ground_47 : decode cX10_ground 47 = .ok (.getfield 21, 3) := by decide +kernel
theorem dX10_ground_50 : decode cX10_ground 50 = .ok (.iload_n 1, 1) := by decide +kernel
theorem dX10_ground_51 : decode cX10_ground 51 = .ok (.iload_n 2, 1) := by decide +kernel
theorem dX10_ground_52 : decode cX10_ground 52 = .ok (.invokestatic 174, 3) := by decide +kernel
theorem dX10_ground_55 : decode cX10_ground 55 = .ok (.iload 4, 2) := by decide +kernel
theorem dX10_ground_57 : decode cX10_ground 57 = .ok (.iastore, 1) := by decide +kernel
theorem dX10_ground_58 : decode cX10_ground 58 = .ok (.iconst 1, 1) := by decide +kernel
theorem dX10_ground_59 : decode cX10_ground 59 = .ok (.ireturn, 1) := by decide +kernel
theorem dX10_air_0 : decode cX10_air 0 = .ok (.iload_n 1, 1) := by decide +kernel
theorem dX10_air_1 : decode cX10_air 1 = .ok (.iload_n 2, 1) := by decide +kernel
theorem dX10_air_2 : decode cX10_air 2 = .ok (.invokestatic 166, 3) := by decide +kernel
theorem dX10_air_5 : decode cX10_air 5 = .ok (.ifCond .eq 28, 3) := by decide +kernel
theorem dX10_air_8 : decode cX10_air 8 = .ok (.iload_n 3, 1) := by decide +kernel
theorem dX10_air_9 : decode cX10_air 9 = .ok (.i2l, 1) := by decide +kernel
theorem dX10_air_10 : decode cX10_air 10 = .ok (.lconst 0, 1) := by decide +kernel
theorem dX10_air_11 : decode cX10_air 11 = .ok (.ldc2_w 177, 3) := by decide +kernel
theorem dX10_air_14 : decode cX10_air 14 = .ok (.invokestatic 154, 3) := by decide +kernel
theorem dX10_air_17 : decode cX10_air 17 = .ok (.ifCond .eq 16, 3) := by decide +kernel
theorem dX10_air_20 : decode cX10_air 20 = .ok (.iload 4, 2) := by decide +kernel
theorem dX10_air_22 : decode cX10_air 22 = .ok (.i2l, 1) := by decide +kernel
theorem dX10_air_23 : decode cX10_air 23 = .ok (.lconst 0, 1) := by decide +kernel
theorem dX10_air_24 : decode cX10_air 24 = .ok (.ldc2_w 177, 3) := by decide +kernel
theorem dX10_air_27 : decode cX10_air 27 = .ok (.invokestatic 154, 3) := by decide +kernel
theorem dX10_air_30 : decode cX10_air 30 = .ok (.ifCond .ne 5, 3) := by decide +kernel
theorem dX10_air_33 : decode cX10_air 33 = .ok (.iconst 0, 1) := by decide +kernel
theorem dX10_air_34 : decode cX10_air 34 = .ok (.ireturn, 1) := by decide +kernel
theorem dX10_air_35 : decode cX10_air 35 = .ok (.aload_n 0, 1) := by decide +kernel
theorem dX10_air_36 : decode cX10_air 36 = .ok (.getfield 24, 3) := by decide +kernel
theorem dX10_air_39 : decode cX10_air 39 = .ok (.iload_n 1, 1) := by decide +kernel
theorem dX10_air_40 : decode cX10_air 40 = .ok (.iload_n 2, 1) := by decide +kernel
theorem dX10_air_41 : decode cX10_air 41 = .ok (.invokestatic 174, 3) := by decide +kernel
theorem dX10_air_44 : decode cX10_air 44 = .ok (.iload_n 3, 1) := by decide +kernel
theorem dX10_air_45 : decode cX10_air 45 = .ok (.iastore, 1) := by decide +kernel
theorem dX10_air_46 : decode cX10_air 46 = .ok (.aload_n 0, 1) := by decide +kernel
theorem dX10_air_47 : decode cX10_air 47 = .ok (.getfield 27, 3) := by decide +kernel
theorem dX10_air_50 : decode cX10_air 50 = .ok (.iload_n 1, 1) := by decide +kernel
theorem dX10_air_51 : decode cX10_air 51 = .ok (.iload_n 2, 1) := by decide +kernel
theorem dX10_air_52 : decode cX10_air 52 = .ok (.invokestatic 174, 3) := by decide +kernel
theorem dX10_air_55 : decode cX10_air 55 = .ok (.iload 4, 2) := by decide +kernel
theorem dX10_air_57 : decode cX10_air 57 = .ok (.iastore, 1) := by decide +kernel
theorem dX10_air_58 : decode cX10_air 58 = .ok (.iconst 1, 1) := by decide +kernel
theorem dX10_air_59 : decode cX10_air 59 = .ok (.ireturn, 1) := by decide +kernel
theorem dX10_wind_0 : decode cX10_wind 0 = .ok (.iload_n 1, 1) := by decide +kernel
theorem dX10_wind_1 : decode cX10_wind 1 = .ok (.i2l, 1) := by decide +kernel
theorem dX10_wind_2 : decode cX10_wind 2 = .ok (.lconst 0, 1) := by decide +kernel
theorem dX10_wind_3 : decode cX10_wind 3 = .ok (.ldc2_w 170, 3) := by decide +kernel
theorem dX10_wind_6 : decode cX10_wind 6 = .ok (.invokestatic 154, 3) := by decide +kernel
theorem dX10_wind_9 : decode cX10_wind 9 = .ok (.ifCond .eq 15, 3) := by decide +kernel
theorem dX10_wind_12 : decode cX10_wind 12 = .ok (.iload_n 2, 1) := by decide +kernel
theorem dX10_wind_13 : decode cX10_wind 13 = .ok (.i2l, 1) := by decide +kernel
theorem dX10_wind_14 : decode cX10_wind 14 = .ok (.lconst 0, 1) := by decide +kernel
theorem dX10_wind_15 : decode cX10_wind 15 = .ok (.ldc2_w 179, 3) := by decide +kernel
theorem dX10_wind_18 : decode cX10_wind 18 = .ok (.invokestatic 154, 3) := by decide +kernel
theorem dX10_wind_21 : decode cX10_wind 21 = .ok (.ifCond .ne 5, 3) := by decide +kernel
theorem dX10_wind_24 : decode cX10_wind 24 = .ok (.iconst 0, 1) := by decide +kernel
theorem dX10_wind_25 : decode cX10_wind 25 = .ok (.ireturn, 1) := by decide +kernel
theorem dX10_wind_26 : decode cX10_wind 26 = .ok (.aload_n 0, 1) := by decide +kernel
theorem dX10_wind_27 : decode cX10_wind 27 = .ok (.getfield 30, 3) := by decide +kernel
theorem dX10_wind_30 : decode cX10_wind 30 = .ok (.iload_n 1, 1) := by decide +kernel
theorem dX10_wind_31 : decode cX10_wind 31 = .ok (.iload_n 2, 1) := by decide +kernel
theorem dX10_wind_32 : decode cX10_wind 32 = .ok (.iastore, 1) := by decide +kernel
theorem dX10_wind_33 : decode cX10_wind 33 = .ok (.iconst 1, 1) := by decide +kernel
theorem dX10_wind_34 : decode cX10_wind 34 = .ok (.ireturn, 1) := by decide +kernel
theorem dX10_push_0 : decode cX10_push 0 = .ok (.bipush 24, 2) := by decide +kernel
theorem dX10_push_2 : decode cX10_push 2 = .ok (.istore_n 2, 1) := by decide +kernel
theorem dX10_push_3 : decode cX10_push 3 = .ok (.iload_n 2, 1) := by decide +kernel
theorem dX10_push_4 : decode cX10_push 4 = .ok (.ifCond .lt 32, 3) := by decide +kernel
theorem dX10_push_7 : decode cX10_push 7 = .ok (.aload_n 0, 1) := by decide +kernel
theorem dX10_push_8 : decode cX10_push 8 = .ok (.getfield 7, 3) := by decide +kernel
theorem dX10_push_11 : decode cX10_push 11 = .ok (.aload_n 0, 1) := by decide +kernel
theorem dX10_push_12 : decode cX10_push 12 = .ok (.getfield 181, 3) := by decide +kernel
theorem dX10_push_15 : decode cX10_push 15 = .ok (.iload_n 1, 1) := by decide +kernel
theorem dX10_push_16 : decode cX10_push 16 = .ok (.iload_n 2, 1) := by decide +kernel
theorem dX10_push_17 : decode cX10_push 17 = .ok (.ishr, 1) := by decide +kernel
theorem dX10_push_18 : decode cX10_push 18 = .ok (.i2b, 1) := by decide +kernel
theorem dX10_push_19 : decode cX10_push 19 = .ok (.bastore, 1) := by decide +kernel
theorem dX10_push_20 : decode cX10_push 20 = .ok (.aload_n 0, 1) := by decide +kernel
theorem dX10_push_21 : decode cX10_push 21 = .ok (.dup, 1) := by decide +kernel
theorem dX10_push_22 : decode cX10_push 22 = .ok (.getfield 181, 3) := by decide +kernel
theorem dX10_push_25 : decode cX10_push 25 = .ok (.iconst 1, 1) := by decide +kernel
theorem dX10_push_26 : decode cX10_push 26 = .ok (.iadd, 1) := by decide +kernel
theorem dX10_push_27 : decode cX10_push 27 = .ok (.putfield 181, 3) := by decide +kernel
theorem dX10_push_30 : decode cX10_push 30 = .ok (.iinc 2 (-8), 3) := by decide +kernel
theorem dX10_push_33 : decode cX10_push 33 = .ok (.goto (-30), 3) := by decide +kernel
theorem dX10_push_36 : decode cX10_push 36 = .ok (.return_, 1) := by decide +kernel
theorem dX10_feed_0 : decode cX10_feed 0 = .ok (.aload_n 0, 1) := by decide +kernel
theorem dX10_feed_1 : decode cX10_feed 1 = .ok (.getfield 181, 3) := by decide +kernel
theorem dX10_feed_4 : decode cX10_feed 4 = .ok (.bipush 20, 2) := by decide +kernel
theorem dX10_feed_6 : decode cX10_feed 6 = .ok (.iadd, 1) := by decide +kernel
theorem dX10_feed_7 : decode cX10_feed 7 = .ok (.sipush 220, 3) := by decide +kernel
theorem dX10_feed_10 : decode cX10_feed 10 = .ok (.if_icmp .le 5, 3) := by decide +kernel
theorem dX10_feed_13 : decode cX10_feed 13 = .ok (.iconst (-1), 1) := by decide +kernel
theorem dX10_feed_14 : decode cX10_feed 14 = .ok (.ireturn, 1) := by decide +kernel
theorem dX10_feed_15 : decode cX10_feed 15 = .ok (.aload_n 0, 1) := by decide +kernel
theorem dX10_feed_16 : decode cX10_feed 16 = .ok (.iload_n 1, 1) := by decide +kernel
theorem dX10_feed_17 : decode cX10_feed 17 = .ok (.invokevirtual 184, 3) := by decide +kernel
theorem dX10_feed_20 : decode cX10_feed 20 = .ok (.aload_n 0, 1) := by decide +kernel
theorem dX10_feed_21 : decode cX10_feed 21 = .ok (.iload_n 2, 1) := by decide +kernel
theorem dX10_feed_22 : decode cX10_feed 22 = .ok (.invokevirtual 184, 3) := by decide +kernel
theorem dX10_feed_25 : decode cX10_feed 25 = .ok (.aload_n 0, 1) := by decide +kernel
theorem dX10_feed_26 : decode cX10_feed 26 = .ok (.iload_n 3, 1) := by decide +kernel
theorem dX10_feed_27 : decode cX10_feed 27 = .ok (.invokevirtual 184, 3) := by decide +kernel
theorem dX10_feed_30 : decode cX10_feed 30 = .ok (.aload_n 0, 1) := by decide +kernel
theorem dX10_feed_31 : decode cX10_feed 31 = .ok (.iload 4, 2) := by decide +kernel
theorem dX10_feed_33 : decode cX10_feed 33 = .ok (.invokevirtual 184, 3) := by decide +kernel
theorem dX10_feed_36 : decode cX10_feed 36 = .ok (.aload_n 0, 1) := by decide +kernel
theorem dX10_feed_37 : decode cX10_feed 37 = .ok (.iload 5, 2) := by decide +kernel
theorem dX10_feed_39 : decode cX10_feed 39 = .ok (.invokevirtual 184, 3) := by decide +kernel
theorem dX10_feed_42 : decode cX10_feed 42 = .ok (.aload_n 0, 1) := by decide +kernel
theorem dX10_feed_43 : decode cX10_feed 43 = .ok (.getfield 181, 3) := by decide +kernel
theorem dX10_feed_46 : decode cX10_feed 46 = .ok (.ireturn, 1) := by decide +kernel
theorem dX10_here_0 : decode cX10_here 0 = .ok (.aload_n 0, 1) := by decide +kernel
theorem dX10_here_1 : decode cX10_here 1 = .ok (.getfield 188, 3) := by decide +kernel
theorem dX10_here_4 : decode cX10_here 4 = .ok (.aload_n 0, 1) := by decide +kernel
theorem dX10_here_5 : decode cX10_here 5 = .ok (.getfield 191, 3) := by decide +kernel
theorem dX10_here_8 : decode cX10_here 8 = .ok (.if_icmp .ge 19, 3) := by decide +kernel
theorem dX10_here_11 : decode cX10_here 11 = .ok (.aload_n 0, 1) := by decide +kernel
theorem dX10_here_12 : decode cX10_here 12 = .ok (.getfield 7, 3) := by decide +kernel
theorem dX10_here_15 : decode cX10_here 15 = .ok (.aload_n 0, 1) := by decide +kernel
theorem dX10_here_16 : decode cX10_here 16 = .ok (.getfield 188, 3) := by decide +kernel
theorem dX10_here_19 : decode cX10_here 19 = .ok (.baload, 1) := by decide +kernel
theorem dX10_here_20 : decode cX10_here 20 = .ok (.sipush 255, 3) := by decide +kernel
theorem dX10_here_23 : decode cX10_here 23 = .ok (.iand, 1) := by decide +kernel
theorem dX10_here_24 : decode cX10_here 24 = .ok (.goto 4, 3) := by decide +kernel
theorem dX10_here_27 : decode cX10_here 27 = .ok (.iconst 0, 1) := by decide +kernel
theorem dX10_here_28 : decode cX10_here 28 = .ok (.ireturn, 1) := by decide +kernel
theorem dX10_wrongs_0 : decode cX10_wrongs 0 = .ok (.aload_n 0, 1) := by decide +kernel
theorem dX10_wrongs_1 : decode cX10_wrongs 1 = .ok (.aload_n 0, 1) := by decide +kernel
theorem dX10_wrongs_2 : decode cX10_wrongs 2 = .ok (.getfield 194, 3) := by decide +kernel
theorem dX10_wrongs_5 : decode cX10_wrongs 5 = .ok (.ifCond .ge 10, 3) := by decide +kernel
theorem dX10_wrongs_8 : decode cX10_wrongs 8 = .ok (.aload_n 0, 1) := by decide +kernel
theorem dX10_wrongs_9 : decode cX10_wrongs 9 = .ok (.getfield 194, 3) := by decide +kernel
theorem dX10_wrongs_12 : decode cX10_wrongs 12 = .ok (.goto 10, 3) := by decide +kernel
theorem dX10_wrongs_15 : decode cX10_wrongs 15 = .ok (.sipush (-1000), 3) := by decide +kernel
theorem dX10_wrongs_18 : decode cX10_wrongs 18 = .ok (.iload_n 1, 1) := by decide +kernel
theorem dX10_wrongs_19 : decode cX10_wrongs 19 = .ok (.imul, 1) := by decide +kernel
theorem dX10_wrongs_20 : decode cX10_wrongs 20 = .ok (.iload_n 2, 1) := by decide +kernel
theorem dX10_wrongs_21 : decode cX10_wrongs 21 = .ok (.isub, 1) := by decide +kernel
theorem dX10_wrongs_22 : decode cX10_wrongs 22 = .ok (.putfield 194, 3) := by decide +kernel
theorem dX10_wrongs_25 : decode cX10_wrongs 25 = .ok (.return_, 1) := by decide +kernel
theorem dX10_isGood_0 : decode cX10_isGood 0 = .ok (.aload_n 0, 1) := by decide +kernel
theorem dX10_isGood_1 : decode cX10_isGood 1 = .ok (.getfield 194, 3) := by decide +kernel
theorem dX10_isGood_4 : decode cX10_isGood 4 = .ok (.ifCond .ne 7, 3) := by decide +kernel
theorem dX10_isGood_7 : decode cX10_isGood 7 = .ok (.iconst 1, 1) := by decide +kernel
theorem dX10_isGood_8 : decode cX10_isGood 8 = .ok (.goto 4, 3) := by decide +kernel
theorem dX10_isGood_11 : decode cX10_isGood 11 = .ok (.iconst 0, 1) := by decide +kernel
theorem dX10_isGood_12 : decode cX10_isGood 12 = .ok (.ireturn, 1) := by decide +kernel
theorem dX10_emit_0 : decode cX10_emit 0 = .ok (.aload_n 0, 1) := by decide +kernel
theorem dX10_emit_1 : decode cX10_emit 1 = .ok (.invokevirtual 197, 3) := by decide +kernel
theorem dX10_emit_4 : decode cX10_emit 4 = .ok (.ifCond .ne 4, 3) := by decide +kernel
theorem dX10_emit_7 : decode cX10_emit 7 = .ok (.return_, 1) := by decide +kernel
theorem dX10_emit_8 : decode cX10_emit 8 = .ok (.aload_n 0, 1) := by decide +kernel
theorem dX10_emit_9 : decode cX10_emit 9 = .ok (.getfield 63, 3) := by decide +kernel
theorem dX10_emit_12 : decode cX10_emit 12 = .ok (.aload_n 0, 1) := by decide +kernel
theorem dX10_emit_13 : decode cX10_emit 13 = .ok (.getfield 201, 3) := by decide +kernel
theorem dX10_emit_16 : decode cX10_emit 16 = .ok (.iload_n 1, 1) := by decide +kernel
theorem dX10_emit_17 : decode cX10_emit 17 = .ok (.iastore, 1) := by decide +kernel
theorem dX10_emit_18 : decode cX10_emit 18 = .ok (.aload_n 0, 1) := by decide +kernel
theorem dX10_emit_19 : decode cX10_emit 19 = .ok (.getfield 66, 3) := by decide +kernel
theorem dX10_emit_22 : decode cX10_emit 22 = .ok (.aload_n 0, 1) := by decide +kernel
theorem dX10_emit_23 : decode cX10_emit 23 = .ok (.getfield 201, 3) := by decide +kernel
theorem dX10_emit_26 : decode cX10_emit 26 = .ok (.iload_n 2, 1) := by decide +kernel
theorem dX10_emit_27 : decode cX10_emit 27 = .ok (.iastore, 1) := by decide +kernel
theorem dX10_emit_28 : decode cX10_emit 28 = .ok (.aload_n 0, 1) := by decide +kernel
theorem dX10_emit_29 : decode cX10_emit 29 = .ok (.dup, 1) := by decide +kernel
theorem dX10_emit_30 : decode cX10_emit 30 = .ok (.getfield 201, 3) := by decide +kernel
theorem dX10_emit_33 : decode cX10_emit 33 = .ok (.iconst 1, 1) := by decide +kernel
theorem dX10_emit_34 : decode cX10_emit 34 = .ok (.iadd, 1) := by decide +kernel
theorem dX10_emit_35 : decode cX10_emit 35 = .ok (.putfield 201, 3) := by decide +kernel
theorem dX10_emit_38 : decode cX10_emit 38 = .ok (.return_, 1) := by decide +kernel
theorem dX10_top_0 : decode cX10_top 0 = .ok (.aload_n 0, 1) := by decide +kernel
theorem dX10_top_1 : decode cX10_top 1 = .ok (.getfield 204, 3) := by decide +kernel
theorem dX10_top_4 : decode cX10_top 4 = .ok (.ifCond .le 17, 3) := by decide +kernel
