theorem dX8_drawWind_47 : decode cX8_drawWind 47 = .ok (.return_, 1) := by decide +kernel
theorem dX8_level_0 : decode cX8_level 0 = .ok (.aload_n 0, 1) := by decide +kernel
theorem dX8_level_1 : decode cX8_level 1 = .ok (.getfield 15, 3) := by decide +kernel
theorem dX8_level_4 : decode cX8_level 4 = .ok (.iload_n 1, 1) := by decide +kernel
theorem dX8_level_5 : decode cX8_level 5 = .ok (.iaload, 1) := by decide +kernel
theorem dX8_level_6 : decode cX8_level 6 = .ok (.iconst 2, 1) := by decide +kernel
theorem dX8_level_7 : decode cX8_level 7 = .ok (.if_icmp .ne 8, 3) := by decide +kernel
theorem dX8_level_10 : decode cX8_level 10 = .ok (.bipush 30, 2) := by decide +kernel
theorem dX8_level_12 : decode cX8_level 12 = .ok (.goto 4, 3) := by decide +kernel
theorem dX8_level_15 : decode cX8_level 15 = .ok (.iconst 0, 1) := by decide +kernel
theorem dX8_level_16 : decode cX8_level 16 = .ok (.istore_n 2, 1) := by decide +kernel
theorem dX8_level_17 : decode cX8_level 17 = .ok (.bipush 10, 2) := by decide +kernel
theorem dX8_level_19 : decode cX8_level 19 = .ok (.aload_n 0, 1) := by decide +kernel
theorem dX8_level_20 : decode cX8_level 20 = .ok (.getfield 9, 3) := by decide +kernel
theorem dX8_level_23 : decode cX8_level 23 = .ok (.iload_n 1, 1) := by decide +kernel
theorem dX8_level_24 : decode cX8_level 24 = .ok (.iaload, 1) := by decide +kernel
theorem dX8_level_25 : decode cX8_level 25 = .ok (.imul, 1) := by decide +kernel
theorem dX8_level_26 : decode cX8_level 26 = .ok (.aload_n 0, 1) := by decide +kernel
theorem dX8_level_27 : decode cX8_level 27 = .ok (.getfield 18, 3) := by decide +kernel
theorem dX8_level_30 : decode cX8_level 30 = .ok (.iload_n 1, 1) := by decide +kernel
theorem dX8_level_31 : decode cX8_level 31 = .ok (.iaload, 1) := by decide +kernel
theorem dX8_level_32 : decode cX8_level 32 = .ok (.iadd, 1) := by decide +kernel
theorem dX8_level_33 : decode cX8_level 33 = .ok (.iload_n 2, 1) := by decide +kernel
theorem dX8_level_34 : decode cX8_level 34 = .ok (.iadd, 1) := by decide +kernel
theorem dX8_level_35 : decode cX8_level 35 = .ok (.ireturn, 1) := by decide +kernel
theorem dX8_treesBeside_0 : decode cX8_treesBeside 0 = .ok (.iload_n 1, 1) := by decide +kernel
theorem dX8_treesBeside_1 : decode cX8_treesBeside 1 = .ok (.bipush 12, 2) := by decide +kernel
theorem dX8_treesBeside_3 : decode cX8_treesBeside 3 = .ok (.irem, 1) := by decide +kernel
theorem dX8_treesBeside_4 : decode cX8_treesBeside 4 = .ok (.istore_n 2, 1) := by decide +kernel
theorem dX8_treesBeside_5 : decode cX8_treesBeside 5 = .ok (.iconst 0, 1) := by decide +kernel
theorem dX8_treesBeside_6 : decode cX8_treesBeside 6 = .ok (.istore_n 3, 1) := by decide +kernel
theorem dX8_treesBeside_7 : decode cX8_treesBeside 7 = .ok (.iload_n 1, 1) := by decide +kernel
theorem dX8_treesBeside_8 : decode cX8_treesBeside 8 = .ok (.bipush 12, 2) := by decide +kernel
theorem dX8_treesBeside_10 : decode cX8_treesBeside 10 = .ok (.if_icmp .lt 19, 3) := by decide +kernel
theorem dX8_treesBeside_13 : decode cX8_treesBeside 13 = .ok (.aload_n 0, 1) := by decide +kernel
theorem dX8_treesBeside_14 : decode cX8_treesBeside 14 = .ok (.getfield 15, 3) := by decide +kernel
theorem dX8_treesBeside_17 : decode cX8_treesBeside 17 = .ok (.iload_n 1, 1) := by decide +kernel
theorem dX8_treesBeside_18 : decode cX8_treesBeside 18 = .ok (.bipush 12, 2) := by decide +kernel
theorem dX8_treesBeside_20 : decode cX8_treesBeside 20 = .ok (.isub, 1) := by decide +kernel
theorem dX8_treesBeside_21 : decode cX8_treesBeside 21 = .ok (.iaload, 1) := by decide +kernel
theorem dX8_treesBeside_22 : decode cX8_treesBeside 22 = .ok (.iconst 2, 1) := by decide +kernel
theorem dX8_treesBeside_23 : decode cX8_treesBeside 23 = .ok (.if_icmp .ne 6, 3) := by decide +kernel
theorem dX8_treesBeside_26 : decode cX8_treesBeside 26 = .ok (.iinc 3 1, 3) := by decide +kernel
theorem dX8_treesBeside_29 : decode cX8_treesBeside 29 = .ok (.iload_n 2, 1) := by decide +kernel
theorem dX8_treesBeside_30 : decode cX8_treesBeside 30 = .ok (.ifCond .le 18, 3) := by decide +kernel
theorem dX8_treesBeside_33 : decode cX8_treesBeside 33 = .ok (.aload_n 0, 1) := by decide +kernel
theorem dX8_treesBeside_34 : decode cX8_treesBeside 34 = .ok (.getfield 15, 3) := by decide +kernel
theorem dX8_treesBeside_37 : decode cX8_treesBeside 37 = .ok (.iload_n 1, 1) := by decide +kernel
theorem dX8_treesBeside_38 : decode cX8_treesBeside 38 = .ok (.iconst 1, 1) := by decide +kernel
theorem dX8_treesBeside_39 : decode cX8_treesBeside 39 = .ok (.isub, 1) := by decide +kernel
theorem dX8_treesBeside_40 : decode cX8_treesBeside 40 = .ok (.iaload, 1) := by decide +kernel
theorem dX8_treesBeside_41 : decode cX8_treesBeside 41 = .ok (.iconst 2, 1) := by decide +kernel
theorem dX8_treesBeside_42 : decode cX8_treesBeside 42 = .ok (.if_icmp .ne 6, 3) := by decide +kernel
theorem dX8_treesBeside_45 : decode cX8_treesBeside 45 = .ok (.iinc 3 1, 3) := by decide +kernel
theorem dX8_treesBeside_48 : decode cX8_treesBeside 48 = .ok (.iload_n 2, 1) := by decide +kernel
theorem dX8_treesBeside_49 : decode cX8_treesBeside 49 = .ok (.bipush 11, 2) := by decide +kernel
theorem dX8_treesBeside_51 : decode cX8_treesBeside 51 = .ok (.if_icmp .ge 18, 3) := by decide +kernel
theorem dX8_treesBeside_54 : decode cX8_treesBeside 54 = .ok (.aload_n 0, 1) := by decide +kernel
theorem dX8_treesBeside_55 : decode cX8_treesBeside 55 = .ok (.getfield 15, 3) := by decide +kernel
theorem dX8_treesBeside_58 : decode cX8_treesBeside 58 = .ok (.iload_n 1, 1) := by decide +kernel
theorem dX8_treesBeside_59 : decode cX8_treesBeside 59 = .ok (.iconst 1, 1) := by decide +kernel
theorem dX8_treesBeside_60 : decode cX8_treesBeside 60 = .ok (.iadd, 1) := by decide +kernel
theorem dX8_treesBeside_61 : decode cX8_treesBeside 61 = .ok (.iaload, 1) := by decide +kernel
theorem dX8_treesBeside_62 : decode cX8_treesBeside 62 = .ok (.iconst 2, 1) := by decide +kernel
theorem dX8_treesBeside_63 : decode cX8_treesBeside 63 = .ok (.if_icmp .ne 6, 3) := by decide +kernel
theorem dX8_treesBeside_66 : decode cX8_treesBeside 66 = .ok (.iinc 3 1, 3) := by decide +kernel
theorem dX8_treesBeside_69 : decode cX8_treesBeside 69 = .ok (.iload_n 1, 1) := by decide +kernel
theorem dX8_treesBeside_70 : decode cX8_treesBeside 70 = .ok (.sipush 132, 3) := by decide +kernel
theorem dX8_treesBeside_73 : decode cX8_treesBeside 73 = .ok (.if_icmp .ge 19, 3) := by decide +kernel
theorem dX8_treesBeside_76 : decode cX8_treesBeside 76 = .ok (.aload_n 0, 1) := by decide +kernel
theorem dX8_treesBeside_77 : decode cX8_treesBeside 77 = .ok (.getfield 15, 3) := by decide +kernel
theorem dX8_treesBeside_80 : decode cX8_treesBeside 80 = .ok (.iload_n 1, 1) := by decide +kernel
theorem dX8_treesBeside_81 : decode cX8_treesBeside 81 = .ok (.bipush 12, 2) := by decide +kernel
theorem dX8_treesBeside_83 : decode cX8_treesBeside 83 = .ok (.iadd, 1) := by decide +kernel
theorem dX8_treesBeside_84 : decode cX8_treesBeside 84 = .ok (.iaload, 1) := by decide +kernel
theorem dX8_treesBeside_85 : decode cX8_treesBeside 85 = .ok (.iconst 2, 1) := by decide +kernel
theorem dX8_treesBeside_86 : decode cX8_treesBeside 86 = .ok (.if_icmp .ne 6, 3) := by decide +kernel
theorem dX8_treesBeside_89 : decode cX8_treesBeside 89 = .ok (.iinc 3 1, 3) := by decide +kernel
theorem dX8_treesBeside_92 : decode cX8_treesBeside 92 = .ok (.iload_n 3, 1) := by decide +kernel
theorem dX8_treesBeside_93 : decode cX8_treesBeside 93 = .ok (.ireturn, 1) := by decide +kernel
theorem dX9_init_0 : decode cX9_init 0 = .ok (.aload_n 0, 1) := by decide +kernel
theorem dX9_init_1 : decode cX9_init 1 = .ok (.invokespecial 1, 3) := by decide +kernel
theorem dX9_init_4 : decode cX9_init 4 = .ok (.aload_n 0, 1) := by decide +kernel
theorem dX9_init_5 : decode cX9_init 5 = .ok (.new 7, 3) := by decide +kernel
theorem dX9_init_8 : decode cX9_init 8 = .ok (.dup, 1) := by decide +kernel
theorem dX9_init_9 : decode cX9_init 9 = .ok (.invokespecial 9, 3) := by decide +kernel
theorem dX9_init_12 : decode cX9_init 12 = .ok (.putfield 10, 3) := by decide +kernel
theorem dX9_init_15 : decode cX9_init 15 = .ok (.aload_n 0, 1) := by decide +kernel
theorem dX9_init_16 : decode cX9_init 16 = .ok (.new 7, 3) := by decide +kernel
theorem dX9_init_19 : decode cX9_init 19 = .ok (.dup, 1) := by decide +kernel
theorem dX9_init_20 : decode cX9_init 20 = .ok (.invokespecial 9, 3) := by decide +kernel
theorem dX9_init_23 : decode cX9_init 23 = .ok (.putfield 16, 3) := by decide +kernel
theorem dX9_init_26 : decode cX9_init 26 = .ok (.aload_n 0, 1) := by decide +kernel
theorem dX9_init_27 : decode cX9_init 27 = .ok (.new 7, 3) := by decide +kernel
theorem dX9_init_30 : decode cX9_init 30 = .ok (.dup, 1) := by decide +kernel
theorem dX9_init_31 : decode cX9_init 31 = .ok (.invokespecial 9, 3) := by decide +kernel
theorem dX9_init_34 : decode cX9_init 34 = .ok (.putfield 19, 3) := by decide +kernel
theorem dX9_init_37 : decode cX9_init 37 = .ok (.aload_n 0, 1) := by decide +kernel
theorem dX9_init_38 : decode cX9_init 38 = .ok (.new 22, 3) := by decide +kernel
theorem dX9_init_41 : decode cX9_init 41 = .ok (.dup, 1) := by decide +kernel
theorem dX9_init_42 : decode cX9_init 42 = .ok (.invokespecial 24, 3) := by decide +kernel
theorem dX9_init_45 : decode cX9_init 45 = .ok (.putfield 25, 3) := by decide +kernel
theorem dX9_init_48 : decode cX9_init 48 = .ok (.aload_n 0, 1) := by decide +kernel
theorem dX9_init_49 : decode cX9_init 49 = .ok (.new 29, 3) := by decide +kernel
theorem dX9_init_52 : decode cX9_init 52 = .ok (.dup, 1) := by decide +kernel
theorem dX9_init_53 : decode cX9_init 53 = .ok (.invokespecial 31, 3) := by decide +kernel
theorem dX9_init_56 : decode cX9_init 56 = .ok (.putfield 32, 3) := by decide +kernel
theorem dX9_init_59 : decode cX9_init 59 = .ok (.aload_n 0, 1) := by decide +kernel
theorem dX9_init_60 : decode cX9_init 60 = .ok (.new 36, 3) := by decide +kernel
theorem dX9_init_63 : decode cX9_init 63 = .ok (.dup, 1) := by decide +kernel
theorem dX9_init_64 : decode cX9_init 64 = .ok (.invokespecial 38, 3) := by decide +kernel
theorem dX9_init_67 : decode cX9_init 67 = .ok (.putfield 39, 3) := by decide +kernel
theorem dX9_init_70 : decode cX9_init 70 = .ok (.aload_n 0, 1) := by decide +kernel
theorem dX9_init_71 : decode cX9_init 71 = .ok (.new 43, 3) := by decide +kernel
theorem dX9_init_74 : decode cX9_init 74 = .ok (.dup, 1) := by decide +kernel
theorem dX9_init_75 : decode cX9_init 75 = .ok (.invokespecial 45, 3) := by decide +kernel
theorem dX9_init_78 : decode cX9_init 78 = .ok (.putfield 46, 3) := by decide +kernel
theorem dX9_init_81 : decode cX9_init 81 = .ok (.aload_n 0, 1) := by decide +kernel
theorem dX9_init_82 : decode cX9_init 82 = .ok (.new 50, 3) := by decide +kernel
theorem dX9_init_85 : decode cX9_init 85 = .ok (.dup, 1) := by decide +kernel
theorem dX9_init_86 : decode cX9_init 86 = .ok (.invokespecial 52, 3) := by decide +kernel
theorem dX9_init_89 : decode cX9_init 89 = .ok (.putfield 53, 3) := by decide +kernel
theorem dX9_init_92 : decode cX9_init 92 = .ok (.aload_n 0, 1) := by decide +kernel
theorem dX9_init_93 : decode cX9_init 93 = .ok (.new 57, 3) := by decide +kernel
theorem dX9_init_96 : decode cX9_init 96 = .ok (.dup, 1) := by decide +kernel
theorem dX9_init_97 : decode cX9_init 97 = .ok (.invokespecial 59, 3) := by decide +kernel
theorem dX9_init_100 : decode cX9_init 100 = .ok (.putfield 60, 3) := by decide +kernel
theorem dX9_init_103 : decode cX9_init 103 = .ok (.aload_n 0, 1) := by decide +kernel
theorem dX9_init_104 : decode cX9_init 104 = .ok (.sipush 144, 3) := by decide +kernel
theorem dX9_init_107 : decode cX9_init 107 = .ok (.newarray .int, 2) := by decide +kernel
theorem dX9_init_109 : decode cX9_init 109 = .ok (.putfield 64, 3) := by decide +kernel
theorem dX9_init_112 : decode cX9_init 112 = .ok (.aload_n 0, 1) := by decide +kernel
theorem dX9_init_113 : decode cX9_init 113 = .ok (.new 68, 3) := by decide +kernel
theorem dX9_init_116 : decode cX9_init 116 = .ok (.dup, 1) := by decide +kernel
theorem dX9_init_117 : decode cX9_init 117 = .ok (.invokespecial 70, 3) := by decide +kernel
theorem dX9_init_120 : decode cX9_init 120 = .ok (.putfield 71, 3) := by decide +kernel
theorem dX9_init_123 : decode cX9_init 123 = .ok (.aload_n 0, 1) := by decide +kernel
theorem dX9_init_124 : decode cX9_init 124 = .ok (.new 68, 3) := by decide +kernel
theorem dX9_init_127 : decode cX9_init 127 = .ok (.dup, 1) := by decide +kernel
theorem dX9_init_128 : decode cX9_init 128 = .ok (.invokespecial 70, 3) := by decide +kernel
theorem dX9_init_131 : decode cX9_init 131 = .ok (.putfield 75, 3) := by decide +kernel
theorem dX9_init_134 : decode cX9_init 134 = .ok (.aload_n 0, 1) := by decide +kernel
theorem dX9_init_135 : decode cX9_init 135 = .ok (.new 78, 3) := by decide +kernel
theorem dX9_init_138 : decode cX9_init 138 = .ok (.dup, 1) := by decide +kernel
theorem dX9_init_139 : decode cX9_init 139 = .ok (.aload_n 0, 1) := by decide +kernel
theorem dX9_init_140 : decode cX9_init 140 = .ok (.getfield 60, 3) := by decide +kernel
theorem dX9_init_143 : decode cX9_init 143 = .ok (.getfield 80, 3) := by decide +kernel
theorem dX9_init_146 : decode cX9_init 146 = .ok (.aload_n 0, 1) := by decide +kernel
theorem dX9_init_147 : decode cX9_init 147 = .ok (.getfield 75, 3) := by decide +kernel
theorem dX9_init_150 : decode cX9_init 150 = .ok (.invokespecial 83, 3) := by decide +kernel
theorem dX9_init_153 : decode cX9_init 153 = .ok (.putfield 86, 3) := by decide +kernel
theorem dX9_init_156 : decode cX9_init 156 = .ok (.aload_n 0, 1) := by decide +kernel
theorem dX9_init_157 : decode cX9_init 157 = .ok (.iconst 0, 1) := by decide +kernel
theorem dX9_init_158 : decode cX9_init 158 = .ok (.putfield 90, 3) := by decide +kernel
theorem dX9_init_161 : decode cX9_init 161 = .ok (.return_, 1) := by decide +kernel
theorem dX9_ground_0 : decode cX9_ground 0 = .ok (.iload_n 1, 1) := by decide +kernel
theorem dX9_ground_1 : decode cX9_ground 1 = .ok (.iload_n 2, 1) := by decide +kernel
theorem dX9_ground_2 : decode cX9_ground 2 = .ok (.invokestatic 94, 3) := by decide +kernel
theorem dX9_ground_5 : decode cX9_ground 5 = .ok (.ifCond .eq 21, 3) := by decide +kernel
theorem dX9_ground_8 : decode cX9_ground 8 = .ok (.iload_n 3, 1) := by decide +kernel
theorem dX9_ground_9 : decode cX9_ground 9 = .ok (.bipush 99, 2) := by decide +kernel
theorem dX9_ground_11 : decode cX9_ground 11 = .ok (.invokestatic 98, 3) := by decide +kernel
theorem dX9_ground_14 : decode cX9_ground 14 = .ok (.ifCond .eq 12, 3) := by decide +kernel
theorem dX9_ground_17 : decode cX9_ground 17 = .ok (.iload 4, 2) := by decide +kernel
theorem dX9_ground_19 : decode cX9_ground 19 = .ok (.iconst 4, 1) := by decide +kernel
theorem dX9_ground_20 : decode cX9_ground 20 = .ok (.invokestatic 98, 3) := by decide +kernel
theorem dX9_ground_23 : decode cX9_ground 23 = .ok (.ifCond .ne 5, 3) := by decide +kernel
theorem dX9_ground_26 : decode cX9_ground 26 = .ok (.iconst 0, 1) := by decide +kernel
theorem dX9_ground_27 : decode cX9_ground 27 = .ok (.ireturn, 1) := by decide +kernel
theorem dX9_ground_28 : decode cX9_ground 28 = .ok (.bipush 12, 2) := by decide +kernel
theorem dX9_ground_30 : decode cX9_ground 30 = .ok (.iload_n 2, 1) := by decide +kernel
theorem dX9_ground_31 : decode cX9_ground 31 = .ok (.imul, 1) := by decide +kernel
theorem dX9_ground_32 : decode cX9_ground 32 = .ok (.iload_n 1, 1) := by decide +kernel
theorem dX9_ground_33 : decode cX9_ground 33 = .ok (.iadd, 1) := by decide +kernel
theorem dX9_ground_34 : decode cX9_ground 34 = .ok (.istore 5, 2) := by decide +kernel
theorem dX9_ground_36 : decode cX9_ground 36 = .ok (.aload_n 0, 1) := by decide +kernel
theorem dX9_ground_37 : decode cX9_ground 37 = .ok (.getfield 10, 3) := by decide +kernel
theorem dX9_ground_40 : decode cX9_ground 40 = .ok (.getfield 101, 3) := by decide +kernel
theorem dX9_ground_43 : decode cX9_ground 43 = .ok (.iload 5, 2) := by decide +kernel
theorem dX9_ground_45 : decode cX9_ground 45 = .ok (.iload_n 3, 1) := by decide +kernel
theorem dX9_ground_46 : decode cX9_ground 46 = .ok (.iastore, 1) := by decide +kernel
theorem dX9_ground_47 : decode cX9_ground 47 = .ok (.aload_n 0, 1) := by decide +kernel
theorem dX9_ground_48 : decode cX9_ground 48 = .ok (.getfield 10, 3) := by decide +kernel
theorem dX9_ground_51 : decode cX9_ground 51 = .ok (.getfield 104, 3) := by decide +kernel
theorem dX9_ground_54 : decode cX9_ground 54 = .ok (.iload 5, 2) := by decide +kernel
theorem dX9_ground_56 : decode cX9_ground 56 = .ok (.iload 4, 2) := by decide +kernel
theorem dX9_ground_58 : decode cX9_ground 58 = .ok (.iastore, 1) := by decide +kernel
theorem dX9_ground_59 : decode cX9_ground 59 = .ok (.iconst 1, 1) := by decide +kernel
theorem dX9_ground_60 : decode cX9_ground 60 = .ok (.ireturn, 1) := by decide +kernel
theorem dX9_air_0 : decode cX9_air 0 = .ok (.iload_n 1, 1) := by decide +kernel
theorem dX9_air_1 : decode cX9_air 1 = .ok (.iload_n 2, 1) := by decide +kernel
theorem dX9_air_2 : decode cX9_air 2 = .ok (.invokestatic 94, 3) := by decide +kernel
theorem dX9_air_5 : decode cX9_air 5 = .ok (.ifCond .eq 24, 3) := by decide +kernel
theorem dX9_air_8 : decode cX9_air 8 = .ok (.iload_n 3, 1) := by decide +kernel
theorem dX9_air_9 : decode cX9_air 9 = .ok (.sipush 9999, 3) := by decide +kernel
theorem dX9_air_12 : decode cX9_air 12 = .ok (.invokestatic 98, 3) := by decide +kernel
theorem dX9_air_15 : decode cX9_air 15 = .ok (.ifCond .eq 14, 3) := by decide +kernel
theorem dX9_air_18 : decode cX9_air 18 = .ok (.iload 4, 2) := by decide +kernel
theorem dX9_air_20 : decode cX9_air 20 = .ok (.sipush 9999, 3) := by decide +kernel
theorem dX9_air_23 : decode cX9_air 23 = .ok (.invokestatic 98, 3) := by decide +kernel
theorem dX9_air_26 : decode cX9_air 26 = .ok (.ifCond .ne 5, 3) := by decide +kernel
theorem dX9_air_29 : decode cX9_air 29 = .ok (.iconst 0, 1) := by decide +kernel
theorem dX9_air_30 : decode cX9_air 30 = .ok (.ireturn, 1) := by decide +kernel
theorem dX9_air_31 : decode cX9_air 31 = .ok (.bipush 12, 2) := by decide +kernel
theorem dX9_air_33 : decode cX9_air 33 = .ok (.iload_n 2, 1) := by decide +kernel
theorem dX9_air_34 : decode cX9_air 34 = .ok (.imul, 1) := by decide +kernel
theorem dX9_air_35 : decode cX9_air 35 = .ok (.iload_n 1, 1) := by decide +kernel
theorem dX9_air_36 : decode cX9_air 36 = .ok (.iadd, 1) := by decide +kernel
theorem dX9_air_37 : decode cX9_air 37 = .ok (.istore 5, 2) := by decide +kernel
theorem dX9_air_39 : decode cX9_air 39 = .ok (.aload_n 0, 1) := by decide +kernel
theorem dX9_air_40 : decode cX9_air 40 = .ok (.getfield 10, 3) := by decide +kernel
theorem dX9_air_43 : decode cX9_air 43 = .ok (.getfield 107, 3) := by decide +kernel
theorem dX9_air_46 : decode cX9_air 46 = .ok (.iload 5, 2) := by decide +kernel
theorem dX9_air_48 : decode cX9_air 48 = .ok (.iload_n 3, 1) := by decide +kernel
theorem dX9_air_49 : decode cX9_air 49 = .ok (.iastore, 1) := by decide +kernel
theorem dX9_air_50 : decode cX9_air 50 = .ok (.aload_n 0, 1) := by decide +kernel
theorem dX9_air_51 : decode cX9_air 51 = .ok (.getfield 10, 3) := by decide +kernel
theorem dX9_air_54 : decode cX9_air 54 = .ok (.getfield 110, 3) := by decide +kernel
theorem dX9_air_57 : decode cX9_air 57 = .ok (.iload 5, 2) := by decide +kernel
theorem dX9_air_59 : decode cX9_air 59 = .ok (.iload 4, 2) := by decide +kernel
theorem dX9_air_61 : decode cX9_air 61 = .ok (.iastore, 1) := by decide +kernel
theorem dX9_air_62 : decode cX9_air 62 = .ok (.iconst 1, 1) := by decide +kernel
theorem dX9_air_63 : decode cX9_air 63 = .ok (.ireturn, 1) := by decide +kernel
theorem dX9_wind_0 : decode cX9_wind 0 = .ok (.iload_n 1, 1) := by decide +kernel
theorem dX9_wind_1 : decode cX9_wind 1 = .ok (.bipush 99, 2) := by decide +kernel
theorem dX9_wind_3 : decode cX9_wind 3 = .ok (.invokestatic 98, 3) := by decide +kernel
theorem dX9_wind_6 : decode cX9_wind 6 = .ok (.ifCond .eq 12, 3) := by decide +kernel
theorem dX9_wind_9 : decode cX9_wind 9 = .ok (.iload_n 2, 1) := by decide +kernel
theorem dX9_wind_10 : decode cX9_wind 10 = .ok (.bipush 9, 2) := by decide +kernel
theorem dX9_wind_12 : decode cX9_wind 12 = .ok (.invokestatic 98, 3) := by decide +kernel
theorem dX9_wind_15 : decode cX9_wind 15 = .ok (.ifCond .ne 5, 3) := by decide +kernel
theorem dX9_wind_18 : decode cX9_wind 18 = .ok (.iconst 0, 1) := by decide +kernel
theorem dX9_wind_19 : decode cX9_wind 19 = .ok (.ireturn, 1) := by decide +kernel
theorem dX9_wind_20 : decode cX9_wind 20 = .ok (.aload_n 0, 1) := by decide +kernel
theorem dX9_wind_21 : decode cX9_wind 21 = .ok (.getfield 10, 3) := by decide +kernel
theorem dX9_wind_24 : decode cX9_wind 24 = .ok (.getfield 113, 3) := by decide +kernel
theorem dX9_wind_27 : decode cX9_wind 27 = .ok (.iload_n 1, 1) := by decide +kernel
theorem dX9_wind_28 : decode cX9_wind 28 = .ok (.iload_n 2, 1) := by decide +kernel
theorem dX9_wind_29 : decode cX9_wind 29 = .ok (.iastore, 1) := by decide +kernel
theorem dX9_wind_30 : decode cX9_wind 30 = .ok (.iconst 1, 1) := by decide +kernel
theorem dX9_wind_31 : decode cX9_wind 31 = .ok (.ireturn, 1) := by decide +kernel
theorem dX9_feed_0 : decode cX9_feed 0 = .ok (.aload_n 0, 1) := by decide +kernel
theorem dX9_feed_1 : decode cX9_feed 1 = .ok (.getfield 60, 3) := by decide +kernel
theorem dX9_feed_4 : decode cX9_feed 4 = .ok (.getfield 116, 3) := by decide +kernel
theorem dX9_feed_7 : decode cX9_feed 7 = .ok (.sipush 200, 3) := by decide +kernel
theorem dX9_feed_10 : decode cX9_feed 10 = .ok (.if_icmp .le 5, 3) := by decide +kernel
theorem dX9_feed_13 : decode cX9_feed 13 = .ok (.iconst (-1), 1) := by decide +kernel
theorem dX9_feed_14 : decode cX9_feed 14 = .ok (.ireturn, 1) := by decide +kernel
theorem dX9_feed_15 : decode cX9_feed 15 = .ok (.aload_n 0, 1) := by decide +kernel
theorem dX9_feed_16 : decode cX9_feed 16 = .ok (.getfield 60, 3) := by decide +kernel
theorem dX9_feed_19 : decode cX9_feed 19 = .ok (.iload_n 1, 1) := by decide +kernel
theorem dX9_feed_20 : decode cX9_feed 20 = .ok (.invokevirtual 120, 3) := by decide +kernel
theorem dX9_feed_23 : decode cX9_feed 23 = .ok (.aload_n 0, 1) := by decide +kernel
theorem dX9_feed_24 : decode cX9_feed 24 = .ok (.getfield 60, 3) := by decide +kernel
theorem dX9_feed_27 : decode cX9_feed 27 = .ok (.iload_n 2, 1) := by decide +kernel
theorem dX9_feed_28 : decode cX9_feed 28 = .ok (.invokevirtual 120, 3) := by decide +kernel
theorem dX9_feed_31 : decode cX9_feed 31 = .ok (.aload_n 0, 1) := by decide +kernel
theorem dX9_feed_32 : decode cX9_feed 32 = .ok (.getfield 60, 3) := by decide +kernel
theorem dX9_feed_35 : decode cX9_feed 35 = .ok (.iload_n 3, 1) := by decide +kernel
theorem dX9_feed_36 : decode cX9_feed 36 = .ok (.invokevirtual 120, 3) := by decide +kernel
theorem dX9_feed_39 : decode cX9_feed 39 = .ok (.aload_n 0, 1) := by decide +kernel
theorem dX9_feed_40 : decode cX9_feed 40 = .ok (.getfield 60, 3) := by decide +kernel
theorem dX9_feed_43 : decode cX9_feed 43 = .ok (.iload 4, 2) := by decide +kernel
theorem dX9_feed_45 : decode cX9_feed 45 = .ok (.invokevirtual 120, 3) := by decide +kernel
theorem dX9_feed_48 : decode cX9_feed 48 = .ok (.aload_n 0, 1) := by decide +kernel
theorem dX9_feed_49 : decode cX9_feed 49 = .ok (.getfield 60, 3) := by decide +kernel
theorem dX9_feed_52 : decode cX9_feed 52 = .ok (.iload 5, 2) := by decide +kernel
theorem dX9_feed_54 : decode cX9_feed 54 = .ok (.invokevirtual 120, 3) := by decide +kernel
theorem dX9_feed_57 : decode cX9_feed 57 = .ok (.aload_n 0, 1) := by decide +kernel
theorem dX9_feed_58 : decode cX9_feed 58 = .ok (.getfield 60, 3) := by decide +kernel
theorem dX9_feed_61 : decode cX9_feed 61 = .ok (.getfield 116, 3) := by decide +kernel
theorem dX9_feed_64 : decode cX9_feed 64 = .ok (.ireturn, 1) := by decide +kernel
theorem dX9_law_0 : decode cX9_law 0 = .ok (.iload_n 1, 1) := by decide +kernel
theorem dX9_law_1 : decode cX9_law 1 = .ok (.iconst 1, 1) := by decide +kernel
theorem dX9_law_2 : decode cX9_law 2 = .ok (.if_icmp .lt 21, 3) := by decide +kernel
theorem dX9_law_5 : decode cX9_law 5 = .ok (.iload_n 1, 1) := by decide +kernel
theorem dX9_law_6 : decode cX9_law 6 = .ok (.sipush 200, 3) := by decide +kernel
theorem dX9_law_9 : decode cX9_law 9 = .ok (.if_icmp .gt 14, 3) := by decide +kernel
theorem dX9_law_12 : decode cX9_law 12 = .ok (.iload_n 1, 1) := by decide +kernel
theorem dX9_law_13 : decode cX9_law 13 = .ok (.aload_n 0, 1) := by decide +kernel
theorem dX9_law_14 : decode cX9_law 14 = .ok (.getfield 60, 3) := by decide +kernel
theorem dX9_law_17 : decode cX9_law 17 = .ok (.getfield 116, 3) := by decide +kernel
theorem dX9_law_20 : decode cX9_law 20 = .ok (.if_icmp .le 5, 3) := by decide +kernel
theorem dX9_law_23 : decode cX9_law 23 = .ok (.iconst (-1), 1) := by decide +kernel
theorem dX9_law_24 : decode cX9_law 24 = .ok (.ireturn, 1) := by decide +kernel
theorem dX9_law_25 : decode cX9_law 25 = .ok (.aload_n 0, 1) := by decide +kernel
theorem dX9_law_26 : decode cX9_law 26 = .ok (.getfield 86, 3) := by decide +kernel
theorem dX9_law_29 : decode cX9_law 29 = .ok (.iload_n 1, 1) := by decide +kernel
theorem dX9_law_30 : decode cX9_law 30 = .ok (.aload_n 0, 1) := by decide +kernel
theorem dX9_law_31 : decode cX9_law 31 = .ok (.getfield 75, 3) := by decide +kernel
theorem dX9_law_34 : decode cX9_law 34 = .ok (.invokevirtual 124, 3) := by decide +kernel
theorem dX9_law_37 : decode cX9_law 37 = .ok (.istore_n 2, 1) := by decide +kernel
theorem dX9_law_38 : decode cX9_law 38 = .ok (.aload_n 0, 1) := by decide +kernel
theorem dX9_law_39 : decode cX9_law 39 = .ok (.getfield 60, 3) := by decide +kernel
theorem dX9_law_42 : decode cX9_law 42 = .ok (.iconst 0, 1) := by decide +kernel
theorem dX9_law_43 : decode cX9_law 43 = .ok (.putfield 116, 3) := by decide +kernel
theorem dX9_law_46 : decode cX9_law 46 = .ok (.iload_n 2, 1) := by decide +kernel
theorem dX9_law_47 : decode cX9_law 47 = .ok (.ifCond .le 21, 3) := by decide +kernel
theorem dX9_law_50 : decode cX9_law 50 = .ok (.aload_n 0, 1) := by decide +kernel
theorem dX9_law_51 : decode cX9_law 51 = .ok (.getfield 71, 3) := by decide +kernel
theorem dX9_law_54 : decode cX9_law 54 = .ok (.astore_n 3, 1) := by decide +kernel
theorem dX9_law_55 : decode cX9_law 55 = .ok (.aload_n 0, 1) := by decide +kernel
theorem dX9_law_56 : decode cX9_law 56 = .ok (.aload_n 0, 1) := by decide +kernel
theorem dX9_law_57 : decode cX9_law 57 = .ok (.getfield 75, 3) := by decide +kernel
theorem dX9_law_60 : decode cX9_law 60 = .ok (.putfield 71, 3) := by decide +kernel
theorem dX9_law_63 : decode cX9_law 63 = .ok (.aload_n 0, 1) := by decide +kernel
theorem dX9_law_64 : decode cX9_law 64 = .ok (.aload_n 3, 1) := by decide +kernel
theorem dX9_law_65 : decode cX9_law 65 = .ok (.putfield 75, 3) := by decide +kernel
theorem dX9_law_68 : decode cX9_law 68 = .ok (.iload_n 2, 1) := by decide +kernel
theorem dX9_law_69 : decode cX9_law 69 = .ok (.ireturn, 1) := by decide +kernel
theorem dX9_steps_0 : decode cX9_steps 0 = .ok (.iload_n 1, 1) := by decide +kernel
theorem dX9_steps_1 : decode cX9_steps 1 = .ok (.invokestatic 128, 3) := by decide +kernel
theorem dX9_steps_4 : decode cX9_steps 4 = .ok (.ifCond .ne 5, 3) := by decide +kernel
theorem dX9_steps_7 : decode cX9_steps 7 = .ok (.iconst (-1), 1) := by decide +kernel
theorem dX9_steps_8 : decode cX9_steps 8 = .ok (.ireturn, 1) := by decide +kernel
theorem dX9_steps_9 : decode cX9_steps 9 = .ok (.aload_n 0, 1) := by decide +kernel
theorem dX9_steps_10 : decode cX9_steps 10 = .ok (.getfield 10, 3) := by decide +kernel
theorem dX9_steps_13 : decode cX9_steps 13 = .ok (.getfield 132, 3) := by decide +kernel
theorem dX9_steps_16 : decode cX9_steps 16 = .ok (.istore_n 2, 1) := by decide +kernel
theorem dX9_steps_17 : decode cX9_steps 17 = .ok (.iconst 0, 1) := by decide +kernel
theorem dX9_steps_18 : decode cX9_steps 18 = .ok (.istore_n 3, 1) := by decide +kernel
theorem dX9_steps_19 : decode cX9_steps 19 = .ok (.iload_n 3, 1) := by decide +kernel
theorem dX9_steps_20 : decode cX9_steps 20 = .ok (.iload_n 1, 1) := by decide +kernel
theorem dX9_steps_21 : decode cX9_steps 21 = .ok (.if_icmp .ge 24, 3) := by decide +kernel
theorem dX9_steps_24 : decode cX9_steps 24 = .ok (.aload_n 0, 1) := by decide +kernel
theorem dX9_steps_25 : decode cX9_steps 25 = .ok (.getfield 25, 3) := by decide +kernel
theorem dX9_steps_28 : decode cX9_steps 28 = .ok (.aload_n 0, 1) := by decide +kernel
theorem dX9_steps_29 : decode cX9_steps 29 = .ok (.getfield 10, 3) := by decide +kernel
theorem dX9_steps_32 : decode cX9_steps 32 = .ok (.aload_n 0, 1) := by decide +kernel
theorem dX9_steps_33 : decode cX9_steps 33 = .ok (.getfield 71, 3) := by decide +kernel
theorem dX9_steps_36 : decode cX9_steps 36 = .ok (.invokevirtual 135, 3) := by decide +kernel
theorem dX9_steps_39 : decode cX9_steps 39 = .ok (.iinc 3 1, 3) := by decide +kernel
theorem dX9_steps_42 : decode cX9_steps 42 = .ok (.goto (-23), 3) := by decide +kernel
theorem dX9_steps_45 : decode cX9_steps 45 = .ok (.aload_n 0, 1) := by decide +kernel
theorem dX9_steps_46 : decode cX9_steps 46 = .ok (.getfield 10, 3) := by decide +kernel
theorem dX9_steps_49 : decode cX9_steps 49 = .ok (.getfield 132, 3) := by decide +kernel
theorem dX9_steps_52 : decode cX9_steps 52 = .ok (.iload_n 2, 1) := by decide +kernel
theorem dX9_steps_53 : decode cX9_steps 53 = .ok (.isub, 1) := by decide +kernel
theorem dX9_steps_54 : decode cX9_steps 54 = .ok (.ireturn, 1) := by decide +kernel
theorem dX9_cell_0 : decode cX9_cell 0 = .ok (.iload_n 1, 1) := by decide +kernel
theorem dX9_cell_1 : decode cX9_cell 1 = .ok (.iload_n 2, 1) := by decide +kernel
theorem dX9_cell_2 : decode cX9_cell 2 = .ok (.invokestatic 94, 3) := by decide +kernel
theorem dX9_cell_5 : decode cX9_cell 5 = .ok (.ifCond .ne 5, 3) := by decide +kernel
theorem dX9_cell_8 : decode cX9_cell 8 = .ok (.iconst (-1), 1) := by decide +kernel
theorem dX9_cell_9 : decode cX9_cell 9 = .ok (.ireturn, 1) := by decide +kernel
theorem dX9_cell_10 : decode cX9_cell 10 = .ok (.bipush 12, 2) := by decide +kernel
theorem dX9_cell_12 : decode cX9_cell 12 = .ok (.iload_n 2, 1) := by decide +kernel
theorem dX9_cell_13 : decode cX9_cell 13 = .ok (.imul, 1) := by decide +kernel
theorem dX9_cell_14 : decode cX9_cell 14 = .ok (.iload_n 1, 1) := by decide +kernel
theorem dX9_cell_15 : decode cX9_cell 15 = .ok (.iadd, 1) := by decide +kernel
theorem dX9_cell_16 : decode cX9_cell 16 = .ok (.istore 4, 2) := by decide +kernel
theorem dX9_cell_18 : decode cX9_cell 18 = .ok (.iload_n 3, 1) := by decide +kernel
theorem dX9_cell_19 : decode cX9_cell 19 = .ok (.tableswitch 144 0 7 #[45, 56, 67, 78, 89, 103, 120, 134], 45) := by decide +kernel
theorem dX9_cell_64 : decode cX9_cell 64 = .ok (.aload_n 0, 1) := by decide +kernel
theorem dX9_cell_65 : decode cX9_cell 65 = .ok (.getfield 10, 3) := by decide +kernel
theorem dX9_cell_68 : decode cX9_cell 68 = .ok (.getfield 101, 3) := by decide +kernel
theorem dX9_cell_71 : decode cX9_cell 71 = .ok (.iload 4, 2) := by decide +kernel
theorem dX9_cell_73 : decode cX9_cell 73 = .ok (.iaload, 1) := by decide +kernel
theorem dX9_cell_74 : decode cX9_cell 74 = .ok (.ireturn, 1) := by decide +kernel
theorem dX9_cell_75 : decode cX9_cell 75 = .ok (.aload_n 0, 1) := by decide +kernel
theorem dX9_cell_76 : decode cX9_cell 76 = .ok (.getfield 10, 3) := by decide +kernel
theorem dX9_cell_79 : decode cX9_cell 79 = .ok (.getfield 104, 3) := by decide +kernel
theorem dX9_cell_82 : decode cX9_cell 82 = .ok (.iload 4, 2) := by decide +kernel
theorem dX9_cell_84 : decode cX9_cell 84 = .ok (.iaload, 1) := by decide +kernel
theorem dX9_cell_85 : decode cX9_cell 85 = .ok (.ireturn, 1) := by decide +kernel
theorem dX9_cell_86 : decode cX9_cell 86 = .ok (.aload_n 0, 1) := by decide +kernel
theorem dX9_cell_87 : decode cX9_cell 87 = .ok (.getfield 10, 3) := by decide +kernel
theorem dX9_cell_90 : decode cX9_cell 90 = .ok (.getfield 107, 3) := by decide +kernel
theorem dX9_cell_93 : decode cX9_cell 93 = .ok (.iload 4, 2) := by decide +kernel
theorem dX9_cell_95 : decode cX9_cell 95 = .ok (.iaload, 1) := by decide +kernel
theorem dX9_cell_96 : decode cX9_cell 96 = .ok (.ireturn, 1) := by decide +kernel
theorem dX9_cell_97 : decode cX9_cell 97 = .ok (.aload_n 0, 1) := by decide +kernel
theorem dX9_cell_98 : decode cX9_cell 98 = .ok (.getfield 10, 3) := by decide +kernel
theorem dX9_cell_101 : decode cX9_cell 101 = .ok (.getfield 110, 3) := by decide +kernel
theorem dX9_cell_104 : decode cX9_cell 104 = .ok (.iload 4, 2) := by decide +kernel
theorem dX9_cell_106 : decode cX9_cell 106 = .ok (.iaload, 1) := by decide +kernel
theorem dX9_cell_107 : decode cX9_cell 107 = .ok (.ireturn, 1) := by decide +kernel
theorem dX9_cell_108 : decode cX9_cell 108 = .ok (.aload_n 0, 1) := by decide +kernel
theorem dX9_cell_109 : decode cX9_cell 109 = .ok (.getfield 71, 3) := by decide +kernel
theorem dX9_cell_112 : decode cX9_cell 112 = .ok (.aload_n 0, 1) := by decide +kernel
theorem dX9_cell_113 : decode cX9_cell 113 = .ok (.getfield 10, 3) := by decide +kernel
theorem dX9_cell_116 : decode cX9_cell 116 = .ok (.iload 4, 2) := by decide +kernel
theorem dX9_cell_118 : decode cX9_cell 118 = .ok (.invokevirtual 139, 3) := by decide +kernel
theorem dX9_cell_121 : decode cX9_cell 121 = .ok (.ireturn, 1) := by decide +kernel
theorem dX9_cell_122 : decode cX9_cell 122 = .ok (.aload_n 0, 1) := by decide +kernel
theorem dX9_cell_123 : decode cX9_cell 123 = .ok (.getfield 71, 3) := by decide +kernel
theorem dX9_cell_126 : decode cX9_cell 126 = .ok (.aload_n 0, 1) := by decide +kernel
theorem dX9_cell_127 : decode cX9_cell 127 = .ok (.getfield 10, 3) := by decide +kernel
theorem dX9_cell_130 : decode cX9_cell 130 = .ok (.iload 4, 2) := by decide +kernel
theorem dX9_cell_132 : decode cX9_cell 132 = .ok (.invokevirtual 143, 3) := by decide +kernel
theorem dX9_cell_135 : decode cX9_cell 135 = .ok (.invokestatic 146, 3) := by decide +kernel
theorem dX9_cell_138 : decode cX9_cell 138 = .ok (.ireturn, 1) := by decide +kernel
theorem dX9_cell_139 : decode cX9_cell 139 = .ok (.aload_n 0, 1) := by decide +kernel
theorem dX9_cell_140 : decode cX9_cell 140 = .ok (.getfield 71, 3) := by decide +kernel
theorem dX9_cell_143 : decode cX9_cell 143 = .ok (.aload_n 0, 1) := by decide +kernel
theorem dX9_cell_144 : decode cX9_cell 144 = .ok (.getfield 10, 3) := by decide +kernel
theorem dX9_cell_147 : decode cX9_cell 147 = .ok (.iload 4, 2) := by decide +kernel
theorem dX9_cell_149 : decode cX9_cell 149 = .ok (.invokevirtual 150, 3) := by decide +kernel
theorem dX9_cell_152 : decode cX9_cell 152 = .ok (.ireturn, 1) := by decide +kernel
theorem dX9_cell_153 : decode cX9_cell 153 = .ok (.aload_n 0, 1) := by decide +kernel
theorem dX9_cell_154 : decode cX9_cell 154 = .ok (.getfield 10, 3) := by decide +kernel
theorem dX9_cell_157 : decode cX9_cell 157 = .ok (.iload 4, 2) := by decide +kernel
theorem dX9_cell_159 : decode cX9_cell 159 = .ok (.invokevirtual 153, 3) := by decide +kernel
theorem dX9_cell_162 : decode cX9_cell 162 = .ok (.ireturn, 1) := by decide +kernel
theorem dX9_cell_163 : decode cX9_cell 163 = .ok (.iconst (-1), 1) := by decide +kernel
theorem dX9_cell_164 : decode cX9_cell 164 = .ok (.ireturn, 1) := by decide +kernel
theorem dX9_sums_0 : decode cX9_sums 0 = .ok (.iload_n 1, 1) := by decide +kernel
theorem dX9_sums_1 : decode cX9_sums 1 = .ok (.tableswitch 111 0 4 #[35, 46, 57, 65, 88], 35) := by decide +kernel
theorem dX9_sums_36 : decode cX9_sums 36 = .ok (.aload_n 0, 1) := by decide +kernel
theorem dX9_sums_37 : decode cX9_sums 37 = .ok (.getfield 10, 3) := by decide +kernel
theorem dX9_sums_40 : decode cX9_sums 40 = .ok (.getfield 107, 3) := by decide +kernel
theorem dX9_sums_43 : decode cX9_sums 43 = .ok (.invokestatic 156, 3) := by decide +kernel
theorem dX9_sums_46 : decode cX9_sums 46 = .ok (.ireturn, 1) := by decide +kernel
theorem dX9_sums_47 : decode cX9_sums 47 = .ok (.aload_n 0, 1) := by decide +kernel
theorem dX9_sums_48 : decode cX9_sums 48 = .ok (.getfield 10, 3) := by decide +kernel
theorem dX9_sums_51 : decode cX9_sums 51 = .ok (.getfield 110, 3) := by decide +kernel
theorem dX9_sums_54 : decode cX9_sums 54 = .ok (.invokestatic 156, 3) := by decide +kernel
theorem dX9_sums_57 : decode cX9_sums 57 = .ok (.ireturn, 1) := by decide +kernel
theorem dX9_sums_58 : decode cX9_sums 58 = .ok (.aload_n 0, 1) := by decide +kernel
theorem dX9_sums_59 : decode cX9_sums 59 = .ok (.getfield 10, 3) := by decide +kernel
theorem dX9_sums_62 : decode cX9_sums 62 = .ok (.getfield 132, 3) := by decide +kernel
theorem dX9_sums_65 : decode cX9_sums 65 = .ok (.ireturn, 1) := by decide +kernel
theorem dX9_sums_66 : decode cX9_sums 66 = .ok (.aload_n 0, 1) := by decide +kernel
theorem dX9_sums_67 : decode cX9_sums 67 = .ok (.getfield 32, 3) := by decide +kernel
theorem dX9_sums_70 : decode cX9_sums 70 = .ok (.aload_n 0, 1) := by decide +kernel
theorem dX9_sums_71 : decode cX9_sums 71 = .ok (.getfield 10, 3) := by decide +kernel
theorem dX9_sums_74 : decode cX9_sums 74 = .ok (.aload_n 0, 1) := by decide +kernel
theorem dX9_sums_75 : decode cX9_sums 75 = .ok (.getfield 71, 3) := by decide +kernel
theorem dX9_sums_78 : decode cX9_sums 78 = .ok (.invokevirtual 160, 3) := by decide +kernel
theorem dX9_sums_81 : decode cX9_sums 81 = .ok (.aload_n 0, 1) := by decide +kernel
theorem dX9_sums_82 : decode cX9_sums 82 = .ok (.getfield 32, 3) := by decide +kernel
theorem dX9_sums_85 : decode cX9_sums 85 = .ok (.getfield 163, 3) := by decide +kernel
theorem dX9_sums_88 : decode cX9_sums 88 = .ok (.ireturn, 1) := by decide +kernel
theorem dX9_sums_89 : decode cX9_sums 89 = .ok (.aload_n 0, 1) := by decide +kernel
theorem dX9_sums_90 : decode cX9_sums 90 = .ok (.getfield 32, 3) := by decide +kernel
theorem dX9_sums_93 : decode cX9_sums 93 = .ok (.aload_n 0, 1) := by decide +kernel
theorem dX9_sums_94 : decode cX9_sums 94 = .ok (.getfield 10, 3) := by decide +kernel
theorem dX9_sums_97 : decode cX9_sums 97 = .ok (.aload_n 0, 1) := by decide +kernel
theorem dX9_sums_98 : decode cX9_sums 98 = .ok (.getfield 71, 3) := by decide +kernel
theorem dX9_sums_101 : decode cX9_sums 101 = .ok (.invokevirtual 160, 3) := by decide +kernel
theorem dX9_sums_104 : decode cX9_sums 104 = .ok (.aload_n 0, 1) := by decide +kernel
theorem dX9_sums_105 : decode cX9_sums 105 = .ok (.getfield 32, 3) := by decide +kernel
theorem dX9_sums_108 : decode cX9_sums 108 = .ok (.getfield 166, 3) := by decide +kernel
theorem dX9_sums_111 : decode cX9_sums 111 = .ok (.ireturn, 1) := by decide +kernel
theorem dX9_sums_112 : decode cX9_sums 112 = .ok (.iconst (-1), 1) := by decide +kernel
theorem dX9_sums_113 : decode cX9_sums 113 = .ok (.ireturn, 1) := by decide +kernel
theorem dX9_night_0 : decode cX9_night 0 = .ok (.iload_n 1, 1) := by decide +kernel
theorem dX9_night_1 : decode cX9_night 1 = .ok (.invokestatic 128, 3) := by decide +kernel
theorem dX9_night_4 : decode cX9_night 4 = .ok (.ifCond .eq 11, 3) := by decide +kernel
theorem dX9_night_7 : decode cX9_night 7 = .ok (.iload_n 2, 1) := by decide +kernel
theorem dX9_night_8 : decode cX9_night 8 = .ok (.iconst 4, 1) := by decide +kernel
theorem dX9_night_9 : decode cX9_night 9 = .ok (.invokestatic 98, 3) := by decide +kernel
theorem dX9_night_12 : decode cX9_night 12 = .ok (.ifCond .ne 5, 3) := by decide +kernel
theorem dX9_night_15 : decode cX9_night 15 = .ok (.iconst (-1), 1) := by decide +kernel
theorem dX9_night_16 : decode cX9_night 16 = .ok (.ireturn, 1) := by decide +kernel
theorem dX9_night_17 : decode cX9_night 17 = .ok (.bipush (-2), 2) := by decide +kernel
theorem dX9_night_19 : decode cX9_night 19 = .ok (.istore_n 3, 1) := by decide +kernel
theorem dX9_night_20 : decode cX9_night 20 = .ok (.bipush (-2), 2) := by decide +kernel
theorem dX9_night_22 : decode cX9_night 22 = .ok (.istore 4, 2) := by decide +kernel
theorem dX9_night_24 : decode cX9_night 24 = .ok (.bipush (-2), 2) := by decide +kernel
theorem dX9_night_26 : decode cX9_night 26 = .ok (.istore 5, 2) := by decide +kernel
theorem dX9_night_28 : decode cX9_night 28 = .ok (.bipush (-2), 2) := by decide +kernel
theorem dX9_night_30 : decode cX9_night 30 = .ok (.istore 6, 2) := by decide +kernel
theorem dX9_night_32 : decode cX9_night 32 = .ok (.iconst 0, 1) := by decide +kernel
theorem dX9_night_33 : decode cX9_night 33 = .ok (.istore 7, 2) := by decide +kernel
theorem dX9_night_35 : decode cX9_night 35 = .ok (.aload_n 0, 1) := by decide +kernel
theorem dX9_night_36 : decode cX9_night 36 = .ok (.getfield 19, 3) := by decide +kernel
theorem dX9_night_39 : decode cX9_night 39 = .ok (.aload_n 0, 1) := by decide +kernel
theorem dX9_night_40 : decode cX9_night 40 = .ok (.getfield 10, 3) := by decide +kernel
theorem dX9_night_43 : decode cX9_night 43 = .ok (.invokevirtual 169, 3) := by decide +kernel
theorem dX9_night_46 : decode cX9_night 46 = .ok (.iconst 0, 1) := by decide +kernel
theorem dX9_night_47 : decode cX9_night 47 = .ok (.istore 8, 2) := by decide +kernel
theorem dX9_night_49 : decode cX9_night 49 = .ok (.iload 8, 2) := by decide +kernel
theorem dX9_night_51 : decode cX9_night 51 = .ok (.iload_n 1, 1) := by decide +kernel
theorem dX9_night_52 : decode cX9_night 52 = .ok (.if_icmp .ge 106, 3) := by decide +kernel
theorem dX9_night_55 : decode cX9_night 55 = .ok (.aload_n 0, 1) := by decide +kernel
theorem dX9_night_56 : decode cX9_night 56 = .ok (.getfield 25, 3) := by decide +kernel
theorem dX9_night_59 : decode cX9_night 59 = .ok (.aload_n 0, 1) := by decide +kernel
theorem dX9_night_60 : decode cX9_night 60 = .ok (.getfield 19, 3) := by decide +kernel
theorem dX9_night_63 : decode cX9_night 63 = .ok (.aload_n 0, 1) := by decide +kernel
theorem dX9_night_64 : decode cX9_night 64 = .ok (.getfield 71, 3) := by decide +kernel
theorem dX9_night_67 : decode cX9_night 67 = .ok (.invokevirtual 135, 3) := by decide +kernel
theorem dX9_night_70 : decode cX9_night 70 = .ok (.aload_n 0, 1) := by decide +kernel
theorem dX9_night_71 : decode cX9_night 71 = .ok (.getfield 32, 3) := by decide +kernel
theorem dX9_night_74 : decode cX9_night 74 = .ok (.aload_n 0, 1) := by decide +kernel
theorem dX9_night_75 : decode cX9_night 75 = .ok (.getfield 19, 3) := by decide +kernel
theorem dX9_night_78 : decode cX9_night 78 = .ok (.aload_n 0, 1) := by decide +kernel
theorem dX9_night_79 : decode cX9_night 79 = .ok (.getfield 71, 3) := by decide +kernel
theorem dX9_night_82 : decode cX9_night 82 = .ok (.invokevirtual 160, 3) := by decide +kernel
theorem dX9_night_85 : decode cX9_night 85 = .ok (.aload_n 0, 1) := by decide +kernel
theorem dX9_night_86 : decode cX9_night 86 = .ok (.getfield 32, 3) := by decide +kernel
theorem dX9_night_89 : decode cX9_night 89 = .ok (.getfield 163, 3) := by decide +kernel
theorem dX9_night_92 : decode cX9_night 92 = .ok (.ifCond .ne 6, 3) := by decide +kernel
theorem dX9_night_95 : decode cX9_night 95 = .ok (.goto 57, 3) := by decide +kernel
theorem dX9_night_98 : decode cX9_night 98 = .ok (.iload 7, 2) := by decide +kernel
theorem dX9_night_100 : decode cX9_night 100 = .ok (.ifCond .ne 21, 3) := by decide +kernel
theorem dX9_night_103 : decode cX9_night 103 = .ok (.aload_n 0, 1) := by decide +kernel
theorem dX9_night_104 : decode cX9_night 104 = .ok (.getfield 32, 3) := by decide +kernel
theorem dX9_night_107 : decode cX9_night 107 = .ok (.getfield 173, 3) := by decide +kernel
theorem dX9_night_110 : decode cX9_night 110 = .ok (.istore 5, 2) := by decide +kernel
theorem dX9_night_112 : decode cX9_night 112 = .ok (.aload_n 0, 1) := by decide +kernel
theorem dX9_night_113 : decode cX9_night 113 = .ok (.getfield 19, 3) := by decide +kernel
theorem dX9_night_116 : decode cX9_night 116 = .ok (.getfield 176, 3) := by decide +kernel
theorem dX9_night_119 : decode cX9_night 119 = .ok (.istore 6, 2) := by decide +kernel
theorem dX9_night_121 : decode cX9_night 121 = .ok (.iinc 7 1, 3) := by decide +kernel
theorem dX9_night_124 : decode cX9_night 124 = .ok (.aload_n 0, 1) := by decide +kernel
theorem dX9_night_125 : decode cX9_night 125 = .ok (.getfield 32, 3) := by decide +kernel
theorem dX9_night_128 : decode cX9_night 128 = .ok (.getfield 166, 3) := by decide +kernel
theorem dX9_night_131 : decode cX9_night 131 = .ok (.iload_n 3, 1) := by decide +kernel
theorem dX9_night_132 : decode cX9_night 132 = .ok (.if_icmp .le 20, 3) := by decide +kernel
theorem dX9_night_135 : decode cX9_night 135 = .ok (.aload_n 0, 1) := by decide +kernel
theorem dX9_night_136 : decode cX9_night 136 = .ok (.getfield 32, 3) := by decide +kernel
theorem dX9_night_139 : decode cX9_night 139 = .ok (.getfield 166, 3) := by decide +kernel
theorem dX9_night_142 : decode cX9_night 142 = .ok (.istore_n 3, 1) := by decide +kernel
theorem dX9_night_143 : decode cX9_night 143 = .ok (.aload_n 0, 1) := by decide +kernel
theorem dX9_night_144 : decode cX9_night 144 = .ok (.getfield 19, 3) := by decide +kernel
theorem dX9_night_147 : decode cX9_night 147 = .ok (.getfield 176, 3) := by decide +kernel
theorem dX9_night_150 : decode cX9_night 150 = .ok (.istore 4, 2) := by decide +kernel
theorem dX9_night_152 : decode cX9_night 152 = .ok (.iinc 8 1, 3) := by decide +kernel
theorem dX9_night_155 : decode cX9_night 155 = .ok (.goto (-106), 3) := by decide +kernel
theorem dX9_night_158 : decode cX9_night 158 = .ok (.iload_n 2, 1) := by decide +kernel
theorem dX9_night_159 : decode cX9_night 159 = .ok (.tableswitch 40 0 3 #[29, 31, 34, 37], 29) := by decide +kernel
theorem dX9_night_188 : decode cX9_night 188 = .ok (.iload_n 3, 1) := by decide +kernel
theorem dX9_night_189 : decode cX9_night 189 = .ok (.ireturn, 1) := by decide +kernel
theorem dX9_night_190 : decode cX9_night 190 = .ok (.iload 4, 2) := by decide +kernel
theorem dX9_night_192 : decode cX9_night 192 = .ok (.ireturn, 1) := by decide +kernel
theorem dX9_night_193 : decode cX9_night 193 = .ok (.iload 5, 2) := by decide +kernel
theorem dX9_night_195 : decode cX9_night 195 = .ok (.ireturn, 1) := by decide +kernel
theorem dX9_night_196 : decode cX9_night 196 = .ok (.iload 6, 2) := by decide +kernel
theorem dX9_night_198 : decode cX9_night 198 = .ok (.ireturn, 1) := by decide +kernel
theorem dX9_night_199 : decode cX9_night 199 = .ok (.iload 7, 2) := by decide +kernel
theorem dX9_night_201 : decode cX9_night 201 = .ok (.ireturn, 1) := by decide +kernel
theorem dX9_sun_0 : decode cX9_sun 0 = .ok (.iload_n 1, 1) := by decide +kernel
theorem dX9_sun_1 : decode cX9_sun 1 = .ok (.iload_n 2, 1) := by decide +kernel
theorem dX9_sun_2 : decode cX9_sun 2 = .ok (.invokestatic 94, 3) := by decide +kernel
theorem dX9_sun_5 : decode cX9_sun 5 = .ok (.ifCond .eq 18, 3) := by decide +kernel
theorem dX9_sun_8 : decode cX9_sun 8 = .ok (.iload 4, 2) := by decide +kernel
theorem dX9_sun_10 : decode cX9_sun 10 = .ok (.invokestatic 128, 3) := by decide +kernel
theorem dX9_sun_13 : decode cX9_sun 13 = .ok (.ifCond .eq 10, 3) := by decide +kernel
theorem dX9_sun_16 : decode cX9_sun 16 = .ok (.iload_n 3, 1) := by decide +kernel
theorem dX9_sun_17 : decode cX9_sun 17 = .ok (.sipush 198, 3) := by decide +kernel
theorem dX9_sun_20 : decode cX9_sun 20 = .ok (.if_icmp .le 5, 3) := by decide +kernel
theorem dX9_sun_23 : decode cX9_sun 23 = .ok (.iconst (-1), 1) := by decide +kernel
theorem dX9_sun_24 : decode cX9_sun 24 = .ok (.ireturn, 1) := by decide +kernel
theorem dX9_sun_25 : decode cX9_sun 25 = .ok (.bipush 12, 2) := by decide +kernel
theorem dX9_sun_27 : decode cX9_sun 27 = .ok (.iload_n 2, 1) := by decide +kernel
theorem dX9_sun_28 : decode cX9_sun 28 = .ok (.imul, 1) := by decide +kernel
theorem dX9_sun_29 : decode cX9_sun 29 = .ok (.iload_n 1, 1) := by decide +kernel
theorem dX9_sun_30 : decode cX9_sun 30 = .ok (.iadd, 1) := by decide +kernel
theorem dX9_sun_31 : decode cX9_sun 31 = .ok (.istore 5, 2) := by decide +kernel
theorem dX9_sun_33 : decode cX9_sun 33 = .ok (.iload_n 3, 1) := by decide +kernel
theorem dX9_sun_34 : decode cX9_sun 34 = .ok (.aload_n 0, 1) := by decide +kernel
theorem dX9_sun_35 : decode cX9_sun 35 = .ok (.getfield 10, 3) := by decide +kernel
theorem dX9_sun_38 : decode cX9_sun 38 = .ok (.getfield 101, 3) := by decide +kernel
theorem dX9_sun_41 : decode cX9_sun 41 = .ok (.iload 5, 2) := by decide +kernel
theorem dX9_sun_43 : decode cX9_sun 43 = .ok (.iaload, 1) := by decide +kernel
theorem dX9_sun_44 : decode cX9_sun 44 = .ok (.if_icmp .ge 5, 3) := by decide +kernel
theorem dX9_sun_47 : decode cX9_sun 47 = .ok (.iconst (-1), 1) := by decide +kernel
theorem dX9_sun_48 : decode cX9_sun 48 = .ok (.ireturn, 1) := by decide +kernel
theorem dX9_sun_49 : decode cX9_sun 49 = .ok (.iconst 0, 1) := by decide +kernel
theorem dX9_sun_50 : decode cX9_sun 50 = .ok (.istore 6, 2) := by decide +kernel
theorem dX9_sun_52 : decode cX9_sun 52 = .ok (.aload_n 0, 1) := by decide +kernel
theorem dX9_sun_53 : decode cX9_sun 53 = .ok (.getfield 19, 3) := by decide +kernel
theorem dX9_sun_56 : decode cX9_sun 56 = .ok (.aload_n 0, 1) := by decide +kernel
theorem dX9_sun_57 : decode cX9_sun 57 = .ok (.getfield 10, 3) := by decide +kernel
theorem dX9_sun_60 : decode cX9_sun 60 = .ok (.invokevirtual 169, 3) := by decide +kernel
theorem dX9_sun_63 : decode cX9_sun 63 = .ok (.iconst 0, 1) := by decide +kernel
theorem dX9_sun_64 : decode cX9_sun 64 = .ok (.istore 7, 2) := by decide +kernel
theorem dX9_sun_66 : decode cX9_sun 66 = .ok (.iload 7, 2) := by decide +kernel
theorem dX9_sun_68 : decode cX9_sun 68 = .ok (.iload 4, 2) := by decide +kernel
theorem dX9_sun_70 : decode cX9_sun 70 = .ok (.if_icmp .ge 44, 3) := by decide +kernel
theorem dX9_sun_73 : decode cX9_sun 73 = .ok (.aload_n 0, 1) := by decide +kernel
theorem dX9_sun_74 : decode cX9_sun 74 = .ok (.getfield 25, 3) := by decide +kernel
theorem dX9_sun_77 : decode cX9_sun 77 = .ok (.aload_n 0, 1) := by decide +kernel
theorem dX9_sun_78 : decode cX9_sun 78 = .ok (.getfield 19, 3) := by decide +kernel
theorem dX9_sun_81 : decode cX9_sun 81 = .ok (.aload_n 0, 1) := by decide +kernel
theorem dX9_sun_82 : decode cX9_sun 82 = .ok (.getfield 71, 3) := by decide +kernel
theorem dX9_sun_85 : decode cX9_sun 85 = .ok (.invokevirtual 135, 3) := by decide +kernel
theorem dX9_sun_88 : decode cX9_sun 88 = .ok (.iload_n 3, 1) := by decide +kernel
theorem dX9_sun_89 : decode cX9_sun 89 = .ok (.aload_n 0, 1) := by decide +kernel
theorem dX9_sun_90 : decode cX9_sun 90 = .ok (.getfield 71, 3) := by decide +kernel
theorem dX9_sun_93 : decode cX9_sun 93 = .ok (.aload_n 0, 1) := by decide +kernel
theorem dX9_sun_94 : decode cX9_sun 94 = .ok (.getfield 19, 3) := by decide +kernel
theorem dX9_sun_97 : decode cX9_sun 97 = .ok (.iload 5, 2) := by decide +kernel
theorem dX9_sun_99 : decode cX9_sun 99 = .ok (.invokevirtual 143, 3) := by decide +kernel
theorem dX9_sun_102 : decode cX9_sun 102 = .ok (.if_icmp .lt 6, 3) := by decide +kernel
theorem dX9_sun_105 : decode cX9_sun 105 = .ok (.iinc 6 1, 3) := by decide +kernel
theorem dX9_sun_108 : decode cX9_sun 108 = .ok (.iinc 7 1, 3) := by decide +kernel
theorem dX9_sun_111 : decode cX9_sun 111 = .ok (.goto (-45), 3) := by decide +kernel
theorem dX9_sun_114 : decode cX9_sun 114 = .ok (.iload 6, 2) := by decide +kernel
theorem dX9_sun_116 : decode cX9_sun 116 = .ok (.ireturn, 1) := by decide +kernel
theorem dX9_band_0 : decode cX9_band 0 = .ok (.iload_n 1, 1) := by decide +kernel
theorem dX9_band_1 : decode cX9_band 1 = .ok (.invokestatic 128, 3) := by decide +kernel
theorem dX9_band_4 : decode cX9_band 4 = .ok (.ifCond .eq 15, 3) := by decide +kernel
theorem dX9_band_7 : decode cX9_band 7 = .ok (.iload_n 2, 1) := by decide +kernel
theorem dX9_band_8 : decode cX9_band 8 = .ok (.iconst 1, 1) := by decide +kernel
theorem dX9_band_9 : decode cX9_band 9 = .ok (.if_icmp .lt 10, 3) := by decide +kernel
theorem dX9_band_12 : decode cX9_band 12 = .ok (.iload_n 2, 1) := by decide +kernel
theorem dX9_band_13 : decode cX9_band 13 = .ok (.sipush 9999, 3) := by decide +kernel
theorem dX9_band_16 : decode cX9_band 16 = .ok (.if_icmp .le 5, 3) := by decide +kernel
theorem dX9_band_19 : decode cX9_band 19 = .ok (.iconst (-1), 1) := by decide +kernel
theorem dX9_band_20 : decode cX9_band 20 = .ok (.ireturn, 1) := by decide +kernel
theorem dX9_band_21 : decode cX9_band 21 = .ok (.iconst 0, 1) := by decide +kernel
theorem dX9_band_22 : decode cX9_band 22 = .ok (.istore_n 3, 1) := by decide +kernel
theorem dX9_band_23 : decode cX9_band 23 = .ok (.aload_n 0, 1) := by decide +kernel
theorem dX9_band_24 : decode cX9_band 24 = .ok (.getfield 19, 3) := by decide +kernel
theorem dX9_band_27 : decode cX9_band 27 = .ok (.aload_n 0, 1) := by decide +kernel
theorem dX9_band_28 : decode cX9_band 28 = .ok (.getfield 10, 3) := by decide +kernel
theorem dX9_band_31 : decode cX9_band 31 = .ok (.invokevirtual 169, 3) := by decide +kernel
theorem dX9_band_34 : decode cX9_band 34 = .ok (.iconst 0, 1) := by decide +kernel
theorem dX9_band_35 : decode cX9_band 35 = .ok (.istore 4, 2) := by decide +kernel
theorem dX9_band_37 : decode cX9_band 37 = .ok (.iload 4, 2) := by decide +kernel
theorem dX9_band_39 : decode cX9_band 39 = .ok (.iload_n 1, 1) := by decide +kernel
theorem dX9_band_40 : decode cX9_band 40 = .ok (.if_icmp .ge 34, 3) := by decide +kernel
theorem dX9_band_43 : decode cX9_band 43 = .ok (.aload_n 0, 1) := by decide +kernel
theorem dX9_band_44 : decode cX9_band 44 = .ok (.getfield 25, 3) := by decide +kernel
theorem dX9_band_47 : decode cX9_band 47 = .ok (.aload_n 0, 1) := by decide +kernel
theorem dX9_band_48 : decode cX9_band 48 = .ok (.getfield 19, 3) := by decide +kernel
theorem dX9_band_51 : decode cX9_band 51 = .ok (.aload_n 0, 1) := by decide +kernel
theorem dX9_band_52 : decode cX9_band 52 = .ok (.getfield 71, 3) := by decide +kernel
theorem dX9_band_55 : decode cX9_band 55 = .ok (.invokevirtual 135, 3) := by decide +kernel
theorem dX9_band_58 : decode cX9_band 58 = .ok (.iload_n 3, 1) := by decide +kernel
theorem dX9_band_59 : decode cX9_band 59 = .ok (.aload_n 0, 1) := by decide +kernel
theorem dX9_band_60 : decode cX9_band 60 = .ok (.iload_n 2, 1) := by decide +kernel
theorem dX9_band_61 : decode cX9_band 61 = .ok (.invokevirtual 179, 3) := by decide +kernel
theorem dX9_band_64 : decode cX9_band 64 = .ok (.invokestatic 182, 3) := by decide +kernel
theorem dX9_band_67 : decode cX9_band 67 = .ok (.istore_n 3, 1) := by decide +kernel
theorem dX9_band_68 : decode cX9_band 68 = .ok (.iinc 4 1, 3) := by decide +kernel
theorem dX9_band_71 : decode cX9_band 71 = .ok (.goto (-34), 3) := by decide +kernel
theorem dX9_band_74 : decode cX9_band 74 = .ok (.iload_n 3, 1) := by decide +kernel
theorem dX9_band_75 : decode cX9_band 75 = .ok (.bipush 99, 2) := by decide +kernel
theorem dX9_band_77 : decode cX9_band 77 = .ok (.if_icmp .le 8, 3) := by decide +kernel
theorem dX9_band_80 : decode cX9_band 80 = .ok (.bipush (-2), 2) := by decide +kernel
theorem dX9_band_82 : decode cX9_band 82 = .ok (.goto 4, 3) := by decide +kernel
theorem dX9_band_85 : decode cX9_band 85 = .ok (.iload_n 3, 1) := by decide +kernel
theorem dX9_band_86 : decode cX9_band 86 = .ok (.ireturn, 1) := by decide +kernel
theorem dX9_works_0 : decode cX9_works 0 = .ok (.iload_n 1, 1) := by decide +kernel
theorem dX9_works_1 : decode cX9_works 1 = .ok (.iload_n 2, 1) := by decide +kernel
theorem dX9_works_2 : decode cX9_works 2 = .ok (.invokestatic 94, 3) := by decide +kernel
theorem dX9_works_5 : decode cX9_works 5 = .ok (.ifCond .eq 19, 3) := by decide +kernel
theorem dX9_works_8 : decode cX9_works 8 = .ok (.iload_n 3, 1) := by decide +kernel
theorem dX9_works_9 : decode cX9_works 9 = .ok (.invokestatic 128, 3) := by decide +kernel
theorem dX9_works_12 : decode cX9_works 12 = .ok (.ifCond .eq 12, 3) := by decide +kernel
theorem dX9_works_15 : decode cX9_works 15 = .ok (.iload 4, 2) := by decide +kernel
theorem dX9_works_17 : decode cX9_works 17 = .ok (.iconst 3, 1) := by decide +kernel
theorem dX9_works_18 : decode cX9_works 18 = .ok (.invokestatic 98, 3) := by decide +kernel
theorem dX9_works_21 : decode cX9_works 21 = .ok (.ifCond .ne 5, 3) := by decide +kernel
theorem dX9_works_24 : decode cX9_works 24 = .ok (.iconst (-1), 1) := by decide +kernel
theorem dX9_works_25 : decode cX9_works 25 = .ok (.ireturn, 1) := by decide +kernel
theorem dX9_works_26 : decode cX9_works 26 = .ok (.bipush 12, 2) := by decide +kernel
theorem dX9_works_28 : decode cX9_works 28 = .ok (.iload_n 2, 1) := by decide +kernel
theorem dX9_works_29 : decode cX9_works 29 = .ok (.imul, 1) := by decide +kernel
theorem dX9_works_30 : decode cX9_works 30 = .ok (.iload_n 1, 1) := by decide +kernel
theorem dX9_works_31 : decode cX9_works 31 = .ok (.iadd, 1) := by decide +kernel
theorem dX9_works_32 : decode cX9_works 32 = .ok (.istore 5, 2) := by decide +kernel
theorem dX9_works_34 : decode cX9_works 34 = .ok (.aload_n 0, 1) := by decide +kernel
theorem dX9_works_35 : decode cX9_works 35 = .ok (.getfield 10, 3) := by decide +kernel
theorem dX9_works_38 : decode cX9_works 38 = .ok (.getfield 104, 3) := by decide +kernel
theorem dX9_works_41 : decode cX9_works 41 = .ok (.iload 5, 2) := by decide +kernel
theorem dX9_works_43 : decode cX9_works 43 = .ok (.iaload, 1) := by decide +kernel
theorem dX9_works_44 : decode cX9_works 44 = .ok (.iconst 2, 1) := by decide +kernel
theorem dX9_works_45 : decode cX9_works 45 = .ok (.if_icmp .ne 5, 3) := by decide +kernel
theorem dX9_works_48 : decode cX9_works 48 = .ok (.iconst (-1), 1) := by decide +kernel
theorem dX9_works_49 : decode cX9_works 49 = .ok (.ireturn, 1) := by decide +kernel
theorem dX9_works_50 : decode cX9_works 50 = .ok (.aload_n 0, 1) := by decide +kernel
theorem dX9_works_51 : decode cX9_works 51 = .ok (.iload_n 3, 1) := by decide +kernel
theorem dX9_works_52 : decode cX9_works 52 = .ok (.iconst (-1), 1) := by decide +kernel
theorem dX9_works_53 : decode cX9_works 53 = .ok (.invokevirtual 188, 3) := by decide +kernel
theorem dX9_works_56 : decode cX9_works 56 = .ok (.aload_n 0, 1) := by decide +kernel
theorem dX9_works_57 : decode cX9_works 57 = .ok (.getfield 19, 3) := by decide +kernel
theorem dX9_works_60 : decode cX9_works 60 = .ok (.getfield 107, 3) := by decide +kernel
theorem dX9_works_63 : decode cX9_works 63 = .ok (.iconst 0, 1) := by decide +kernel
theorem dX9_works_64 : decode cX9_works 64 = .ok (.aload_n 0, 1) := by decide +kernel
theorem dX9_works_65 : decode cX9_works 65 = .ok (.getfield 64, 3) := by decide +kernel
theorem dX9_works_68 : decode cX9_works 68 = .ok (.iconst 0, 1) := by decide +kernel
theorem dX9_works_69 : decode cX9_works 69 = .ok (.sipush 144, 3) := by decide +kernel
theorem dX9_works_72 : decode cX9_works 72 = .ok (.invokestatic 192, 3) := by decide +kernel
theorem dX9_works_75 : decode cX9_works 75 = .ok (.aload_n 0, 1) := by decide +kernel
theorem dX9_works_76 : decode cX9_works 76 = .ok (.iload_n 3, 1) := by decide +kernel
theorem dX9_works_77 : decode cX9_works 77 = .ok (.iload 5, 2) := by decide +kernel
theorem dX9_works_79 : decode cX9_works 79 = .ok (.invokevirtual 188, 3) := by decide +kernel
theorem dX9_works_82 : decode cX9_works 82 = .ok (.aload_n 0, 1) := by decide +kernel
theorem dX9_works_83 : decode cX9_works 83 = .ok (.iload 4, 2) := by decide +kernel
theorem dX9_works_85 : decode cX9_works 85 = .ok (.invokevirtual 198, 3) := by decide +kernel
theorem dX9_works_88 : decode cX9_works 88 = .ok (.ireturn, 1) := by decide +kernel
theorem dX9_dam_0 : decode cX9_dam 0 = .ok (.iload_n 1, 1) := by decide +kernel
theorem dX9_dam_1 : decode cX9_dam 1 = .ok (.sipush 143, 3) := by decide +kernel
theorem dX9_dam_4 : decode cX9_dam 4 = .ok (.invokestatic 98, 3) := by decide +kernel
theorem dX9_dam_7 : decode cX9_dam 7 = .ok (.ifCond .eq 22, 3) := by decide +kernel
theorem dX9_dam_10 : decode cX9_dam 10 = .ok (.iload_n 2, 1) := by decide +kernel
theorem dX9_dam_11 : decode cX9_dam 11 = .ok (.iconst 1, 1) := by decide +kernel
theorem dX9_dam_12 : decode cX9_dam 12 = .ok (.if_icmp .lt 17, 3) := by decide +kernel
theorem dX9_dam_15 : decode cX9_dam 15 = .ok (.iload_n 2, 1) := by decide +kernel
theorem dX9_dam_16 : decode cX9_dam 16 = .ok (.bipush 20, 2) := by decide +kernel
theorem dX9_dam_18 : decode cX9_dam 18 = .ok (.if_icmp .gt 11, 3) := by decide +kernel
theorem dX9_dam_21 : decode cX9_dam 21 = .ok (.iload_n 3, 1) := by decide +kernel
theorem dX9_dam_22 : decode cX9_dam 22 = .ok (.iconst 1, 1) := by decide +kernel
theorem dX9_dam_23 : decode cX9_dam 23 = .ok (.invokestatic 98, 3) := by decide +kernel
theorem dX9_dam_26 : decode cX9_dam 26 = .ok (.ifCond .ne 5, 3) := by decide +kernel
theorem dX9_dam_29 : decode cX9_dam 29 = .ok (.iconst (-1), 1) := by decide +kernel
theorem dX9_dam_30 : decode cX9_dam 30 = .ok (.ireturn, 1) := by decide +kernel
theorem dX9_dam_31 : decode cX9_dam 31 = .ok (.bipush (-2), 2) := by decide +kernel
theorem dX9_dam_33 : decode cX9_dam 33 = .ok (.istore 4, 2) := by decide +kernel
theorem dX9_dam_35 : decode cX9_dam 35 = .ok (.sipush 10000, 3) := by decide +kernel
theorem dX9_dam_38 : decode cX9_dam 38 = .ok (.istore 5, 2) := by decide +kernel
theorem dX9_dam_40 : decode cX9_dam 40 = .ok (.iconst 0, 1) := by decide +kernel
theorem dX9_dam_41 : decode cX9_dam 41 = .ok (.istore 6, 2) := by decide +kernel
theorem dX9_dam_43 : decode cX9_dam 43 = .ok (.iload 6, 2) := by decide +kernel
theorem dX9_dam_45 : decode cX9_dam 45 = .ok (.sipush 144, 3) := by decide +kernel
theorem dX9_dam_48 : decode cX9_dam 48 = .ok (.if_icmp .ge 59, 3) := by decide +kernel
theorem dX9_dam_51 : decode cX9_dam 51 = .ok (.iload 5, 2) := by decide +kernel
theorem dX9_dam_53 : decode cX9_dam 53 = .ok (.ifCond .le 54, 3) := by decide +kernel
theorem dX9_dam_56 : decode cX9_dam 56 = .ok (.iload 6, 2) := by decide +kernel
theorem dX9_dam_58 : decode cX9_dam 58 = .ok (.iload_n 1, 1) := by decide +kernel
theorem dX9_dam_59 : decode cX9_dam 59 = .ok (.if_icmp .ne 6, 3) := by decide +kernel
theorem dX9_dam_62 : decode cX9_dam 62 = .ok (.goto 39, 3) := by decide +kernel
theorem dX9_dam_65 : decode cX9_dam 65 = .ok (.aload_n 0, 1) := by decide +kernel
theorem dX9_dam_66 : decode cX9_dam 66 = .ok (.iload_n 2, 1) := by decide +kernel
theorem dX9_dam_67 : decode cX9_dam 67 = .ok (.iload 6, 2) := by decide +kernel
theorem dX9_dam_69 : decode cX9_dam 69 = .ok (.invokevirtual 188, 3) := by decide +kernel
theorem dX9_dam_72 : decode cX9_dam 72 = .ok (.aload_n 0, 1) := by decide +kernel
theorem dX9_dam_73 : decode cX9_dam 73 = .ok (.getfield 19, 3) := by decide +kernel
theorem dX9_dam_76 : decode cX9_dam 76 = .ok (.getfield 107, 3) := by decide +kernel
theorem dX9_dam_79 : decode cX9_dam 79 = .ok (.iload_n 1, 1) := by decide +kernel
theorem dX9_dam_80 : decode cX9_dam 80 = .ok (.iaload, 1) := by decide +kernel
theorem dX9_dam_81 : decode cX9_dam 81 = .ok (.iload 5, 2) := by decide +kernel
theorem dX9_dam_83 : decode cX9_dam 83 = .ok (.if_icmp .ge 18, 3) := by decide +kernel
theorem dX9_dam_86 : decode cX9_dam 86 = .ok (.iload 6, 2) := by decide +kernel
theorem dX9_dam_88 : decode cX9_dam 88 = .ok (.istore 4, 2) := by decide +kernel
theorem dX9_dam_90 : decode cX9_dam 90 = .ok (.aload_n 0, 1) := by decide +kernel
theorem dX9_dam_91 : decode cX9_dam 91 = .ok (.getfield 19, 3) := by decide +kernel
theorem dX9_dam_94 : decode cX9_dam 94 = .ok (.getfield 107, 3) := by decide +kernel
theorem dX9_dam_97 : decode cX9_dam 97 = .ok (.iload_n 1, 1) := by decide +kernel
theorem dX9_dam_98 : decode cX9_dam 98 = .ok (.iaload, 1) := by decide +kernel
theorem dX9_dam_99 : decode cX9_dam 99 = .ok (.istore 5, 2) := by decide +kernel
theorem dX9_dam_101 : decode cX9_dam 101 = .ok (.iinc 6 1, 3) := by decide +kernel
theorem dX9_dam_104 : decode cX9_dam 104 = .ok (.goto (-61), 3) := by decide +kernel
theorem dX9_dam_107 : decode cX9_dam 107 = .ok (.iload_n 3, 1) := by decide +kernel
theorem dX9_dam_108 : decode cX9_dam 108 = .ok (.ifCond .ne 8, 3) := by decide +kernel
theorem dX9_dam_111 : decode cX9_dam 111 = .ok (.iload 4, 2) := by decide +kernel
theorem dX9_dam_113 : decode cX9_dam 113 = .ok (.goto 5, 3) := by decide +kernel
theorem dX9_dam_116 : decode cX9_dam 116 = .ok (.iload 5, 2) := by decide +kernel
theorem dX9_dam_118 : decode cX9_dam 118 = .ok (.ireturn, 1) := by decide +kernel
theorem dX9_road_0 : decode cX9_road 0 = .ok (.iload_n 1, 1) := by decide +kernel
theorem dX9_road_1 : decode cX9_road 1 = .ok (.bipush 19, 2) := by decide +kernel
theorem dX9_road_3 : decode cX9_road 3 = .ok (.invokestatic 98, 3) := by decide +kernel
theorem dX9_road_6 : decode cX9_road 6 = .ok (.ifCond .eq 26, 3) := by decide +kernel
theorem dX9_road_9 : decode cX9_road 9 = .ok (.iload_n 2, 1) := by decide +kernel
theorem dX9_road_10 : decode cX9_road 10 = .ok (.bipush 9, 2) := by decide +kernel
theorem dX9_road_12 : decode cX9_road 12 = .ok (.invokestatic 98, 3) := by decide +kernel
theorem dX9_road_15 : decode cX9_road 15 = .ok (.ifCond .eq 17, 3) := by decide +kernel
theorem dX9_road_18 : decode cX9_road 18 = .ok (.iload_n 3, 1) := by decide +kernel
theorem dX9_road_19 : decode cX9_road 19 = .ok (.bipush 9, 2) := by decide +kernel
theorem dX9_road_21 : decode cX9_road 21 = .ok (.invokestatic 98, 3) := by decide +kernel
theorem dX9_road_24 : decode cX9_road 24 = .ok (.ifCond .eq 8, 3) := by decide +kernel
theorem dX9_road_27 : decode cX9_road 27 = .ok (.iload_n 2, 1) := by decide +kernel
theorem dX9_road_28 : decode cX9_road 28 = .ok (.iload_n 3, 1) := by decide +kernel
theorem dX9_road_29 : decode cX9_road 29 = .ok (.if_icmp .ne 5, 3) := by decide +kernel
theorem dX9_road_32 : decode cX9_road 32 = .ok (.iconst 0, 1) := by decide +kernel
theorem dX9_road_33 : decode cX9_road 33 = .ok (.ireturn, 1) := by decide +kernel
theorem dX9_road_34 : decode cX9_road 34 = .ok (.iload 4, 2) := by decide +kernel
theorem dX9_road_36 : decode cX9_road 36 = .ok (.iconst 1, 1) := by decide +kernel
theorem dX9_road_37 : decode cX9_road 37 = .ok (.if_icmp .lt 21, 3) := by decide +kernel
theorem dX9_road_40 : decode cX9_road 40 = .ok (.iload 4, 2) := by decide +kernel
theorem dX9_road_42 : decode cX9_road 42 = .ok (.bipush 99, 2) := by decide +kernel
theorem dX9_road_44 : decode cX9_road 44 = .ok (.if_icmp .gt 14, 3) := by decide +kernel
theorem dX9_road_47 : decode cX9_road 47 = .ok (.iload 5, 2) := by decide +kernel
theorem dX9_road_49 : decode cX9_road 49 = .ok (.sipush 143, 3) := by decide +kernel
theorem dX9_road_52 : decode cX9_road 52 = .ok (.invokestatic 98, 3) := by decide +kernel
theorem dX9_road_55 : decode cX9_road 55 = .ok (.ifCond .ne 5, 3) := by decide +kernel
theorem dX9_road_58 : decode cX9_road 58 = .ok (.iconst 0, 1) := by decide +kernel
theorem dX9_road_59 : decode cX9_road 59 = .ok (.ireturn, 1) := by decide +kernel
theorem dX9_road_60 : decode cX9_road 60 = .ok (.aload_n 0, 1) := by decide +kernel
theorem dX9_road_61 : decode cX9_road 61 = .ok (.getfield 39, 3) := by decide +kernel
theorem dX9_road_64 : decode cX9_road 64 = .ok (.getfield 201, 3) := by decide +kernel
theorem dX9_road_67 : decode cX9_road 67 = .ok (.iload_n 1, 1) := by decide +kernel
theorem dX9_road_68 : decode cX9_road 68 = .ok (.iconst 1, 1) := by decide +kernel
theorem dX9_road_69 : decode cX9_road 69 = .ok (.iload_n 2, 1) := by decide +kernel
theorem dX9_road_70 : decode cX9_road 70 = .ok (.ishl, 1) := by decide +kernel
theorem dX9_road_71 : decode cX9_road 71 = .ok (.iconst 1, 1) := by decide +kernel
theorem dX9_road_72 : decode cX9_road 72 = .ok (.iload_n 3, 1) := by decide +kernel
theorem dX9_road_73 : decode cX9_road 73 = .ok (.ishl, 1) := by decide +kernel
theorem dX9_road_74 : decode cX9_road 74 = .ok (.ior, 1) := by decide +kernel
theorem dX9_road_75 : decode cX9_road 75 = .ok (.iastore, 1) := by decide +kernel
theorem dX9_road_76 : decode cX9_road 76 = .ok (.aload_n 0, 1) := by decide +kernel
theorem dX9_road_77 : decode cX9_road 77 = .ok (.getfield 39, 3) := by decide +kernel
theorem dX9_road_80 : decode cX9_road 80 = .ok (.getfield 204, 3) := by decide +kernel
theorem dX9_road_83 : decode cX9_road 83 = .ok (.iload_n 1, 1) := by decide +kernel
theorem dX9_road_84 : decode cX9_road 84 = .ok (.iload 4, 2) := by decide +kernel
theorem dX9_road_86 : decode cX9_road 86 = .ok (.iastore, 1) := by decide +kernel
theorem dX9_road_87 : decode cX9_road 87 = .ok (.aload_n 0, 1) := by decide +kernel
theorem dX9_road_88 : decode cX9_road 88 = .ok (.getfield 39, 3) := by decide +kernel
theorem dX9_road_91 : decode cX9_road 91 = .ok (.getfield 207, 3) := by decide +kernel
theorem dX9_road_94 : decode cX9_road 94 = .ok (.iload_n 1, 1) := by decide +kernel
theorem dX9_road_95 : decode cX9_road 95 = .ok (.iload 5, 2) := by decide +kernel
theorem dX9_road_97 : decode cX9_road 97 = .ok (.iastore, 1) := by decide +kernel
theorem dX9_road_98 : decode cX9_road 98 = .ok (.aload_n 0, 1) := by decide +kernel
theorem dX9_road_99 : decode cX9_road 99 = .ok (.getfield 39, 3) := by decide +kernel
theorem dX9_road_102 : decode cX9_road 102 = .ok (.dup, 1) := by decide +kernel
theorem dX9_road_103 : decode cX9_road 103 = .ok (.getfield 210, 3) := by decide +kernel
theorem dX9_road_106 : decode cX9_road 106 = .ok (.iconst 1, 1) := by decide +kernel
theorem dX9_road_107 : decode cX9_road 107 = .ok (.iload_n 1, 1) := by decide +kernel
theorem dX9_road_108 : decode cX9_road 108 = .ok (.ishl, 1) := by decide +kernel
theorem dX9_road_109 : decode cX9_road 109 = .ok (.ior, 1) := by decide +kernel
theorem dX9_road_110 : decode cX9_road 110 = .ok (.putfield 210, 3) := by decide +kernel
theorem dX9_road_113 : decode cX9_road 113 = .ok (.iconst 1, 1) := by decide +kernel
theorem dX9_road_114 : decode cX9_road 114 = .ok (.ireturn, 1) := by decide +kernel
theorem dX9_soonest_0 : decode cX9_soonest 0 = .ok (.iload_n 1, 1) := by decide +kernel
theorem dX9_soonest_1 : decode cX9_soonest 1 = .ok (.bipush 9, 2) := by decide +kernel
theorem dX9_soonest_3 : decode cX9_soonest 3 = .ok (.invokestatic 98, 3) := by decide +kernel
theorem dX9_soonest_6 : decode cX9_soonest 6 = .ok (.ifCond .eq 31, 3) := by decide +kernel
theorem dX9_soonest_9 : decode cX9_soonest 9 = .ok (.iload_n 2, 1) := by decide +kernel
theorem dX9_soonest_10 : decode cX9_soonest 10 = .ok (.bipush 9, 2) := by decide +kernel
theorem dX9_soonest_12 : decode cX9_soonest 12 = .ok (.invokestatic 98, 3) := by decide +kernel
theorem dX9_soonest_15 : decode cX9_soonest 15 = .ok (.ifCond .eq 22, 3) := by decide +kernel
theorem dX9_soonest_18 : decode cX9_soonest 18 = .ok (.iload_n 3, 1) := by decide +kernel
theorem dX9_soonest_19 : decode cX9_soonest 19 = .ok (.sipush 299, 3) := by decide +kernel
theorem dX9_soonest_22 : decode cX9_soonest 22 = .ok (.invokestatic 98, 3) := by decide +kernel
theorem dX9_soonest_25 : decode cX9_soonest 25 = .ok (.ifCond .eq 12, 3) := by decide +kernel
theorem dX9_soonest_28 : decode cX9_soonest 28 = .ok (.iload 4, 2) := by decide +kernel
theorem dX9_soonest_30 : decode cX9_soonest 30 = .ok (.iconst 1, 1) := by decide +kernel
theorem dX9_soonest_31 : decode cX9_soonest 31 = .ok (.invokestatic 98, 3) := by decide +kernel
theorem dX9_soonest_34 : decode cX9_soonest 34 = .ok (.ifCond .ne 5, 3) := by decide +kernel
theorem dX9_soonest_37 : decode cX9_soonest 37 = .ok (.iconst (-1), 1) := by decide +kernel
theorem dX9_soonest_38 : decode cX9_soonest 38 = .ok (.ireturn, 1) := by decide +kernel
theorem dX9_soonest_39 : decode cX9_soonest 39 = .ok (.aload_n 0, 1) := by decide +kernel
theorem dX9_soonest_40 : decode cX9_soonest 40 = .ok (.getfield 39, 3) := by decide +kernel
theorem dX9_soonest_43 : decode cX9_soonest 43 = .ok (.iload_n 1, 1) := by decide +kernel
theorem dX9_soonest_44 : decode cX9_soonest 44 = .ok (.iload_n 3, 1) := by decide +kernel
theorem dX9_soonest_45 : decode cX9_soonest 45 = .ok (.invokevirtual 213, 3) := by decide +kernel
theorem dX9_soonest_48 : decode cX9_soonest 48 = .ok (.aload_n 0, 1) := by decide +kernel
theorem dX9_soonest_49 : decode cX9_soonest 49 = .ok (.getfield 19, 3) := by decide +kernel
theorem dX9_soonest_52 : decode cX9_soonest 52 = .ok (.aload_n 0, 1) := by decide +kernel
theorem dX9_soonest_53 : decode cX9_soonest 53 = .ok (.getfield 10, 3) := by decide +kernel
theorem dX9_soonest_56 : decode cX9_soonest 56 = .ok (.invokevirtual 169, 3) := by decide +kernel
theorem dX9_soonest_59 : decode cX9_soonest 59 = .ok (.iconst 0, 1) := by decide +kernel
theorem dX9_soonest_60 : decode cX9_soonest 60 = .ok (.istore 5, 2) := by decide +kernel
theorem dX9_soonest_62 : decode cX9_soonest 62 = .ok (.iload 5, 2) := by decide +kernel
theorem dX9_soonest_64 : decode cX9_soonest 64 = .ok (.bipush 30, 2) := by decide +kernel
theorem dX9_soonest_66 : decode cX9_soonest 66 = .ok (.if_icmp .ge 74, 3) := by decide +kernel
theorem dX9_soonest_69 : decode cX9_soonest 69 = .ok (.aload_n 0, 1) := by decide +kernel
theorem dX9_soonest_70 : decode cX9_soonest 70 = .ok (.getfield 39, 3) := by decide +kernel
theorem dX9_soonest_73 : decode cX9_soonest 73 = .ok (.aload_n 0, 1) := by decide +kernel
theorem dX9_soonest_74 : decode cX9_soonest 74 = .ok (.getfield 19, 3) := by decide +kernel
theorem dX9_soonest_77 : decode cX9_soonest 77 = .ok (.aload_n 0, 1) := by decide +kernel
theorem dX9_soonest_78 : decode cX9_soonest 78 = .ok (.getfield 71, 3) := by decide +kernel
theorem dX9_soonest_81 : decode cX9_soonest 81 = .ok (.invokevirtual 216, 3) := by decide +kernel
theorem dX9_soonest_84 : decode cX9_soonest 84 = .ok (.aload_n 0, 1) := by decide +kernel
theorem dX9_soonest_85 : decode cX9_soonest 85 = .ok (.getfield 39, 3) := by decide +kernel
theorem dX9_soonest_88 : decode cX9_soonest 88 = .ok (.iload_n 2, 1) := by decide +kernel
theorem dX9_soonest_89 : decode cX9_soonest 89 = .ok (.bipush 10, 2) := by decide +kernel
theorem dX9_soonest_91 : decode cX9_soonest 91 = .ok (.iload 5, 2) := by decide +kernel
theorem dX9_soonest_93 : decode cX9_soonest 93 = .ok (.imul, 1) := by decide +kernel
theorem dX9_soonest_94 : decode cX9_soonest 94 = .ok (.iload 4, 2) := by decide +kernel
theorem dX9_soonest_96 : decode cX9_soonest 96 = .ok (.ifCond .ne 7, 3) := by decide +kernel
theorem dX9_soonest_99 : decode cX9_soonest 99 = .ok (.iconst 1, 1) := by decide +kernel
theorem dX9_soonest_100 : decode cX9_soonest 100 = .ok (.goto 4, 3) := by decide +kernel
theorem dX9_soonest_103 : decode cX9_soonest 103 = .ok (.iconst 0, 1) := by decide +kernel
theorem dX9_soonest_104 : decode cX9_soonest 104 = .ok (.invokevirtual 217, 3) := by decide +kernel
theorem dX9_soonest_107 : decode cX9_soonest 107 = .ok (.istore 6, 2) := by decide +kernel
theorem dX9_soonest_109 : decode cX9_soonest 109 = .ok (.iload 6, 2) := by decide +kernel
theorem dX9_soonest_111 : decode cX9_soonest 111 = .ok (.bipush (-2), 2) := by decide +kernel
theorem dX9_soonest_113 : decode cX9_soonest 113 = .ok (.if_icmp .eq 6, 3) := by decide +kernel
theorem dX9_soonest_116 : decode cX9_soonest 116 = .ok (.iload 6, 2) := by decide +kernel
theorem dX9_soonest_118 : decode cX9_soonest 118 = .ok (.ireturn, 1) := by decide +kernel
theorem dX9_soonest_119 : decode cX9_soonest 119 = .ok (.aload_n 0, 1) := by decide +kernel
theorem dX9_soonest_120 : decode cX9_soonest 120 = .ok (.getfield 25, 3) := by decide +kernel
theorem dX9_soonest_123 : decode cX9_soonest 123 = .ok (.aload_n 0, 1) := by decide +kernel
theorem dX9_soonest_124 : decode cX9_soonest 124 = .ok (.getfield 19, 3) := by decide +kernel
theorem dX9_soonest_127 : decode cX9_soonest 127 = .ok (.aload_n 0, 1) := by decide +kernel
theorem dX9_soonest_128 : decode cX9_soonest 128 = .ok (.getfield 71, 3) := by decide +kernel
theorem dX9_soonest_131 : decode cX9_soonest 131 = .ok (.invokevirtual 135, 3) := by decide +kernel
theorem dX9_soonest_134 : decode cX9_soonest 134 = .ok (.iinc 5 1, 3) := by decide +kernel
theorem dX9_soonest_137 : decode cX9_soonest 137 = .ok (.goto (-75), 3) := by decide +kernel
theorem dX9_soonest_140 : decode cX9_soonest 140 = .ok (.aload_n 0, 1) := by decide +kernel
theorem dX9_soonest_141 : decode cX9_soonest 141 = .ok (.getfield 39, 3) := by decide +kernel
theorem dX9_soonest_144 : decode cX9_soonest 144 = .ok (.iload_n 2, 1) := by decide +kernel
theorem dX9_soonest_145 : decode cX9_soonest 145 = .ok (.sipush 300, 3) := by decide +kernel
theorem dX9_soonest_148 : decode cX9_soonest 148 = .ok (.invokevirtual 221, 3) := by decide +kernel
theorem dX9_soonest_151 : decode cX9_soonest 151 = .ok (.ifCond .eq 9, 3) := by decide +kernel
theorem dX9_soonest_154 : decode cX9_soonest 154 = .ok (.sipush 300, 3) := by decide +kernel
theorem dX9_soonest_157 : decode cX9_soonest 157 = .ok (.goto 5, 3) := by decide +kernel
theorem dX9_soonest_160 : decode cX9_soonest 160 = .ok (.bipush (-2), 2) := by decide +kernel
theorem dX9_soonest_162 : decode cX9_soonest 162 = .ok (.ireturn, 1) := by decide +kernel
theorem dX9_edge_0 : decode cX9_edge 0 = .ok (.iload_n 1, 1) := by decide +kernel
theorem dX9_edge_1 : decode cX9_edge 1 = .ok (.iconst 2, 1) := by decide +kernel
theorem dX9_edge_2 : decode cX9_edge 2 = .ok (.invokestatic 98, 3) := by decide +kernel
theorem dX9_edge_5 : decode cX9_edge 5 = .ok (.ifCond .ne 5, 3) := by decide +kernel
theorem dX9_edge_8 : decode cX9_edge 8 = .ok (.iconst (-1), 1) := by decide +kernel
theorem dX9_edge_9 : decode cX9_edge 9 = .ok (.ireturn, 1) := by decide +kernel
theorem dX9_edge_10 : decode cX9_edge 10 = .ok (.aload_n 0, 1) := by decide +kernel
theorem dX9_edge_11 : decode cX9_edge 11 = .ok (.getfield 39, 3) := by decide +kernel
theorem dX9_edge_14 : decode cX9_edge 14 = .ok (.aload_n 0, 1) := by decide +kernel
theorem dX9_edge_15 : decode cX9_edge 15 = .ok (.getfield 10, 3) := by decide +kernel
theorem dX9_edge_18 : decode cX9_edge 18 = .ok (.aload_n 0, 1) := by decide +kernel
theorem dX9_edge_19 : decode cX9_edge 19 = .ok (.getfield 71, 3) := by decide +kernel
theorem dX9_edge_22 : decode cX9_edge 22 = .ok (.invokevirtual 216, 3) := by decide +kernel
theorem dX9_edge_25 : decode cX9_edge 25 = .ok (.bipush (-2), 2) := by decide +kernel
theorem dX9_edge_27 : decode cX9_edge 27 = .ok (.istore_n 2, 1) := by decide +kernel
theorem dX9_edge_28 : decode cX9_edge 28 = .ok (.bipush (-2), 2) := by decide +kernel
theorem dX9_edge_30 : decode cX9_edge 30 = .ok (.istore_n 3, 1) := by decide +kernel
theorem dX9_edge_31 : decode cX9_edge 31 = .ok (.bipush (-2), 2) := by decide +kernel
theorem dX9_edge_33 : decode cX9_edge 33 = .ok (.istore 4, 2) := by decide +kernel
theorem dX9_edge_35 : decode cX9_edge 35 = .ok (.iconst 0, 1) := by decide +kernel
theorem dX9_edge_36 : decode cX9_edge 36 = .ok (.istore 5, 2) := by decide +kernel
theorem dX9_edge_38 : decode cX9_edge 38 = .ok (.iload 5, 2) := by decide +kernel
theorem dX9_edge_40 : decode cX9_edge 40 = .ok (.bipush 20, 2) := by decide +kernel
theorem dX9_edge_42 : decode cX9_edge 42 = .ok (.if_icmp .ge 103, 3) := by decide +kernel
theorem dX9_edge_45 : decode cX9_edge 45 = .ok (.iload 5, 2) := by decide +kernel
theorem dX9_edge_47 : decode cX9_edge 47 = .ok (.iconst 1, 1) := by decide +kernel
theorem dX9_edge_48 : decode cX9_edge 48 = .ok (.iadd, 1) := by decide +kernel
theorem dX9_edge_49 : decode cX9_edge 49 = .ok (.istore 6, 2) := by decide +kernel
theorem dX9_edge_51 : decode cX9_edge 51 = .ok (.iload 6, 2) := by decide +kernel
theorem dX9_edge_53 : decode cX9_edge 53 = .ok (.bipush 20, 2) := by decide +kernel
theorem dX9_edge_55 : decode cX9_edge 55 = .ok (.if_icmp .ge 84, 3) := by decide +kernel
theorem dX9_edge_58 : decode cX9_edge 58 = .ok (.aload_n 0, 1) := by decide +kernel
theorem dX9_edge_59 : decode cX9_edge 59 = .ok (.getfield 39, 3) := by decide +kernel
theorem dX9_edge_62 : decode cX9_edge 62 = .ok (.iload 5, 2) := by decide +kernel
theorem dX9_edge_64 : decode cX9_edge 64 = .ok (.iload 6, 2) := by decide +kernel
theorem dX9_edge_66 : decode cX9_edge 66 = .ok (.invokevirtual 224, 3) := by decide +kernel
theorem dX9_edge_69 : decode cX9_edge 69 = .ok (.ifCond .eq 64, 3) := by decide +kernel
theorem dX9_edge_72 : decode cX9_edge 72 = .ok (.aload_n 0, 1) := by decide +kernel
theorem dX9_edge_73 : decode cX9_edge 73 = .ok (.getfield 39, 3) := by decide +kernel
theorem dX9_edge_76 : decode cX9_edge 76 = .ok (.getfield 227, 3) := by decide +kernel
theorem dX9_edge_79 : decode cX9_edge 79 = .ok (.iload 5, 2) := by decide +kernel
theorem dX9_edge_81 : decode cX9_edge 81 = .ok (.iaload, 1) := by decide +kernel
theorem dX9_edge_82 : decode cX9_edge 82 = .ok (.aload_n 0, 1) := by decide +kernel
theorem dX9_edge_83 : decode cX9_edge 83 = .ok (.getfield 39, 3) := by decide +kernel
theorem dX9_edge_86 : decode cX9_edge 86 = .ok (.getfield 227, 3) := by decide +kernel
theorem dX9_edge_89 : decode cX9_edge 89 = .ok (.iload 6, 2) := by decide +kernel
theorem dX9_edge_91 : decode cX9_edge 91 = .ok (.iaload, 1) := by decide +kernel
theorem dX9_edge_92 : decode cX9_edge 92 = .ok (.isub, 1) := by decide +kernel
theorem dX9_edge_93 : decode cX9_edge 93 = .ok (.invokestatic 229, 3) := by decide +kernel
theorem dX9_edge_96 : decode cX9_edge 96 = .ok (.iload 4, 2) := by decide +kernel
theorem dX9_edge_98 : decode cX9_edge 98 = .ok (.if_icmp .le 35, 3) := by decide +kernel
theorem dX9_edge_101 : decode cX9_edge 101 = .ok (.iload 5, 2) := by decide +kernel
theorem dX9_edge_103 : decode cX9_edge 103 = .ok (.istore_n 2, 1) := by decide +kernel
theorem dX9_edge_104 : decode cX9_edge 104 = .ok (.iload 6, 2) := by decide +kernel
theorem dX9_edge_106 : decode cX9_edge 106 = .ok (.istore_n 3, 1) := by decide +kernel
theorem dX9_edge_107 : decode cX9_edge 107 = .ok (.aload_n 0, 1) := by decide +kernel
theorem dX9_edge_108 : decode cX9_edge 108 = .ok (.getfield 39, 3) := by decide +kernel
theorem dX9_edge_111 : decode cX9_edge 111 = .ok (.getfield 227, 3) := by decide +kernel
theorem dX9_edge_114 : decode cX9_edge 114 = .ok (.iload 5, 2) := by decide +kernel
theorem dX9_edge_116 : decode cX9_edge 116 = .ok (.iaload, 1) := by decide +kernel
theorem dX9_edge_117 : decode cX9_edge 117 = .ok (.aload_n 0, 1) := by decide +kernel
theorem dX9_edge_118 : decode cX9_edge 118 = .ok (.getfield 39, 3) := by decide +kernel
theorem dX9_edge_121 : decode cX9_edge 121 = .ok (.getfield 227, 3) := by decide +kernel
theorem dX9_edge_124 : decode cX9_edge 124 = .ok (.iload 6, 2) := by decide +kernel
theorem dX9_edge_126 : decode cX9_edge 126 = .ok (.iaload, 1) := by decide +kernel
theorem dX9_edge_127 : decode cX9_edge 127 = .ok (.isub, 1) := by decide +kernel
theorem dX9_edge_128 : decode cX9_edge 128 = .ok (.invokestatic 229, 3) := by decide +kernel
theorem dX9_edge_131 : decode cX9_edge 131 = .ok (.istore 4, 2) := by decide +kernel
theorem dX9_edge_133 : decode cX9_edge 133 = .ok (.iinc 6 1, 3) := by decide +kernel
theorem dX9_edge_136 : decode cX9_edge 136 = .ok (.goto (-85), 3) := by decide +kernel
theorem dX9_edge_139 : decode cX9_edge 139 = .ok (.iinc 5 1, 3) := by decide +kernel
theorem dX9_edge_142 : decode cX9_edge 142 = .ok (.goto (-104), 3) := by decide +kernel
theorem dX9_edge_145 : decode cX9_edge 145 = .ok (.iload_n 1, 1) := by decide +kernel
theorem dX9_edge_146 : decode cX9_edge 146 = .ok (.ifCond .ne 5, 3) := by decide +kernel
theorem dX9_edge_149 : decode cX9_edge 149 = .ok (.iload_n 2, 1) := by decide +kernel
theorem dX9_edge_150 : decode cX9_edge 150 = .ok (.ireturn, 1) := by decide +kernel
theorem dX9_edge_151 : decode cX9_edge 151 = .ok (.iload_n 1, 1) := by decide +kernel
theorem dX9_edge_152 : decode cX9_edge 152 = .ok (.iconst 1, 1) := by decide +kernel
theorem dX9_edge_153 : decode cX9_edge 153 = .ok (.if_icmp .ne 7, 3) := by decide +kernel
theorem dX9_edge_156 : decode cX9_edge 156 = .ok (.iload_n 3, 1) := by decide +kernel
theorem dX9_edge_157 : decode cX9_edge 157 = .ok (.goto 5, 3) := by decide +kernel
theorem dX9_edge_160 : decode cX9_edge 160 = .ok (.iload 4, 2) := by decide +kernel
theorem dX9_edge_162 : decode cX9_edge 162 = .ok (.ireturn, 1) := by decide +kernel
theorem dX9_was_0 : decode cX9_was 0 = .ok (.iload_n 1, 1) := by decide +kernel
theorem dX9_was_1 : decode cX9_was 1 = .ok (.iload_n 2, 1) := by decide +kernel
theorem dX9_was_2 : decode cX9_was 2 = .ok (.iload_n 3, 1) := by decide +kernel
theorem dX9_was_3 : decode cX9_was 3 = .ok (.invokestatic 232, 3) := by decide +kernel
theorem dX9_was_6 : decode cX9_was 6 = .ok (.ifCond .eq 36, 3) := by decide +kernel
theorem dX9_was_9 : decode cX9_was 9 = .ok (.iload 4, 2) := by decide +kernel
theorem dX9_was_11 : decode cX9_was 11 = .ok (.bipush 99, 2) := by decide +kernel
theorem dX9_was_13 : decode cX9_was 13 = .ok (.invokestatic 98, 3) := by decide +kernel
theorem dX9_was_16 : decode cX9_was 16 = .ok (.ifCond .eq 26, 3) := by decide +kernel
theorem dX9_was_19 : decode cX9_was 19 = .ok (.iload 5, 2) := by decide +kernel
theorem dX9_was_21 : decode cX9_was 21 = .ok (.sipush 999, 3) := by decide +kernel
theorem dX9_was_24 : decode cX9_was 24 = .ok (.invokestatic 98, 3) := by decide +kernel
theorem dX9_was_27 : decode cX9_was 27 = .ok (.ifCond .eq 15, 3) := by decide +kernel
theorem dX9_was_30 : decode cX9_was 30 = .ok (.aload_n 0, 1) := by decide +kernel
theorem dX9_was_31 : decode cX9_was 31 = .ok (.getfield 46, 3) := by decide +kernel
theorem dX9_was_34 : decode cX9_was 34 = .ok (.getfield 236, 3) := by decide +kernel
theorem dX9_was_37 : decode cX9_was 37 = .ok (.bipush 60, 2) := by decide +kernel
theorem dX9_was_39 : decode cX9_was 39 = .ok (.if_icmp .lt 5, 3) := by decide +kernel
theorem dX9_was_42 : decode cX9_was 42 = .ok (.iconst (-1), 1) := by decide +kernel
theorem dX9_was_43 : decode cX9_was 43 = .ok (.ireturn, 1) := by decide +kernel
theorem dX9_was_44 : decode cX9_was 44 = .ok (.aload_n 0, 1) := by decide +kernel
theorem dX9_was_45 : decode cX9_was 45 = .ok (.getfield 46, 3) := by decide +kernel
theorem dX9_was_48 : decode cX9_was 48 = .ok (.getfield 236, 3) := by decide +kernel
theorem dX9_was_51 : decode cX9_was 51 = .ok (.istore 6, 2) := by decide +kernel
theorem dX9_was_53 : decode cX9_was 53 = .ok (.aload_n 0, 1) := by decide +kernel
theorem dX9_was_54 : decode cX9_was 54 = .ok (.getfield 46, 3) := by decide +kernel
theorem dX9_was_57 : decode cX9_was 57 = .ok (.getfield 237, 3) := by decide +kernel
theorem dX9_was_60 : decode cX9_was 60 = .ok (.iload 6, 2) := by decide +kernel
theorem dX9_was_62 : decode cX9_was 62 = .ok (.iload_n 1, 1) := by decide +kernel
theorem dX9_was_63 : decode cX9_was 63 = .ok (.iastore, 1) := by decide +kernel
theorem dX9_was_64 : decode cX9_was 64 = .ok (.aload_n 0, 1) := by decide +kernel
theorem dX9_was_65 : decode cX9_was 65 = .ok (.getfield 46, 3) := by decide +kernel
theorem dX9_was_68 : decode cX9_was 68 = .ok (.getfield 240, 3) := by decide +kernel
theorem dX9_was_71 : decode cX9_was 71 = .ok (.iload 6, 2) := by decide +kernel
theorem dX9_was_73 : decode cX9_was 73 = .ok (.iload_n 2, 1) := by decide +kernel
theorem dX9_was_74 : decode cX9_was 74 = .ok (.iastore, 1) := by decide +kernel
theorem dX9_was_75 : decode cX9_was 75 = .ok (.aload_n 0, 1) := by decide +kernel
theorem dX9_was_76 : decode cX9_was 76 = .ok (.getfield 46, 3) := by decide +kernel
theorem dX9_was_79 : decode cX9_was 79 = .ok (.getfield 243, 3) := by decide +kernel
theorem dX9_was_82 : decode cX9_was 82 = .ok (.iload 6, 2) := by decide +kernel
theorem dX9_was_84 : decode cX9_was 84 = .ok (.iload_n 3, 1) := by decide +kernel
theorem dX9_was_85 : decode cX9_was 85 = .ok (.iastore, 1) := by decide +kernel
theorem dX9_was_86 : decode cX9_was 86 = .ok (.aload_n 0, 1) := by decide +kernel
theorem dX9_was_87 : decode cX9_was 87 = .ok (.getfield 46, 3) := by decide +kernel
theorem dX9_was_90 : decode cX9_was 90 = .ok (.getfield 246, 3) := by decide +kernel
theorem dX9_was_93 : decode cX9_was 93 = .ok (.iload 6, 2) := by decide +kernel
theorem dX9_was_95 : decode cX9_was 95 = .ok (.iload 4, 2) := by decide +kernel
theorem dX9_was_97 : decode cX9_was 97 = .ok (.iastore, 1) := by decide +kernel
theorem dX9_was_98 : decode cX9_was 98 = .ok (.aload_n 0, 1) := by decide +kernel
theorem dX9_was_99 : decode cX9_was 99 = .ok (.getfield 46, 3) := by decide +kernel
theorem dX9_was_102 : decode cX9_was 102 = .ok (.getfield 249, 3) := by decide +kernel
theorem dX9_was_105 : decode cX9_was 105 = .ok (.iload 6, 2) := by decide +kernel
theorem dX9_was_107 : decode cX9_was 107 = .ok (.iload 5, 2) := by decide +kernel
theorem dX9_was_109 : decode cX9_was 109 = .ok (.iastore, 1) := by decide +kernel
theorem dX9_was_110 : decode cX9_was 110 = .ok (.aload_n 0, 1) := by decide +kernel
theorem dX9_was_111 : decode cX9_was 111 = .ok (.getfield 46, 3) := by decide +kernel
theorem dX9_was_114 : decode cX9_was 114 = .ok (.dup, 1) := by decide +kernel
theorem dX9_was_115 : decode cX9_was 115 = .ok (.getfield 236, 3) := by decide +kernel
theorem dX9_was_118 : decode cX9_was 118 = .ok (.iconst 1, 1) := by decide +kernel
theorem dX9_was_119 : decode cX9_was 119 = .ok (.iadd, 1) := by decide +kernel
theorem dX9_was_120 : decode cX9_was 120 = .ok (.putfield 236, 3) := by decide +kernel
theorem dX9_was_123 : decode cX9_was 123 = .ok (.aload_n 0, 1) := by decide +kernel
theorem dX9_was_124 : decode cX9_was 124 = .ok (.getfield 46, 3) := by decide +kernel
theorem dX9_was_127 : decode cX9_was 127 = .ok (.getfield 236, 3) := by decide +kernel
theorem dX9_was_130 : decode cX9_was 130 = .ok (.ireturn, 1) := by decide +kernel
theorem dX9_line_0 : decode cX9_line 0 = .ok (.iload_n 1, 1) := by decide +kernel
theorem dX9_line_1 : decode cX9_line 1 = .ok (.iconst 2, 1) := by decide +kernel
theorem dX9_line_2 : decode cX9_line 2 = .ok (.invokestatic 98, 3) := by decide +kernel
theorem dX9_line_5 : decode cX9_line 5 = .ok (.ifCond .eq 20, 3) := by decide +kernel
theorem dX9_line_8 : decode cX9_line 8 = .ok (.iload_n 2, 1) := by decide +kernel
theorem dX9_line_9 : decode cX9_line 9 = .ok (.iload_n 3, 1) := by decide +kernel
theorem dX9_line_10 : decode cX9_line 10 = .ok (.invokestatic 252, 3) := by decide +kernel
theorem dX9_line_13 : decode cX9_line 13 = .ok (.ifCond .eq 12, 3) := by decide +kernel
theorem dX9_line_16 : decode cX9_line 16 = .ok (.iload 4, 2) := by decide +kernel
theorem dX9_line_18 : decode cX9_line 18 = .ok (.iconst 1, 1) := by decide +kernel
theorem dX9_line_19 : decode cX9_line 19 = .ok (.invokestatic 98, 3) := by decide +kernel
theorem dX9_line_22 : decode cX9_line 22 = .ok (.ifCond .ne 5, 3) := by decide +kernel
theorem dX9_line_25 : decode cX9_line 25 = .ok (.iconst (-1), 1) := by decide +kernel
theorem dX9_line_26 : decode cX9_line 26 = .ok (.ireturn, 1) := by decide +kernel
theorem dX9_line_27 : decode cX9_line 27 = .ok (.aload_n 0, 1) := by decide +kernel
theorem dX9_line_28 : decode cX9_line 28 = .ok (.getfield 46, 3) := by decide +kernel
theorem dX9_line_31 : decode cX9_line 31 = .ok (.iload_n 1, 1) := by decide +kernel
theorem dX9_line_32 : decode cX9_line 32 = .ok (.iload_n 2, 1) := by decide +kernel
theorem dX9_line_33 : decode cX9_line 33 = .ok (.iload_n 3, 1) := by decide +kernel
theorem dX9_line_34 : decode cX9_line 34 = .ok (.invokevirtual 255, 3) := by decide +kernel
theorem dX9_line_37 : decode cX9_line 37 = .ok (.istore 5, 2) := by decide +kernel
theorem dX9_line_39 : decode cX9_line 39 = .ok (.iload 4, 2) := by decide +kernel
theorem dX9_line_41 : decode cX9_line 41 = .ok (.ifCond .ne 18, 3) := by decide +kernel
theorem dX9_line_44 : decode cX9_line 44 = .ok (.aload_n 0, 1) := by decide +kernel
theorem dX9_line_45 : decode cX9_line 45 = .ok (.getfield 46, 3) := by decide +kernel
theorem dX9_line_48 : decode cX9_line 48 = .ok (.iload_n 1, 1) := by decide +kernel
theorem dX9_line_49 : decode cX9_line 49 = .ok (.iload 5, 2) := by decide +kernel
theorem dX9_line_51 : decode cX9_line 51 = .ok (.iload_n 2, 1) := by decide +kernel
theorem dX9_line_52 : decode cX9_line 52 = .ok (.iload_n 3, 1) := by decide +kernel
theorem dX9_line_53 : decode cX9_line 53 = .ok (.invokevirtual 259, 3) := by decide +kernel
theorem dX9_line_56 : decode cX9_line 56 = .ok (.goto 5, 3) := by decide +kernel
theorem dX9_line_59 : decode cX9_line 59 = .ok (.iload 5, 2) := by decide +kernel
theorem dX9_line_61 : decode cX9_line 61 = .ok (.ireturn, 1) := by decide +kernel
theorem dX9_tells_0 : decode cX9_tells 0 = .ok (.iload_n 1, 1) := by decide +kernel
theorem dX9_tells_1 : decode cX9_tells 1 = .ok (.iload_n 2, 1) := by decide +kernel
theorem dX9_tells_2 : decode cX9_tells 2 = .ok (.invokestatic 252, 3) := by decide +kernel
theorem dX9_tells_5 : decode cX9_tells 5 = .ok (.ifCond .ne 5, 3) := by decide +kernel
theorem dX9_tells_8 : decode cX9_tells 8 = .ok (.iconst (-1), 1) := by decide +kernel
theorem dX9_tells_9 : decode cX9_tells 9 = .ok (.ireturn, 1) := by decide +kernel
theorem dX9_tells_10 : decode cX9_tells 10 = .ok (.iconst 0, 1) := by decide +kernel
theorem dX9_tells_11 : decode cX9_tells 11 = .ok (.istore_n 3, 1) := by decide +kernel
theorem dX9_tells_12 : decode cX9_tells 12 = .ok (.ldc_w 265, 3) := by decide +kernel
theorem dX9_tells_15 : decode cX9_tells 15 = .ok (.istore 4, 2) := by decide +kernel
theorem dX9_tells_17 : decode cX9_tells 17 = .ok (.iconst 0, 1) := by decide +kernel
theorem dX9_tells_18 : decode cX9_tells 18 = .ok (.istore 5, 2) := by decide +kernel
theorem dX9_tells_20 : decode cX9_tells 20 = .ok (.iload 5, 2) := by decide +kernel
theorem dX9_tells_22 : decode cX9_tells 22 = .ok (.iconst 3, 1) := by decide +kernel
theorem dX9_tells_23 : decode cX9_tells 23 = .ok (.if_icmp .ge 47, 3) := by decide +kernel
theorem dX9_tells_26 : decode cX9_tells 26 = .ok (.aload_n 0, 1) := by decide +kernel
theorem dX9_tells_27 : decode cX9_tells 27 = .ok (.getfield 46, 3) := by decide +kernel
theorem dX9_tells_30 : decode cX9_tells 30 = .ok (.iload 5, 2) := by decide +kernel
theorem dX9_tells_32 : decode cX9_tells 32 = .ok (.aload_n 0, 1) := by decide +kernel
theorem dX9_tells_33 : decode cX9_tells 33 = .ok (.getfield 46, 3) := by decide +kernel
theorem dX9_tells_36 : decode cX9_tells 36 = .ok (.iload 5, 2) := by decide +kernel
theorem dX9_tells_38 : decode cX9_tells 38 = .ok (.iload_n 1, 1) := by decide +kernel
theorem dX9_tells_39 : decode cX9_tells 39 = .ok (.iload_n 2, 1) := by decide +kernel
theorem dX9_tells_40 : decode cX9_tells 40 = .ok (.invokevirtual 255, 3) := by decide +kernel
theorem dX9_tells_43 : decode cX9_tells 43 = .ok (.iload_n 1, 1) := by decide +kernel
theorem dX9_tells_44 : decode cX9_tells 44 = .ok (.iload_n 2, 1) := by decide +kernel
theorem dX9_tells_45 : decode cX9_tells 45 = .ok (.invokevirtual 259, 3) := by decide +kernel
theorem dX9_tells_48 : decode cX9_tells 48 = .ok (.istore 6, 2) := by decide +kernel
theorem dX9_tells_50 : decode cX9_tells 50 = .ok (.iload 6, 2) := by decide +kernel
theorem dX9_tells_52 : decode cX9_tells 52 = .ok (.iload 4, 2) := by decide +kernel
theorem dX9_tells_54 : decode cX9_tells 54 = .ok (.if_icmp .ge 10, 3) := by decide +kernel
theorem dX9_tells_57 : decode cX9_tells 57 = .ok (.iload 5, 2) := by decide +kernel
theorem dX9_tells_59 : decode cX9_tells 59 = .ok (.istore_n 3, 1) := by decide +kernel
theorem dX9_tells_60 : decode cX9_tells 60 = .ok (.iload 6, 2) := by decide +kernel
theorem dX9_tells_62 : decode cX9_tells 62 = .ok (.istore 4, 2) := by decide +kernel
