theorem dX0_init_0 : decode cX0_init 0 = .ok (.aload_n 0, 1) := by decide +kernel
theorem dX0_init_1 : decode cX0_init 1 = .ok (.invokespecial 3, 3) := by decide +kernel
theorem dX0_init_4 : decode cX0_init 4 = .ok (.aload_n 0, 1) := by decide +kernel
theorem dX0_init_5 : decode cX0_init 5 = .ok (.sipush 144, 3) := by decide +kernel
theorem dX0_init_8 : decode cX0_init 8 = .ok (.newarray .int, 2) := by decide +kernel
theorem dX0_init_10 : decode cX0_init 10 = .ok (.putfield 9, 3) := by decide +kernel
theorem dX0_init_13 : decode cX0_init 13 = .ok (.aload_n 0, 1) := by decide +kernel
theorem dX0_init_14 : decode cX0_init 14 = .ok (.sipush 144, 3) := by decide +kernel
theorem dX0_init_17 : decode cX0_init 17 = .ok (.newarray .int, 2) := by decide +kernel
theorem dX0_init_19 : decode cX0_init 19 = .ok (.putfield 15, 3) := by decide +kernel
theorem dX0_init_22 : decode cX0_init 22 = .ok (.return_, 1) := by decide +kernel
theorem dX0_pass_0 : decode cX0_pass 0 = .ok (.aload_n 2, 1) := by decide +kernel
theorem dX0_pass_1 : decode cX0_pass 1 = .ok (.getfield 18, 3) := by decide +kernel
theorem dX0_pass_4 : decode cX0_pass 4 = .ok (.ifCond .eq 9, 3) := by decide +kernel
theorem dX0_pass_7 : decode cX0_pass 7 = .ok (.aload_n 0, 1) := by decide +kernel
theorem dX0_pass_8 : decode cX0_pass 8 = .ok (.aload_n 1, 1) := by decide +kernel
theorem dX0_pass_9 : decode cX0_pass 9 = .ok (.aload_n 2, 1) := by decide +kernel
theorem dX0_pass_10 : decode cX0_pass 10 = .ok (.invokevirtual 24, 3) := by decide +kernel
theorem dX0_pass_13 : decode cX0_pass 13 = .ok (.aload_n 0, 1) := by decide +kernel
theorem dX0_pass_14 : decode cX0_pass 14 = .ok (.aload_n 1, 1) := by decide +kernel
theorem dX0_pass_15 : decode cX0_pass 15 = .ok (.invokevirtual 28, 3) := by decide +kernel
theorem dX0_pass_18 : decode cX0_pass 18 = .ok (.aload_n 1, 1) := by decide +kernel
theorem dX0_pass_19 : decode cX0_pass 19 = .ok (.dup, 1) := by decide +kernel
theorem dX0_pass_20 : decode cX0_pass 20 = .ok (.getfield 32, 3) := by decide +kernel
theorem dX0_pass_23 : decode cX0_pass 23 = .ok (.iconst 1, 1) := by decide +kernel
theorem dX0_pass_24 : decode cX0_pass 24 = .ok (.iadd, 1) := by decide +kernel
theorem dX0_pass_25 : decode cX0_pass 25 = .ok (.putfield 32, 3) := by decide +kernel
theorem dX0_pass_28 : decode cX0_pass 28 = .ok (.return_, 1) := by decide +kernel
theorem dX0_comeAndDry_0 : decode cX0_comeAndDry 0 = .ok (.iconst 0, 1) := by decide +kernel
theorem dX0_comeAndDry_1 : decode cX0_comeAndDry 1 = .ok (.istore_n 3, 1) := by decide +kernel
theorem dX0_comeAndDry_2 : decode cX0_comeAndDry 2 = .ok (.iload_n 3, 1) := by decide +kernel
theorem dX0_comeAndDry_3 : decode cX0_comeAndDry 3 = .ok (.sipush 144, 3) := by decide +kernel
theorem dX0_comeAndDry_6 : decode cX0_comeAndDry 6 = .ok (.if_icmp .ge 80, 3) := by decide +kernel
theorem dX0_comeAndDry_9 : decode cX0_comeAndDry 9 = .ok (.aload_n 2, 1) := by decide +kernel
theorem dX0_comeAndDry_10 : decode cX0_comeAndDry 10 = .ok (.aload_n 1, 1) := by decide +kernel
theorem dX0_comeAndDry_11 : decode cX0_comeAndDry 11 = .ok (.iload_n 3, 1) := by decide +kernel
theorem dX0_comeAndDry_12 : decode cX0_comeAndDry 12 = .ok (.invokevirtual 38, 3) := by decide +kernel
theorem dX0_comeAndDry_15 : decode cX0_comeAndDry 15 = .ok (.aload_n 2, 1) := by decide +kernel
theorem dX0_comeAndDry_16 : decode cX0_comeAndDry 16 = .ok (.bipush 99, 2) := by decide +kernel
theorem dX0_comeAndDry_18 : decode cX0_comeAndDry 18 = .ok (.invokevirtual 42, 3) := by decide +kernel
theorem dX0_comeAndDry_21 : decode cX0_comeAndDry 21 = .ok (.istore 4, 2) := by decide +kernel
theorem dX0_comeAndDry_23 : decode cX0_comeAndDry 23 = .ok (.aload_n 2, 1) := by decide +kernel
theorem dX0_comeAndDry_24 : decode cX0_comeAndDry 24 = .ok (.bipush 119, 2) := by decide +kernel
theorem dX0_comeAndDry_26 : decode cX0_comeAndDry 26 = .ok (.invokevirtual 42, 3) := by decide +kernel
theorem dX0_comeAndDry_29 : decode cX0_comeAndDry 29 = .ok (.aload_n 2, 1) := by decide +kernel
theorem dX0_comeAndDry_30 : decode cX0_comeAndDry 30 = .ok (.bipush 115, 2) := by decide +kernel
theorem dX0_comeAndDry_32 : decode cX0_comeAndDry 32 = .ok (.invokevirtual 42, 3) := by decide +kernel
theorem dX0_comeAndDry_35 : decode cX0_comeAndDry 35 = .ok (.isub, 1) := by decide +kernel
theorem dX0_comeAndDry_36 : decode cX0_comeAndDry 36 = .ok (.istore 5, 2) := by decide +kernel
theorem dX0_comeAndDry_38 : decode cX0_comeAndDry 38 = .ok (.aload_n 1, 1) := by decide +kernel
theorem dX0_comeAndDry_39 : decode cX0_comeAndDry 39 = .ok (.getfield 46, 3) := by decide +kernel
theorem dX0_comeAndDry_42 : decode cX0_comeAndDry 42 = .ok (.iload_n 3, 1) := by decide +kernel
theorem dX0_comeAndDry_43 : decode cX0_comeAndDry 43 = .ok (.aload_n 1, 1) := by decide +kernel
theorem dX0_comeAndDry_44 : decode cX0_comeAndDry 44 = .ok (.getfield 46, 3) := by decide +kernel
theorem dX0_comeAndDry_47 : decode cX0_comeAndDry 47 = .ok (.iload_n 3, 1) := by decide +kernel
theorem dX0_comeAndDry_48 : decode cX0_comeAndDry 48 = .ok (.iaload, 1) := by decide +kernel
theorem dX0_comeAndDry_49 : decode cX0_comeAndDry 49 = .ok (.iload 4, 2) := by decide +kernel
theorem dX0_comeAndDry_51 : decode cX0_comeAndDry 51 = .ok (.iadd, 1) := by decide +kernel
theorem dX0_comeAndDry_52 : decode cX0_comeAndDry 52 = .ok (.sipush 9999, 3) := by decide +kernel
theorem dX0_comeAndDry_55 : decode cX0_comeAndDry 55 = .ok (.invokestatic 49, 3) := by decide +kernel
theorem dX0_comeAndDry_58 : decode cX0_comeAndDry 58 = .ok (.iastore, 1) := by decide +kernel
theorem dX0_comeAndDry_59 : decode cX0_comeAndDry 59 = .ok (.aload_n 1, 1) := by decide +kernel
theorem dX0_comeAndDry_60 : decode cX0_comeAndDry 60 = .ok (.getfield 53, 3) := by decide +kernel
theorem dX0_comeAndDry_63 : decode cX0_comeAndDry 63 = .ok (.iload_n 3, 1) := by decide +kernel
theorem dX0_comeAndDry_64 : decode cX0_comeAndDry 64 = .ok (.aload_n 1, 1) := by decide +kernel
theorem dX0_comeAndDry_65 : decode cX0_comeAndDry 65 = .ok (.getfield 53, 3) := by decide +kernel
theorem dX0_comeAndDry_68 : decode cX0_comeAndDry 68 = .ok (.iload_n 3, 1) := by decide +kernel
theorem dX0_comeAndDry_69 : decode cX0_comeAndDry 69 = .ok (.iaload, 1) := by decide +kernel
theorem dX0_comeAndDry_70 : decode cX0_comeAndDry 70 = .ok (.iload 5, 2) := by decide +kernel
theorem dX0_comeAndDry_72 : decode cX0_comeAndDry 72 = .ok (.iadd, 1) := by decide +kernel
theorem dX0_comeAndDry_73 : decode cX0_comeAndDry 73 = .ok (.sipush 9999, 3) := by decide +kernel
theorem dX0_comeAndDry_76 : decode cX0_comeAndDry 76 = .ok (.invokestatic 49, 3) := by decide +kernel
theorem dX0_comeAndDry_79 : decode cX0_comeAndDry 79 = .ok (.iastore, 1) := by decide +kernel
theorem dX0_comeAndDry_80 : decode cX0_comeAndDry 80 = .ok (.iinc 3 1, 3) := by decide +kernel
theorem dX0_comeAndDry_83 : decode cX0_comeAndDry 83 = .ok (.goto (-81), 3) := by decide +kernel
theorem dX0_comeAndDry_86 : decode cX0_comeAndDry 86 = .ok (.return_, 1) := by decide +kernel
theorem dX0_runDown_0 : decode cX0_runDown 0 = .ok (.iconst 0, 1) := by decide +kernel
theorem dX0_runDown_1 : decode cX0_runDown 1 = .ok (.istore_n 2, 1) := by decide +kernel
theorem dX0_runDown_2 : decode cX0_runDown 2 = .ok (.iload_n 2, 1) := by decide +kernel
theorem dX0_runDown_3 : decode cX0_runDown 3 = .ok (.sipush 144, 3) := by decide +kernel
theorem dX0_runDown_6 : decode cX0_runDown 6 = .ok (.if_icmp .ge 32, 3) := by decide +kernel
theorem dX0_runDown_9 : decode cX0_runDown 9 = .ok (.aload_n 0, 1) := by decide +kernel
theorem dX0_runDown_10 : decode cX0_runDown 10 = .ok (.getfield 9, 3) := by decide +kernel
theorem dX0_runDown_13 : decode cX0_runDown 13 = .ok (.iload_n 2, 1) := by decide +kernel
theorem dX0_runDown_14 : decode cX0_runDown 14 = .ok (.aload_n 1, 1) := by decide +kernel
theorem dX0_runDown_15 : decode cX0_runDown 15 = .ok (.iload_n 2, 1) := by decide +kernel
theorem dX0_runDown_16 : decode cX0_runDown 16 = .ok (.invokevirtual 56, 3) := by decide +kernel
theorem dX0_runDown_19 : decode cX0_runDown 19 = .ok (.iastore, 1) := by decide +kernel
theorem dX0_runDown_20 : decode cX0_runDown 20 = .ok (.aload_n 0, 1) := by decide +kernel
theorem dX0_runDown_21 : decode cX0_runDown 21 = .ok (.getfield 15, 3) := by decide +kernel
theorem dX0_runDown_24 : decode cX0_runDown 24 = .ok (.iload_n 2, 1) := by decide +kernel
theorem dX0_runDown_25 : decode cX0_runDown 25 = .ok (.aload_n 1, 1) := by decide +kernel
theorem dX0_runDown_26 : decode cX0_runDown 26 = .ok (.getfield 46, 3) := by decide +kernel
theorem dX0_runDown_29 : decode cX0_runDown 29 = .ok (.iload_n 2, 1) := by decide +kernel
theorem dX0_runDown_30 : decode cX0_runDown 30 = .ok (.iaload, 1) := by decide +kernel
theorem dX0_runDown_31 : decode cX0_runDown 31 = .ok (.iastore, 1) := by decide +kernel
theorem dX0_runDown_32 : decode cX0_runDown 32 = .ok (.iinc 2 1, 3) := by decide +kernel
theorem dX0_runDown_35 : decode cX0_runDown 35 = .ok (.goto (-33), 3) := by decide +kernel
theorem dX0_runDown_38 : decode cX0_runDown 38 = .ok (.iconst 0, 1) := by decide +kernel
theorem dX0_runDown_39 : decode cX0_runDown 39 = .ok (.istore_n 2, 1) := by decide +kernel
theorem dX0_runDown_40 : decode cX0_runDown 40 = .ok (.iload_n 2, 1) := by decide +kernel
theorem dX0_runDown_41 : decode cX0_runDown 41 = .ok (.sipush 144, 3) := by decide +kernel
theorem dX0_runDown_44 : decode cX0_runDown 44 = .ok (.if_icmp .ge 87, 3) := by decide +kernel
theorem dX0_runDown_47 : decode cX0_runDown 47 = .ok (.aload_n 0, 1) := by decide +kernel
theorem dX0_runDown_48 : decode cX0_runDown 48 = .ok (.iload_n 2, 1) := by decide +kernel
theorem dX0_runDown_49 : decode cX0_runDown 49 = .ok (.invokevirtual 59, 3) := by decide +kernel
theorem dX0_runDown_52 : decode cX0_runDown 52 = .ok (.istore_n 3, 1) := by decide +kernel
theorem dX0_runDown_53 : decode cX0_runDown 53 = .ok (.aload_n 0, 1) := by decide +kernel
theorem dX0_runDown_54 : decode cX0_runDown 54 = .ok (.getfield 9, 3) := by decide +kernel
theorem dX0_runDown_57 : decode cX0_runDown 57 = .ok (.iload_n 2, 1) := by decide +kernel
theorem dX0_runDown_58 : decode cX0_runDown 58 = .ok (.iaload, 1) := by decide +kernel
theorem dX0_runDown_59 : decode cX0_runDown 59 = .ok (.aload_n 0, 1) := by decide +kernel
theorem dX0_runDown_60 : decode cX0_runDown 60 = .ok (.getfield 9, 3) := by decide +kernel
theorem dX0_runDown_63 : decode cX0_runDown 63 = .ok (.iload_n 3, 1) := by decide +kernel
theorem dX0_runDown_64 : decode cX0_runDown 64 = .ok (.iaload, 1) := by decide +kernel
theorem dX0_runDown_65 : decode cX0_runDown 65 = .ok (.isub, 1) := by decide +kernel
theorem dX0_runDown_66 : decode cX0_runDown 66 = .ok (.istore 4, 2) := by decide +kernel
theorem dX0_runDown_68 : decode cX0_runDown 68 = .ok (.iload 4, 2) := by decide +kernel
theorem dX0_runDown_70 : decode cX0_runDown 70 = .ok (.ifCond .le 55, 3) := by decide +kernel
theorem dX0_runDown_73 : decode cX0_runDown 73 = .ok (.aload_n 1, 1) := by decide +kernel
theorem dX0_runDown_74 : decode cX0_runDown 74 = .ok (.getfield 46, 3) := by decide +kernel
theorem dX0_runDown_77 : decode cX0_runDown 77 = .ok (.iload_n 2, 1) := by decide +kernel
theorem dX0_runDown_78 : decode cX0_runDown 78 = .ok (.iaload, 1) := by decide +kernel
theorem dX0_runDown_79 : decode cX0_runDown 79 = .ok (.iconst 3, 1) := by decide +kernel
theorem dX0_runDown_80 : decode cX0_runDown 80 = .ok (.iadd, 1) := by decide +kernel
theorem dX0_runDown_81 : decode cX0_runDown 81 = .ok (.iconst 4, 1) := by decide +kernel
theorem dX0_runDown_82 : decode cX0_runDown 82 = .ok (.idiv, 1) := by decide +kernel
theorem dX0_runDown_83 : decode cX0_runDown 83 = .ok (.iload 4, 2) := by decide +kernel
theorem dX0_runDown_85 : decode cX0_runDown 85 = .ok (.iconst 2, 1) := by decide +kernel
theorem dX0_runDown_86 : decode cX0_runDown 86 = .ok (.idiv, 1) := by decide +kernel
theorem dX0_runDown_87 : decode cX0_runDown 87 = .ok (.invokestatic 62, 3) := by decide +kernel
theorem dX0_runDown_90 : decode cX0_runDown 90 = .ok (.istore 5, 2) := by decide +kernel
theorem dX0_runDown_92 : decode cX0_runDown 92 = .ok (.aload_n 0, 1) := by decide +kernel
theorem dX0_runDown_93 : decode cX0_runDown 93 = .ok (.getfield 15, 3) := by decide +kernel
theorem dX0_runDown_96 : decode cX0_runDown 96 = .ok (.iload_n 2, 1) := by decide +kernel
theorem dX0_runDown_97 : decode cX0_runDown 97 = .ok (.dup2, 1) := by decide +kernel
theorem dX0_runDown_98 : decode cX0_runDown 98 = .ok (.iaload, 1) := by decide +kernel
theorem dX0_runDown_99 : decode cX0_runDown 99 = .ok (.iload 5, 2) := by decide +kernel
theorem dX0_runDown_101 : decode cX0_runDown 101 = .ok (.isub, 1) := by decide +kernel
theorem dX0_runDown_102 : decode cX0_runDown 102 = .ok (.iastore, 1) := by decide +kernel
theorem dX0_runDown_103 : decode cX0_runDown 103 = .ok (.aload_n 0, 1) := by decide +kernel
theorem dX0_runDown_104 : decode cX0_runDown 104 = .ok (.getfield 15, 3) := by decide +kernel
theorem dX0_runDown_107 : decode cX0_runDown 107 = .ok (.iload_n 3, 1) := by decide +kernel
theorem dX0_runDown_108 : decode cX0_runDown 108 = .ok (.dup2, 1) := by decide +kernel
theorem dX0_runDown_109 : decode cX0_runDown 109 = .ok (.iaload, 1) := by decide +kernel
theorem dX0_runDown_110 : decode cX0_runDown 110 = .ok (.iload 5, 2) := by decide +kernel
theorem dX0_runDown_112 : decode cX0_runDown 112 = .ok (.iadd, 1) := by decide +kernel
theorem dX0_runDown_113 : decode cX0_runDown 113 = .ok (.iastore, 1) := by decide +kernel
theorem dX0_runDown_114 : decode cX0_runDown 114 = .ok (.aload_n 1, 1) := by decide +kernel
theorem dX0_runDown_115 : decode cX0_runDown 115 = .ok (.dup, 1) := by decide +kernel
theorem dX0_runDown_116 : decode cX0_runDown 116 = .ok (.getfield 67, 3) := by decide +kernel
theorem dX0_runDown_119 : decode cX0_runDown 119 = .ok (.iload 5, 2) := by decide +kernel
theorem dX0_runDown_121 : decode cX0_runDown 121 = .ok (.iadd, 1) := by decide +kernel
theorem dX0_runDown_122 : decode cX0_runDown 122 = .ok (.putfield 67, 3) := by decide +kernel
theorem dX0_runDown_125 : decode cX0_runDown 125 = .ok (.iinc 2 1, 3) := by decide +kernel
theorem dX0_runDown_128 : decode cX0_runDown 128 = .ok (.goto (-88), 3) := by decide +kernel
theorem dX0_runDown_131 : decode cX0_runDown 131 = .ok (.iconst 0, 1) := by decide +kernel
theorem dX0_runDown_132 : decode cX0_runDown 132 = .ok (.istore_n 2, 1) := by decide +kernel
theorem dX0_runDown_133 : decode cX0_runDown 133 = .ok (.iload_n 2, 1) := by decide +kernel
theorem dX0_runDown_134 : decode cX0_runDown 134 = .ok (.sipush 144, 3) := by decide +kernel
theorem dX0_runDown_137 : decode cX0_runDown 137 = .ok (.if_icmp .ge 27, 3) := by decide +kernel
theorem dX0_runDown_140 : decode cX0_runDown 140 = .ok (.aload_n 1, 1) := by decide +kernel
theorem dX0_runDown_141 : decode cX0_runDown 141 = .ok (.getfield 46, 3) := by decide +kernel
theorem dX0_runDown_144 : decode cX0_runDown 144 = .ok (.iload_n 2, 1) := by decide +kernel
theorem dX0_runDown_145 : decode cX0_runDown 145 = .ok (.aload_n 0, 1) := by decide +kernel
theorem dX0_runDown_146 : decode cX0_runDown 146 = .ok (.getfield 15, 3) := by decide +kernel
theorem dX0_runDown_149 : decode cX0_runDown 149 = .ok (.iload_n 2, 1) := by decide +kernel
theorem dX0_runDown_150 : decode cX0_runDown 150 = .ok (.iaload, 1) := by decide +kernel
theorem dX0_runDown_151 : decode cX0_runDown 151 = .ok (.sipush 9999, 3) := by decide +kernel
theorem dX0_runDown_154 : decode cX0_runDown 154 = .ok (.invokestatic 62, 3) := by decide +kernel
theorem dX0_runDown_157 : decode cX0_runDown 157 = .ok (.iastore, 1) := by decide +kernel
theorem dX0_runDown_158 : decode cX0_runDown 158 = .ok (.iinc 2 1, 3) := by decide +kernel
theorem dX0_runDown_161 : decode cX0_runDown 161 = .ok (.goto (-28), 3) := by decide +kernel
theorem dX0_runDown_164 : decode cX0_runDown 164 = .ok (.return_, 1) := by decide +kernel
theorem dX0_lowestBeside_0 : decode cX0_lowestBeside 0 = .ok (.iload_n 1, 1) := by decide +kernel
theorem dX0_lowestBeside_1 : decode cX0_lowestBeside 1 = .ok (.bipush 12, 2) := by decide +kernel
theorem dX0_lowestBeside_3 : decode cX0_lowestBeside 3 = .ok (.irem, 1) := by decide +kernel
theorem dX0_lowestBeside_4 : decode cX0_lowestBeside 4 = .ok (.istore_n 2, 1) := by decide +kernel
theorem dX0_lowestBeside_5 : decode cX0_lowestBeside 5 = .ok (.iload_n 1, 1) := by decide +kernel
theorem dX0_lowestBeside_6 : decode cX0_lowestBeside 6 = .ok (.istore_n 3, 1) := by decide +kernel
theorem dX0_lowestBeside_7 : decode cX0_lowestBeside 7 = .ok (.iload_n 1, 1) := by decide +kernel
theorem dX0_lowestBeside_8 : decode cX0_lowestBeside 8 = .ok (.bipush 12, 2) := by decide +kernel
theorem dX0_lowestBeside_10 : decode cX0_lowestBeside 10 = .ok (.if_icmp .lt 26, 3) := by decide +kernel
theorem dX0_lowestBeside_13 : decode cX0_lowestBeside 13 = .ok (.aload_n 0, 1) := by decide +kernel
theorem dX0_lowestBeside_14 : decode cX0_lowestBeside 14 = .ok (.getfield 9, 3) := by decide +kernel
theorem dX0_lowestBeside_17 : decode cX0_lowestBeside 17 = .ok (.iload_n 1, 1) := by decide +kernel
theorem dX0_lowestBeside_18 : decode cX0_lowestBeside 18 = .ok (.bipush 12, 2) := by decide +kernel
theorem dX0_lowestBeside_20 : decode cX0_lowestBeside 20 = .ok (.isub, 1) := by decide +kernel
theorem dX0_lowestBeside_21 : decode cX0_lowestBeside 21 = .ok (.iaload, 1) := by decide +kernel
theorem dX0_lowestBeside_22 : decode cX0_lowestBeside 22 = .ok (.aload_n 0, 1) := by decide +kernel
theorem dX0_lowestBeside_23 : decode cX0_lowestBeside 23 = .ok (.getfield 9, 3) := by decide +kernel
theorem dX0_lowestBeside_26 : decode cX0_lowestBeside 26 = .ok (.iload_n 3, 1) := by decide +kernel
theorem dX0_lowestBeside_27 : decode cX0_lowestBeside 27 = .ok (.iaload, 1) := by decide +kernel
theorem dX0_lowestBeside_28 : decode cX0_lowestBeside 28 = .ok (.if_icmp .ge 8, 3) := by decide +kernel
theorem dX0_lowestBeside_31 : decode cX0_lowestBeside 31 = .ok (.iload_n 1, 1) := by decide +kernel
theorem dX0_lowestBeside_32 : decode cX0_lowestBeside 32 = .ok (.bipush 12, 2) := by decide +kernel
theorem dX0_lowestBeside_34 : decode cX0_lowestBeside 34 = .ok (.isub, 1) := by decide +kernel
theorem dX0_lowestBeside_35 : decode cX0_lowestBeside 35 = .ok (.istore_n 3, 1) := by decide +kernel
theorem dX0_lowestBeside_36 : decode cX0_lowestBeside 36 = .ok (.iload_n 2, 1) := by decide +kernel
theorem dX0_lowestBeside_37 : decode cX0_lowestBeside 37 = .ok (.ifCond .le 24, 3) := by decide +kernel
theorem dX0_lowestBeside_40 : decode cX0_lowestBeside 40 = .ok (.aload_n 0, 1) := by decide +kernel
theorem dX0_lowestBeside_41 : decode cX0_lowestBeside 41 = .ok (.getfield 9, 3) := by decide +kernel
theorem dX0_lowestBeside_44 : decode cX0_lowestBeside 44 = .ok (.iload_n 1, 1) := by decide +kernel
theorem dX0_lowestBeside_45 : decode cX0_lowestBeside 45 = .ok (.iconst 1, 1) := by decide +kernel
theorem dX0_lowestBeside_46 : decode cX0_lowestBeside 46 = .ok (.isub, 1) := by decide +kernel
theorem dX0_lowestBeside_47 : decode cX0_lowestBeside 47 = .ok (.iaload, 1) := by decide +kernel
theorem dX0_lowestBeside_48 : decode cX0_lowestBeside 48 = .ok (.aload_n 0, 1) := by decide +kernel
theorem dX0_lowestBeside_49 : decode cX0_lowestBeside 49 = .ok (.getfield 9, 3) := by decide +kernel
theorem dX0_lowestBeside_52 : decode cX0_lowestBeside 52 = .ok (.iload_n 3, 1) := by decide +kernel
theorem dX0_lowestBeside_53 : decode cX0_lowestBeside 53 = .ok (.iaload, 1) := by decide +kernel
theorem dX0_lowestBeside_54 : decode cX0_lowestBeside 54 = .ok (.if_icmp .ge 7, 3) := by decide +kernel
theorem dX0_lowestBeside_57 : decode cX0_lowestBeside 57 = .ok (.iload_n 1, 1) := by decide +kernel
theorem dX0_lowestBeside_58 : decode cX0_lowestBeside 58 = .ok (.iconst 1, 1) := by decide +kernel
theorem dX0_lowestBeside_59 : decode cX0_lowestBeside 59 = .ok (.isub, 1) := by decide +kernel
theorem dX0_lowestBeside_60 : decode cX0_lowestBeside 60 = .ok (.istore_n 3, 1) := by decide +kernel
theorem dX0_lowestBeside_61 : decode cX0_lowestBeside 61 = .ok (.iload_n 2, 1) := by decide +kernel
theorem dX0_lowestBeside_62 : decode cX0_lowestBeside 62 = .ok (.bipush 11, 2) := by decide +kernel
theorem dX0_lowestBeside_64 : decode cX0_lowestBeside 64 = .ok (.if_icmp .ge 24, 3) := by decide +kernel
theorem dX0_lowestBeside_67 : decode cX0_lowestBeside 67 = .ok (.aload_n 0, 1) := by decide +kernel
theorem dX0_lowestBeside_68 : decode cX0_lowestBeside 68 = .ok (.getfield 9, 3) := by decide +kernel
theorem dX0_lowestBeside_71 : decode cX0_lowestBeside 71 = .ok (.iload_n 1, 1) := by decide +kernel
theorem dX0_lowestBeside_72 : decode cX0_lowestBeside 72 = .ok (.iconst 1, 1) := by decide +kernel
theorem dX0_lowestBeside_73 : decode cX0_lowestBeside 73 = .ok (.iadd, 1) := by decide +kernel
theorem dX0_lowestBeside_74 : decode cX0_lowestBeside 74 = .ok (.iaload, 1) := by decide +kernel
theorem dX0_lowestBeside_75 : decode cX0_lowestBeside 75 = .ok (.aload_n 0, 1) := by decide +kernel
theorem dX0_lowestBeside_76 : decode cX0_lowestBeside 76 = .ok (.getfield 9, 3) := by decide +kernel
theorem dX0_lowestBeside_79 : decode cX0_lowestBeside 79 = .ok (.iload_n 3, 1) := by decide +kernel
theorem dX0_lowestBeside_80 : decode cX0_lowestBeside 80 = .ok (.iaload, 1) := by decide +kernel
theorem dX0_lowestBeside_81 : decode cX0_lowestBeside 81 = .ok (.if_icmp .ge 7, 3) := by decide +kernel
theorem dX0_lowestBeside_84 : decode cX0_lowestBeside 84 = .ok (.iload_n 1, 1) := by decide +kernel
theorem dX0_lowestBeside_85 : decode cX0_lowestBeside 85 = .ok (.iconst 1, 1) := by decide +kernel
theorem dX0_lowestBeside_86 : decode cX0_lowestBeside 86 = .ok (.iadd, 1) := by decide +kernel
theorem dX0_lowestBeside_87 : decode cX0_lowestBeside 87 = .ok (.istore_n 3, 1) := by decide +kernel
theorem dX0_lowestBeside_88 : decode cX0_lowestBeside 88 = .ok (.iload_n 1, 1) := by decide +kernel
theorem dX0_lowestBeside_89 : decode cX0_lowestBeside 89 = .ok (.sipush 132, 3) := by decide +kernel
theorem dX0_lowestBeside_92 : decode cX0_lowestBeside 92 = .ok (.if_icmp .ge 26, 3) := by decide +kernel
theorem dX0_lowestBeside_95 : decode cX0_lowestBeside 95 = .ok (.aload_n 0, 1) := by decide +kernel
theorem dX0_lowestBeside_96 : decode cX0_lowestBeside 96 = .ok (.getfield 9, 3) := by decide +kernel
theorem dX0_lowestBeside_99 : decode cX0_lowestBeside 99 = .ok (.iload_n 1, 1) := by decide +kernel
theorem dX0_lowestBeside_100 : decode cX0_lowestBeside 100 = .ok (.bipush 12, 2) := by decide +kernel
theorem dX0_lowestBeside_102 : decode cX0_lowestBeside 102 = .ok (.iadd, 1) := by decide +kernel
theorem dX0_lowestBeside_103 : decode cX0_lowestBeside 103 = .ok (.iaload, 1) := by decide +kernel
theorem dX0_lowestBeside_104 : decode cX0_lowestBeside 104 = .ok (.aload_n 0, 1) := by decide +kernel
theorem dX0_lowestBeside_105 : decode cX0_lowestBeside 105 = .ok (.getfield 9, 3) := by decide +kernel
theorem dX0_lowestBeside_108 : decode cX0_lowestBeside 108 = .ok (.iload_n 3, 1) := by decide +kernel
theorem dX0_lowestBeside_109 : decode cX0_lowestBeside 109 = .ok (.iaload, 1) := by decide +kernel
theorem dX0_lowestBeside_110 : decode cX0_lowestBeside 110 = .ok (.if_icmp .ge 8, 3) := by decide +kernel
theorem dX0_lowestBeside_113 : decode cX0_lowestBeside 113 = .ok (.iload_n 1, 1) := by decide +kernel
theorem dX0_lowestBeside_114 : decode cX0_lowestBeside 114 = .ok (.bipush 12, 2) := by decide +kernel
theorem dX0_lowestBeside_116 : decode cX0_lowestBeside 116 = .ok (.iadd, 1) := by decide +kernel
theorem dX0_lowestBeside_117 : decode cX0_lowestBeside 117 = .ok (.istore_n 3, 1) := by decide +kernel
theorem dX0_lowestBeside_118 : decode cX0_lowestBeside 118 = .ok (.iload_n 3, 1) := by decide +kernel
theorem dX0_lowestBeside_119 : decode cX0_lowestBeside 119 = .ok (.ireturn, 1) := by decide +kernel
theorem dX1_init_0 : decode cX1_init 0 = .ok (.aload_n 0, 1) := by decide +kernel
theorem dX1_init_1 : decode cX1_init 1 = .ok (.invokespecial 5, 3) := by decide +kernel
theorem dX1_init_4 : decode cX1_init 4 = .ok (.aload_n 0, 1) := by decide +kernel
theorem dX1_init_5 : decode cX1_init 5 = .ok (.sipush 400, 3) := by decide +kernel
theorem dX1_init_8 : decode cX1_init 8 = .ok (.newarray .int, 2) := by decide +kernel
theorem dX1_init_10 : decode cX1_init 10 = .ok (.putfield 11, 3) := by decide +kernel
theorem dX1_init_13 : decode cX1_init 13 = .ok (.aload_n 0, 1) := by decide +kernel
theorem dX1_init_14 : decode cX1_init 14 = .ok (.bipush 14, 2) := by decide +kernel
theorem dX1_init_16 : decode cX1_init 16 = .ok (.newarray .int, 2) := by decide +kernel
theorem dX1_init_18 : decode cX1_init 18 = .ok (.putfield 15, 3) := by decide +kernel
theorem dX1_init_21 : decode cX1_init 21 = .ok (.aload_n 0, 1) := by decide +kernel
theorem dX1_init_22 : decode cX1_init 22 = .ok (.bipush 14, 2) := by decide +kernel
theorem dX1_init_24 : decode cX1_init 24 = .ok (.newarray .int, 2) := by decide +kernel
theorem dX1_init_26 : decode cX1_init 26 = .ok (.putfield 18, 3) := by decide +kernel
theorem dX1_init_29 : decode cX1_init 29 = .ok (.aload_n 0, 1) := by decide +kernel
theorem dX1_init_30 : decode cX1_init 30 = .ok (.bipush 14, 2) := by decide +kernel
theorem dX1_init_32 : decode cX1_init 32 = .ok (.newarray .int, 2) := by decide +kernel
theorem dX1_init_34 : decode cX1_init 34 = .ok (.putfield 21, 3) := by decide +kernel
theorem dX1_init_37 : decode cX1_init 37 = .ok (.aload_n 0, 1) := by decide +kernel
theorem dX1_init_38 : decode cX1_init 38 = .ok (.bipush 14, 2) := by decide +kernel
theorem dX1_init_40 : decode cX1_init 40 = .ok (.newarray .int, 2) := by decide +kernel
theorem dX1_init_42 : decode cX1_init 42 = .ok (.putfield 24, 3) := by decide +kernel
theorem dX1_init_45 : decode cX1_init 45 = .ok (.aload_n 0, 1) := by decide +kernel
theorem dX1_init_46 : decode cX1_init 46 = .ok (.ldc 27, 2) := by decide +kernel
theorem dX1_init_48 : decode cX1_init 48 = .ok (.invokevirtual 29, 3) := by decide +kernel
theorem dX1_init_51 : decode cX1_init 51 = .ok (.newarray .int, 2) := by decide +kernel
theorem dX1_init_53 : decode cX1_init 53 = .ok (.putfield 35, 3) := by decide +kernel
theorem dX1_init_56 : decode cX1_init 56 = .ok (.aload_n 0, 1) := by decide +kernel
theorem dX1_init_57 : decode cX1_init 57 = .ok (.bipush 32, 2) := by decide +kernel
theorem dX1_init_59 : decode cX1_init 59 = .ok (.newarray .int, 2) := by decide +kernel
theorem dX1_init_61 : decode cX1_init 61 = .ok (.putfield 38, 3) := by decide +kernel
theorem dX1_init_64 : decode cX1_init 64 = .ok (.aload_n 0, 1) := by decide +kernel
theorem dX1_init_65 : decode cX1_init 65 = .ok (.iconst 0, 1) := by decide +kernel
theorem dX1_init_66 : decode cX1_init 66 = .ok (.putfield 41, 3) := by decide +kernel
theorem dX1_init_69 : decode cX1_init 69 = .ok (.aload_n 0, 1) := by decide +kernel
theorem dX1_init_70 : decode cX1_init 70 = .ok (.iconst 0, 1) := by decide +kernel
theorem dX1_init_71 : decode cX1_init 71 = .ok (.putfield 45, 3) := by decide +kernel
theorem dX1_init_74 : decode cX1_init 74 = .ok (.aload_n 0, 1) := by decide +kernel
theorem dX1_init_75 : decode cX1_init 75 = .ok (.iconst 0, 1) := by decide +kernel
theorem dX1_init_76 : decode cX1_init 76 = .ok (.putfield 48, 3) := by decide +kernel
theorem dX1_init_79 : decode cX1_init 79 = .ok (.aload_n 0, 1) := by decide +kernel
theorem dX1_init_80 : decode cX1_init 80 = .ok (.iconst 0, 1) := by decide +kernel
theorem dX1_init_81 : decode cX1_init 81 = .ok (.putfield 52, 3) := by decide +kernel
theorem dX1_init_84 : decode cX1_init 84 = .ok (.return_, 1) := by decide +kernel
theorem dX1_clear_0 : decode cX1_clear 0 = .ok (.aload_n 0, 1) := by decide +kernel
theorem dX1_clear_1 : decode cX1_clear 1 = .ok (.iconst 0, 1) := by decide +kernel
theorem dX1_clear_2 : decode cX1_clear 2 = .ok (.putfield 41, 3) := by decide +kernel
theorem dX1_clear_5 : decode cX1_clear 5 = .ok (.aload_n 0, 1) := by decide +kernel
theorem dX1_clear_6 : decode cX1_clear 6 = .ok (.iconst 0, 1) := by decide +kernel
theorem dX1_clear_7 : decode cX1_clear 7 = .ok (.putfield 45, 3) := by decide +kernel
theorem dX1_clear_10 : decode cX1_clear 10 = .ok (.aload_n 0, 1) := by decide +kernel
theorem dX1_clear_11 : decode cX1_clear 11 = .ok (.iconst 0, 1) := by decide +kernel
theorem dX1_clear_12 : decode cX1_clear 12 = .ok (.putfield 48, 3) := by decide +kernel
theorem dX1_clear_15 : decode cX1_clear 15 = .ok (.aload_n 0, 1) := by decide +kernel
theorem dX1_clear_16 : decode cX1_clear 16 = .ok (.iconst 0, 1) := by decide +kernel
theorem dX1_clear_17 : decode cX1_clear 17 = .ok (.putfield 52, 3) := by decide +kernel
theorem dX1_clear_20 : decode cX1_clear 20 = .ok (.return_, 1) := by decide +kernel
theorem dX1_put_0 : decode cX1_put 0 = .ok (.aload_n 0, 1) := by decide +kernel
theorem dX1_put_1 : decode cX1_put 1 = .ok (.getfield 45, 3) := by decide +kernel
theorem dX1_put_4 : decode cX1_put 4 = .ok (.sipush 400, 3) := by decide +kernel
theorem dX1_put_7 : decode cX1_put 7 = .ok (.if_icmp .ge 23, 3) := by decide +kernel
theorem dX1_put_10 : decode cX1_put 10 = .ok (.aload_n 0, 1) := by decide +kernel
theorem dX1_put_11 : decode cX1_put 11 = .ok (.getfield 11, 3) := by decide +kernel
theorem dX1_put_14 : decode cX1_put 14 = .ok (.aload_n 0, 1) := by decide +kernel
theorem dX1_put_15 : decode cX1_put 15 = .ok (.getfield 45, 3) := by decide +kernel
theorem dX1_put_18 : decode cX1_put 18 = .ok (.iload_n 1, 1) := by decide +kernel
theorem dX1_put_19 : decode cX1_put 19 = .ok (.iastore, 1) := by decide +kernel
theorem dX1_put_20 : decode cX1_put 20 = .ok (.aload_n 0, 1) := by decide +kernel
theorem dX1_put_21 : decode cX1_put 21 = .ok (.dup, 1) := by decide +kernel
theorem dX1_put_22 : decode cX1_put 22 = .ok (.getfield 45, 3) := by decide +kernel
theorem dX1_put_25 : decode cX1_put 25 = .ok (.iconst 1, 1) := by decide +kernel
theorem dX1_put_26 : decode cX1_put 26 = .ok (.iadd, 1) := by decide +kernel
theorem dX1_put_27 : decode cX1_put 27 = .ok (.putfield 45, 3) := by decide +kernel
theorem dX1_put_30 : decode cX1_put 30 = .ok (.return_, 1) := by decide +kernel
theorem dX1_putJump_0 : decode cX1_putJump 0 = .ok (.aload_n 0, 1) := by decide +kernel
theorem dX1_putJump_1 : decode cX1_putJump 1 = .ok (.iload_n 1, 1) := by decide +kernel
theorem dX1_putJump_2 : decode cX1_putJump 2 = .ok (.invokevirtual 55, 3) := by decide +kernel
theorem dX1_putJump_5 : decode cX1_putJump 5 = .ok (.aload_n 0, 1) := by decide +kernel
theorem dX1_putJump_6 : decode cX1_putJump 6 = .ok (.iconst 0, 1) := by decide +kernel
theorem dX1_putJump_7 : decode cX1_putJump 7 = .ok (.invokevirtual 55, 3) := by decide +kernel
theorem dX1_putJump_10 : decode cX1_putJump 10 = .ok (.aload_n 0, 1) := by decide +kernel
theorem dX1_putJump_11 : decode cX1_putJump 11 = .ok (.getfield 45, 3) := by decide +kernel
theorem dX1_putJump_14 : decode cX1_putJump 14 = .ok (.iconst 1, 1) := by decide +kernel
theorem dX1_putJump_15 : decode cX1_putJump 15 = .ok (.isub, 1) := by decide +kernel
theorem dX1_putJump_16 : decode cX1_putJump 16 = .ok (.ireturn, 1) := by decide +kernel
theorem dX1_land_0 : decode cX1_land 0 = .ok (.iload_n 1, 1) := by decide +kernel
theorem dX1_land_1 : decode cX1_land 1 = .ok (.sipush 399, 3) := by decide +kernel
theorem dX1_land_4 : decode cX1_land 4 = .ok (.invokestatic 59, 3) := by decide +kernel
theorem dX1_land_7 : decode cX1_land 7 = .ok (.ifCond .eq 13, 3) := by decide +kernel
theorem dX1_land_10 : decode cX1_land 10 = .ok (.aload_n 0, 1) := by decide +kernel
theorem dX1_land_11 : decode cX1_land 11 = .ok (.getfield 11, 3) := by decide +kernel
theorem dX1_land_14 : decode cX1_land 14 = .ok (.iload_n 1, 1) := by decide +kernel
theorem dX1_land_15 : decode cX1_land 15 = .ok (.aload_n 0, 1) := by decide +kernel
theorem dX1_land_16 : decode cX1_land 16 = .ok (.getfield 45, 3) := by decide +kernel
theorem dX1_land_19 : decode cX1_land 19 = .ok (.iastore, 1) := by decide +kernel
theorem dX1_land_20 : decode cX1_land 20 = .ok (.return_, 1) := by decide +kernel
theorem dX1_addClause_0 : decode cX1_addClause 0 = .ok (.aload_n 0, 1) := by decide +kernel
theorem dX1_addClause_1 : decode cX1_addClause 1 = .ok (.getfield 41, 3) := by decide +kernel
theorem dX1_addClause_4 : decode cX1_addClause 4 = .ok (.bipush 14, 2) := by decide +kernel
theorem dX1_addClause_6 : decode cX1_addClause 6 = .ok (.if_icmp .ge 56, 3) := by decide +kernel
theorem dX1_addClause_9 : decode cX1_addClause 9 = .ok (.aload_n 0, 1) := by decide +kernel
theorem dX1_addClause_10 : decode cX1_addClause 10 = .ok (.getfield 15, 3) := by decide +kernel
theorem dX1_addClause_13 : decode cX1_addClause 13 = .ok (.aload_n 0, 1) := by decide +kernel
theorem dX1_addClause_14 : decode cX1_addClause 14 = .ok (.getfield 41, 3) := by decide +kernel
theorem dX1_addClause_17 : decode cX1_addClause 17 = .ok (.iload_n 1, 1) := by decide +kernel
theorem dX1_addClause_18 : decode cX1_addClause 18 = .ok (.iastore, 1) := by decide +kernel
theorem dX1_addClause_19 : decode cX1_addClause 19 = .ok (.aload_n 0, 1) := by decide +kernel
theorem dX1_addClause_20 : decode cX1_addClause 20 = .ok (.getfield 18, 3) := by decide +kernel
theorem dX1_addClause_23 : decode cX1_addClause 23 = .ok (.aload_n 0, 1) := by decide +kernel
theorem dX1_addClause_24 : decode cX1_addClause 24 = .ok (.getfield 41, 3) := by decide +kernel
theorem dX1_addClause_27 : decode cX1_addClause 27 = .ok (.iload_n 2, 1) := by decide +kernel
theorem dX1_addClause_28 : decode cX1_addClause 28 = .ok (.iastore, 1) := by decide +kernel
theorem dX1_addClause_29 : decode cX1_addClause 29 = .ok (.aload_n 0, 1) := by decide +kernel
theorem dX1_addClause_30 : decode cX1_addClause 30 = .ok (.getfield 21, 3) := by decide +kernel
theorem dX1_addClause_33 : decode cX1_addClause 33 = .ok (.aload_n 0, 1) := by decide +kernel
theorem dX1_addClause_34 : decode cX1_addClause 34 = .ok (.getfield 41, 3) := by decide +kernel
theorem dX1_addClause_37 : decode cX1_addClause 37 = .ok (.iload_n 3, 1) := by decide +kernel
theorem dX1_addClause_38 : decode cX1_addClause 38 = .ok (.iastore, 1) := by decide +kernel
theorem dX1_addClause_39 : decode cX1_addClause 39 = .ok (.aload_n 0, 1) := by decide +kernel
theorem dX1_addClause_40 : decode cX1_addClause 40 = .ok (.getfield 24, 3) := by decide +kernel
theorem dX1_addClause_43 : decode cX1_addClause 43 = .ok (.aload_n 0, 1) := by decide +kernel
theorem dX1_addClause_44 : decode cX1_addClause 44 = .ok (.getfield 41, 3) := by decide +kernel
theorem dX1_addClause_47 : decode cX1_addClause 47 = .ok (.aload_n 0, 1) := by decide +kernel
theorem dX1_addClause_48 : decode cX1_addClause 48 = .ok (.getfield 45, 3) := by decide +kernel
theorem dX1_addClause_51 : decode cX1_addClause 51 = .ok (.iastore, 1) := by decide +kernel
theorem dX1_addClause_52 : decode cX1_addClause 52 = .ok (.aload_n 0, 1) := by decide +kernel
theorem dX1_addClause_53 : decode cX1_addClause 53 = .ok (.dup, 1) := by decide +kernel
theorem dX1_addClause_54 : decode cX1_addClause 54 = .ok (.getfield 41, 3) := by decide +kernel
theorem dX1_addClause_57 : decode cX1_addClause 57 = .ok (.iconst 1, 1) := by decide +kernel
theorem dX1_addClause_58 : decode cX1_addClause 58 = .ok (.iadd, 1) := by decide +kernel
theorem dX1_addClause_59 : decode cX1_addClause 59 = .ok (.putfield 41, 3) := by decide +kernel
theorem dX1_addClause_62 : decode cX1_addClause 62 = .ok (.aload_n 0, 1) := by decide +kernel
theorem dX1_addClause_63 : decode cX1_addClause 63 = .ok (.aload_n 0, 1) := by decide +kernel
theorem dX1_addClause_64 : decode cX1_addClause 64 = .ok (.getfield 48, 3) := by decide +kernel
theorem dX1_addClause_67 : decode cX1_addClause 67 = .ok (.ifCond .ne 21, 3) := by decide +kernel
theorem dX1_addClause_70 : decode cX1_addClause 70 = .ok (.iload_n 1, 1) := by decide +kernel
theorem dX1_addClause_71 : decode cX1_addClause 71 = .ok (.bipush 99, 2) := by decide +kernel
theorem dX1_addClause_73 : decode cX1_addClause 73 = .ok (.if_icmp .eq 15, 3) := by decide +kernel
theorem dX1_addClause_76 : decode cX1_addClause 76 = .ok (.iload_n 1, 1) := by decide +kernel
theorem dX1_addClause_77 : decode cX1_addClause 77 = .ok (.bipush 119, 2) := by decide +kernel
theorem dX1_addClause_79 : decode cX1_addClause 79 = .ok (.if_icmp .eq 9, 3) := by decide +kernel
theorem dX1_addClause_82 : decode cX1_addClause 82 = .ok (.iload_n 1, 1) := by decide +kernel
theorem dX1_addClause_83 : decode cX1_addClause 83 = .ok (.bipush 115, 2) := by decide +kernel
theorem dX1_addClause_85 : decode cX1_addClause 85 = .ok (.if_icmp .ne 7, 3) := by decide +kernel
theorem dX1_addClause_88 : decode cX1_addClause 88 = .ok (.iconst 1, 1) := by decide +kernel
theorem dX1_addClause_89 : decode cX1_addClause 89 = .ok (.goto 4, 3) := by decide +kernel
theorem dX1_addClause_92 : decode cX1_addClause 92 = .ok (.iconst 0, 1) := by decide +kernel
theorem dX1_addClause_93 : decode cX1_addClause 93 = .ok (.putfield 48, 3) := by decide +kernel
theorem dX1_addClause_96 : decode cX1_addClause 96 = .ok (.return_, 1) := by decide +kernel
theorem dX1_see_0 : decode cX1_see 0 = .ok (.aload_n 0, 1) := by decide +kernel
theorem dX1_see_1 : decode cX1_see 1 = .ok (.getfield 35, 3) := by decide +kernel
theorem dX1_see_4 : decode cX1_see 4 = .ok (.iconst 0, 1) := by decide +kernel
theorem dX1_see_5 : decode cX1_see 5 = .ok (.aload_n 1, 1) := by decide +kernel
theorem dX1_see_6 : decode cX1_see 6 = .ok (.getfield 63, 3) := by decide +kernel
theorem dX1_see_9 : decode cX1_see 9 = .ok (.iload_n 2, 1) := by decide +kernel
theorem dX1_see_10 : decode cX1_see 10 = .ok (.iaload, 1) := by decide +kernel
theorem dX1_see_11 : decode cX1_see 11 = .ok (.iastore, 1) := by decide +kernel
theorem dX1_see_12 : decode cX1_see 12 = .ok (.aload_n 0, 1) := by decide +kernel
theorem dX1_see_13 : decode cX1_see 13 = .ok (.getfield 35, 3) := by decide +kernel
theorem dX1_see_16 : decode cX1_see 16 = .ok (.iconst 1, 1) := by decide +kernel
theorem dX1_see_17 : decode cX1_see 17 = .ok (.aload_n 1, 1) := by decide +kernel
theorem dX1_see_18 : decode cX1_see 18 = .ok (.getfield 68, 3) := by decide +kernel
theorem dX1_see_21 : decode cX1_see 21 = .ok (.iload_n 2, 1) := by decide +kernel
theorem dX1_see_22 : decode cX1_see 22 = .ok (.iaload, 1) := by decide +kernel
theorem dX1_see_23 : decode cX1_see 23 = .ok (.iastore, 1) := by decide +kernel
theorem dX1_see_24 : decode cX1_see 24 = .ok (.aload_n 0, 1) := by decide +kernel
theorem dX1_see_25 : decode cX1_see 25 = .ok (.getfield 35, 3) := by decide +kernel
theorem dX1_see_28 : decode cX1_see 28 = .ok (.iconst 2, 1) := by decide +kernel
theorem dX1_see_29 : decode cX1_see 29 = .ok (.aload_n 1, 1) := by decide +kernel
theorem dX1_see_30 : decode cX1_see 30 = .ok (.getfield 71, 3) := by decide +kernel
theorem dX1_see_33 : decode cX1_see 33 = .ok (.iastore, 1) := by decide +kernel
theorem dX1_see_34 : decode cX1_see 34 = .ok (.aload_n 0, 1) := by decide +kernel
theorem dX1_see_35 : decode cX1_see 35 = .ok (.getfield 35, 3) := by decide +kernel
theorem dX1_see_38 : decode cX1_see 38 = .ok (.iconst 3, 1) := by decide +kernel
theorem dX1_see_39 : decode cX1_see 39 = .ok (.aload_n 1, 1) := by decide +kernel
theorem dX1_see_40 : decode cX1_see 40 = .ok (.aload_n 1, 1) := by decide +kernel
theorem dX1_see_41 : decode cX1_see 41 = .ok (.getfield 71, 3) := by decide +kernel
theorem dX1_see_44 : decode cX1_see 44 = .ok (.invokevirtual 74, 3) := by decide +kernel
theorem dX1_see_47 : decode cX1_see 47 = .ok (.iastore, 1) := by decide +kernel
theorem dX1_see_48 : decode cX1_see 48 = .ok (.aload_n 0, 1) := by decide +kernel
theorem dX1_see_49 : decode cX1_see 49 = .ok (.getfield 35, 3) := by decide +kernel
theorem dX1_see_52 : decode cX1_see 52 = .ok (.iconst 4, 1) := by decide +kernel
theorem dX1_see_53 : decode cX1_see 53 = .ok (.aload_n 1, 1) := by decide +kernel
theorem dX1_see_54 : decode cX1_see 54 = .ok (.getfield 78, 3) := by decide +kernel
theorem dX1_see_57 : decode cX1_see 57 = .ok (.iload_n 2, 1) := by decide +kernel
theorem dX1_see_58 : decode cX1_see 58 = .ok (.iaload, 1) := by decide +kernel
theorem dX1_see_59 : decode cX1_see 59 = .ok (.iastore, 1) := by decide +kernel
theorem dX1_see_60 : decode cX1_see 60 = .ok (.aload_n 0, 1) := by decide +kernel
theorem dX1_see_61 : decode cX1_see 61 = .ok (.getfield 35, 3) := by decide +kernel
theorem dX1_see_64 : decode cX1_see 64 = .ok (.iconst 5, 1) := by decide +kernel
theorem dX1_see_65 : decode cX1_see 65 = .ok (.aload_n 1, 1) := by decide +kernel
theorem dX1_see_66 : decode cX1_see 66 = .ok (.getfield 81, 3) := by decide +kernel
theorem dX1_see_69 : decode cX1_see 69 = .ok (.iload_n 2, 1) := by decide +kernel
theorem dX1_see_70 : decode cX1_see 70 = .ok (.iaload, 1) := by decide +kernel
theorem dX1_see_71 : decode cX1_see 71 = .ok (.iastore, 1) := by decide +kernel
theorem dX1_see_72 : decode cX1_see 72 = .ok (.aload_n 0, 1) := by decide +kernel
theorem dX1_see_73 : decode cX1_see 73 = .ok (.getfield 35, 3) := by decide +kernel
theorem dX1_see_76 : decode cX1_see 76 = .ok (.bipush 6, 2) := by decide +kernel
theorem dX1_see_78 : decode cX1_see 78 = .ok (.iload_n 2, 1) := by decide +kernel
theorem dX1_see_79 : decode cX1_see 79 = .ok (.bipush 12, 2) := by decide +kernel
theorem dX1_see_81 : decode cX1_see 81 = .ok (.irem, 1) := by decide +kernel
theorem dX1_see_82 : decode cX1_see 82 = .ok (.iastore, 1) := by decide +kernel
theorem dX1_see_83 : decode cX1_see 83 = .ok (.aload_n 0, 1) := by decide +kernel
theorem dX1_see_84 : decode cX1_see 84 = .ok (.getfield 35, 3) := by decide +kernel
theorem dX1_see_87 : decode cX1_see 87 = .ok (.bipush 7, 2) := by decide +kernel
theorem dX1_see_89 : decode cX1_see 89 = .ok (.iload_n 2, 1) := by decide +kernel
theorem dX1_see_90 : decode cX1_see 90 = .ok (.bipush 12, 2) := by decide +kernel
theorem dX1_see_92 : decode cX1_see 92 = .ok (.idiv, 1) := by decide +kernel
theorem dX1_see_93 : decode cX1_see 93 = .ok (.iastore, 1) := by decide +kernel
theorem dX1_see_94 : decode cX1_see 94 = .ok (.aload_n 0, 1) := by decide +kernel
theorem dX1_see_95 : decode cX1_see 95 = .ok (.getfield 35, 3) := by decide +kernel
theorem dX1_see_98 : decode cX1_see 98 = .ok (.bipush 8, 2) := by decide +kernel
theorem dX1_see_100 : decode cX1_see 100 = .ok (.aload_n 0, 1) := by decide +kernel
theorem dX1_see_101 : decode cX1_see 101 = .ok (.getfield 52, 3) := by decide +kernel
theorem dX1_see_104 : decode cX1_see 104 = .ok (.ifCond .eq 11, 3) := by decide +kernel
theorem dX1_see_107 : decode cX1_see 107 = .ok (.aload_n 1, 1) := by decide +kernel
theorem dX1_see_108 : decode cX1_see 108 = .ok (.iload_n 2, 1) := by decide +kernel
theorem dX1_see_109 : decode cX1_see 109 = .ok (.invokevirtual 84, 3) := by decide +kernel
theorem dX1_see_112 : decode cX1_see 112 = .ok (.goto 4, 3) := by decide +kernel
theorem dX1_see_115 : decode cX1_see 115 = .ok (.iconst 0, 1) := by decide +kernel
theorem dX1_see_116 : decode cX1_see 116 = .ok (.iastore, 1) := by decide +kernel
theorem dX1_see_117 : decode cX1_see 117 = .ok (.aload_n 0, 1) := by decide +kernel
theorem dX1_see_118 : decode cX1_see 118 = .ok (.getfield 35, 3) := by decide +kernel
theorem dX1_see_121 : decode cX1_see 121 = .ok (.bipush 9, 2) := by decide +kernel
theorem dX1_see_123 : decode cX1_see 123 = .ok (.iconst 0, 1) := by decide +kernel
theorem dX1_see_124 : decode cX1_see 124 = .ok (.iastore, 1) := by decide +kernel
theorem dX1_see_125 : decode cX1_see 125 = .ok (.aload_n 0, 1) := by decide +kernel
theorem dX1_see_126 : decode cX1_see 126 = .ok (.getfield 35, 3) := by decide +kernel
theorem dX1_see_129 : decode cX1_see 129 = .ok (.bipush 10, 2) := by decide +kernel
theorem dX1_see_131 : decode cX1_see 131 = .ok (.iconst 0, 1) := by decide +kernel
theorem dX1_see_132 : decode cX1_see 132 = .ok (.iastore, 1) := by decide +kernel
theorem dX1_see_133 : decode cX1_see 133 = .ok (.aload_n 0, 1) := by decide +kernel
theorem dX1_see_134 : decode cX1_see 134 = .ok (.getfield 35, 3) := by decide +kernel
theorem dX1_see_137 : decode cX1_see 137 = .ok (.bipush 11, 2) := by decide +kernel
theorem dX1_see_139 : decode cX1_see 139 = .ok (.iconst 0, 1) := by decide +kernel
theorem dX1_see_140 : decode cX1_see 140 = .ok (.iastore, 1) := by decide +kernel
theorem dX1_see_141 : decode cX1_see 141 = .ok (.aload_n 0, 1) := by decide +kernel
theorem dX1_see_142 : decode cX1_see 142 = .ok (.getfield 35, 3) := by decide +kernel
theorem dX1_see_145 : decode cX1_see 145 = .ok (.bipush 12, 2) := by decide +kernel
theorem dX1_see_147 : decode cX1_see 147 = .ok (.iconst 0, 1) := by decide +kernel
theorem dX1_see_148 : decode cX1_see 148 = .ok (.iastore, 1) := by decide +kernel
theorem dX1_see_149 : decode cX1_see 149 = .ok (.return_, 1) := by decide +kernel
theorem dX1_mist_0 : decode cX1_mist 0 = .ok (.aload_n 0, 1) := by decide +kernel
theorem dX1_mist_1 : decode cX1_mist 1 = .ok (.aload_n 1, 1) := by decide +kernel
theorem dX1_mist_2 : decode cX1_mist 2 = .ok (.iload_n 2, 1) := by decide +kernel
theorem dX1_mist_3 : decode cX1_mist 3 = .ok (.invokevirtual 87, 3) := by decide +kernel
theorem dX1_mist_6 : decode cX1_mist 6 = .ok (.aload_n 0, 1) := by decide +kernel
theorem dX1_mist_7 : decode cX1_mist 7 = .ok (.bipush 109, 2) := by decide +kernel
theorem dX1_mist_9 : decode cX1_mist 9 = .ok (.invokevirtual 91, 3) := by decide +kernel
theorem dX1_mist_12 : decode cX1_mist 12 = .ok (.ireturn, 1) := by decide +kernel
theorem dX1_top_0 : decode cX1_top 0 = .ok (.aload_n 0, 1) := by decide +kernel
theorem dX1_top_1 : decode cX1_top 1 = .ok (.aload_n 1, 1) := by decide +kernel
theorem dX1_top_2 : decode cX1_top 2 = .ok (.iload_n 2, 1) := by decide +kernel
theorem dX1_top_3 : decode cX1_top 3 = .ok (.invokevirtual 94, 3) := by decide +kernel
theorem dX1_top_6 : decode cX1_top 6 = .ok (.istore_n 3, 1) := by decide +kernel
theorem dX1_top_7 : decode cX1_top 7 = .ok (.iload_n 3, 1) := by decide +kernel
theorem dX1_top_8 : decode cX1_top 8 = .ok (.ifCond .le 14, 3) := by decide +kernel
theorem dX1_top_11 : decode cX1_top 11 = .ok (.aload_n 1, 1) := by decide +kernel
theorem dX1_top_12 : decode cX1_top 12 = .ok (.getfield 63, 3) := by decide +kernel
theorem dX1_top_15 : decode cX1_top 15 = .ok (.iload_n 2, 1) := by decide +kernel
theorem dX1_top_16 : decode cX1_top 16 = .ok (.iaload, 1) := by decide +kernel
theorem dX1_top_17 : decode cX1_top 17 = .ok (.iload_n 3, 1) := by decide +kernel
theorem dX1_top_18 : decode cX1_top 18 = .ok (.iadd, 1) := by decide +kernel
theorem dX1_top_19 : decode cX1_top 19 = .ok (.goto 4, 3) := by decide +kernel
theorem dX1_top_22 : decode cX1_top 22 = .ok (.iconst 0, 1) := by decide +kernel
theorem dX1_top_23 : decode cX1_top 23 = .ok (.ireturn, 1) := by decide +kernel
theorem dX1_yards_0 : decode cX1_yards 0 = .ok (.aload_n 0, 1) := by decide +kernel
theorem dX1_yards_1 : decode cX1_yards 1 = .ok (.getfield 35, 3) := by decide +kernel
theorem dX1_yards_4 : decode cX1_yards 4 = .ok (.bipush 9, 2) := by decide +kernel
theorem dX1_yards_6 : decode cX1_yards 6 = .ok (.aload_n 0, 1) := by decide +kernel
theorem dX1_yards_7 : decode cX1_yards 7 = .ok (.aload_n 1, 1) := by decide +kernel
theorem dX1_yards_8 : decode cX1_yards 8 = .ok (.iload_n 2, 1) := by decide +kernel
theorem dX1_yards_9 : decode cX1_yards 9 = .ok (.invokevirtual 94, 3) := by decide +kernel
theorem dX1_yards_12 : decode cX1_yards 12 = .ok (.iastore, 1) := by decide +kernel
theorem dX1_yards_13 : decode cX1_yards 13 = .ok (.aload_n 0, 1) := by decide +kernel
theorem dX1_yards_14 : decode cX1_yards 14 = .ok (.bipush 121, 2) := by decide +kernel
theorem dX1_yards_16 : decode cX1_yards 16 = .ok (.invokevirtual 91, 3) := by decide +kernel
theorem dX1_yards_19 : decode cX1_yards 19 = .ok (.ireturn, 1) := by decide +kernel
theorem dX1_saysMist_0 : decode cX1_saysMist 0 = .ok (.aload_n 0, 1) := by decide +kernel
theorem dX1_saysMist_1 : decode cX1_saysMist 1 = .ok (.getfield 35, 3) := by decide +kernel
theorem dX1_saysMist_4 : decode cX1_saysMist 4 = .ok (.iconst 0, 1) := by decide +kernel
theorem dX1_saysMist_5 : decode cX1_saysMist 5 = .ok (.invokestatic 98, 3) := by decide +kernel
theorem dX1_saysMist_8 : decode cX1_saysMist 8 = .ok (.aload_n 0, 1) := by decide +kernel
theorem dX1_saysMist_9 : decode cX1_saysMist 9 = .ok (.getfield 35, 3) := by decide +kernel
theorem dX1_saysMist_12 : decode cX1_saysMist 12 = .ok (.bipush 10, 2) := by decide +kernel
theorem dX1_saysMist_14 : decode cX1_saysMist 14 = .ok (.iload_n 1, 1) := by decide +kernel
theorem dX1_saysMist_15 : decode cX1_saysMist 15 = .ok (.iastore, 1) := by decide +kernel
theorem dX1_saysMist_16 : decode cX1_saysMist 16 = .ok (.aload_n 0, 1) := by decide +kernel
theorem dX1_saysMist_17 : decode cX1_saysMist 17 = .ok (.getfield 35, 3) := by decide +kernel
theorem dX1_saysMist_20 : decode cX1_saysMist 20 = .ok (.bipush 11, 2) := by decide +kernel
theorem dX1_saysMist_22 : decode cX1_saysMist 22 = .ok (.iload_n 2, 1) := by decide +kernel
theorem dX1_saysMist_23 : decode cX1_saysMist 23 = .ok (.iastore, 1) := by decide +kernel
theorem dX1_saysMist_24 : decode cX1_saysMist 24 = .ok (.aload_n 0, 1) := by decide +kernel
theorem dX1_saysMist_25 : decode cX1_saysMist 25 = .ok (.getfield 35, 3) := by decide +kernel
theorem dX1_saysMist_28 : decode cX1_saysMist 28 = .ok (.bipush 12, 2) := by decide +kernel
theorem dX1_saysMist_30 : decode cX1_saysMist 30 = .ok (.iload_n 3, 1) := by decide +kernel
theorem dX1_saysMist_31 : decode cX1_saysMist 31 = .ok (.iastore, 1) := by decide +kernel
theorem dX1_saysMist_32 : decode cX1_saysMist 32 = .ok (.aload_n 0, 1) := by decide +kernel
theorem dX1_saysMist_33 : decode cX1_saysMist 33 = .ok (.bipush 102, 2) := by decide +kernel
theorem dX1_saysMist_35 : decode cX1_saysMist 35 = .ok (.invokevirtual 91, 3) := by decide +kernel
theorem dX1_saysMist_38 : decode cX1_saysMist 38 = .ok (.ifCond .le 7, 3) := by decide +kernel
theorem dX1_saysMist_41 : decode cX1_saysMist 41 = .ok (.iconst 1, 1) := by decide +kernel
theorem dX1_saysMist_42 : decode cX1_saysMist 42 = .ok (.goto 4, 3) := by decide +kernel
theorem dX1_saysMist_45 : decode cX1_saysMist 45 = .ok (.iconst 0, 1) := by decide +kernel
theorem dX1_saysMist_46 : decode cX1_saysMist 46 = .ok (.ireturn, 1) := by decide +kernel
theorem dX1_worth_0 : decode cX1_worth 0 = .ok (.iconst 0, 1) := by decide +kernel
theorem dX1_worth_1 : decode cX1_worth 1 = .ok (.istore_n 2, 1) := by decide +kernel
theorem dX1_worth_2 : decode cX1_worth 2 = .ok (.iload_n 2, 1) := by decide +kernel
theorem dX1_worth_3 : decode cX1_worth 3 = .ok (.aload_n 0, 1) := by decide +kernel
theorem dX1_worth_4 : decode cX1_worth 4 = .ok (.getfield 41, 3) := by decide +kernel
theorem dX1_worth_7 : decode cX1_worth 7 = .ok (.if_icmp .ge 62, 3) := by decide +kernel
theorem dX1_worth_10 : decode cX1_worth 10 = .ok (.aload_n 0, 1) := by decide +kernel
theorem dX1_worth_11 : decode cX1_worth 11 = .ok (.getfield 15, 3) := by decide +kernel
theorem dX1_worth_14 : decode cX1_worth 14 = .ok (.iload_n 2, 1) := by decide +kernel
theorem dX1_worth_15 : decode cX1_worth 15 = .ok (.iaload, 1) := by decide +kernel
theorem dX1_worth_16 : decode cX1_worth 16 = .ok (.iload_n 1, 1) := by decide +kernel
theorem dX1_worth_17 : decode cX1_worth 17 = .ok (.if_icmp .ne 46, 3) := by decide +kernel
theorem dX1_worth_20 : decode cX1_worth 20 = .ok (.aload_n 0, 1) := by decide +kernel
theorem dX1_worth_21 : decode cX1_worth 21 = .ok (.aload_n 0, 1) := by decide +kernel
theorem dX1_worth_22 : decode cX1_worth 22 = .ok (.getfield 21, 3) := by decide +kernel
theorem dX1_worth_25 : decode cX1_worth 25 = .ok (.iload_n 2, 1) := by decide +kernel
theorem dX1_worth_26 : decode cX1_worth 26 = .ok (.iaload, 1) := by decide +kernel
theorem dX1_worth_27 : decode cX1_worth 27 = .ok (.aload_n 0, 1) := by decide +kernel
theorem dX1_worth_28 : decode cX1_worth 28 = .ok (.getfield 24, 3) := by decide +kernel
theorem dX1_worth_31 : decode cX1_worth 31 = .ok (.iload_n 2, 1) := by decide +kernel
theorem dX1_worth_32 : decode cX1_worth 32 = .ok (.iaload, 1) := by decide +kernel
theorem dX1_worth_33 : decode cX1_worth 33 = .ok (.invokevirtual 104, 3) := by decide +kernel
theorem dX1_worth_36 : decode cX1_worth 36 = .ok (.ifCond .eq 27, 3) := by decide +kernel
theorem dX1_worth_39 : decode cX1_worth 39 = .ok (.aload_n 0, 1) := by decide +kernel
theorem dX1_worth_40 : decode cX1_worth 40 = .ok (.aload_n 0, 1) := by decide +kernel
theorem dX1_worth_41 : decode cX1_worth 41 = .ok (.getfield 18, 3) := by decide +kernel
theorem dX1_worth_44 : decode cX1_worth 44 = .ok (.iload_n 2, 1) := by decide +kernel
theorem dX1_worth_45 : decode cX1_worth 45 = .ok (.iaload, 1) := by decide +kernel
theorem dX1_worth_46 : decode cX1_worth 46 = .ok (.aload_n 0, 1) := by decide +kernel
theorem dX1_worth_47 : decode cX1_worth 47 = .ok (.getfield 21, 3) := by decide +kernel
theorem dX1_worth_50 : decode cX1_worth 50 = .ok (.iload_n 2, 1) := by decide +kernel
theorem dX1_worth_51 : decode cX1_worth 51 = .ok (.iaload, 1) := by decide +kernel
theorem dX1_worth_52 : decode cX1_worth 52 = .ok (.invokevirtual 104, 3) := by decide +kernel
theorem dX1_worth_55 : decode cX1_worth 55 = .ok (.iload_n 1, 1) := by decide +kernel
theorem dX1_worth_56 : decode cX1_worth 56 = .ok (.invokestatic 108, 3) := by decide +kernel
theorem dX1_worth_59 : decode cX1_worth 59 = .ok (.invokestatic 111, 3) := by decide +kernel
theorem dX1_worth_62 : decode cX1_worth 62 = .ok (.ireturn, 1) := by decide +kernel
theorem dX1_worth_63 : decode cX1_worth 63 = .ok (.iinc 2 1, 3) := by decide +kernel
theorem dX1_worth_66 : decode cX1_worth 66 = .ok (.goto (-64), 3) := by decide +kernel
theorem dX1_worth_69 : decode cX1_worth 69 = .ok (.iconst 0, 1) := by decide +kernel
theorem dX1_worth_70 : decode cX1_worth 70 = .ok (.ireturn, 1) := by decide +kernel
theorem dX1_most_0 : decode cX1_most 0 = .ok (.iload_n 0, 1) := by decide +kernel
theorem dX1_most_1 : decode cX1_most 1 = .ok (.bipush 121, 2) := by decide +kernel
theorem dX1_most_3 : decode cX1_most 3 = .ok (.if_icmp .ne 7, 3) := by decide +kernel
theorem dX1_most_6 : decode cX1_most 6 = .ok (.sipush 999, 3) := by decide +kernel
theorem dX1_most_9 : decode cX1_most 9 = .ok (.ireturn, 1) := by decide +kernel
theorem dX1_most_10 : decode cX1_most 10 = .ok (.iload_n 0, 1) := by decide +kernel
theorem dX1_most_11 : decode cX1_most 11 = .ok (.bipush 102, 2) := by decide +kernel
theorem dX1_most_13 : decode cX1_most 13 = .ok (.if_icmp .ne 7, 3) := by decide +kernel
theorem dX1_most_16 : decode cX1_most 16 = .ok (.iconst 1, 1) := by decide +kernel
theorem dX1_most_17 : decode cX1_most 17 = .ok (.goto 5, 3) := by decide +kernel
theorem dX1_most_20 : decode cX1_most 20 = .ok (.bipush 99, 2) := by decide +kernel
theorem dX1_most_22 : decode cX1_most 22 = .ok (.ireturn, 1) := by decide +kernel
theorem dX1_run_0 : decode cX1_run 0 = .ok (.iconst 0, 1) := by decide +kernel
theorem dX1_run_1 : decode cX1_run 1 = .ok (.istore_n 3, 1) := by decide +kernel
theorem dX1_run_2 : decode cX1_run 2 = .ok (.iconst 0, 1) := by decide +kernel
theorem dX1_run_3 : decode cX1_run 3 = .ok (.iload_n 1, 1) := by decide +kernel
theorem dX1_run_4 : decode cX1_run 4 = .ok (.invokestatic 114, 3) := by decide +kernel
theorem dX1_run_7 : decode cX1_run 7 = .ok (.istore 4, 2) := by decide +kernel
theorem dX1_run_9 : decode cX1_run 9 = .ok (.iload_n 2, 1) := by decide +kernel
theorem dX1_run_10 : decode cX1_run 10 = .ok (.sipush 400, 3) := by decide +kernel
theorem dX1_run_13 : decode cX1_run 13 = .ok (.invokestatic 119, 3) := by decide +kernel
theorem dX1_run_16 : decode cX1_run 16 = .ok (.istore 5, 2) := by decide +kernel
theorem dX1_run_18 : decode cX1_run 18 = .ok (.iconst 0, 1) := by decide +kernel
theorem dX1_run_19 : decode cX1_run 19 = .ok (.istore 6, 2) := by decide +kernel
theorem dX1_run_21 : decode cX1_run 21 = .ok (.iload 6, 2) := by decide +kernel
theorem dX1_run_23 : decode cX1_run 23 = .ok (.sipush 400, 3) := by decide +kernel
theorem dX1_run_26 : decode cX1_run 26 = .ok (.if_icmp .ge 317, 3) := by decide +kernel
theorem dX1_run_29 : decode cX1_run 29 = .ok (.iload 4, 2) := by decide +kernel
theorem dX1_run_31 : decode cX1_run 31 = .ok (.iload 5, 2) := by decide +kernel
theorem dX1_run_33 : decode cX1_run 33 = .ok (.if_icmp .ge 310, 3) := by decide +kernel
theorem dX1_run_36 : decode cX1_run 36 = .ok (.aload_n 0, 1) := by decide +kernel
theorem dX1_run_37 : decode cX1_run 37 = .ok (.getfield 11, 3) := by decide +kernel
theorem dX1_run_40 : decode cX1_run 40 = .ok (.iload 4, 2) := by decide +kernel
theorem dX1_run_42 : decode cX1_run 42 = .ok (.iaload, 1) := by decide +kernel
theorem dX1_run_43 : decode cX1_run 43 = .ok (.istore 7, 2) := by decide +kernel
theorem dX1_run_45 : decode cX1_run 45 = .ok (.iload 4, 2) := by decide +kernel
theorem dX1_run_47 : decode cX1_run 47 = .ok (.iconst 1, 1) := by decide +kernel
theorem dX1_run_48 : decode cX1_run 48 = .ok (.iadd, 1) := by decide +kernel
theorem dX1_run_49 : decode cX1_run 49 = .ok (.iload 5, 2) := by decide +kernel
theorem dX1_run_51 : decode cX1_run 51 = .ok (.if_icmp .ge 15, 3) := by decide +kernel
theorem dX1_run_54 : decode cX1_run 54 = .ok (.aload_n 0, 1) := by decide +kernel
theorem dX1_run_55 : decode cX1_run 55 = .ok (.getfield 11, 3) := by decide +kernel
theorem dX1_run_58 : decode cX1_run 58 = .ok (.iload 4, 2) := by decide +kernel
theorem dX1_run_60 : decode cX1_run 60 = .ok (.iconst 1, 1) := by decide +kernel
theorem dX1_run_61 : decode cX1_run 61 = .ok (.iadd, 1) := by decide +kernel
theorem dX1_run_62 : decode cX1_run 62 = .ok (.iaload, 1) := by decide +kernel
theorem dX1_run_63 : decode cX1_run 63 = .ok (.goto 4, 3) := by decide +kernel
theorem dX1_run_66 : decode cX1_run 66 = .ok (.iconst 0, 1) := by decide +kernel
theorem dX1_run_67 : decode cX1_run 67 = .ok (.istore 8, 2) := by decide +kernel
theorem dX1_run_69 : decode cX1_run 69 = .ok (.iload 7, 2) := by decide +kernel
theorem dX1_run_71 : decode cX1_run 71 = .ok (.bipush 13, 2) := by decide +kernel
theorem dX1_run_73 : decode cX1_run 73 = .ok (.invokestatic 59, 3) := by decide +kernel
theorem dX1_run_76 : decode cX1_run 76 = .ok (.ifCond .eq 59, 3) := by decide +kernel
theorem dX1_run_79 : decode cX1_run 79 = .ok (.iload_n 3, 1) := by decide +kernel
theorem dX1_run_80 : decode cX1_run 80 = .ok (.bipush 32, 2) := by decide +kernel
theorem dX1_run_82 : decode cX1_run 82 = .ok (.if_icmp .lt 5, 3) := by decide +kernel
theorem dX1_run_85 : decode cX1_run 85 = .ok (.iconst 0, 1) := by decide +kernel
theorem dX1_run_86 : decode cX1_run 86 = .ok (.ireturn, 1) := by decide +kernel
theorem dX1_run_87 : decode cX1_run 87 = .ok (.aload_n 0, 1) := by decide +kernel
theorem dX1_run_88 : decode cX1_run 88 = .ok (.getfield 38, 3) := by decide +kernel
theorem dX1_run_91 : decode cX1_run 91 = .ok (.iload_n 3, 1) := by decide +kernel
theorem dX1_run_92 : decode cX1_run 92 = .ok (.iload 7, 2) := by decide +kernel
theorem dX1_run_94 : decode cX1_run 94 = .ok (.bipush 13, 2) := by decide +kernel
theorem dX1_run_96 : decode cX1_run 96 = .ok (.if_icmp .ne 8, 3) := by decide +kernel
theorem dX1_run_99 : decode cX1_run 99 = .ok (.iload 8, 2) := by decide +kernel
theorem dX1_run_101 : decode cX1_run 101 = .ok (.goto 10, 3) := by decide +kernel
theorem dX1_run_104 : decode cX1_run 104 = .ok (.aload_n 0, 1) := by decide +kernel
theorem dX1_run_105 : decode cX1_run 105 = .ok (.getfield 35, 3) := by decide +kernel
theorem dX1_run_108 : decode cX1_run 108 = .ok (.iload 7, 2) := by decide +kernel
theorem dX1_run_110 : decode cX1_run 110 = .ok (.iaload, 1) := by decide +kernel
theorem dX1_run_111 : decode cX1_run 111 = .ok (.iastore, 1) := by decide +kernel
theorem dX1_run_112 : decode cX1_run 112 = .ok (.iinc 3 1, 3) := by decide +kernel
theorem dX1_run_115 : decode cX1_run 115 = .ok (.iload 4, 2) := by decide +kernel
theorem dX1_run_117 : decode cX1_run 117 = .ok (.iload 7, 2) := by decide +kernel
theorem dX1_run_119 : decode cX1_run 119 = .ok (.bipush 13, 2) := by decide +kernel
theorem dX1_run_121 : decode cX1_run 121 = .ok (.if_icmp .ne 7, 3) := by decide +kernel
theorem dX1_run_124 : decode cX1_run 124 = .ok (.iconst 2, 1) := by decide +kernel
theorem dX1_run_125 : decode cX1_run 125 = .ok (.goto 4, 3) := by decide +kernel
theorem dX1_run_128 : decode cX1_run 128 = .ok (.iconst 1, 1) := by decide +kernel
theorem dX1_run_129 : decode cX1_run 129 = .ok (.iadd, 1) := by decide +kernel
theorem dX1_run_130 : decode cX1_run 130 = .ok (.istore 4, 2) := by decide +kernel
theorem dX1_run_132 : decode cX1_run 132 = .ok (.goto 205, 3) := by decide +kernel
theorem dX1_run_135 : decode cX1_run 135 = .ok (.iload_n 3, 1) := by decide +kernel
theorem dX1_run_136 : decode cX1_run 136 = .ok (.iconst 1, 1) := by decide +kernel
theorem dX1_run_137 : decode cX1_run 137 = .ok (.if_icmp .ge 5, 3) := by decide +kernel
theorem dX1_run_140 : decode cX1_run 140 = .ok (.iconst 0, 1) := by decide +kernel
theorem dX1_run_141 : decode cX1_run 141 = .ok (.ireturn, 1) := by decide +kernel
theorem dX1_run_142 : decode cX1_run 142 = .ok (.iload 7, 2) := by decide +kernel
theorem dX1_run_144 : decode cX1_run 144 = .ok (.bipush 38, 2) := by decide +kernel
theorem dX1_run_146 : decode cX1_run 146 = .ok (.if_icmp .eq 10, 3) := by decide +kernel
theorem dX1_run_149 : decode cX1_run 149 = .ok (.iload 7, 2) := by decide +kernel
theorem dX1_run_151 : decode cX1_run 151 = .ok (.bipush 124, 2) := by decide +kernel
theorem dX1_run_153 : decode cX1_run 153 = .ok (.if_icmp .ne 80, 3) := by decide +kernel
theorem dX1_run_156 : decode cX1_run 156 = .ok (.aload_n 0, 1) := by decide +kernel
theorem dX1_run_157 : decode cX1_run 157 = .ok (.getfield 38, 3) := by decide +kernel
theorem dX1_run_160 : decode cX1_run 160 = .ok (.iload_n 3, 1) := by decide +kernel
theorem dX1_run_161 : decode cX1_run 161 = .ok (.iconst 1, 1) := by decide +kernel
theorem dX1_run_162 : decode cX1_run 162 = .ok (.isub, 1) := by decide +kernel
theorem dX1_run_163 : decode cX1_run 163 = .ok (.iaload, 1) := by decide +kernel
theorem dX1_run_164 : decode cX1_run 164 = .ok (.ifCond .eq 7, 3) := by decide +kernel
theorem dX1_run_167 : decode cX1_run 167 = .ok (.iconst 1, 1) := by decide +kernel
theorem dX1_run_168 : decode cX1_run 168 = .ok (.goto 4, 3) := by decide +kernel
theorem dX1_run_171 : decode cX1_run 171 = .ok (.iconst 0, 1) := by decide +kernel
theorem dX1_run_172 : decode cX1_run 172 = .ok (.iload 7, 2) := by decide +kernel
theorem dX1_run_174 : decode cX1_run 174 = .ok (.bipush 124, 2) := by decide +kernel
theorem dX1_run_176 : decode cX1_run 176 = .ok (.if_icmp .ne 7, 3) := by decide +kernel
theorem dX1_run_179 : decode cX1_run 179 = .ok (.iconst 1, 1) := by decide +kernel
theorem dX1_run_180 : decode cX1_run 180 = .ok (.goto 4, 3) := by decide +kernel
theorem dX1_run_183 : decode cX1_run 183 = .ok (.iconst 0, 1) := by decide +kernel
theorem dX1_run_184 : decode cX1_run 184 = .ok (.if_icmp .ne 7, 3) := by decide +kernel
theorem dX1_run_187 : decode cX1_run 187 = .ok (.iconst 1, 1) := by decide +kernel
theorem dX1_run_188 : decode cX1_run 188 = .ok (.goto 4, 3) := by decide +kernel
theorem dX1_run_191 : decode cX1_run 191 = .ok (.iconst 0, 1) := by decide +kernel
theorem dX1_run_192 : decode cX1_run 192 = .ok (.istore 9, 2) := by decide +kernel
theorem dX1_run_194 : decode cX1_run 194 = .ok (.iload 9, 2) := by decide +kernel
theorem dX1_run_196 : decode cX1_run 196 = .ok (.ifCond .eq 15, 3) := by decide +kernel
theorem dX1_run_199 : decode cX1_run 199 = .ok (.iload 4, 2) := by decide +kernel
theorem dX1_run_201 : decode cX1_run 201 = .ok (.iconst 2, 1) := by decide +kernel
theorem dX1_run_202 : decode cX1_run 202 = .ok (.iadd, 1) := by decide +kernel
theorem dX1_run_203 : decode cX1_run 203 = .ok (.iload 8, 2) := by decide +kernel
theorem dX1_run_205 : decode cX1_run 205 = .ok (.invokestatic 114, 3) := by decide +kernel
theorem dX1_run_208 : decode cX1_run 208 = .ok (.goto 7, 3) := by decide +kernel
theorem dX1_run_211 : decode cX1_run 211 = .ok (.iload 4, 2) := by decide +kernel
theorem dX1_run_213 : decode cX1_run 213 = .ok (.iconst 2, 1) := by decide +kernel
theorem dX1_run_214 : decode cX1_run 214 = .ok (.iadd, 1) := by decide +kernel
theorem dX1_run_215 : decode cX1_run 215 = .ok (.istore 4, 2) := by decide +kernel
theorem dX1_run_217 : decode cX1_run 217 = .ok (.iload_n 3, 1) := by decide +kernel
theorem dX1_run_218 : decode cX1_run 218 = .ok (.iload 9, 2) := by decide +kernel
theorem dX1_run_220 : decode cX1_run 220 = .ok (.ifCond .eq 7, 3) := by decide +kernel
theorem dX1_run_223 : decode cX1_run 223 = .ok (.iconst 0, 1) := by decide +kernel
theorem dX1_run_224 : decode cX1_run 224 = .ok (.goto 4, 3) := by decide +kernel
theorem dX1_run_227 : decode cX1_run 227 = .ok (.iconst 1, 1) := by decide +kernel
theorem dX1_run_228 : decode cX1_run 228 = .ok (.isub, 1) := by decide +kernel
theorem dX1_run_229 : decode cX1_run 229 = .ok (.istore_n 3, 1) := by decide +kernel
theorem dX1_run_230 : decode cX1_run 230 = .ok (.goto 107, 3) := by decide +kernel
theorem dX1_run_233 : decode cX1_run 233 = .ok (.iload 7, 2) := by decide +kernel
theorem dX1_run_235 : decode cX1_run 235 = .ok (.bipush 33, 2) := by decide +kernel
theorem dX1_run_237 : decode cX1_run 237 = .ok (.if_icmp .ne 33, 3) := by decide +kernel
theorem dX1_run_240 : decode cX1_run 240 = .ok (.aload_n 0, 1) := by decide +kernel
theorem dX1_run_241 : decode cX1_run 241 = .ok (.getfield 38, 3) := by decide +kernel
theorem dX1_run_244 : decode cX1_run 244 = .ok (.iload_n 3, 1) := by decide +kernel
theorem dX1_run_245 : decode cX1_run 245 = .ok (.iconst 1, 1) := by decide +kernel
theorem dX1_run_246 : decode cX1_run 246 = .ok (.isub, 1) := by decide +kernel
theorem dX1_run_247 : decode cX1_run 247 = .ok (.aload_n 0, 1) := by decide +kernel
theorem dX1_run_248 : decode cX1_run 248 = .ok (.getfield 38, 3) := by decide +kernel
theorem dX1_run_251 : decode cX1_run 251 = .ok (.iload_n 3, 1) := by decide +kernel
theorem dX1_run_252 : decode cX1_run 252 = .ok (.iconst 1, 1) := by decide +kernel
theorem dX1_run_253 : decode cX1_run 253 = .ok (.isub, 1) := by decide +kernel
theorem dX1_run_254 : decode cX1_run 254 = .ok (.iaload, 1) := by decide +kernel
theorem dX1_run_255 : decode cX1_run 255 = .ok (.ifCond .ne 7, 3) := by decide +kernel
theorem dX1_run_258 : decode cX1_run 258 = .ok (.iconst 1, 1) := by decide +kernel
theorem dX1_run_259 : decode cX1_run 259 = .ok (.goto 4, 3) := by decide +kernel
theorem dX1_run_262 : decode cX1_run 262 = .ok (.iconst 0, 1) := by decide +kernel
theorem dX1_run_263 : decode cX1_run 263 = .ok (.iastore, 1) := by decide +kernel
theorem dX1_run_264 : decode cX1_run 264 = .ok (.iinc 4 1, 3) := by decide +kernel
theorem dX1_run_267 : decode cX1_run 267 = .ok (.goto 70, 3) := by decide +kernel
theorem dX1_run_270 : decode cX1_run 270 = .ok (.iload_n 3, 1) := by decide +kernel
theorem dX1_run_271 : decode cX1_run 271 = .ok (.iconst 2, 1) := by decide +kernel
theorem dX1_run_272 : decode cX1_run 272 = .ok (.if_icmp .lt 28, 3) := by decide +kernel
theorem dX1_run_275 : decode cX1_run 275 = .ok (.aload_n 0, 1) := by decide +kernel
theorem dX1_run_276 : decode cX1_run 276 = .ok (.getfield 38, 3) := by decide +kernel
theorem dX1_run_279 : decode cX1_run 279 = .ok (.iload_n 3, 1) := by decide +kernel
theorem dX1_run_280 : decode cX1_run 280 = .ok (.iconst 1, 1) := by decide +kernel
theorem dX1_run_281 : decode cX1_run 281 = .ok (.isub, 1) := by decide +kernel
theorem dX1_run_282 : decode cX1_run 282 = .ok (.iaload, 1) := by decide +kernel
theorem dX1_run_283 : decode cX1_run 283 = .ok (.ifCond .ne 19, 3) := by decide +kernel
theorem dX1_run_286 : decode cX1_run 286 = .ok (.iload 7, 2) := by decide +kernel
theorem dX1_run_288 : decode cX1_run 288 = .ok (.bipush 47, 2) := by decide +kernel
theorem dX1_run_290 : decode cX1_run 290 = .ok (.if_icmp .eq 10, 3) := by decide +kernel
theorem dX1_run_293 : decode cX1_run 293 = .ok (.iload 7, 2) := by decide +kernel
theorem dX1_run_295 : decode cX1_run 295 = .ok (.bipush 37, 2) := by decide +kernel
theorem dX1_run_297 : decode cX1_run 297 = .ok (.if_icmp .ne 5, 3) := by decide +kernel
theorem dX1_run_300 : decode cX1_run 300 = .ok (.iconst 0, 1) := by decide +kernel
theorem dX1_run_301 : decode cX1_run 301 = .ok (.ireturn, 1) := by decide +kernel
theorem dX1_run_302 : decode cX1_run 302 = .ok (.aload_n 0, 1) := by decide +kernel
theorem dX1_run_303 : decode cX1_run 303 = .ok (.getfield 38, 3) := by decide +kernel
theorem dX1_run_306 : decode cX1_run 306 = .ok (.iload_n 3, 1) := by decide +kernel
theorem dX1_run_307 : decode cX1_run 307 = .ok (.iconst 2, 1) := by decide +kernel
theorem dX1_run_308 : decode cX1_run 308 = .ok (.isub, 1) := by decide +kernel
theorem dX1_run_309 : decode cX1_run 309 = .ok (.iload 7, 2) := by decide +kernel
theorem dX1_run_311 : decode cX1_run 311 = .ok (.aload_n 0, 1) := by decide +kernel
theorem dX1_run_312 : decode cX1_run 312 = .ok (.getfield 38, 3) := by decide +kernel
theorem dX1_run_315 : decode cX1_run 315 = .ok (.iload_n 3, 1) := by decide +kernel
theorem dX1_run_316 : decode cX1_run 316 = .ok (.iconst 2, 1) := by decide +kernel
theorem dX1_run_317 : decode cX1_run 317 = .ok (.isub, 1) := by decide +kernel
theorem dX1_run_318 : decode cX1_run 318 = .ok (.iaload, 1) := by decide +kernel
theorem dX1_run_319 : decode cX1_run 319 = .ok (.aload_n 0, 1) := by decide +kernel
theorem dX1_run_320 : decode cX1_run 320 = .ok (.getfield 38, 3) := by decide +kernel
theorem dX1_run_323 : decode cX1_run 323 = .ok (.iload_n 3, 1) := by decide +kernel
theorem dX1_run_324 : decode cX1_run 324 = .ok (.iconst 1, 1) := by decide +kernel
theorem dX1_run_325 : decode cX1_run 325 = .ok (.isub, 1) := by decide +kernel
theorem dX1_run_326 : decode cX1_run 326 = .ok (.iaload, 1) := by decide +kernel
theorem dX1_run_327 : decode cX1_run 327 = .ok (.invokestatic 122, 3) := by decide +kernel
theorem dX1_run_330 : decode cX1_run 330 = .ok (.iastore, 1) := by decide +kernel
theorem dX1_run_331 : decode cX1_run 331 = .ok (.iinc 3 (-1), 3) := by decide +kernel
theorem dX1_run_334 : decode cX1_run 334 = .ok (.iinc 4 1, 3) := by decide +kernel
theorem dX1_run_337 : decode cX1_run 337 = .ok (.iinc 6 1, 3) := by decide +kernel
theorem dX1_run_340 : decode cX1_run 340 = .ok (.goto (-319), 3) := by decide +kernel
theorem dX1_run_343 : decode cX1_run 343 = .ok (.iload_n 3, 1) := by decide +kernel
theorem dX1_run_344 : decode cX1_run 344 = .ok (.iconst 1, 1) := by decide +kernel
theorem dX1_run_345 : decode cX1_run 345 = .ok (.if_icmp .ge 7, 3) := by decide +kernel
theorem dX1_run_348 : decode cX1_run 348 = .ok (.iconst 0, 1) := by decide +kernel
theorem dX1_run_349 : decode cX1_run 349 = .ok (.goto 11, 3) := by decide +kernel
theorem dX1_run_352 : decode cX1_run 352 = .ok (.aload_n 0, 1) := by decide +kernel
theorem dX1_run_353 : decode cX1_run 353 = .ok (.getfield 38, 3) := by decide +kernel
theorem dX1_run_356 : decode cX1_run 356 = .ok (.iload_n 3, 1) := by decide +kernel
theorem dX1_run_357 : decode cX1_run 357 = .ok (.iconst 1, 1) := by decide +kernel
theorem dX1_run_358 : decode cX1_run 358 = .ok (.isub, 1) := by decide +kernel
theorem dX1_run_359 : decode cX1_run 359 = .ok (.iaload, 1) := by decide +kernel
theorem dX1_run_360 : decode cX1_run 360 = .ok (.ireturn, 1) := by decide +kernel
theorem dX1_combine_0 : decode cX1_combine 0 = .ok (.iload_n 0, 1) := by decide +kernel
theorem dX1_combine_1 : decode cX1_combine 1 = .ok (.lookupswitch 125 #[(37, 91), (42, 75), (43, 67), (45, 71), (47, 79), (60, 103), (62, 114)], 67) := by decide +kernel
theorem dX1_combine_68 : decode cX1_combine 68 = .ok (.iload_n 1, 1) := by decide +kernel
theorem dX1_combine_69 : decode cX1_combine 69 = .ok (.iload_n 2, 1) := by decide +kernel
theorem dX1_combine_70 : decode cX1_combine 70 = .ok (.iadd, 1) := by decide +kernel
theorem dX1_combine_71 : decode cX1_combine 71 = .ok (.ireturn, 1) := by decide +kernel
theorem dX1_combine_72 : decode cX1_combine 72 = .ok (.iload_n 1, 1) := by decide +kernel
theorem dX1_combine_73 : decode cX1_combine 73 = .ok (.iload_n 2, 1) := by decide +kernel
theorem dX1_combine_74 : decode cX1_combine 74 = .ok (.isub, 1) := by decide +kernel
theorem dX1_combine_75 : decode cX1_combine 75 = .ok (.ireturn, 1) := by decide +kernel
theorem dX1_combine_76 : decode cX1_combine 76 = .ok (.iload_n 1, 1) := by decide +kernel
theorem dX1_combine_77 : decode cX1_combine 77 = .ok (.iload_n 2, 1) := by decide +kernel
theorem dX1_combine_78 : decode cX1_combine 78 = .ok (.imul, 1) := by decide +kernel
theorem dX1_combine_79 : decode cX1_combine 79 = .ok (.ireturn, 1) := by decide +kernel
theorem dX1_combine_80 : decode cX1_combine 80 = .ok (.iload_n 2, 1) := by decide +kernel
theorem dX1_combine_81 : decode cX1_combine 81 = .ok (.ifCond .ne 7, 3) := by decide +kernel
theorem dX1_combine_84 : decode cX1_combine 84 = .ok (.iconst 0, 1) := by decide +kernel
theorem dX1_combine_85 : decode cX1_combine 85 = .ok (.goto 6, 3) := by decide +kernel
theorem dX1_combine_88 : decode cX1_combine 88 = .ok (.iload_n 1, 1) := by decide +kernel
theorem dX1_combine_89 : decode cX1_combine 89 = .ok (.iload_n 2, 1) := by decide +kernel
theorem dX1_combine_90 : decode cX1_combine 90 = .ok (.idiv, 1) := by decide +kernel
theorem dX1_combine_91 : decode cX1_combine 91 = .ok (.ireturn, 1) := by decide +kernel
theorem dX1_combine_92 : decode cX1_combine 92 = .ok (.iload_n 2, 1) := by decide +kernel
theorem dX1_combine_93 : decode cX1_combine 93 = .ok (.ifCond .ne 7, 3) := by decide +kernel
theorem dX1_combine_96 : decode cX1_combine 96 = .ok (.iconst 0, 1) := by decide +kernel
theorem dX1_combine_97 : decode cX1_combine 97 = .ok (.goto 6, 3) := by decide +kernel
theorem dX1_combine_100 : decode cX1_combine 100 = .ok (.iload_n 1, 1) := by decide +kernel
theorem dX1_combine_101 : decode cX1_combine 101 = .ok (.iload_n 2, 1) := by decide +kernel
theorem dX1_combine_102 : decode cX1_combine 102 = .ok (.irem, 1) := by decide +kernel
theorem dX1_combine_103 : decode cX1_combine 103 = .ok (.ireturn, 1) := by decide +kernel
theorem dX1_combine_104 : decode cX1_combine 104 = .ok (.iload_n 1, 1) := by decide +kernel
theorem dX1_combine_105 : decode cX1_combine 105 = .ok (.iload_n 2, 1) := by decide +kernel
theorem dX1_combine_106 : decode cX1_combine 106 = .ok (.if_icmp .ge 7, 3) := by decide +kernel
theorem dX1_combine_109 : decode cX1_combine 109 = .ok (.iconst 1, 1) := by decide +kernel
theorem dX1_combine_110 : decode cX1_combine 110 = .ok (.goto 4, 3) := by decide +kernel
theorem dX1_combine_113 : decode cX1_combine 113 = .ok (.iconst 0, 1) := by decide +kernel
theorem dX1_combine_114 : decode cX1_combine 114 = .ok (.ireturn, 1) := by decide +kernel
theorem dX1_combine_115 : decode cX1_combine 115 = .ok (.iload_n 1, 1) := by decide +kernel
theorem dX1_combine_116 : decode cX1_combine 116 = .ok (.iload_n 2, 1) := by decide +kernel
theorem dX1_combine_117 : decode cX1_combine 117 = .ok (.if_icmp .le 7, 3) := by decide +kernel
theorem dX1_combine_120 : decode cX1_combine 120 = .ok (.iconst 1, 1) := by decide +kernel
theorem dX1_combine_121 : decode cX1_combine 121 = .ok (.goto 4, 3) := by decide +kernel
theorem dX1_combine_124 : decode cX1_combine 124 = .ok (.iconst 0, 1) := by decide +kernel
theorem dX1_combine_125 : decode cX1_combine 125 = .ok (.ireturn, 1) := by decide +kernel
theorem dX1_combine_126 : decode cX1_combine 126 = .ok (.iload_n 1, 1) := by decide +kernel
theorem dX1_combine_127 : decode cX1_combine 127 = .ok (.iload_n 2, 1) := by decide +kernel
theorem dX1_combine_128 : decode cX1_combine 128 = .ok (.if_icmp .ne 7, 3) := by decide +kernel
theorem dX1_combine_131 : decode cX1_combine 131 = .ok (.iconst 1, 1) := by decide +kernel
theorem dX1_combine_132 : decode cX1_combine 132 = .ok (.goto 4, 3) := by decide +kernel
theorem dX1_combine_135 : decode cX1_combine 135 = .ok (.iconst 0, 1) := by decide +kernel
theorem dX1_combine_136 : decode cX1_combine 136 = .ok (.ireturn, 1) := by decide +kernel
theorem dX2_init_0 : decode cX2_init 0 = .ok (.aload_n 0, 1) := by decide +kernel
theorem dX2_init_1 : decode cX2_init 1 = .ok (.invokespecial 3, 3) := by decide +kernel
theorem dX2_init_4 : decode cX2_init 4 = .ok (.aload_n 0, 1) := by decide +kernel
theorem dX2_init_5 : decode cX2_init 5 = .ok (.bipush 109, 2) := by decide +kernel
theorem dX2_init_7 : decode cX2_init 7 = .ok (.newarray .long, 2) := by decide +kernel
theorem dX2_init_9 : decode cX2_init 9 = .ok (.putfield 9, 3) := by decide +kernel
theorem dX2_init_12 : decode cX2_init 12 = .ok (.return_, 1) := by decide +kernel
theorem dX2_all_0 : decode cX2_all 0 = .ok (.lconst 1, 1) := by decide +kernel
theorem dX2_all_1 : decode cX2_all 1 = .ok (.lstore_n 3, 1) := by decide +kernel
theorem dX2_all_2 : decode cX2_all 2 = .ok (.iconst 0, 1) := by decide +kernel
theorem dX2_all_3 : decode cX2_all 3 = .ok (.istore 5, 2) := by decide +kernel
theorem dX2_all_5 : decode cX2_all 5 = .ok (.iload 5, 2) := by decide +kernel
theorem dX2_all_7 : decode cX2_all 7 = .ok (.iload_n 1, 1) := by decide +kernel
theorem dX2_all_8 : decode cX2_all 8 = .ok (.if_icmp .ge 16, 3) := by decide +kernel
theorem dX2_all_11 : decode cX2_all 11 = .ok (.lload_n 3, 1) := by decide +kernel
theorem dX2_all_12 : decode cX2_all 12 = .ok (.iload_n 2, 1) := by decide +kernel
theorem dX2_all_13 : decode cX2_all 13 = .ok (.iconst 1, 1) := by decide +kernel
theorem dX2_all_14 : decode cX2_all 14 = .ok (.iadd, 1) := by decide +kernel
theorem dX2_all_15 : decode cX2_all 15 = .ok (.i2l, 1) := by decide +kernel
theorem dX2_all_16 : decode cX2_all 16 = .ok (.lmul, 1) := by decide +kernel
theorem dX2_all_17 : decode cX2_all 17 = .ok (.lstore_n 3, 1) := by decide +kernel
theorem dX2_all_18 : decode cX2_all 18 = .ok (.iinc 5 1, 3) := by decide +kernel
theorem dX2_all_21 : decode cX2_all 21 = .ok (.goto (-16), 3) := by decide +kernel
theorem dX2_all_24 : decode cX2_all 24 = .ok (.lload_n 3, 1) := by decide +kernel
theorem dX2_all_25 : decode cX2_all 25 = .ok (.lreturn, 1) := by decide +kernel
theorem dX2_breaking_0 : decode cX2_breaking 0 = .ok (.aload_n 0, 1) := by decide +kernel
theorem dX2_breaking_1 : decode cX2_breaking 1 = .ok (.getfield 9, 3) := by decide +kernel
theorem dX2_breaking_4 : decode cX2_breaking 4 = .ok (.lconst 0, 1) := by decide +kernel
theorem dX2_breaking_5 : decode cX2_breaking 5 = .ok (.invokestatic 13, 3) := by decide +kernel
theorem dX2_breaking_8 : decode cX2_breaking 8 = .ok (.aload_n 0, 1) := by decide +kernel
theorem dX2_breaking_9 : decode cX2_breaking 9 = .ok (.getfield 9, 3) := by decide +kernel
theorem dX2_breaking_12 : decode cX2_breaking 12 = .ok (.iconst 0, 1) := by decide +kernel
theorem dX2_breaking_13 : decode cX2_breaking 13 = .ok (.lconst 1, 1) := by decide +kernel
theorem dX2_breaking_14 : decode cX2_breaking 14 = .ok (.lastore, 1) := by decide +kernel
theorem dX2_breaking_15 : decode cX2_breaking 15 = .ok (.iconst 0, 1) := by decide +kernel
theorem dX2_breaking_16 : decode cX2_breaking 16 = .ok (.istore 4, 2) := by decide +kernel
theorem dX2_breaking_18 : decode cX2_breaking 18 = .ok (.iload 4, 2) := by decide +kernel
theorem dX2_breaking_20 : decode cX2_breaking 20 = .ok (.iload_n 2, 1) := by decide +kernel
theorem dX2_breaking_21 : decode cX2_breaking 21 = .ok (.if_icmp .ge 14, 3) := by decide +kernel
theorem dX2_breaking_24 : decode cX2_breaking 24 = .ok (.aload_n 0, 1) := by decide +kernel
theorem dX2_breaking_25 : decode cX2_breaking 25 = .ok (.iload_n 3, 1) := by decide +kernel
theorem dX2_breaking_26 : decode cX2_breaking 26 = .ok (.invokevirtual 19, 3) := by decide +kernel
theorem dX2_breaking_29 : decode cX2_breaking 29 = .ok (.iinc 4 1, 3) := by decide +kernel
theorem dX2_breaking_32 : decode cX2_breaking 32 = .ok (.goto (-14), 3) := by decide +kernel
theorem dX2_breaking_35 : decode cX2_breaking 35 = .ok (.lconst 0, 1) := by decide +kernel
theorem dX2_breaking_36 : decode cX2_breaking 36 = .ok (.lstore 4, 2) := by decide +kernel
theorem dX2_breaking_38 : decode cX2_breaking 38 = .ok (.iload_n 1, 1) := by decide +kernel
theorem dX2_breaking_39 : decode cX2_breaking 39 = .ok (.istore 6, 2) := by decide +kernel
theorem dX2_breaking_41 : decode cX2_breaking 41 = .ok (.iload 6, 2) := by decide +kernel
theorem dX2_breaking_43 : decode cX2_breaking 43 = .ok (.bipush 109, 2) := by decide +kernel
theorem dX2_breaking_45 : decode cX2_breaking 45 = .ok (.if_icmp .ge 21, 3) := by decide +kernel
theorem dX2_breaking_48 : decode cX2_breaking 48 = .ok (.lload 4, 2) := by decide +kernel
theorem dX2_breaking_50 : decode cX2_breaking 50 = .ok (.aload_n 0, 1) := by decide +kernel
theorem dX2_breaking_51 : decode cX2_breaking 51 = .ok (.getfield 9, 3) := by decide +kernel
theorem dX2_breaking_54 : decode cX2_breaking 54 = .ok (.iload 6, 2) := by decide +kernel
theorem dX2_breaking_56 : decode cX2_breaking 56 = .ok (.laload, 1) := by decide +kernel
theorem dX2_breaking_57 : decode cX2_breaking 57 = .ok (.ladd, 1) := by decide +kernel
theorem dX2_breaking_58 : decode cX2_breaking 58 = .ok (.lstore 4, 2) := by decide +kernel
theorem dX2_breaking_60 : decode cX2_breaking 60 = .ok (.iinc 6 1, 3) := by decide +kernel
theorem dX2_breaking_63 : decode cX2_breaking 63 = .ok (.goto (-22), 3) := by decide +kernel
theorem dX2_breaking_66 : decode cX2_breaking 66 = .ok (.lload 4, 2) := by decide +kernel
theorem dX2_breaking_68 : decode cX2_breaking 68 = .ok (.lreturn, 1) := by decide +kernel
theorem dX2_push_0 : decode cX2_push 0 = .ok (.bipush 108, 2) := by decide +kernel
theorem dX2_push_2 : decode cX2_push 2 = .ok (.istore_n 2, 1) := by decide +kernel
theorem dX2_push_3 : decode cX2_push 3 = .ok (.iload_n 2, 1) := by decide +kernel
theorem dX2_push_4 : decode cX2_push 4 = .ok (.ifCond .le 44, 3) := by decide +kernel
theorem dX2_push_7 : decode cX2_push 7 = .ok (.iconst 1, 1) := by decide +kernel
theorem dX2_push_8 : decode cX2_push 8 = .ok (.istore_n 3, 1) := by decide +kernel
theorem dX2_push_9 : decode cX2_push 9 = .ok (.iload_n 3, 1) := by decide +kernel
theorem dX2_push_10 : decode cX2_push 10 = .ok (.iload_n 1, 1) := by decide +kernel
theorem dX2_push_11 : decode cX2_push 11 = .ok (.if_icmp .gt 31, 3) := by decide +kernel
theorem dX2_push_14 : decode cX2_push 14 = .ok (.iload_n 3, 1) := by decide +kernel
theorem dX2_push_15 : decode cX2_push 15 = .ok (.iload_n 2, 1) := by decide +kernel
theorem dX2_push_16 : decode cX2_push 16 = .ok (.if_icmp .gt 26, 3) := by decide +kernel
theorem dX2_push_19 : decode cX2_push 19 = .ok (.aload_n 0, 1) := by decide +kernel
theorem dX2_push_20 : decode cX2_push 20 = .ok (.getfield 9, 3) := by decide +kernel
theorem dX2_push_23 : decode cX2_push 23 = .ok (.iload_n 2, 1) := by decide +kernel
theorem dX2_push_24 : decode cX2_push 24 = .ok (.dup2, 1) := by decide +kernel
theorem dX2_push_25 : decode cX2_push 25 = .ok (.laload, 1) := by decide +kernel
theorem dX2_push_26 : decode cX2_push 26 = .ok (.aload_n 0, 1) := by decide +kernel
theorem dX2_push_27 : decode cX2_push 27 = .ok (.getfield 9, 3) := by decide +kernel
theorem dX2_push_30 : decode cX2_push 30 = .ok (.iload_n 2, 1) := by decide +kernel
theorem dX2_push_31 : decode cX2_push 31 = .ok (.iload_n 3, 1) := by decide +kernel
theorem dX2_push_32 : decode cX2_push 32 = .ok (.isub, 1) := by decide +kernel
theorem dX2_push_33 : decode cX2_push 33 = .ok (.laload, 1) := by decide +kernel
theorem dX2_push_34 : decode cX2_push 34 = .ok (.ladd, 1) := by decide +kernel
theorem dX2_push_35 : decode cX2_push 35 = .ok (.lastore, 1) := by decide +kernel
theorem dX2_push_36 : decode cX2_push 36 = .ok (.iinc 3 1, 3) := by decide +kernel
theorem dX2_push_39 : decode cX2_push 39 = .ok (.goto (-30), 3) := by decide +kernel
theorem dX2_push_42 : decode cX2_push 42 = .ok (.iinc 2 (-1), 3) := by decide +kernel
theorem dX2_push_45 : decode cX2_push 45 = .ok (.goto (-42), 3) := by decide +kernel
theorem dX2_push_48 : decode cX2_push 48 = .ok (.return_, 1) := by decide +kernel
theorem dX3_init_0 : decode cX3_init 0 = .ok (.aload_n 0, 1) := by decide +kernel
theorem dX3_init_1 : decode cX3_init 1 = .ok (.invokespecial 3, 3) := by decide +kernel
theorem dX3_init_4 : decode cX3_init 4 = .ok (.aload_n 0, 1) := by decide +kernel
theorem dX3_init_5 : decode cX3_init 5 = .ok (.bipush 60, 2) := by decide +kernel
theorem dX3_init_7 : decode cX3_init 7 = .ok (.newarray .int, 2) := by decide +kernel
theorem dX3_init_9 : decode cX3_init 9 = .ok (.putfield 9, 3) := by decide +kernel
theorem dX3_init_12 : decode cX3_init 12 = .ok (.aload_n 0, 1) := by decide +kernel
theorem dX3_init_13 : decode cX3_init 13 = .ok (.bipush 60, 2) := by decide +kernel
theorem dX3_init_15 : decode cX3_init 15 = .ok (.newarray .int, 2) := by decide +kernel
theorem dX3_init_17 : decode cX3_init 17 = .ok (.putfield 15, 3) := by decide +kernel
theorem dX3_init_20 : decode cX3_init 20 = .ok (.aload_n 0, 1) := by decide +kernel
theorem dX3_init_21 : decode cX3_init 21 = .ok (.bipush 60, 2) := by decide +kernel
theorem dX3_init_23 : decode cX3_init 23 = .ok (.newarray .int, 2) := by decide +kernel
theorem dX3_init_25 : decode cX3_init 25 = .ok (.putfield 18, 3) := by decide +kernel
theorem dX3_init_28 : decode cX3_init 28 = .ok (.aload_n 0, 1) := by decide +kernel
theorem dX3_init_29 : decode cX3_init 29 = .ok (.bipush 60, 2) := by decide +kernel
theorem dX3_init_31 : decode cX3_init 31 = .ok (.newarray .int, 2) := by decide +kernel
theorem dX3_init_33 : decode cX3_init 33 = .ok (.putfield 21, 3) := by decide +kernel
theorem dX3_init_36 : decode cX3_init 36 = .ok (.aload_n 0, 1) := by decide +kernel
theorem dX3_init_37 : decode cX3_init 37 = .ok (.bipush 60, 2) := by decide +kernel
theorem dX3_init_39 : decode cX3_init 39 = .ok (.newarray .int, 2) := by decide +kernel
theorem dX3_init_41 : decode cX3_init 41 = .ok (.putfield 24, 3) := by decide +kernel
theorem dX3_init_44 : decode cX3_init 44 = .ok (.aload_n 0, 1) := by decide +kernel
theorem dX3_init_45 : decode cX3_init 45 = .ok (.iconst 0, 1) := by decide +kernel
theorem dX3_init_46 : decode cX3_init 46 = .ok (.putfield 27, 3) := by decide +kernel
theorem dX3_init_49 : decode cX3_init 49 = .ok (.return_, 1) := by decide +kernel
theorem dX3_eveningNumber_0 : decode cX3_eveningNumber 0 = .ok (.iload_n 2, 1) := by decide +kernel
theorem dX3_eveningNumber_1 : decode cX3_eveningNumber 1 = .ok (.ifCond .ne 10, 3) := by decide +kernel
theorem dX3_eveningNumber_4 : decode cX3_eveningNumber 4 = .ok (.aload_n 0, 1) := by decide +kernel
theorem dX3_eveningNumber_5 : decode cX3_eveningNumber 5 = .ok (.getfield 9, 3) := by decide +kernel
theorem dX3_eveningNumber_8 : decode cX3_eveningNumber 8 = .ok (.iload_n 1, 1) := by decide +kernel
theorem dX3_eveningNumber_9 : decode cX3_eveningNumber 9 = .ok (.iaload, 1) := by decide +kernel
theorem dX3_eveningNumber_10 : decode cX3_eveningNumber 10 = .ok (.ireturn, 1) := by decide +kernel
theorem dX3_eveningNumber_11 : decode cX3_eveningNumber 11 = .ok (.iload_n 2, 1) := by decide +kernel
theorem dX3_eveningNumber_12 : decode cX3_eveningNumber 12 = .ok (.iconst 1, 1) := by decide +kernel
theorem dX3_eveningNumber_13 : decode cX3_eveningNumber 13 = .ok (.if_icmp .ne 12, 3) := by decide +kernel
theorem dX3_eveningNumber_16 : decode cX3_eveningNumber 16 = .ok (.aload_n 0, 1) := by decide +kernel
theorem dX3_eveningNumber_17 : decode cX3_eveningNumber 17 = .ok (.getfield 15, 3) := by decide +kernel
theorem dX3_eveningNumber_20 : decode cX3_eveningNumber 20 = .ok (.iload_n 1, 1) := by decide +kernel
theorem dX3_eveningNumber_21 : decode cX3_eveningNumber 21 = .ok (.iaload, 1) := by decide +kernel
theorem dX3_eveningNumber_22 : decode cX3_eveningNumber 22 = .ok (.goto 9, 3) := by decide +kernel
theorem dX3_eveningNumber_25 : decode cX3_eveningNumber 25 = .ok (.aload_n 0, 1) := by decide +kernel
theorem dX3_eveningNumber_26 : decode cX3_eveningNumber 26 = .ok (.getfield 18, 3) := by decide +kernel
theorem dX3_eveningNumber_29 : decode cX3_eveningNumber 29 = .ok (.iload_n 1, 1) := by decide +kernel
theorem dX3_eveningNumber_30 : decode cX3_eveningNumber 30 = .ok (.iaload, 1) := by decide +kernel
theorem dX3_eveningNumber_31 : decode cX3_eveningNumber 31 = .ok (.ireturn, 1) := by decide +kernel
theorem dX3_cost_0 : decode cX3_cost 0 = .ok (.aload_n 0, 1) := by decide +kernel
theorem dX3_cost_1 : decode cX3_cost 1 = .ok (.getfield 21, 3) := by decide +kernel
theorem dX3_cost_4 : decode cX3_cost 4 = .ok (.iload_n 1, 1) := by decide +kernel
theorem dX3_cost_5 : decode cX3_cost 5 = .ok (.iaload, 1) := by decide +kernel
theorem dX3_cost_6 : decode cX3_cost 6 = .ok (.ifCond .le 7, 3) := by decide +kernel
theorem dX3_cost_9 : decode cX3_cost 9 = .ok (.iconst 1, 1) := by decide +kernel
theorem dX3_cost_10 : decode cX3_cost 10 = .ok (.goto 4, 3) := by decide +kernel
theorem dX3_cost_13 : decode cX3_cost 13 = .ok (.iconst 0, 1) := by decide +kernel
theorem dX3_cost_14 : decode cX3_cost 14 = .ok (.istore 5, 2) := by decide +kernel
theorem dX3_cost_16 : decode cX3_cost 16 = .ok (.iload 5, 2) := by decide +kernel
theorem dX3_cost_18 : decode cX3_cost 18 = .ok (.iload_n 2, 1) := by decide +kernel
theorem dX3_cost_19 : decode cX3_cost 19 = .ok (.if_icmp .ne 5, 3) := by decide +kernel
theorem dX3_cost_22 : decode cX3_cost 22 = .ok (.iconst 0, 1) := by decide +kernel
theorem dX3_cost_23 : decode cX3_cost 23 = .ok (.ireturn, 1) := by decide +kernel
theorem dX3_cost_24 : decode cX3_cost 24 = .ok (.iload 5, 2) := by decide +kernel
theorem dX3_cost_26 : decode cX3_cost 26 = .ok (.ifCond .eq 7, 3) := by decide +kernel
theorem dX3_cost_29 : decode cX3_cost 29 = .ok (.iload_n 3, 1) := by decide +kernel
theorem dX3_cost_30 : decode cX3_cost 30 = .ok (.goto 5, 3) := by decide +kernel
theorem dX3_cost_33 : decode cX3_cost 33 = .ok (.iload 4, 2) := by decide +kernel
theorem dX3_cost_35 : decode cX3_cost 35 = .ok (.ireturn, 1) := by decide +kernel
theorem dX3_lineCost_0 : decode cX3_lineCost 0 = .ok (.iconst 0, 1) := by decide +kernel
theorem dX3_lineCost_1 : decode cX3_lineCost 1 = .ok (.istore 5, 2) := by decide +kernel
theorem dX3_lineCost_3 : decode cX3_lineCost 3 = .ok (.iconst 0, 1) := by decide +kernel
theorem dX3_lineCost_4 : decode cX3_lineCost 4 = .ok (.istore 6, 2) := by decide +kernel
theorem dX3_lineCost_6 : decode cX3_lineCost 6 = .ok (.iload 6, 2) := by decide +kernel
theorem dX3_lineCost_8 : decode cX3_lineCost 8 = .ok (.aload_n 0, 1) := by decide +kernel
theorem dX3_lineCost_9 : decode cX3_lineCost 9 = .ok (.getfield 27, 3) := by decide +kernel
theorem dX3_lineCost_12 : decode cX3_lineCost 12 = .ok (.if_icmp .ge 50, 3) := by decide +kernel
theorem dX3_lineCost_15 : decode cX3_lineCost 15 = .ok (.iload 6, 2) := by decide +kernel
theorem dX3_lineCost_17 : decode cX3_lineCost 17 = .ok (.bipush 60, 2) := by decide +kernel
theorem dX3_lineCost_19 : decode cX3_lineCost 19 = .ok (.if_icmp .ge 43, 3) := by decide +kernel
theorem dX3_lineCost_22 : decode cX3_lineCost 22 = .ok (.aload_n 0, 1) := by decide +kernel
theorem dX3_lineCost_23 : decode cX3_lineCost 23 = .ok (.iload 6, 2) := by decide +kernel
theorem dX3_lineCost_25 : decode cX3_lineCost 25 = .ok (.iload_n 1, 1) := by decide +kernel
theorem dX3_lineCost_26 : decode cX3_lineCost 26 = .ok (.invokevirtual 31, 3) := by decide +kernel
theorem dX3_lineCost_29 : decode cX3_lineCost 29 = .ok (.iload_n 2, 1) := by decide +kernel
theorem dX3_lineCost_30 : decode cX3_lineCost 30 = .ok (.if_icmp .lt 7, 3) := by decide +kernel
theorem dX3_lineCost_33 : decode cX3_lineCost 33 = .ok (.iconst 1, 1) := by decide +kernel
theorem dX3_lineCost_34 : decode cX3_lineCost 34 = .ok (.goto 4, 3) := by decide +kernel
theorem dX3_lineCost_37 : decode cX3_lineCost 37 = .ok (.iconst 0, 1) := by decide +kernel
theorem dX3_lineCost_38 : decode cX3_lineCost 38 = .ok (.istore 7, 2) := by decide +kernel
theorem dX3_lineCost_40 : decode cX3_lineCost 40 = .ok (.iload 5, 2) := by decide +kernel
theorem dX3_lineCost_42 : decode cX3_lineCost 42 = .ok (.aload_n 0, 1) := by decide +kernel
theorem dX3_lineCost_43 : decode cX3_lineCost 43 = .ok (.iload 6, 2) := by decide +kernel
theorem dX3_lineCost_45 : decode cX3_lineCost 45 = .ok (.iload 7, 2) := by decide +kernel
theorem dX3_lineCost_47 : decode cX3_lineCost 47 = .ok (.iload_n 3, 1) := by decide +kernel
theorem dX3_lineCost_48 : decode cX3_lineCost 48 = .ok (.iload 4, 2) := by decide +kernel
theorem dX3_lineCost_50 : decode cX3_lineCost 50 = .ok (.invokevirtual 35, 3) := by decide +kernel
theorem dX3_lineCost_53 : decode cX3_lineCost 53 = .ok (.iadd, 1) := by decide +kernel
theorem dX3_lineCost_54 : decode cX3_lineCost 54 = .ok (.istore 5, 2) := by decide +kernel
theorem dX3_lineCost_56 : decode cX3_lineCost 56 = .ok (.iinc 6 1, 3) := by decide +kernel
theorem dX3_lineCost_59 : decode cX3_lineCost 59 = .ok (.goto (-53), 3) := by decide +kernel
theorem dX3_lineCost_62 : decode cX3_lineCost 62 = .ok (.iload 5, 2) := by decide +kernel
theorem dX3_lineCost_64 : decode cX3_lineCost 64 = .ok (.ireturn, 1) := by decide +kernel
theorem dX3_bestLine_0 : decode cX3_bestLine 0 = .ok (.iconst 0, 1) := by decide +kernel
theorem dX3_bestLine_1 : decode cX3_bestLine 1 = .ok (.istore 4, 2) := by decide +kernel
theorem dX3_bestLine_3 : decode cX3_bestLine 3 = .ok (.ldc 41, 2) := by decide +kernel
theorem dX3_bestLine_5 : decode cX3_bestLine 5 = .ok (.istore 5, 2) := by decide +kernel
theorem dX3_bestLine_7 : decode cX3_bestLine 7 = .ok (.iconst 0, 1) := by decide +kernel
theorem dX3_bestLine_8 : decode cX3_bestLine 8 = .ok (.istore 6, 2) := by decide +kernel
theorem dX3_bestLine_10 : decode cX3_bestLine 10 = .ok (.iload 6, 2) := by decide +kernel
theorem dX3_bestLine_12 : decode cX3_bestLine 12 = .ok (.bipush 100, 2) := by decide +kernel
theorem dX3_bestLine_14 : decode cX3_bestLine 14 = .ok (.if_icmp .gt 35, 3) := by decide +kernel
theorem dX3_bestLine_17 : decode cX3_bestLine 17 = .ok (.aload_n 0, 1) := by decide +kernel
theorem dX3_bestLine_18 : decode cX3_bestLine 18 = .ok (.iload_n 1, 1) := by decide +kernel
theorem dX3_bestLine_19 : decode cX3_bestLine 19 = .ok (.iload 6, 2) := by decide +kernel
theorem dX3_bestLine_21 : decode cX3_bestLine 21 = .ok (.iload_n 2, 1) := by decide +kernel
theorem dX3_bestLine_22 : decode cX3_bestLine 22 = .ok (.iload_n 3, 1) := by decide +kernel
theorem dX3_bestLine_23 : decode cX3_bestLine 23 = .ok (.invokevirtual 42, 3) := by decide +kernel
theorem dX3_bestLine_26 : decode cX3_bestLine 26 = .ok (.istore 7, 2) := by decide +kernel
theorem dX3_bestLine_28 : decode cX3_bestLine 28 = .ok (.iload 7, 2) := by decide +kernel
theorem dX3_bestLine_30 : decode cX3_bestLine 30 = .ok (.iload 5, 2) := by decide +kernel
theorem dX3_bestLine_32 : decode cX3_bestLine 32 = .ok (.if_icmp .ge 11, 3) := by decide +kernel
theorem dX3_bestLine_35 : decode cX3_bestLine 35 = .ok (.iload 6, 2) := by decide +kernel
theorem dX3_bestLine_37 : decode cX3_bestLine 37 = .ok (.istore 4, 2) := by decide +kernel
theorem dX3_bestLine_39 : decode cX3_bestLine 39 = .ok (.iload 7, 2) := by decide +kernel
theorem dX3_bestLine_41 : decode cX3_bestLine 41 = .ok (.istore 5, 2) := by decide +kernel
theorem dX3_bestLine_43 : decode cX3_bestLine 43 = .ok (.iinc 6 1, 3) := by decide +kernel
theorem dX3_bestLine_46 : decode cX3_bestLine 46 = .ok (.goto (-36), 3) := by decide +kernel
theorem dX3_bestLine_49 : decode cX3_bestLine 49 = .ok (.iload 4, 2) := by decide +kernel
theorem dX3_bestLine_51 : decode cX3_bestLine 51 = .ok (.ireturn, 1) := by decide +kernel
theorem dX3_isAlike_0 : decode cX3_isAlike 0 = .ok (.aload_n 0, 1) := by decide +kernel
theorem dX3_isAlike_1 : decode cX3_isAlike 1 = .ok (.getfield 9, 3) := by decide +kernel
theorem dX3_isAlike_4 : decode cX3_isAlike 4 = .ok (.iload_n 1, 1) := by decide +kernel
theorem dX3_isAlike_5 : decode cX3_isAlike 5 = .ok (.iaload, 1) := by decide +kernel
theorem dX3_isAlike_6 : decode cX3_isAlike 6 = .ok (.iload_n 2, 1) := by decide +kernel
theorem dX3_isAlike_7 : decode cX3_isAlike 7 = .ok (.isub, 1) := by decide +kernel
theorem dX3_isAlike_8 : decode cX3_isAlike 8 = .ok (.invokestatic 46, 3) := by decide +kernel
theorem dX3_isAlike_11 : decode cX3_isAlike 11 = .ok (.iload 5, 2) := by decide +kernel
theorem dX3_isAlike_13 : decode cX3_isAlike 13 = .ok (.if_icmp .gt 40, 3) := by decide +kernel
theorem dX3_isAlike_16 : decode cX3_isAlike 16 = .ok (.aload_n 0, 1) := by decide +kernel
theorem dX3_isAlike_17 : decode cX3_isAlike 17 = .ok (.getfield 15, 3) := by decide +kernel
theorem dX3_isAlike_20 : decode cX3_isAlike 20 = .ok (.iload_n 1, 1) := by decide +kernel
theorem dX3_isAlike_21 : decode cX3_isAlike 21 = .ok (.iaload, 1) := by decide +kernel
theorem dX3_isAlike_22 : decode cX3_isAlike 22 = .ok (.iload_n 3, 1) := by decide +kernel
theorem dX3_isAlike_23 : decode cX3_isAlike 23 = .ok (.isub, 1) := by decide +kernel
theorem dX3_isAlike_24 : decode cX3_isAlike 24 = .ok (.invokestatic 46, 3) := by decide +kernel
theorem dX3_isAlike_27 : decode cX3_isAlike 27 = .ok (.iload 5, 2) := by decide +kernel
theorem dX3_isAlike_29 : decode cX3_isAlike 29 = .ok (.if_icmp .gt 24, 3) := by decide +kernel
theorem dX3_isAlike_32 : decode cX3_isAlike 32 = .ok (.aload_n 0, 1) := by decide +kernel
theorem dX3_isAlike_33 : decode cX3_isAlike 33 = .ok (.getfield 18, 3) := by decide +kernel
theorem dX3_isAlike_36 : decode cX3_isAlike 36 = .ok (.iload_n 1, 1) := by decide +kernel
