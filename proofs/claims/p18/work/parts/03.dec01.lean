theorem dX3_isAlike_37 : decode cX3_isAlike 37 = .ok (.iaload, 1) := by decide +kernel
theorem dX3_isAlike_38 : decode cX3_isAlike 38 = .ok (.iload 4, 2) := by decide +kernel
theorem dX3_isAlike_40 : decode cX3_isAlike 40 = .ok (.isub, 1) := by decide +kernel
theorem dX3_isAlike_41 : decode cX3_isAlike 41 = .ok (.invokestatic 46, 3) := by decide +kernel
theorem dX3_isAlike_44 : decode cX3_isAlike 44 = .ok (.iload 5, 2) := by decide +kernel
theorem dX3_isAlike_46 : decode cX3_isAlike 46 = .ok (.if_icmp .gt 7, 3) := by decide +kernel
theorem dX3_isAlike_49 : decode cX3_isAlike 49 = .ok (.iconst 1, 1) := by decide +kernel
theorem dX3_isAlike_50 : decode cX3_isAlike 50 = .ok (.goto 4, 3) := by decide +kernel
theorem dX3_isAlike_53 : decode cX3_isAlike 53 = .ok (.iconst 0, 1) := by decide +kernel
theorem dX3_isAlike_54 : decode cX3_isAlike 54 = .ok (.ireturn, 1) := by decide +kernel
theorem dX3_sendCost_0 : decode cX3_sendCost 0 = .ok (.iconst 0, 1) := by decide +kernel
theorem dX3_sendCost_1 : decode cX3_sendCost 1 = .ok (.istore 4, 2) := by decide +kernel
theorem dX3_sendCost_3 : decode cX3_sendCost 3 = .ok (.iconst 0, 1) := by decide +kernel
theorem dX3_sendCost_4 : decode cX3_sendCost 4 = .ok (.istore 5, 2) := by decide +kernel
theorem dX3_sendCost_6 : decode cX3_sendCost 6 = .ok (.iload 5, 2) := by decide +kernel
theorem dX3_sendCost_8 : decode cX3_sendCost 8 = .ok (.aload_n 0, 1) := by decide +kernel
theorem dX3_sendCost_9 : decode cX3_sendCost 9 = .ok (.getfield 27, 3) := by decide +kernel
theorem dX3_sendCost_12 : decode cX3_sendCost 12 = .ok (.if_icmp .ge 59, 3) := by decide +kernel
theorem dX3_sendCost_15 : decode cX3_sendCost 15 = .ok (.iload 5, 2) := by decide +kernel
theorem dX3_sendCost_17 : decode cX3_sendCost 17 = .ok (.bipush 60, 2) := by decide +kernel
theorem dX3_sendCost_19 : decode cX3_sendCost 19 = .ok (.if_icmp .ge 52, 3) := by decide +kernel
theorem dX3_sendCost_22 : decode cX3_sendCost 22 = .ok (.aload_n 0, 1) := by decide +kernel
theorem dX3_sendCost_23 : decode cX3_sendCost 23 = .ok (.getfield 21, 3) := by decide +kernel
theorem dX3_sendCost_26 : decode cX3_sendCost 26 = .ok (.iload 5, 2) := by decide +kernel
theorem dX3_sendCost_28 : decode cX3_sendCost 28 = .ok (.iaload, 1) := by decide +kernel
theorem dX3_sendCost_29 : decode cX3_sendCost 29 = .ok (.ifCond .le 36, 3) := by decide +kernel
theorem dX3_sendCost_32 : decode cX3_sendCost 32 = .ok (.aload_n 0, 1) := by decide +kernel
theorem dX3_sendCost_33 : decode cX3_sendCost 33 = .ok (.getfield 24, 3) := by decide +kernel
theorem dX3_sendCost_36 : decode cX3_sendCost 36 = .ok (.iload 5, 2) := by decide +kernel
theorem dX3_sendCost_38 : decode cX3_sendCost 38 = .ok (.iaload, 1) := by decide +kernel
theorem dX3_sendCost_39 : decode cX3_sendCost 39 = .ok (.iload_n 1, 1) := by decide +kernel
theorem dX3_sendCost_40 : decode cX3_sendCost 40 = .ok (.isub, 1) := by decide +kernel
theorem dX3_sendCost_41 : decode cX3_sendCost 41 = .ok (.istore 6, 2) := by decide +kernel
theorem dX3_sendCost_43 : decode cX3_sendCost 43 = .ok (.iload 4, 2) := by decide +kernel
theorem dX3_sendCost_45 : decode cX3_sendCost 45 = .ok (.iload 6, 2) := by decide +kernel
theorem dX3_sendCost_47 : decode cX3_sendCost 47 = .ok (.ifCond .le 10, 3) := by decide +kernel
theorem dX3_sendCost_50 : decode cX3_sendCost 50 = .ok (.iload_n 2, 1) := by decide +kernel
theorem dX3_sendCost_51 : decode cX3_sendCost 51 = .ok (.iload 6, 2) := by decide +kernel
theorem dX3_sendCost_53 : decode cX3_sendCost 53 = .ok (.imul, 1) := by decide +kernel
theorem dX3_sendCost_54 : decode cX3_sendCost 54 = .ok (.goto 8, 3) := by decide +kernel
theorem dX3_sendCost_57 : decode cX3_sendCost 57 = .ok (.iload_n 3, 1) := by decide +kernel
theorem dX3_sendCost_58 : decode cX3_sendCost 58 = .ok (.iload 6, 2) := by decide +kernel
theorem dX3_sendCost_60 : decode cX3_sendCost 60 = .ok (.ineg, 1) := by decide +kernel
theorem dX3_sendCost_61 : decode cX3_sendCost 61 = .ok (.imul, 1) := by decide +kernel
theorem dX3_sendCost_62 : decode cX3_sendCost 62 = .ok (.iadd, 1) := by decide +kernel
theorem dX3_sendCost_63 : decode cX3_sendCost 63 = .ok (.istore 4, 2) := by decide +kernel
theorem dX3_sendCost_65 : decode cX3_sendCost 65 = .ok (.iinc 5 1, 3) := by decide +kernel
theorem dX3_sendCost_68 : decode cX3_sendCost 68 = .ok (.goto (-62), 3) := by decide +kernel
theorem dX3_sendCost_71 : decode cX3_sendCost 71 = .ok (.iload 4, 2) := by decide +kernel
theorem dX3_sendCost_73 : decode cX3_sendCost 73 = .ok (.ireturn, 1) := by decide +kernel
theorem dX4_init_0 : decode cX4_init 0 = .ok (.aload_n 0, 1) := by decide +kernel
theorem dX4_init_1 : decode cX4_init 1 = .ok (.invokespecial 3, 3) := by decide +kernel
theorem dX4_init_4 : decode cX4_init 4 = .ok (.aload_n 0, 1) := by decide +kernel
theorem dX4_init_5 : decode cX4_init 5 = .ok (.iconst 0, 1) := by decide +kernel
theorem dX4_init_6 : decode cX4_init 6 = .ok (.putfield 9, 3) := by decide +kernel
theorem dX4_init_9 : decode cX4_init 9 = .ok (.aload_n 0, 1) := by decide +kernel
theorem dX4_init_10 : decode cX4_init 10 = .ok (.iconst 0, 1) := by decide +kernel
theorem dX4_init_11 : decode cX4_init 11 = .ok (.putfield 15, 3) := by decide +kernel
theorem dX4_init_14 : decode cX4_init 14 = .ok (.aload_n 0, 1) := by decide +kernel
theorem dX4_init_15 : decode cX4_init 15 = .ok (.iconst 0, 1) := by decide +kernel
theorem dX4_init_16 : decode cX4_init 16 = .ok (.putfield 18, 3) := by decide +kernel
theorem dX4_init_19 : decode cX4_init 19 = .ok (.aload_n 0, 1) := by decide +kernel
theorem dX4_init_20 : decode cX4_init 20 = .ok (.aload_n 1, 1) := by decide +kernel
theorem dX4_init_21 : decode cX4_init 21 = .ok (.putfield 21, 3) := by decide +kernel
theorem dX4_init_24 : decode cX4_init 24 = .ok (.aload_n 0, 1) := by decide +kernel
theorem dX4_init_25 : decode cX4_init 25 = .ok (.aload_n 2, 1) := by decide +kernel
theorem dX4_init_26 : decode cX4_init 26 = .ok (.putfield 25, 3) := by decide +kernel
theorem dX4_init_29 : decode cX4_init 29 = .ok (.return_, 1) := by decide +kernel
theorem dX4_read_0 : decode cX4_read 0 = .ok (.aload_n 0, 1) := by decide +kernel
theorem dX4_read_1 : decode cX4_read 1 = .ok (.aload_n 2, 1) := by decide +kernel
theorem dX4_read_2 : decode cX4_read 2 = .ok (.putfield 25, 3) := by decide +kernel
theorem dX4_read_5 : decode cX4_read 5 = .ok (.aload_n 0, 1) := by decide +kernel
theorem dX4_read_6 : decode cX4_read 6 = .ok (.iload_n 1, 1) := by decide +kernel
theorem dX4_read_7 : decode cX4_read 7 = .ok (.aload_n 0, 1) := by decide +kernel
theorem dX4_read_8 : decode cX4_read 8 = .ok (.getfield 21, 3) := by decide +kernel
theorem dX4_read_11 : decode cX4_read 11 = .ok (.arraylength, 1) := by decide +kernel
theorem dX4_read_12 : decode cX4_read 12 = .ok (.invokestatic 29, 3) := by decide +kernel
theorem dX4_read_15 : decode cX4_read 15 = .ok (.putfield 9, 3) := by decide +kernel
theorem dX4_read_18 : decode cX4_read 18 = .ok (.aload_n 0, 1) := by decide +kernel
theorem dX4_read_19 : decode cX4_read 19 = .ok (.iconst 0, 1) := by decide +kernel
theorem dX4_read_20 : decode cX4_read 20 = .ok (.putfield 15, 3) := by decide +kernel
theorem dX4_read_23 : decode cX4_read 23 = .ok (.aload_n 0, 1) := by decide +kernel
theorem dX4_read_24 : decode cX4_read 24 = .ok (.iconst 0, 1) := by decide +kernel
theorem dX4_read_25 : decode cX4_read 25 = .ok (.putfield 18, 3) := by decide +kernel
theorem dX4_read_28 : decode cX4_read 28 = .ok (.aload_n 2, 1) := by decide +kernel
theorem dX4_read_29 : decode cX4_read 29 = .ok (.invokevirtual 35, 3) := by decide +kernel
theorem dX4_read_32 : decode cX4_read 32 = .ok (.iconst 0, 1) := by decide +kernel
theorem dX4_read_33 : decode cX4_read 33 = .ok (.istore_n 3, 1) := by decide +kernel
theorem dX4_read_34 : decode cX4_read 34 = .ok (.iload_n 3, 1) := by decide +kernel
theorem dX4_read_35 : decode cX4_read 35 = .ok (.bipush 14, 2) := by decide +kernel
theorem dX4_read_37 : decode cX4_read 37 = .ok (.if_icmp .gt 51, 3) := by decide +kernel
theorem dX4_read_40 : decode cX4_read 40 = .ok (.aload_n 0, 1) := by decide +kernel
theorem dX4_read_41 : decode cX4_read 41 = .ok (.invokevirtual 40, 3) := by decide +kernel
theorem dX4_read_44 : decode cX4_read 44 = .ok (.ifCond .ne 8, 3) := by decide +kernel
theorem dX4_read_47 : decode cX4_read 47 = .ok (.aload_n 0, 1) := by decide +kernel
theorem dX4_read_48 : decode cX4_read 48 = .ok (.getfield 18, 3) := by decide +kernel
theorem dX4_read_51 : decode cX4_read 51 = .ok (.ireturn, 1) := by decide +kernel
theorem dX4_read_52 : decode cX4_read 52 = .ok (.aload_n 0, 1) := by decide +kernel
theorem dX4_read_53 : decode cX4_read 53 = .ok (.getfield 15, 3) := by decide +kernel
theorem dX4_read_56 : decode cX4_read 56 = .ok (.aload_n 0, 1) := by decide +kernel
theorem dX4_read_57 : decode cX4_read 57 = .ok (.getfield 9, 3) := by decide +kernel
theorem dX4_read_60 : decode cX4_read 60 = .ok (.if_icmp .lt 8, 3) := by decide +kernel
theorem dX4_read_63 : decode cX4_read 63 = .ok (.aload_n 2, 1) := by decide +kernel
theorem dX4_read_64 : decode cX4_read 64 = .ok (.getfield 44, 3) := by decide +kernel
theorem dX4_read_67 : decode cX4_read 67 = .ok (.ireturn, 1) := by decide +kernel
theorem dX4_read_68 : decode cX4_read 68 = .ok (.aload_n 0, 1) := by decide +kernel
theorem dX4_read_69 : decode cX4_read 69 = .ok (.bipush 59, 2) := by decide +kernel
theorem dX4_read_71 : decode cX4_read 71 = .ok (.invokevirtual 47, 3) := by decide +kernel
theorem dX4_read_74 : decode cX4_read 74 = .ok (.ifCond .ne 8, 3) := by decide +kernel
theorem dX4_read_77 : decode cX4_read 77 = .ok (.aload_n 0, 1) := by decide +kernel
theorem dX4_read_78 : decode cX4_read 78 = .ok (.getfield 18, 3) := by decide +kernel
theorem dX4_read_81 : decode cX4_read 81 = .ok (.ireturn, 1) := by decide +kernel
theorem dX4_read_82 : decode cX4_read 82 = .ok (.iinc 3 1, 3) := by decide +kernel
theorem dX4_read_85 : decode cX4_read 85 = .ok (.goto (-51), 3) := by decide +kernel
theorem dX4_read_88 : decode cX4_read 88 = .ok (.aload_n 0, 1) := by decide +kernel
theorem dX4_read_89 : decode cX4_read 89 = .ok (.getfield 18, 3) := by decide +kernel
theorem dX4_read_92 : decode cX4_read 92 = .ok (.ireturn, 1) := by decide +kernel
theorem dX4_sign_0 : decode cX4_sign 0 = .ok (.aload_n 0, 1) := by decide +kernel
theorem dX4_sign_1 : decode cX4_sign 1 = .ok (.getfield 15, 3) := by decide +kernel
theorem dX4_sign_4 : decode cX4_sign 4 = .ok (.aload_n 0, 1) := by decide +kernel
theorem dX4_sign_5 : decode cX4_sign 5 = .ok (.getfield 9, 3) := by decide +kernel
theorem dX4_sign_8 : decode cX4_sign 8 = .ok (.if_icmp .ge 15, 3) := by decide +kernel
theorem dX4_sign_11 : decode cX4_sign 11 = .ok (.aload_n 0, 1) := by decide +kernel
theorem dX4_sign_12 : decode cX4_sign 12 = .ok (.getfield 21, 3) := by decide +kernel
theorem dX4_sign_15 : decode cX4_sign 15 = .ok (.aload_n 0, 1) := by decide +kernel
theorem dX4_sign_16 : decode cX4_sign 16 = .ok (.getfield 15, 3) := by decide +kernel
theorem dX4_sign_19 : decode cX4_sign 19 = .ok (.iaload, 1) := by decide +kernel
theorem dX4_sign_20 : decode cX4_sign 20 = .ok (.goto 4, 3) := by decide +kernel
theorem dX4_sign_23 : decode cX4_sign 23 = .ok (.iconst (-1), 1) := by decide +kernel
theorem dX4_sign_24 : decode cX4_sign 24 = .ok (.ireturn, 1) := by decide +kernel
theorem dX4_fail_0 : decode cX4_fail 0 = .ok (.aload_n 0, 1) := by decide +kernel
theorem dX4_fail_1 : decode cX4_fail 1 = .ok (.sipush (-1000), 3) := by decide +kernel
theorem dX4_fail_4 : decode cX4_fail 4 = .ok (.iload_n 1, 1) := by decide +kernel
theorem dX4_fail_5 : decode cX4_fail 5 = .ok (.imul, 1) := by decide +kernel
theorem dX4_fail_6 : decode cX4_fail 6 = .ok (.aload_n 0, 1) := by decide +kernel
theorem dX4_fail_7 : decode cX4_fail 7 = .ok (.getfield 15, 3) := by decide +kernel
theorem dX4_fail_10 : decode cX4_fail 10 = .ok (.isub, 1) := by decide +kernel
theorem dX4_fail_11 : decode cX4_fail 11 = .ok (.putfield 18, 3) := by decide +kernel
theorem dX4_fail_14 : decode cX4_fail 14 = .ok (.iconst 0, 1) := by decide +kernel
theorem dX4_fail_15 : decode cX4_fail 15 = .ok (.ireturn, 1) := by decide +kernel
theorem dX4_take_0 : decode cX4_take 0 = .ok (.aload_n 0, 1) := by decide +kernel
theorem dX4_take_1 : decode cX4_take 1 = .ok (.invokevirtual 51, 3) := by decide +kernel
theorem dX4_take_4 : decode cX4_take 4 = .ok (.iload_n 1, 1) := by decide +kernel
theorem dX4_take_5 : decode cX4_take 5 = .ok (.if_icmp .eq 9, 3) := by decide +kernel
theorem dX4_take_8 : decode cX4_take 8 = .ok (.aload_n 0, 1) := by decide +kernel
theorem dX4_take_9 : decode cX4_take 9 = .ok (.iconst 1, 1) := by decide +kernel
theorem dX4_take_10 : decode cX4_take 10 = .ok (.invokevirtual 55, 3) := by decide +kernel
theorem dX4_take_13 : decode cX4_take 13 = .ok (.ireturn, 1) := by decide +kernel
theorem dX4_take_14 : decode cX4_take 14 = .ok (.aload_n 0, 1) := by decide +kernel
theorem dX4_take_15 : decode cX4_take 15 = .ok (.dup, 1) := by decide +kernel
theorem dX4_take_16 : decode cX4_take 16 = .ok (.getfield 15, 3) := by decide +kernel
theorem dX4_take_19 : decode cX4_take 19 = .ok (.iconst 1, 1) := by decide +kernel
theorem dX4_take_20 : decode cX4_take 20 = .ok (.iadd, 1) := by decide +kernel
theorem dX4_take_21 : decode cX4_take 21 = .ok (.putfield 15, 3) := by decide +kernel
theorem dX4_take_24 : decode cX4_take 24 = .ok (.iconst 1, 1) := by decide +kernel
theorem dX4_take_25 : decode cX4_take 25 = .ok (.ireturn, 1) := by decide +kernel
theorem dX4_readClause_0 : decode cX4_readClause 0 = .ok (.aload_n 0, 1) := by decide +kernel
theorem dX4_readClause_1 : decode cX4_readClause 1 = .ok (.invokevirtual 51, 3) := by decide +kernel
theorem dX4_readClause_4 : decode cX4_readClause 4 = .ok (.istore_n 1, 1) := by decide +kernel
theorem dX4_readClause_5 : decode cX4_readClause 5 = .ok (.iload_n 1, 1) := by decide +kernel
theorem dX4_readClause_6 : decode cX4_readClause 6 = .ok (.ifCond .lt 13, 3) := by decide +kernel
theorem dX4_readClause_9 : decode cX4_readClause 9 = .ok (.ldc 58, 2) := by decide +kernel
theorem dX4_readClause_11 : decode cX4_readClause 11 = .ok (.iload_n 1, 1) := by decide +kernel
theorem dX4_readClause_12 : decode cX4_readClause 12 = .ok (.i2c, 1) := by decide +kernel
theorem dX4_readClause_13 : decode cX4_readClause 13 = .ok (.invokevirtual 60, 3) := by decide +kernel
theorem dX4_readClause_16 : decode cX4_readClause 16 = .ok (.ifCond .ge 9, 3) := by decide +kernel
theorem dX4_readClause_19 : decode cX4_readClause 19 = .ok (.aload_n 0, 1) := by decide +kernel
theorem dX4_readClause_20 : decode cX4_readClause 20 = .ok (.iconst 1, 1) := by decide +kernel
theorem dX4_readClause_21 : decode cX4_readClause 21 = .ok (.invokevirtual 55, 3) := by decide +kernel
theorem dX4_readClause_24 : decode cX4_readClause 24 = .ok (.ireturn, 1) := by decide +kernel
theorem dX4_readClause_25 : decode cX4_readClause 25 = .ok (.aload_n 0, 1) := by decide +kernel
theorem dX4_readClause_26 : decode cX4_readClause 26 = .ok (.getfield 25, 3) := by decide +kernel
theorem dX4_readClause_29 : decode cX4_readClause 29 = .ok (.getfield 44, 3) := by decide +kernel
theorem dX4_readClause_32 : decode cX4_readClause 32 = .ok (.bipush 14, 2) := by decide +kernel
theorem dX4_readClause_34 : decode cX4_readClause 34 = .ok (.if_icmp .lt 9, 3) := by decide +kernel
theorem dX4_readClause_37 : decode cX4_readClause 37 = .ok (.aload_n 0, 1) := by decide +kernel
theorem dX4_readClause_38 : decode cX4_readClause 38 = .ok (.iconst 4, 1) := by decide +kernel
theorem dX4_readClause_39 : decode cX4_readClause 39 = .ok (.invokevirtual 55, 3) := by decide +kernel
theorem dX4_readClause_42 : decode cX4_readClause 42 = .ok (.ireturn, 1) := by decide +kernel
theorem dX4_readClause_43 : decode cX4_readClause 43 = .ok (.aload_n 0, 1) := by decide +kernel
theorem dX4_readClause_44 : decode cX4_readClause 44 = .ok (.dup, 1) := by decide +kernel
theorem dX4_readClause_45 : decode cX4_readClause 45 = .ok (.getfield 15, 3) := by decide +kernel
theorem dX4_readClause_48 : decode cX4_readClause 48 = .ok (.iconst 1, 1) := by decide +kernel
theorem dX4_readClause_49 : decode cX4_readClause 49 = .ok (.iadd, 1) := by decide +kernel
theorem dX4_readClause_50 : decode cX4_readClause 50 = .ok (.putfield 15, 3) := by decide +kernel
theorem dX4_readClause_53 : decode cX4_readClause 53 = .ok (.aload_n 0, 1) := by decide +kernel
theorem dX4_readClause_54 : decode cX4_readClause 54 = .ok (.getfield 25, 3) := by decide +kernel
theorem dX4_readClause_57 : decode cX4_readClause 57 = .ok (.getfield 66, 3) := by decide +kernel
theorem dX4_readClause_60 : decode cX4_readClause 60 = .ok (.istore_n 2, 1) := by decide +kernel
theorem dX4_readClause_61 : decode cX4_readClause 61 = .ok (.aload_n 0, 1) := by decide +kernel
theorem dX4_readClause_62 : decode cX4_readClause 62 = .ok (.iconst 0, 1) := by decide +kernel
theorem dX4_readClause_63 : decode cX4_readClause 63 = .ok (.invokevirtual 69, 3) := by decide +kernel
theorem dX4_readClause_66 : decode cX4_readClause 66 = .ok (.ifCond .ne 5, 3) := by decide +kernel
theorem dX4_readClause_69 : decode cX4_readClause 69 = .ok (.iconst 0, 1) := by decide +kernel
theorem dX4_readClause_70 : decode cX4_readClause 70 = .ok (.ireturn, 1) := by decide +kernel
theorem dX4_readClause_71 : decode cX4_readClause 71 = .ok (.aload_n 0, 1) := by decide +kernel
theorem dX4_readClause_72 : decode cX4_readClause 72 = .ok (.getfield 25, 3) := by decide +kernel
theorem dX4_readClause_75 : decode cX4_readClause 75 = .ok (.getfield 66, 3) := by decide +kernel
theorem dX4_readClause_78 : decode cX4_readClause 78 = .ok (.istore_n 3, 1) := by decide +kernel
theorem dX4_readClause_79 : decode cX4_readClause 79 = .ok (.aload_n 0, 1) := by decide +kernel
theorem dX4_readClause_80 : decode cX4_readClause 80 = .ok (.bipush 40, 2) := by decide +kernel
theorem dX4_readClause_82 : decode cX4_readClause 82 = .ok (.invokevirtual 47, 3) := by decide +kernel
theorem dX4_readClause_85 : decode cX4_readClause 85 = .ok (.ifCond .eq 20, 3) := by decide +kernel
theorem dX4_readClause_88 : decode cX4_readClause 88 = .ok (.aload_n 0, 1) := by decide +kernel
theorem dX4_readClause_89 : decode cX4_readClause 89 = .ok (.iconst 1, 1) := by decide +kernel
theorem dX4_readClause_90 : decode cX4_readClause 90 = .ok (.invokevirtual 72, 3) := by decide +kernel
theorem dX4_readClause_93 : decode cX4_readClause 93 = .ok (.ifCond .eq 12, 3) := by decide +kernel
theorem dX4_readClause_96 : decode cX4_readClause 96 = .ok (.aload_n 0, 1) := by decide +kernel
theorem dX4_readClause_97 : decode cX4_readClause 97 = .ok (.bipush 41, 2) := by decide +kernel
theorem dX4_readClause_99 : decode cX4_readClause 99 = .ok (.invokevirtual 47, 3) := by decide +kernel
theorem dX4_readClause_102 : decode cX4_readClause 102 = .ok (.ifCond .ne 5, 3) := by decide +kernel
theorem dX4_readClause_105 : decode cX4_readClause 105 = .ok (.iconst 0, 1) := by decide +kernel
theorem dX4_readClause_106 : decode cX4_readClause 106 = .ok (.ireturn, 1) := by decide +kernel
theorem dX4_readClause_107 : decode cX4_readClause 107 = .ok (.aload_n 0, 1) := by decide +kernel
theorem dX4_readClause_108 : decode cX4_readClause 108 = .ok (.getfield 25, 3) := by decide +kernel
theorem dX4_readClause_111 : decode cX4_readClause 111 = .ok (.iload_n 1, 1) := by decide +kernel
theorem dX4_readClause_112 : decode cX4_readClause 112 = .ok (.iload_n 2, 1) := by decide +kernel
theorem dX4_readClause_113 : decode cX4_readClause 113 = .ok (.iload_n 3, 1) := by decide +kernel
theorem dX4_readClause_114 : decode cX4_readClause 114 = .ok (.invokevirtual 75, 3) := by decide +kernel
theorem dX4_readClause_117 : decode cX4_readClause 117 = .ok (.iconst 1, 1) := by decide +kernel
theorem dX4_readClause_118 : decode cX4_readClause 118 = .ok (.ireturn, 1) := by decide +kernel
theorem dX4_readChoice_0 : decode cX4_readChoice 0 = .ok (.aload_n 0, 1) := by decide +kernel
theorem dX4_readChoice_1 : decode cX4_readChoice 1 = .ok (.iload_n 1, 1) := by decide +kernel
theorem dX4_readChoice_2 : decode cX4_readChoice 2 = .ok (.invokevirtual 79, 3) := by decide +kernel
theorem dX4_readChoice_5 : decode cX4_readChoice 5 = .ok (.ifCond .ne 5, 3) := by decide +kernel
theorem dX4_readChoice_8 : decode cX4_readChoice 8 = .ok (.iconst 0, 1) := by decide +kernel
theorem dX4_readChoice_9 : decode cX4_readChoice 9 = .ok (.ireturn, 1) := by decide +kernel
theorem dX4_readChoice_10 : decode cX4_readChoice 10 = .ok (.aload_n 0, 1) := by decide +kernel
theorem dX4_readChoice_11 : decode cX4_readChoice 11 = .ok (.getfield 15, 3) := by decide +kernel
theorem dX4_readChoice_14 : decode cX4_readChoice 14 = .ok (.aload_n 0, 1) := by decide +kernel
theorem dX4_readChoice_15 : decode cX4_readChoice 15 = .ok (.getfield 9, 3) := by decide +kernel
theorem dX4_readChoice_18 : decode cX4_readChoice 18 = .ok (.if_icmp .ge 53, 3) := by decide +kernel
theorem dX4_readChoice_21 : decode cX4_readChoice 21 = .ok (.aload_n 0, 1) := by decide +kernel
theorem dX4_readChoice_22 : decode cX4_readChoice 22 = .ok (.invokevirtual 51, 3) := by decide +kernel
theorem dX4_readChoice_25 : decode cX4_readChoice 25 = .ok (.bipush 124, 2) := by decide +kernel
theorem dX4_readChoice_27 : decode cX4_readChoice 27 = .ok (.if_icmp .ne 44, 3) := by decide +kernel
theorem dX4_readChoice_30 : decode cX4_readChoice 30 = .ok (.aload_n 0, 1) := by decide +kernel
theorem dX4_readChoice_31 : decode cX4_readChoice 31 = .ok (.dup, 1) := by decide +kernel
theorem dX4_readChoice_32 : decode cX4_readChoice 32 = .ok (.getfield 15, 3) := by decide +kernel
theorem dX4_readChoice_35 : decode cX4_readChoice 35 = .ok (.iconst 1, 1) := by decide +kernel
theorem dX4_readChoice_36 : decode cX4_readChoice 36 = .ok (.iadd, 1) := by decide +kernel
theorem dX4_readChoice_37 : decode cX4_readChoice 37 = .ok (.putfield 15, 3) := by decide +kernel
theorem dX4_readChoice_40 : decode cX4_readChoice 40 = .ok (.aload_n 0, 1) := by decide +kernel
theorem dX4_readChoice_41 : decode cX4_readChoice 41 = .ok (.getfield 25, 3) := by decide +kernel
theorem dX4_readChoice_44 : decode cX4_readChoice 44 = .ok (.bipush 124, 2) := by decide +kernel
theorem dX4_readChoice_46 : decode cX4_readChoice 46 = .ok (.invokevirtual 82, 3) := by decide +kernel
theorem dX4_readChoice_49 : decode cX4_readChoice 49 = .ok (.istore_n 2, 1) := by decide +kernel
theorem dX4_readChoice_50 : decode cX4_readChoice 50 = .ok (.aload_n 0, 1) := by decide +kernel
theorem dX4_readChoice_51 : decode cX4_readChoice 51 = .ok (.iload_n 1, 1) := by decide +kernel
theorem dX4_readChoice_52 : decode cX4_readChoice 52 = .ok (.invokevirtual 79, 3) := by decide +kernel
theorem dX4_readChoice_55 : decode cX4_readChoice 55 = .ok (.ifCond .ne 5, 3) := by decide +kernel
theorem dX4_readChoice_58 : decode cX4_readChoice 58 = .ok (.iconst 0, 1) := by decide +kernel
theorem dX4_readChoice_59 : decode cX4_readChoice 59 = .ok (.ireturn, 1) := by decide +kernel
theorem dX4_readChoice_60 : decode cX4_readChoice 60 = .ok (.aload_n 0, 1) := by decide +kernel
theorem dX4_readChoice_61 : decode cX4_readChoice 61 = .ok (.getfield 25, 3) := by decide +kernel
theorem dX4_readChoice_64 : decode cX4_readChoice 64 = .ok (.iload_n 2, 1) := by decide +kernel
theorem dX4_readChoice_65 : decode cX4_readChoice 65 = .ok (.invokevirtual 85, 3) := by decide +kernel
theorem dX4_readChoice_68 : decode cX4_readChoice 68 = .ok (.goto (-58), 3) := by decide +kernel
theorem dX4_readChoice_71 : decode cX4_readChoice 71 = .ok (.iconst 1, 1) := by decide +kernel
theorem dX4_readChoice_72 : decode cX4_readChoice 72 = .ok (.ireturn, 1) := by decide +kernel
theorem dX4_readPart_0 : decode cX4_readPart 0 = .ok (.aload_n 0, 1) := by decide +kernel
theorem dX4_readPart_1 : decode cX4_readPart 1 = .ok (.iload_n 1, 1) := by decide +kernel
theorem dX4_readPart_2 : decode cX4_readPart 2 = .ok (.invokevirtual 89, 3) := by decide +kernel
theorem dX4_readPart_5 : decode cX4_readPart 5 = .ok (.ifCond .ne 5, 3) := by decide +kernel
theorem dX4_readPart_8 : decode cX4_readPart 8 = .ok (.iconst 0, 1) := by decide +kernel
theorem dX4_readPart_9 : decode cX4_readPart 9 = .ok (.ireturn, 1) := by decide +kernel
theorem dX4_readPart_10 : decode cX4_readPart 10 = .ok (.aload_n 0, 1) := by decide +kernel
theorem dX4_readPart_11 : decode cX4_readPart 11 = .ok (.getfield 15, 3) := by decide +kernel
theorem dX4_readPart_14 : decode cX4_readPart 14 = .ok (.aload_n 0, 1) := by decide +kernel
theorem dX4_readPart_15 : decode cX4_readPart 15 = .ok (.getfield 9, 3) := by decide +kernel
theorem dX4_readPart_18 : decode cX4_readPart 18 = .ok (.if_icmp .ge 53, 3) := by decide +kernel
theorem dX4_readPart_21 : decode cX4_readPart 21 = .ok (.aload_n 0, 1) := by decide +kernel
theorem dX4_readPart_22 : decode cX4_readPart 22 = .ok (.invokevirtual 51, 3) := by decide +kernel
theorem dX4_readPart_25 : decode cX4_readPart 25 = .ok (.bipush 38, 2) := by decide +kernel
theorem dX4_readPart_27 : decode cX4_readPart 27 = .ok (.if_icmp .ne 44, 3) := by decide +kernel
theorem dX4_readPart_30 : decode cX4_readPart 30 = .ok (.aload_n 0, 1) := by decide +kernel
theorem dX4_readPart_31 : decode cX4_readPart 31 = .ok (.dup, 1) := by decide +kernel
theorem dX4_readPart_32 : decode cX4_readPart 32 = .ok (.getfield 15, 3) := by decide +kernel
theorem dX4_readPart_35 : decode cX4_readPart 35 = .ok (.iconst 1, 1) := by decide +kernel
theorem dX4_readPart_36 : decode cX4_readPart 36 = .ok (.iadd, 1) := by decide +kernel
theorem dX4_readPart_37 : decode cX4_readPart 37 = .ok (.putfield 15, 3) := by decide +kernel
theorem dX4_readPart_40 : decode cX4_readPart 40 = .ok (.aload_n 0, 1) := by decide +kernel
theorem dX4_readPart_41 : decode cX4_readPart 41 = .ok (.getfield 25, 3) := by decide +kernel
theorem dX4_readPart_44 : decode cX4_readPart 44 = .ok (.bipush 38, 2) := by decide +kernel
theorem dX4_readPart_46 : decode cX4_readPart 46 = .ok (.invokevirtual 82, 3) := by decide +kernel
theorem dX4_readPart_49 : decode cX4_readPart 49 = .ok (.istore_n 2, 1) := by decide +kernel
theorem dX4_readPart_50 : decode cX4_readPart 50 = .ok (.aload_n 0, 1) := by decide +kernel
theorem dX4_readPart_51 : decode cX4_readPart 51 = .ok (.iload_n 1, 1) := by decide +kernel
theorem dX4_readPart_52 : decode cX4_readPart 52 = .ok (.invokevirtual 89, 3) := by decide +kernel
theorem dX4_readPart_55 : decode cX4_readPart 55 = .ok (.ifCond .ne 5, 3) := by decide +kernel
theorem dX4_readPart_58 : decode cX4_readPart 58 = .ok (.iconst 0, 1) := by decide +kernel
theorem dX4_readPart_59 : decode cX4_readPart 59 = .ok (.ireturn, 1) := by decide +kernel
theorem dX4_readPart_60 : decode cX4_readPart 60 = .ok (.aload_n 0, 1) := by decide +kernel
theorem dX4_readPart_61 : decode cX4_readPart 61 = .ok (.getfield 25, 3) := by decide +kernel
theorem dX4_readPart_64 : decode cX4_readPart 64 = .ok (.iload_n 2, 1) := by decide +kernel
theorem dX4_readPart_65 : decode cX4_readPart 65 = .ok (.invokevirtual 85, 3) := by decide +kernel
theorem dX4_readPart_68 : decode cX4_readPart 68 = .ok (.goto (-58), 3) := by decide +kernel
theorem dX4_readPart_71 : decode cX4_readPart 71 = .ok (.iconst 1, 1) := by decide +kernel
theorem dX4_readPart_72 : decode cX4_readPart 72 = .ok (.ireturn, 1) := by decide +kernel
theorem dX4_readPiece_0 : decode cX4_readPiece 0 = .ok (.aload_n 0, 1) := by decide +kernel
theorem dX4_readPiece_1 : decode cX4_readPiece 1 = .ok (.invokevirtual 51, 3) := by decide +kernel
theorem dX4_readPiece_4 : decode cX4_readPiece 4 = .ok (.istore_n 2, 1) := by decide +kernel
theorem dX4_readPiece_5 : decode cX4_readPiece 5 = .ok (.iload_n 2, 1) := by decide +kernel
theorem dX4_readPiece_6 : decode cX4_readPiece 6 = .ok (.bipush 33, 2) := by decide +kernel
theorem dX4_readPiece_8 : decode cX4_readPiece 8 = .ok (.if_icmp .eq 31, 3) := by decide +kernel
theorem dX4_readPiece_11 : decode cX4_readPiece 11 = .ok (.iload_n 2, 1) := by decide +kernel
theorem dX4_readPiece_12 : decode cX4_readPiece 12 = .ok (.bipush 40, 2) := by decide +kernel
theorem dX4_readPiece_14 : decode cX4_readPiece 14 = .ok (.if_icmp .eq 25, 3) := by decide +kernel
theorem dX4_readPiece_17 : decode cX4_readPiece 17 = .ok (.aload_n 0, 1) := by decide +kernel
theorem dX4_readPiece_18 : decode cX4_readPiece 18 = .ok (.iload_n 1, 1) := by decide +kernel
theorem dX4_readPiece_19 : decode cX4_readPiece 19 = .ok (.invokevirtual 69, 3) := by decide +kernel
theorem dX4_readPiece_22 : decode cX4_readPiece 22 = .ok (.ifCond .eq 15, 3) := by decide +kernel
theorem dX4_readPiece_25 : decode cX4_readPiece 25 = .ok (.aload_n 0, 1) := by decide +kernel
theorem dX4_readPiece_26 : decode cX4_readPiece 26 = .ok (.iload_n 1, 1) := by decide +kernel
theorem dX4_readPiece_27 : decode cX4_readPiece 27 = .ok (.invokevirtual 92, 3) := by decide +kernel
theorem dX4_readPiece_30 : decode cX4_readPiece 30 = .ok (.ifCond .eq 7, 3) := by decide +kernel
theorem dX4_readPiece_33 : decode cX4_readPiece 33 = .ok (.iconst 1, 1) := by decide +kernel
theorem dX4_readPiece_34 : decode cX4_readPiece 34 = .ok (.goto 4, 3) := by decide +kernel
theorem dX4_readPiece_37 : decode cX4_readPiece 37 = .ok (.iconst 0, 1) := by decide +kernel
theorem dX4_readPiece_38 : decode cX4_readPiece 38 = .ok (.ireturn, 1) := by decide +kernel
theorem dX4_readPiece_39 : decode cX4_readPiece 39 = .ok (.iload_n 1, 1) := by decide +kernel
theorem dX4_readPiece_40 : decode cX4_readPiece 40 = .ok (.bipush 6, 2) := by decide +kernel
theorem dX4_readPiece_42 : decode cX4_readPiece 42 = .ok (.if_icmp .lt 9, 3) := by decide +kernel
theorem dX4_readPiece_45 : decode cX4_readPiece 45 = .ok (.aload_n 0, 1) := by decide +kernel
theorem dX4_readPiece_46 : decode cX4_readPiece 46 = .ok (.iconst 5, 1) := by decide +kernel
theorem dX4_readPiece_47 : decode cX4_readPiece 47 = .ok (.invokevirtual 55, 3) := by decide +kernel
theorem dX4_readPiece_50 : decode cX4_readPiece 50 = .ok (.ireturn, 1) := by decide +kernel
theorem dX4_readPiece_51 : decode cX4_readPiece 51 = .ok (.aload_n 0, 1) := by decide +kernel
theorem dX4_readPiece_52 : decode cX4_readPiece 52 = .ok (.dup, 1) := by decide +kernel
theorem dX4_readPiece_53 : decode cX4_readPiece 53 = .ok (.getfield 15, 3) := by decide +kernel
theorem dX4_readPiece_56 : decode cX4_readPiece 56 = .ok (.iconst 1, 1) := by decide +kernel
theorem dX4_readPiece_57 : decode cX4_readPiece 57 = .ok (.iadd, 1) := by decide +kernel
theorem dX4_readPiece_58 : decode cX4_readPiece 58 = .ok (.putfield 15, 3) := by decide +kernel
theorem dX4_readPiece_61 : decode cX4_readPiece 61 = .ok (.iload_n 2, 1) := by decide +kernel
theorem dX4_readPiece_62 : decode cX4_readPiece 62 = .ok (.bipush 40, 2) := by decide +kernel
theorem dX4_readPiece_64 : decode cX4_readPiece 64 = .ok (.if_icmp .ne 28, 3) := by decide +kernel
theorem dX4_readPiece_67 : decode cX4_readPiece 67 = .ok (.aload_n 0, 1) := by decide +kernel
theorem dX4_readPiece_68 : decode cX4_readPiece 68 = .ok (.iload_n 1, 1) := by decide +kernel
theorem dX4_readPiece_69 : decode cX4_readPiece 69 = .ok (.iconst 1, 1) := by decide +kernel
theorem dX4_readPiece_70 : decode cX4_readPiece 70 = .ok (.iadd, 1) := by decide +kernel
theorem dX4_readPiece_71 : decode cX4_readPiece 71 = .ok (.invokevirtual 72, 3) := by decide +kernel
theorem dX4_readPiece_74 : decode cX4_readPiece 74 = .ok (.ifCond .eq 16, 3) := by decide +kernel
theorem dX4_readPiece_77 : decode cX4_readPiece 77 = .ok (.aload_n 0, 1) := by decide +kernel
theorem dX4_readPiece_78 : decode cX4_readPiece 78 = .ok (.bipush 41, 2) := by decide +kernel
theorem dX4_readPiece_80 : decode cX4_readPiece 80 = .ok (.invokevirtual 47, 3) := by decide +kernel
theorem dX4_readPiece_83 : decode cX4_readPiece 83 = .ok (.ifCond .eq 7, 3) := by decide +kernel
theorem dX4_readPiece_86 : decode cX4_readPiece 86 = .ok (.iconst 1, 1) := by decide +kernel
theorem dX4_readPiece_87 : decode cX4_readPiece 87 = .ok (.goto 4, 3) := by decide +kernel
theorem dX4_readPiece_90 : decode cX4_readPiece 90 = .ok (.iconst 0, 1) := by decide +kernel
theorem dX4_readPiece_91 : decode cX4_readPiece 91 = .ok (.ireturn, 1) := by decide +kernel
theorem dX4_readPiece_92 : decode cX4_readPiece 92 = .ok (.aload_n 0, 1) := by decide +kernel
theorem dX4_readPiece_93 : decode cX4_readPiece 93 = .ok (.iload_n 1, 1) := by decide +kernel
theorem dX4_readPiece_94 : decode cX4_readPiece 94 = .ok (.iconst 1, 1) := by decide +kernel
theorem dX4_readPiece_95 : decode cX4_readPiece 95 = .ok (.iadd, 1) := by decide +kernel
theorem dX4_readPiece_96 : decode cX4_readPiece 96 = .ok (.invokevirtual 89, 3) := by decide +kernel
theorem dX4_readPiece_99 : decode cX4_readPiece 99 = .ok (.ifCond .ne 5, 3) := by decide +kernel
theorem dX4_readPiece_102 : decode cX4_readPiece 102 = .ok (.iconst 0, 1) := by decide +kernel
theorem dX4_readPiece_103 : decode cX4_readPiece 103 = .ok (.ireturn, 1) := by decide +kernel
theorem dX4_readPiece_104 : decode cX4_readPiece 104 = .ok (.aload_n 0, 1) := by decide +kernel
theorem dX4_readPiece_105 : decode cX4_readPiece 105 = .ok (.getfield 25, 3) := by decide +kernel
theorem dX4_readPiece_108 : decode cX4_readPiece 108 = .ok (.bipush 33, 2) := by decide +kernel
theorem dX4_readPiece_110 : decode cX4_readPiece 110 = .ok (.invokevirtual 95, 3) := by decide +kernel
theorem dX4_readPiece_113 : decode cX4_readPiece 113 = .ok (.iconst 1, 1) := by decide +kernel
theorem dX4_readPiece_114 : decode cX4_readPiece 114 = .ok (.ireturn, 1) := by decide +kernel
theorem dX4_readCompared_0 : decode cX4_readCompared 0 = .ok (.aload_n 0, 1) := by decide +kernel
theorem dX4_readCompared_1 : decode cX4_readCompared 1 = .ok (.invokevirtual 51, 3) := by decide +kernel
theorem dX4_readCompared_4 : decode cX4_readCompared 4 = .ok (.istore_n 2, 1) := by decide +kernel
theorem dX4_readCompared_5 : decode cX4_readCompared 5 = .ok (.iload_n 2, 1) := by decide +kernel
theorem dX4_readCompared_6 : decode cX4_readCompared 6 = .ok (.bipush 60, 2) := by decide +kernel
theorem dX4_readCompared_8 : decode cX4_readCompared 8 = .ok (.if_icmp .eq 21, 3) := by decide +kernel
theorem dX4_readCompared_11 : decode cX4_readCompared 11 = .ok (.iload_n 2, 1) := by decide +kernel
theorem dX4_readCompared_12 : decode cX4_readCompared 12 = .ok (.bipush 62, 2) := by decide +kernel
theorem dX4_readCompared_14 : decode cX4_readCompared 14 = .ok (.if_icmp .eq 15, 3) := by decide +kernel
theorem dX4_readCompared_17 : decode cX4_readCompared 17 = .ok (.iload_n 2, 1) := by decide +kernel
theorem dX4_readCompared_18 : decode cX4_readCompared 18 = .ok (.bipush 61, 2) := by decide +kernel
theorem dX4_readCompared_20 : decode cX4_readCompared 20 = .ok (.if_icmp .eq 9, 3) := by decide +kernel
theorem dX4_readCompared_23 : decode cX4_readCompared 23 = .ok (.aload_n 0, 1) := by decide +kernel
theorem dX4_readCompared_24 : decode cX4_readCompared 24 = .ok (.iconst 1, 1) := by decide +kernel
theorem dX4_readCompared_25 : decode cX4_readCompared 25 = .ok (.invokevirtual 55, 3) := by decide +kernel
theorem dX4_readCompared_28 : decode cX4_readCompared 28 = .ok (.ireturn, 1) := by decide +kernel
theorem dX4_readCompared_29 : decode cX4_readCompared 29 = .ok (.aload_n 0, 1) := by decide +kernel
theorem dX4_readCompared_30 : decode cX4_readCompared 30 = .ok (.dup, 1) := by decide +kernel
theorem dX4_readCompared_31 : decode cX4_readCompared 31 = .ok (.getfield 15, 3) := by decide +kernel
theorem dX4_readCompared_34 : decode cX4_readCompared 34 = .ok (.iconst 1, 1) := by decide +kernel
theorem dX4_readCompared_35 : decode cX4_readCompared 35 = .ok (.iadd, 1) := by decide +kernel
theorem dX4_readCompared_36 : decode cX4_readCompared 36 = .ok (.putfield 15, 3) := by decide +kernel
theorem dX4_readCompared_39 : decode cX4_readCompared 39 = .ok (.aload_n 0, 1) := by decide +kernel
theorem dX4_readCompared_40 : decode cX4_readCompared 40 = .ok (.iload_n 1, 1) := by decide +kernel
theorem dX4_readCompared_41 : decode cX4_readCompared 41 = .ok (.invokevirtual 69, 3) := by decide +kernel
theorem dX4_readCompared_44 : decode cX4_readCompared 44 = .ok (.ifCond .ne 5, 3) := by decide +kernel
theorem dX4_readCompared_47 : decode cX4_readCompared 47 = .ok (.iconst 0, 1) := by decide +kernel
theorem dX4_readCompared_48 : decode cX4_readCompared 48 = .ok (.ireturn, 1) := by decide +kernel
theorem dX4_readCompared_49 : decode cX4_readCompared 49 = .ok (.aload_n 0, 1) := by decide +kernel
theorem dX4_readCompared_50 : decode cX4_readCompared 50 = .ok (.getfield 25, 3) := by decide +kernel
theorem dX4_readCompared_53 : decode cX4_readCompared 53 = .ok (.iload_n 2, 1) := by decide +kernel
theorem dX4_readCompared_54 : decode cX4_readCompared 54 = .ok (.invokevirtual 95, 3) := by decide +kernel
theorem dX4_readCompared_57 : decode cX4_readCompared 57 = .ok (.iconst 1, 1) := by decide +kernel
theorem dX4_readCompared_58 : decode cX4_readCompared 58 = .ok (.ireturn, 1) := by decide +kernel
theorem dX4_readSum_0 : decode cX4_readSum 0 = .ok (.aload_n 0, 1) := by decide +kernel
theorem dX4_readSum_1 : decode cX4_readSum 1 = .ok (.iload_n 1, 1) := by decide +kernel
theorem dX4_readSum_2 : decode cX4_readSum 2 = .ok (.invokevirtual 98, 3) := by decide +kernel
theorem dX4_readSum_5 : decode cX4_readSum 5 = .ok (.ifCond .ne 5, 3) := by decide +kernel
theorem dX4_readSum_8 : decode cX4_readSum 8 = .ok (.iconst 0, 1) := by decide +kernel
theorem dX4_readSum_9 : decode cX4_readSum 9 = .ok (.ireturn, 1) := by decide +kernel
theorem dX4_readSum_10 : decode cX4_readSum 10 = .ok (.aload_n 0, 1) := by decide +kernel
theorem dX4_readSum_11 : decode cX4_readSum 11 = .ok (.getfield 15, 3) := by decide +kernel
theorem dX4_readSum_14 : decode cX4_readSum 14 = .ok (.aload_n 0, 1) := by decide +kernel
theorem dX4_readSum_15 : decode cX4_readSum 15 = .ok (.getfield 9, 3) := by decide +kernel
theorem dX4_readSum_18 : decode cX4_readSum 18 = .ok (.if_icmp .ge 57, 3) := by decide +kernel
theorem dX4_readSum_21 : decode cX4_readSum 21 = .ok (.aload_n 0, 1) := by decide +kernel
theorem dX4_readSum_22 : decode cX4_readSum 22 = .ok (.invokevirtual 51, 3) := by decide +kernel
theorem dX4_readSum_25 : decode cX4_readSum 25 = .ok (.bipush 43, 2) := by decide +kernel
theorem dX4_readSum_27 : decode cX4_readSum 27 = .ok (.if_icmp .eq 12, 3) := by decide +kernel
theorem dX4_readSum_30 : decode cX4_readSum 30 = .ok (.aload_n 0, 1) := by decide +kernel
theorem dX4_readSum_31 : decode cX4_readSum 31 = .ok (.invokevirtual 51, 3) := by decide +kernel
theorem dX4_readSum_34 : decode cX4_readSum 34 = .ok (.bipush 45, 2) := by decide +kernel
theorem dX4_readSum_36 : decode cX4_readSum 36 = .ok (.if_icmp .ne 39, 3) := by decide +kernel
theorem dX4_readSum_39 : decode cX4_readSum 39 = .ok (.aload_n 0, 1) := by decide +kernel
theorem dX4_readSum_40 : decode cX4_readSum 40 = .ok (.invokevirtual 51, 3) := by decide +kernel
theorem dX4_readSum_43 : decode cX4_readSum 43 = .ok (.istore_n 2, 1) := by decide +kernel
theorem dX4_readSum_44 : decode cX4_readSum 44 = .ok (.aload_n 0, 1) := by decide +kernel
theorem dX4_readSum_45 : decode cX4_readSum 45 = .ok (.dup, 1) := by decide +kernel
theorem dX4_readSum_46 : decode cX4_readSum 46 = .ok (.getfield 15, 3) := by decide +kernel
theorem dX4_readSum_49 : decode cX4_readSum 49 = .ok (.iconst 1, 1) := by decide +kernel
theorem dX4_readSum_50 : decode cX4_readSum 50 = .ok (.iadd, 1) := by decide +kernel
theorem dX4_readSum_51 : decode cX4_readSum 51 = .ok (.putfield 15, 3) := by decide +kernel
theorem dX4_readSum_54 : decode cX4_readSum 54 = .ok (.aload_n 0, 1) := by decide +kernel
theorem dX4_readSum_55 : decode cX4_readSum 55 = .ok (.iload_n 1, 1) := by decide +kernel
theorem dX4_readSum_56 : decode cX4_readSum 56 = .ok (.invokevirtual 98, 3) := by decide +kernel
theorem dX4_readSum_59 : decode cX4_readSum 59 = .ok (.ifCond .ne 5, 3) := by decide +kernel
theorem dX4_readSum_62 : decode cX4_readSum 62 = .ok (.iconst 0, 1) := by decide +kernel
theorem dX4_readSum_63 : decode cX4_readSum 63 = .ok (.ireturn, 1) := by decide +kernel
theorem dX4_readSum_64 : decode cX4_readSum 64 = .ok (.aload_n 0, 1) := by decide +kernel
theorem dX4_readSum_65 : decode cX4_readSum 65 = .ok (.getfield 25, 3) := by decide +kernel
theorem dX4_readSum_68 : decode cX4_readSum 68 = .ok (.iload_n 2, 1) := by decide +kernel
theorem dX4_readSum_69 : decode cX4_readSum 69 = .ok (.invokevirtual 95, 3) := by decide +kernel
theorem dX4_readSum_72 : decode cX4_readSum 72 = .ok (.goto (-62), 3) := by decide +kernel
theorem dX4_readSum_75 : decode cX4_readSum 75 = .ok (.iconst 1, 1) := by decide +kernel
theorem dX4_readSum_76 : decode cX4_readSum 76 = .ok (.ireturn, 1) := by decide +kernel
theorem dX4_readTerm_0 : decode cX4_readTerm 0 = .ok (.aload_n 0, 1) := by decide +kernel
theorem dX4_readTerm_1 : decode cX4_readTerm 1 = .ok (.iload_n 1, 1) := by decide +kernel
theorem dX4_readTerm_2 : decode cX4_readTerm 2 = .ok (.invokevirtual 101, 3) := by decide +kernel
theorem dX4_readTerm_5 : decode cX4_readTerm 5 = .ok (.ifCond .ne 5, 3) := by decide +kernel
theorem dX4_readTerm_8 : decode cX4_readTerm 8 = .ok (.iconst 0, 1) := by decide +kernel
theorem dX4_readTerm_9 : decode cX4_readTerm 9 = .ok (.ireturn, 1) := by decide +kernel
theorem dX4_readTerm_10 : decode cX4_readTerm 10 = .ok (.aload_n 0, 1) := by decide +kernel
theorem dX4_readTerm_11 : decode cX4_readTerm 11 = .ok (.getfield 15, 3) := by decide +kernel
theorem dX4_readTerm_14 : decode cX4_readTerm 14 = .ok (.aload_n 0, 1) := by decide +kernel
theorem dX4_readTerm_15 : decode cX4_readTerm 15 = .ok (.getfield 9, 3) := by decide +kernel
theorem dX4_readTerm_18 : decode cX4_readTerm 18 = .ok (.if_icmp .ge 66, 3) := by decide +kernel
theorem dX4_readTerm_21 : decode cX4_readTerm 21 = .ok (.aload_n 0, 1) := by decide +kernel
theorem dX4_readTerm_22 : decode cX4_readTerm 22 = .ok (.invokevirtual 51, 3) := by decide +kernel
theorem dX4_readTerm_25 : decode cX4_readTerm 25 = .ok (.bipush 42, 2) := by decide +kernel
theorem dX4_readTerm_27 : decode cX4_readTerm 27 = .ok (.if_icmp .eq 21, 3) := by decide +kernel
theorem dX4_readTerm_30 : decode cX4_readTerm 30 = .ok (.aload_n 0, 1) := by decide +kernel
theorem dX4_readTerm_31 : decode cX4_readTerm 31 = .ok (.invokevirtual 51, 3) := by decide +kernel
theorem dX4_readTerm_34 : decode cX4_readTerm 34 = .ok (.bipush 47, 2) := by decide +kernel
theorem dX4_readTerm_36 : decode cX4_readTerm 36 = .ok (.if_icmp .eq 12, 3) := by decide +kernel
theorem dX4_readTerm_39 : decode cX4_readTerm 39 = .ok (.aload_n 0, 1) := by decide +kernel
theorem dX4_readTerm_40 : decode cX4_readTerm 40 = .ok (.invokevirtual 51, 3) := by decide +kernel
theorem dX4_readTerm_43 : decode cX4_readTerm 43 = .ok (.bipush 37, 2) := by decide +kernel
theorem dX4_readTerm_45 : decode cX4_readTerm 45 = .ok (.if_icmp .ne 39, 3) := by decide +kernel
theorem dX4_readTerm_48 : decode cX4_readTerm 48 = .ok (.aload_n 0, 1) := by decide +kernel
theorem dX4_readTerm_49 : decode cX4_readTerm 49 = .ok (.invokevirtual 51, 3) := by decide +kernel
theorem dX4_readTerm_52 : decode cX4_readTerm 52 = .ok (.istore_n 2, 1) := by decide +kernel
theorem dX4_readTerm_53 : decode cX4_readTerm 53 = .ok (.aload_n 0, 1) := by decide +kernel
theorem dX4_readTerm_54 : decode cX4_readTerm 54 = .ok (.dup, 1) := by decide +kernel
theorem dX4_readTerm_55 : decode cX4_readTerm 55 = .ok (.getfield 15, 3) := by decide +kernel
theorem dX4_readTerm_58 : decode cX4_readTerm 58 = .ok (.iconst 1, 1) := by decide +kernel
theorem dX4_readTerm_59 : decode cX4_readTerm 59 = .ok (.iadd, 1) := by decide +kernel
theorem dX4_readTerm_60 : decode cX4_readTerm 60 = .ok (.putfield 15, 3) := by decide +kernel
theorem dX4_readTerm_63 : decode cX4_readTerm 63 = .ok (.aload_n 0, 1) := by decide +kernel
theorem dX4_readTerm_64 : decode cX4_readTerm 64 = .ok (.iload_n 1, 1) := by decide +kernel
theorem dX4_readTerm_65 : decode cX4_readTerm 65 = .ok (.invokevirtual 101, 3) := by decide +kernel
theorem dX4_readTerm_68 : decode cX4_readTerm 68 = .ok (.ifCond .ne 5, 3) := by decide +kernel
theorem dX4_readTerm_71 : decode cX4_readTerm 71 = .ok (.iconst 0, 1) := by decide +kernel
theorem dX4_readTerm_72 : decode cX4_readTerm 72 = .ok (.ireturn, 1) := by decide +kernel
theorem dX4_readTerm_73 : decode cX4_readTerm 73 = .ok (.aload_n 0, 1) := by decide +kernel
theorem dX4_readTerm_74 : decode cX4_readTerm 74 = .ok (.getfield 25, 3) := by decide +kernel
theorem dX4_readTerm_77 : decode cX4_readTerm 77 = .ok (.iload_n 2, 1) := by decide +kernel
theorem dX4_readTerm_78 : decode cX4_readTerm 78 = .ok (.invokevirtual 95, 3) := by decide +kernel
theorem dX4_readTerm_81 : decode cX4_readTerm 81 = .ok (.goto (-71), 3) := by decide +kernel
theorem dX4_readTerm_84 : decode cX4_readTerm 84 = .ok (.iconst 1, 1) := by decide +kernel
theorem dX4_readTerm_85 : decode cX4_readTerm 85 = .ok (.ireturn, 1) := by decide +kernel
theorem dX4_readFactor_0 : decode cX4_readFactor 0 = .ok (.aload_n 0, 1) := by decide +kernel
theorem dX4_readFactor_1 : decode cX4_readFactor 1 = .ok (.invokevirtual 51, 3) := by decide +kernel
theorem dX4_readFactor_4 : decode cX4_readFactor 4 = .ok (.istore_n 2, 1) := by decide +kernel
theorem dX4_readFactor_5 : decode cX4_readFactor 5 = .ok (.iload_n 2, 1) := by decide +kernel
theorem dX4_readFactor_6 : decode cX4_readFactor 6 = .ok (.bipush 91, 2) := by decide +kernel
theorem dX4_readFactor_8 : decode cX4_readFactor 8 = .ok (.if_icmp .ne 50, 3) := by decide +kernel
theorem dX4_readFactor_11 : decode cX4_readFactor 11 = .ok (.iload_n 1, 1) := by decide +kernel
theorem dX4_readFactor_12 : decode cX4_readFactor 12 = .ok (.bipush 6, 2) := by decide +kernel
theorem dX4_readFactor_14 : decode cX4_readFactor 14 = .ok (.if_icmp .lt 9, 3) := by decide +kernel
theorem dX4_readFactor_17 : decode cX4_readFactor 17 = .ok (.aload_n 0, 1) := by decide +kernel
theorem dX4_readFactor_18 : decode cX4_readFactor 18 = .ok (.iconst 5, 1) := by decide +kernel
theorem dX4_readFactor_19 : decode cX4_readFactor 19 = .ok (.invokevirtual 55, 3) := by decide +kernel
theorem dX4_readFactor_22 : decode cX4_readFactor 22 = .ok (.ireturn, 1) := by decide +kernel
theorem dX4_readFactor_23 : decode cX4_readFactor 23 = .ok (.aload_n 0, 1) := by decide +kernel
theorem dX4_readFactor_24 : decode cX4_readFactor 24 = .ok (.dup, 1) := by decide +kernel
theorem dX4_readFactor_25 : decode cX4_readFactor 25 = .ok (.getfield 15, 3) := by decide +kernel
theorem dX4_readFactor_28 : decode cX4_readFactor 28 = .ok (.iconst 1, 1) := by decide +kernel
theorem dX4_readFactor_29 : decode cX4_readFactor 29 = .ok (.iadd, 1) := by decide +kernel
theorem dX4_readFactor_30 : decode cX4_readFactor 30 = .ok (.putfield 15, 3) := by decide +kernel
theorem dX4_readFactor_33 : decode cX4_readFactor 33 = .ok (.aload_n 0, 1) := by decide +kernel
theorem dX4_readFactor_34 : decode cX4_readFactor 34 = .ok (.iload_n 1, 1) := by decide +kernel
theorem dX4_readFactor_35 : decode cX4_readFactor 35 = .ok (.iconst 1, 1) := by decide +kernel
theorem dX4_readFactor_36 : decode cX4_readFactor 36 = .ok (.iadd, 1) := by decide +kernel
theorem dX4_readFactor_37 : decode cX4_readFactor 37 = .ok (.invokevirtual 69, 3) := by decide +kernel
theorem dX4_readFactor_40 : decode cX4_readFactor 40 = .ok (.ifCond .eq 16, 3) := by decide +kernel
theorem dX4_readFactor_43 : decode cX4_readFactor 43 = .ok (.aload_n 0, 1) := by decide +kernel
theorem dX4_readFactor_44 : decode cX4_readFactor 44 = .ok (.bipush 93, 2) := by decide +kernel
theorem dX4_readFactor_46 : decode cX4_readFactor 46 = .ok (.invokevirtual 47, 3) := by decide +kernel
theorem dX4_readFactor_49 : decode cX4_readFactor 49 = .ok (.ifCond .eq 7, 3) := by decide +kernel
theorem dX4_readFactor_52 : decode cX4_readFactor 52 = .ok (.iconst 1, 1) := by decide +kernel
theorem dX4_readFactor_53 : decode cX4_readFactor 53 = .ok (.goto 4, 3) := by decide +kernel
theorem dX4_readFactor_56 : decode cX4_readFactor 56 = .ok (.iconst 0, 1) := by decide +kernel
theorem dX4_readFactor_57 : decode cX4_readFactor 57 = .ok (.ireturn, 1) := by decide +kernel
theorem dX4_readFactor_58 : decode cX4_readFactor 58 = .ok (.iload_n 2, 1) := by decide +kernel
theorem dX4_readFactor_59 : decode cX4_readFactor 59 = .ok (.invokestatic 104, 3) := by decide +kernel
theorem dX4_readFactor_62 : decode cX4_readFactor 62 = .ok (.ifCond .eq 8, 3) := by decide +kernel
theorem dX4_readFactor_65 : decode cX4_readFactor 65 = .ok (.aload_n 0, 1) := by decide +kernel
theorem dX4_readFactor_66 : decode cX4_readFactor 66 = .ok (.invokevirtual 107, 3) := by decide +kernel
theorem dX4_readFactor_69 : decode cX4_readFactor 69 = .ok (.ireturn, 1) := by decide +kernel
theorem dX4_readFactor_70 : decode cX4_readFactor 70 = .ok (.iload_n 2, 1) := by decide +kernel
theorem dX4_readFactor_71 : decode cX4_readFactor 71 = .ok (.ifCond .ge 7, 3) := by decide +kernel
theorem dX4_readFactor_74 : decode cX4_readFactor 74 = .ok (.iconst (-1), 1) := by decide +kernel
theorem dX4_readFactor_75 : decode cX4_readFactor 75 = .ok (.goto 10, 3) := by decide +kernel
theorem dX4_readFactor_78 : decode cX4_readFactor 78 = .ok (.ldc 110, 2) := by decide +kernel
theorem dX4_readFactor_80 : decode cX4_readFactor 80 = .ok (.iload_n 2, 1) := by decide +kernel
theorem dX4_readFactor_81 : decode cX4_readFactor 81 = .ok (.i2c, 1) := by decide +kernel
theorem dX4_readFactor_82 : decode cX4_readFactor 82 = .ok (.invokevirtual 60, 3) := by decide +kernel
theorem dX4_readFactor_85 : decode cX4_readFactor 85 = .ok (.istore_n 3, 1) := by decide +kernel
theorem dX4_readFactor_86 : decode cX4_readFactor 86 = .ok (.iload_n 3, 1) := by decide +kernel
theorem dX4_readFactor_87 : decode cX4_readFactor 87 = .ok (.ifCond .ge 9, 3) := by decide +kernel
theorem dX4_readFactor_90 : decode cX4_readFactor 90 = .ok (.aload_n 0, 1) := by decide +kernel
theorem dX4_readFactor_91 : decode cX4_readFactor 91 = .ok (.iconst 1, 1) := by decide +kernel
theorem dX4_readFactor_92 : decode cX4_readFactor 92 = .ok (.invokevirtual 55, 3) := by decide +kernel
theorem dX4_readFactor_95 : decode cX4_readFactor 95 = .ok (.ireturn, 1) := by decide +kernel
theorem dX4_readFactor_96 : decode cX4_readFactor 96 = .ok (.aload_n 0, 1) := by decide +kernel
theorem dX4_readFactor_97 : decode cX4_readFactor 97 = .ok (.dup, 1) := by decide +kernel
theorem dX4_readFactor_98 : decode cX4_readFactor 98 = .ok (.getfield 15, 3) := by decide +kernel
theorem dX4_readFactor_101 : decode cX4_readFactor 101 = .ok (.iconst 1, 1) := by decide +kernel
theorem dX4_readFactor_102 : decode cX4_readFactor 102 = .ok (.iadd, 1) := by decide +kernel
theorem dX4_readFactor_103 : decode cX4_readFactor 103 = .ok (.putfield 15, 3) := by decide +kernel
theorem dX4_readFactor_106 : decode cX4_readFactor 106 = .ok (.aload_n 0, 1) := by decide +kernel
theorem dX4_readFactor_107 : decode cX4_readFactor 107 = .ok (.getfield 25, 3) := by decide +kernel
theorem dX4_readFactor_110 : decode cX4_readFactor 110 = .ok (.iload_n 3, 1) := by decide +kernel
theorem dX4_readFactor_111 : decode cX4_readFactor 111 = .ok (.invokevirtual 95, 3) := by decide +kernel
theorem dX4_readFactor_114 : decode cX4_readFactor 114 = .ok (.aload_n 0, 1) := by decide +kernel
theorem dX4_readFactor_115 : decode cX4_readFactor 115 = .ok (.getfield 25, 3) := by decide +kernel
theorem dX4_readFactor_118 : decode cX4_readFactor 118 = .ok (.aload_n 0, 1) := by decide +kernel
theorem dX4_readFactor_119 : decode cX4_readFactor 119 = .ok (.getfield 25, 3) := by decide +kernel
theorem dX4_readFactor_122 : decode cX4_readFactor 122 = .ok (.getfield 112, 3) := by decide +kernel
theorem dX4_readFactor_125 : decode cX4_readFactor 125 = .ok (.ifCond .ne 9, 3) := by decide +kernel
theorem dX4_readFactor_128 : decode cX4_readFactor 128 = .ok (.iload_n 3, 1) := by decide +kernel
theorem dX4_readFactor_129 : decode cX4_readFactor 129 = .ok (.bipush 8, 2) := by decide +kernel
theorem dX4_readFactor_131 : decode cX4_readFactor 131 = .ok (.if_icmp .ne 7, 3) := by decide +kernel
theorem dX4_readFactor_134 : decode cX4_readFactor 134 = .ok (.iconst 1, 1) := by decide +kernel
theorem dX4_readFactor_135 : decode cX4_readFactor 135 = .ok (.goto 4, 3) := by decide +kernel
theorem dX4_readFactor_138 : decode cX4_readFactor 138 = .ok (.iconst 0, 1) := by decide +kernel
theorem dX4_readFactor_139 : decode cX4_readFactor 139 = .ok (.putfield 112, 3) := by decide +kernel
theorem dX4_readFactor_142 : decode cX4_readFactor 142 = .ok (.iconst 1, 1) := by decide +kernel
theorem dX4_readFactor_143 : decode cX4_readFactor 143 = .ok (.ireturn, 1) := by decide +kernel
theorem dX4_readNumber_0 : decode cX4_readNumber 0 = .ok (.iconst 0, 1) := by decide +kernel
theorem dX4_readNumber_1 : decode cX4_readNumber 1 = .ok (.istore_n 1, 1) := by decide +kernel
theorem dX4_readNumber_2 : decode cX4_readNumber 2 = .ok (.iconst 0, 1) := by decide +kernel
theorem dX4_readNumber_3 : decode cX4_readNumber 3 = .ok (.istore_n 2, 1) := by decide +kernel
theorem dX4_readNumber_4 : decode cX4_readNumber 4 = .ok (.aload_n 0, 1) := by decide +kernel
theorem dX4_readNumber_5 : decode cX4_readNumber 5 = .ok (.getfield 15, 3) := by decide +kernel
theorem dX4_readNumber_8 : decode cX4_readNumber 8 = .ok (.aload_n 0, 1) := by decide +kernel
theorem dX4_readNumber_9 : decode cX4_readNumber 9 = .ok (.getfield 9, 3) := by decide +kernel
theorem dX4_readNumber_12 : decode cX4_readNumber 12 = .ok (.if_icmp .ge 53, 3) := by decide +kernel
theorem dX4_readNumber_15 : decode cX4_readNumber 15 = .ok (.aload_n 0, 1) := by decide +kernel
theorem dX4_readNumber_16 : decode cX4_readNumber 16 = .ok (.invokevirtual 51, 3) := by decide +kernel
theorem dX4_readNumber_19 : decode cX4_readNumber 19 = .ok (.invokestatic 104, 3) := by decide +kernel
theorem dX4_readNumber_22 : decode cX4_readNumber 22 = .ok (.ifCond .eq 43, 3) := by decide +kernel
theorem dX4_readNumber_25 : decode cX4_readNumber 25 = .ok (.iload_n 2, 1) := by decide +kernel
theorem dX4_readNumber_26 : decode cX4_readNumber 26 = .ok (.iconst 5, 1) := by decide +kernel
theorem dX4_readNumber_27 : decode cX4_readNumber 27 = .ok (.if_icmp .lt 9, 3) := by decide +kernel
theorem dX4_readNumber_30 : decode cX4_readNumber 30 = .ok (.aload_n 0, 1) := by decide +kernel
theorem dX4_readNumber_31 : decode cX4_readNumber 31 = .ok (.iconst 2, 1) := by decide +kernel
theorem dX4_readNumber_32 : decode cX4_readNumber 32 = .ok (.invokevirtual 55, 3) := by decide +kernel
theorem dX4_readNumber_35 : decode cX4_readNumber 35 = .ok (.ireturn, 1) := by decide +kernel
theorem dX4_readNumber_36 : decode cX4_readNumber 36 = .ok (.bipush 10, 2) := by decide +kernel
theorem dX4_readNumber_38 : decode cX4_readNumber 38 = .ok (.iload_n 1, 1) := by decide +kernel
theorem dX4_readNumber_39 : decode cX4_readNumber 39 = .ok (.imul, 1) := by decide +kernel
theorem dX4_readNumber_40 : decode cX4_readNumber 40 = .ok (.aload_n 0, 1) := by decide +kernel
theorem dX4_readNumber_41 : decode cX4_readNumber 41 = .ok (.invokevirtual 51, 3) := by decide +kernel
theorem dX4_readNumber_44 : decode cX4_readNumber 44 = .ok (.iadd, 1) := by decide +kernel
theorem dX4_readNumber_45 : decode cX4_readNumber 45 = .ok (.bipush 48, 2) := by decide +kernel
theorem dX4_readNumber_47 : decode cX4_readNumber 47 = .ok (.isub, 1) := by decide +kernel
theorem dX4_readNumber_48 : decode cX4_readNumber 48 = .ok (.istore_n 1, 1) := by decide +kernel
theorem dX4_readNumber_49 : decode cX4_readNumber 49 = .ok (.aload_n 0, 1) := by decide +kernel
theorem dX4_readNumber_50 : decode cX4_readNumber 50 = .ok (.dup, 1) := by decide +kernel
theorem dX4_readNumber_51 : decode cX4_readNumber 51 = .ok (.getfield 15, 3) := by decide +kernel
theorem dX4_readNumber_54 : decode cX4_readNumber 54 = .ok (.iconst 1, 1) := by decide +kernel
theorem dX4_readNumber_55 : decode cX4_readNumber 55 = .ok (.iadd, 1) := by decide +kernel
theorem dX4_readNumber_56 : decode cX4_readNumber 56 = .ok (.putfield 15, 3) := by decide +kernel
theorem dX4_readNumber_59 : decode cX4_readNumber 59 = .ok (.iinc 2 1, 3) := by decide +kernel
theorem dX4_readNumber_62 : decode cX4_readNumber 62 = .ok (.goto (-58), 3) := by decide +kernel
theorem dX4_readNumber_65 : decode cX4_readNumber 65 = .ok (.aload_n 0, 1) := by decide +kernel
theorem dX4_readNumber_66 : decode cX4_readNumber 66 = .ok (.getfield 25, 3) := by decide +kernel
theorem dX4_readNumber_69 : decode cX4_readNumber 69 = .ok (.bipush 13, 2) := by decide +kernel
theorem dX4_readNumber_71 : decode cX4_readNumber 71 = .ok (.invokevirtual 95, 3) := by decide +kernel
theorem dX4_readNumber_74 : decode cX4_readNumber 74 = .ok (.aload_n 0, 1) := by decide +kernel
theorem dX4_readNumber_75 : decode cX4_readNumber 75 = .ok (.getfield 25, 3) := by decide +kernel
theorem dX4_readNumber_78 : decode cX4_readNumber 78 = .ok (.iload_n 1, 1) := by decide +kernel
theorem dX4_readNumber_79 : decode cX4_readNumber 79 = .ok (.invokevirtual 95, 3) := by decide +kernel
theorem dX4_readNumber_82 : decode cX4_readNumber 82 = .ok (.iconst 1, 1) := by decide +kernel
theorem dX4_readNumber_83 : decode cX4_readNumber 83 = .ok (.ireturn, 1) := by decide +kernel
theorem dX4_isDigit_0 : decode cX4_isDigit 0 = .ok (.iload_n 0, 1) := by decide +kernel
theorem dX4_isDigit_1 : decode cX4_isDigit 1 = .ok (.bipush 48, 2) := by decide +kernel
theorem dX4_isDigit_3 : decode cX4_isDigit 3 = .ok (.if_icmp .lt 13, 3) := by decide +kernel
theorem dX4_isDigit_6 : decode cX4_isDigit 6 = .ok (.iload_n 0, 1) := by decide +kernel
theorem dX4_isDigit_7 : decode cX4_isDigit 7 = .ok (.bipush 57, 2) := by decide +kernel
theorem dX4_isDigit_9 : decode cX4_isDigit 9 = .ok (.if_icmp .gt 7, 3) := by decide +kernel
theorem dX4_isDigit_12 : decode cX4_isDigit 12 = .ok (.iconst 1, 1) := by decide +kernel
theorem dX4_isDigit_13 : decode cX4_isDigit 13 = .ok (.goto 4, 3) := by decide +kernel
theorem dX4_isDigit_16 : decode cX4_isDigit 16 = .ok (.iconst 0, 1) := by decide +kernel
theorem dX4_isDigit_17 : decode cX4_isDigit 17 = .ok (.ireturn, 1) := by decide +kernel
theorem dX5_init_0 : decode cX5_init 0 = .ok (.aload_n 0, 1) := by decide +kernel
theorem dX5_init_1 : decode cX5_init 1 = .ok (.invokespecial 3, 3) := by decide +kernel
theorem dX5_init_4 : decode cX5_init 4 = .ok (.aload_n 0, 1) := by decide +kernel
theorem dX5_init_5 : decode cX5_init 5 = .ok (.bipush 20, 2) := by decide +kernel
theorem dX5_init_7 : decode cX5_init 7 = .ok (.newarray .int, 2) := by decide +kernel
theorem dX5_init_9 : decode cX5_init 9 = .ok (.putfield 9, 3) := by decide +kernel
theorem dX5_init_12 : decode cX5_init 12 = .ok (.aload_n 0, 1) := by decide +kernel
theorem dX5_init_13 : decode cX5_init 13 = .ok (.bipush 20, 2) := by decide +kernel
theorem dX5_init_15 : decode cX5_init 15 = .ok (.newarray .int, 2) := by decide +kernel
theorem dX5_init_17 : decode cX5_init 17 = .ok (.putfield 15, 3) := by decide +kernel
theorem dX5_init_20 : decode cX5_init 20 = .ok (.aload_n 0, 1) := by decide +kernel
theorem dX5_init_21 : decode cX5_init 21 = .ok (.bipush 20, 2) := by decide +kernel
theorem dX5_init_23 : decode cX5_init 23 = .ok (.newarray .int, 2) := by decide +kernel
theorem dX5_init_25 : decode cX5_init 25 = .ok (.putfield 18, 3) := by decide +kernel
theorem dX5_init_28 : decode cX5_init 28 = .ok (.aload_n 0, 1) := by decide +kernel
theorem dX5_init_29 : decode cX5_init 29 = .ok (.bipush 20, 2) := by decide +kernel
theorem dX5_init_31 : decode cX5_init 31 = .ok (.newarray .int, 2) := by decide +kernel
theorem dX5_init_33 : decode cX5_init 33 = .ok (.putfield 21, 3) := by decide +kernel
theorem dX5_init_36 : decode cX5_init 36 = .ok (.aload_n 0, 1) := by decide +kernel
theorem dX5_init_37 : decode cX5_init 37 = .ok (.sipush 301, 3) := by decide +kernel
theorem dX5_init_40 : decode cX5_init 40 = .ok (.newarray .int, 2) := by decide +kernel
theorem dX5_init_42 : decode cX5_init 42 = .ok (.putfield 24, 3) := by decide +kernel
theorem dX5_init_45 : decode cX5_init 45 = .ok (.aload_n 0, 1) := by decide +kernel
theorem dX5_init_46 : decode cX5_init 46 = .ok (.iconst 0, 1) := by decide +kernel
theorem dX5_init_47 : decode cX5_init 47 = .ok (.putfield 27, 3) := by decide +kernel
theorem dX5_init_50 : decode cX5_init 50 = .ok (.return_, 1) := by decide +kernel
theorem dX5_isTold_0 : decode cX5_isTold 0 = .ok (.aload_n 0, 1) := by decide +kernel
theorem dX5_isTold_1 : decode cX5_isTold 1 = .ok (.getfield 27, 3) := by decide +kernel
theorem dX5_isTold_4 : decode cX5_isTold 4 = .ok (.iload_n 1, 1) := by decide +kernel
theorem dX5_isTold_5 : decode cX5_isTold 5 = .ok (.ishr, 1) := by decide +kernel
theorem dX5_isTold_6 : decode cX5_isTold 6 = .ok (.iconst 1, 1) := by decide +kernel
theorem dX5_isTold_7 : decode cX5_isTold 7 = .ok (.iand, 1) := by decide +kernel
theorem dX5_isTold_8 : decode cX5_isTold 8 = .ok (.iconst 1, 1) := by decide +kernel
theorem dX5_isTold_9 : decode cX5_isTold 9 = .ok (.if_icmp .ne 7, 3) := by decide +kernel
theorem dX5_isTold_12 : decode cX5_isTold 12 = .ok (.iconst 1, 1) := by decide +kernel
theorem dX5_isTold_13 : decode cX5_isTold 13 = .ok (.goto 4, 3) := by decide +kernel
theorem dX5_isTold_16 : decode cX5_isTold 16 = .ok (.iconst 0, 1) := by decide +kernel
theorem dX5_isTold_17 : decode cX5_isTold 17 = .ok (.ireturn, 1) := by decide +kernel
theorem dX5_meet_0 : decode cX5_meet 0 = .ok (.aload_n 0, 1) := by decide +kernel
theorem dX5_meet_1 : decode cX5_meet 1 = .ok (.iload_n 1, 1) := by decide +kernel
theorem dX5_meet_2 : decode cX5_meet 2 = .ok (.invokevirtual 31, 3) := by decide +kernel
theorem dX5_meet_5 : decode cX5_meet 5 = .ok (.ifCond .eq 31, 3) := by decide +kernel
theorem dX5_meet_8 : decode cX5_meet 8 = .ok (.aload_n 0, 1) := by decide +kernel
theorem dX5_meet_9 : decode cX5_meet 9 = .ok (.iload_n 2, 1) := by decide +kernel
theorem dX5_meet_10 : decode cX5_meet 10 = .ok (.invokevirtual 31, 3) := by decide +kernel
theorem dX5_meet_13 : decode cX5_meet 13 = .ok (.ifCond .eq 23, 3) := by decide +kernel
theorem dX5_meet_16 : decode cX5_meet 16 = .ok (.aload_n 0, 1) := by decide +kernel
theorem dX5_meet_17 : decode cX5_meet 17 = .ok (.getfield 9, 3) := by decide +kernel
theorem dX5_meet_20 : decode cX5_meet 20 = .ok (.iload_n 1, 1) := by decide +kernel
theorem dX5_meet_21 : decode cX5_meet 21 = .ok (.iaload, 1) := by decide +kernel
theorem dX5_meet_22 : decode cX5_meet 22 = .ok (.aload_n 0, 1) := by decide +kernel
theorem dX5_meet_23 : decode cX5_meet 23 = .ok (.getfield 9, 3) := by decide +kernel
theorem dX5_meet_26 : decode cX5_meet 26 = .ok (.iload_n 2, 1) := by decide +kernel
theorem dX5_meet_27 : decode cX5_meet 27 = .ok (.iaload, 1) := by decide +kernel
theorem dX5_meet_28 : decode cX5_meet 28 = .ok (.iand, 1) := by decide +kernel
theorem dX5_meet_29 : decode cX5_meet 29 = .ok (.ifCond .eq 7, 3) := by decide +kernel
theorem dX5_meet_32 : decode cX5_meet 32 = .ok (.iconst 1, 1) := by decide +kernel
theorem dX5_meet_33 : decode cX5_meet 33 = .ok (.goto 4, 3) := by decide +kernel
theorem dX5_meet_36 : decode cX5_meet 36 = .ok (.iconst 0, 1) := by decide +kernel
theorem dX5_meet_37 : decode cX5_meet 37 = .ok (.ireturn, 1) := by decide +kernel
theorem dX5_look_0 : decode cX5_look 0 = .ok (.iconst 0, 1) := by decide +kernel
theorem dX5_look_1 : decode cX5_look 1 = .ok (.istore_n 3, 1) := by decide +kernel
theorem dX5_look_2 : decode cX5_look 2 = .ok (.iload_n 3, 1) := by decide +kernel
theorem dX5_look_3 : decode cX5_look 3 = .ok (.bipush 20, 2) := by decide +kernel
theorem dX5_look_5 : decode cX5_look 5 = .ok (.if_icmp .ge 38, 3) := by decide +kernel
theorem dX5_look_8 : decode cX5_look 8 = .ok (.aload_n 0, 1) := by decide +kernel
theorem dX5_look_9 : decode cX5_look 9 = .ok (.getfield 21, 3) := by decide +kernel
theorem dX5_look_12 : decode cX5_look 12 = .ok (.iload_n 3, 1) := by decide +kernel
theorem dX5_look_13 : decode cX5_look 13 = .ok (.aload_n 0, 1) := by decide +kernel
theorem dX5_look_14 : decode cX5_look 14 = .ok (.iload_n 3, 1) := by decide +kernel
theorem dX5_look_15 : decode cX5_look 15 = .ok (.invokevirtual 31, 3) := by decide +kernel
theorem dX5_look_18 : decode cX5_look 18 = .ok (.ifCond .eq 17, 3) := by decide +kernel
theorem dX5_look_21 : decode cX5_look 21 = .ok (.aload_n 2, 1) := by decide +kernel
theorem dX5_look_22 : decode cX5_look 22 = .ok (.aload_n 1, 1) := by decide +kernel
theorem dX5_look_23 : decode cX5_look 23 = .ok (.aload_n 0, 1) := by decide +kernel
theorem dX5_look_24 : decode cX5_look 24 = .ok (.getfield 18, 3) := by decide +kernel
theorem dX5_look_27 : decode cX5_look 27 = .ok (.iload_n 3, 1) := by decide +kernel
theorem dX5_look_28 : decode cX5_look 28 = .ok (.iaload, 1) := by decide +kernel
theorem dX5_look_29 : decode cX5_look 29 = .ok (.invokevirtual 35, 3) := by decide +kernel
theorem dX5_look_32 : decode cX5_look 32 = .ok (.goto 4, 3) := by decide +kernel
theorem dX5_look_35 : decode cX5_look 35 = .ok (.iconst 0, 1) := by decide +kernel
theorem dX5_look_36 : decode cX5_look 36 = .ok (.iastore, 1) := by decide +kernel
theorem dX5_look_37 : decode cX5_look 37 = .ok (.iinc 3 1, 3) := by decide +kernel
theorem dX5_look_40 : decode cX5_look 40 = .ok (.goto (-38), 3) := by decide +kernel
theorem dX5_look_43 : decode cX5_look 43 = .ok (.return_, 1) := by decide +kernel
theorem dX5_leave_0 : decode cX5_leave 0 = .ok (.aload_n 0, 1) := by decide +kernel
theorem dX5_leave_1 : decode cX5_leave 1 = .ok (.getfield 24, 3) := by decide +kernel
theorem dX5_leave_4 : decode cX5_leave 4 = .ok (.iconst 0, 1) := by decide +kernel
theorem dX5_leave_5 : decode cX5_leave 5 = .ok (.invokestatic 40, 3) := by decide +kernel
theorem dX5_leave_8 : decode cX5_leave 8 = .ok (.aload_n 0, 1) := by decide +kernel
theorem dX5_leave_9 : decode cX5_leave 9 = .ok (.getfield 24, 3) := by decide +kernel
theorem dX5_leave_12 : decode cX5_leave 12 = .ok (.iload_n 2, 1) := by decide +kernel
theorem dX5_leave_13 : decode cX5_leave 13 = .ok (.iconst 1, 1) := by decide +kernel
theorem dX5_leave_14 : decode cX5_leave 14 = .ok (.iload_n 1, 1) := by decide +kernel
theorem dX5_leave_15 : decode cX5_leave 15 = .ok (.ishl, 1) := by decide +kernel
theorem dX5_leave_16 : decode cX5_leave 16 = .ok (.iastore, 1) := by decide +kernel
theorem dX5_leave_17 : decode cX5_leave 17 = .ok (.return_, 1) := by decide +kernel
theorem dX5_isAt_0 : decode cX5_isAt 0 = .ok (.aload_n 0, 1) := by decide +kernel
theorem dX5_isAt_1 : decode cX5_isAt 1 = .ok (.getfield 24, 3) := by decide +kernel
theorem dX5_isAt_4 : decode cX5_isAt 4 = .ok (.iload_n 2, 1) := by decide +kernel
theorem dX5_isAt_5 : decode cX5_isAt 5 = .ok (.iaload, 1) := by decide +kernel
theorem dX5_isAt_6 : decode cX5_isAt 6 = .ok (.iload_n 1, 1) := by decide +kernel
theorem dX5_isAt_7 : decode cX5_isAt 7 = .ok (.ishr, 1) := by decide +kernel
theorem dX5_isAt_8 : decode cX5_isAt 8 = .ok (.iconst 1, 1) := by decide +kernel
theorem dX5_isAt_9 : decode cX5_isAt 9 = .ok (.iand, 1) := by decide +kernel
theorem dX5_isAt_10 : decode cX5_isAt 10 = .ok (.iconst 1, 1) := by decide +kernel
theorem dX5_isAt_11 : decode cX5_isAt 11 = .ok (.if_icmp .ne 7, 3) := by decide +kernel
theorem dX5_isAt_14 : decode cX5_isAt 14 = .ok (.iconst 1, 1) := by decide +kernel
theorem dX5_isAt_15 : decode cX5_isAt 15 = .ok (.goto 4, 3) := by decide +kernel
theorem dX5_isAt_18 : decode cX5_isAt 18 = .ok (.iconst 0, 1) := by decide +kernel
theorem dX5_isAt_19 : decode cX5_isAt 19 = .ok (.ireturn, 1) := by decide +kernel
theorem dX5_go_0 : decode cX5_go 0 = .ok (.iload_n 2, 1) := by decide +kernel
theorem dX5_go_1 : decode cX5_go 1 = .ok (.istore 4, 2) := by decide +kernel
theorem dX5_go_3 : decode cX5_go 3 = .ok (.iload 4, 2) := by decide +kernel
theorem dX5_go_5 : decode cX5_go 5 = .ok (.iload_n 2, 1) := by decide +kernel
theorem dX5_go_6 : decode cX5_go 6 = .ok (.bipush 10, 2) := by decide +kernel
theorem dX5_go_8 : decode cX5_go 8 = .ok (.iadd, 1) := by decide +kernel
theorem dX5_go_9 : decode cX5_go 9 = .ok (.sipush 300, 3) := by decide +kernel
theorem dX5_go_12 : decode cX5_go 12 = .ok (.invokestatic 46, 3) := by decide +kernel
theorem dX5_go_15 : decode cX5_go 15 = .ok (.if_icmp .ge 61, 3) := by decide +kernel
theorem dX5_go_18 : decode cX5_go 18 = .ok (.aload_n 0, 1) := by decide +kernel
theorem dX5_go_19 : decode cX5_go 19 = .ok (.iload_n 1, 1) := by decide +kernel
theorem dX5_go_20 : decode cX5_go 20 = .ok (.iload 4, 2) := by decide +kernel
theorem dX5_go_22 : decode cX5_go 22 = .ok (.invokevirtual 52, 3) := by decide +kernel
theorem dX5_go_25 : decode cX5_go 25 = .ok (.ifCond .eq 6, 3) := by decide +kernel
theorem dX5_go_28 : decode cX5_go 28 = .ok (.iload 4, 2) := by decide +kernel
theorem dX5_go_30 : decode cX5_go 30 = .ok (.ireturn, 1) := by decide +kernel
theorem dX5_go_31 : decode cX5_go 31 = .ok (.aload_n 0, 1) := by decide +kernel
theorem dX5_go_32 : decode cX5_go 32 = .ok (.getfield 24, 3) := by decide +kernel
theorem dX5_go_35 : decode cX5_go 35 = .ok (.iload 4, 2) := by decide +kernel
theorem dX5_go_37 : decode cX5_go 37 = .ok (.iaload, 1) := by decide +kernel
theorem dX5_go_38 : decode cX5_go 38 = .ok (.ifCond .eq 9, 3) := by decide +kernel
theorem dX5_go_41 : decode cX5_go 41 = .ok (.aload_n 0, 1) := by decide +kernel
theorem dX5_go_42 : decode cX5_go 42 = .ok (.iload 4, 2) := by decide +kernel
theorem dX5_go_44 : decode cX5_go 44 = .ok (.invokevirtual 56, 3) := by decide +kernel
theorem dX5_go_47 : decode cX5_go 47 = .ok (.iload_n 3, 1) := by decide +kernel
theorem dX5_go_48 : decode cX5_go 48 = .ok (.ifCond .eq 22, 3) := by decide +kernel
theorem dX5_go_51 : decode cX5_go 51 = .ok (.aload_n 0, 1) := by decide +kernel
theorem dX5_go_52 : decode cX5_go 52 = .ok (.getfield 24, 3) := by decide +kernel
theorem dX5_go_55 : decode cX5_go 55 = .ok (.iload 4, 2) := by decide +kernel
theorem dX5_go_57 : decode cX5_go 57 = .ok (.iconst 1, 1) := by decide +kernel
theorem dX5_go_58 : decode cX5_go 58 = .ok (.iadd, 1) := by decide +kernel
theorem dX5_go_59 : decode cX5_go 59 = .ok (.dup2, 1) := by decide +kernel
theorem dX5_go_60 : decode cX5_go 60 = .ok (.iaload, 1) := by decide +kernel
theorem dX5_go_61 : decode cX5_go 61 = .ok (.aload_n 0, 1) := by decide +kernel
theorem dX5_go_62 : decode cX5_go 62 = .ok (.getfield 24, 3) := by decide +kernel
theorem dX5_go_65 : decode cX5_go 65 = .ok (.iload 4, 2) := by decide +kernel
theorem dX5_go_67 : decode cX5_go 67 = .ok (.iaload, 1) := by decide +kernel
theorem dX5_go_68 : decode cX5_go 68 = .ok (.ior, 1) := by decide +kernel
theorem dX5_go_69 : decode cX5_go 69 = .ok (.iastore, 1) := by decide +kernel
theorem dX5_go_70 : decode cX5_go 70 = .ok (.iinc 4 1, 3) := by decide +kernel
theorem dX5_go_73 : decode cX5_go 73 = .ok (.goto (-70), 3) := by decide +kernel
theorem dX5_go_76 : decode cX5_go 76 = .ok (.bipush (-2), 2) := by decide +kernel
theorem dX5_go_78 : decode cX5_go 78 = .ok (.ireturn, 1) := by decide +kernel
theorem dX5_goIn_0 : decode cX5_goIn 0 = .ok (.iconst 0, 1) := by decide +kernel
theorem dX5_goIn_1 : decode cX5_goIn 1 = .ok (.istore_n 2, 1) := by decide +kernel
theorem dX5_goIn_2 : decode cX5_goIn 2 = .ok (.iload_n 2, 1) := by decide +kernel
theorem dX5_goIn_3 : decode cX5_goIn 3 = .ok (.bipush 20, 2) := by decide +kernel
theorem dX5_goIn_5 : decode cX5_goIn 5 = .ok (.if_icmp .ge 118, 3) := by decide +kernel
theorem dX5_goIn_8 : decode cX5_goIn 8 = .ok (.aload_n 0, 1) := by decide +kernel
theorem dX5_goIn_9 : decode cX5_goIn 9 = .ok (.getfield 24, 3) := by decide +kernel
theorem dX5_goIn_12 : decode cX5_goIn 12 = .ok (.iload_n 1, 1) := by decide +kernel
theorem dX5_goIn_13 : decode cX5_goIn 13 = .ok (.iaload, 1) := by decide +kernel
theorem dX5_goIn_14 : decode cX5_goIn 14 = .ok (.aload_n 0, 1) := by decide +kernel
theorem dX5_goIn_15 : decode cX5_goIn 15 = .ok (.getfield 9, 3) := by decide +kernel
theorem dX5_goIn_18 : decode cX5_goIn 18 = .ok (.iload_n 2, 1) := by decide +kernel
theorem dX5_goIn_19 : decode cX5_goIn 19 = .ok (.iaload, 1) := by decide +kernel
theorem dX5_goIn_20 : decode cX5_goIn 20 = .ok (.iand, 1) := by decide +kernel
theorem dX5_goIn_21 : decode cX5_goIn 21 = .ok (.istore_n 3, 1) := by decide +kernel
theorem dX5_goIn_22 : decode cX5_goIn 22 = .ok (.aload_n 0, 1) := by decide +kernel
theorem dX5_goIn_23 : decode cX5_goIn 23 = .ok (.iload_n 2, 1) := by decide +kernel
theorem dX5_goIn_24 : decode cX5_goIn 24 = .ok (.invokevirtual 31, 3) := by decide +kernel
theorem dX5_goIn_27 : decode cX5_goIn 27 = .ok (.ifCond .eq 90, 3) := by decide +kernel
theorem dX5_goIn_30 : decode cX5_goIn 30 = .ok (.aload_n 0, 1) := by decide +kernel
theorem dX5_goIn_31 : decode cX5_goIn 31 = .ok (.getfield 21, 3) := by decide +kernel
theorem dX5_goIn_34 : decode cX5_goIn 34 = .ok (.iload_n 2, 1) := by decide +kernel
theorem dX5_goIn_35 : decode cX5_goIn 35 = .ok (.iaload, 1) := by decide +kernel
theorem dX5_goIn_36 : decode cX5_goIn 36 = .ok (.ifCond .le 81, 3) := by decide +kernel
theorem dX5_goIn_39 : decode cX5_goIn 39 = .ok (.iload_n 3, 1) := by decide +kernel
theorem dX5_goIn_40 : decode cX5_goIn 40 = .ok (.ifCond .ne 6, 3) := by decide +kernel
theorem dX5_goIn_43 : decode cX5_goIn 43 = .ok (.goto 74, 3) := by decide +kernel
theorem dX5_goIn_46 : decode cX5_goIn 46 = .ok (.iload_n 1, 1) := by decide +kernel
theorem dX5_goIn_47 : decode cX5_goIn 47 = .ok (.bipush 100, 2) := by decide +kernel
theorem dX5_goIn_49 : decode cX5_goIn 49 = .ok (.aload_n 0, 1) := by decide +kernel
theorem dX5_goIn_50 : decode cX5_goIn 50 = .ok (.getfield 15, 3) := by decide +kernel
theorem dX5_goIn_53 : decode cX5_goIn 53 = .ok (.iload_n 2, 1) := by decide +kernel
theorem dX5_goIn_54 : decode cX5_goIn 54 = .ok (.iaload, 1) := by decide +kernel
theorem dX5_goIn_55 : decode cX5_goIn 55 = .ok (.imul, 1) := by decide +kernel
theorem dX5_goIn_56 : decode cX5_goIn 56 = .ok (.aload_n 0, 1) := by decide +kernel
theorem dX5_goIn_57 : decode cX5_goIn 57 = .ok (.getfield 21, 3) := by decide +kernel
theorem dX5_goIn_60 : decode cX5_goIn 60 = .ok (.iload_n 2, 1) := by decide +kernel
theorem dX5_goIn_61 : decode cX5_goIn 61 = .ok (.iaload, 1) := by decide +kernel
theorem dX5_goIn_62 : decode cX5_goIn 62 = .ok (.iadd, 1) := by decide +kernel
theorem dX5_goIn_63 : decode cX5_goIn 63 = .ok (.iconst 1, 1) := by decide +kernel
theorem dX5_goIn_64 : decode cX5_goIn 64 = .ok (.isub, 1) := by decide +kernel
theorem dX5_goIn_65 : decode cX5_goIn 65 = .ok (.aload_n 0, 1) := by decide +kernel
theorem dX5_goIn_66 : decode cX5_goIn 66 = .ok (.getfield 21, 3) := by decide +kernel
theorem dX5_goIn_69 : decode cX5_goIn 69 = .ok (.iload_n 2, 1) := by decide +kernel
theorem dX5_goIn_70 : decode cX5_goIn 70 = .ok (.iaload, 1) := by decide +kernel
theorem dX5_goIn_71 : decode cX5_goIn 71 = .ok (.idiv, 1) := by decide +kernel
theorem dX5_goIn_72 : decode cX5_goIn 72 = .ok (.iadd, 1) := by decide +kernel
theorem dX5_goIn_73 : decode cX5_goIn 73 = .ok (.istore 4, 2) := by decide +kernel
theorem dX5_goIn_75 : decode cX5_goIn 75 = .ok (.iload 4, 2) := by decide +kernel
theorem dX5_goIn_77 : decode cX5_goIn 77 = .ok (.sipush 300, 3) := by decide +kernel
theorem dX5_goIn_80 : decode cX5_goIn 80 = .ok (.if_icmp .gt 37, 3) := by decide +kernel
theorem dX5_goIn_83 : decode cX5_goIn 83 = .ok (.aload_n 0, 1) := by decide +kernel
theorem dX5_goIn_84 : decode cX5_goIn 84 = .ok (.getfield 24, 3) := by decide +kernel
theorem dX5_goIn_87 : decode cX5_goIn 87 = .ok (.iload 4, 2) := by decide +kernel
theorem dX5_goIn_89 : decode cX5_goIn 89 = .ok (.dup2, 1) := by decide +kernel
theorem dX5_goIn_90 : decode cX5_goIn 90 = .ok (.iaload, 1) := by decide +kernel
theorem dX5_goIn_91 : decode cX5_goIn 91 = .ok (.iload_n 3, 1) := by decide +kernel
theorem dX5_goIn_92 : decode cX5_goIn 92 = .ok (.aload_n 0, 1) := by decide +kernel
theorem dX5_goIn_93 : decode cX5_goIn 93 = .ok (.getfield 9, 3) := by decide +kernel
theorem dX5_goIn_96 : decode cX5_goIn 96 = .ok (.iload_n 2, 1) := by decide +kernel
theorem dX5_goIn_97 : decode cX5_goIn 97 = .ok (.iaload, 1) := by decide +kernel
theorem dX5_goIn_98 : decode cX5_goIn 98 = .ok (.if_icmp .ne 7, 3) := by decide +kernel
theorem dX5_goIn_101 : decode cX5_goIn 101 = .ok (.iload_n 3, 1) := by decide +kernel
theorem dX5_goIn_102 : decode cX5_goIn 102 = .ok (.goto 13, 3) := by decide +kernel
theorem dX5_goIn_105 : decode cX5_goIn 105 = .ok (.aload_n 0, 1) := by decide +kernel
theorem dX5_goIn_106 : decode cX5_goIn 106 = .ok (.getfield 9, 3) := by decide +kernel
theorem dX5_goIn_109 : decode cX5_goIn 109 = .ok (.iload_n 2, 1) := by decide +kernel
theorem dX5_goIn_110 : decode cX5_goIn 110 = .ok (.iaload, 1) := by decide +kernel
theorem dX5_goIn_111 : decode cX5_goIn 111 = .ok (.iload_n 3, 1) := by decide +kernel
theorem dX5_goIn_112 : decode cX5_goIn 112 = .ok (.iconst (-1), 1) := by decide +kernel
theorem dX5_goIn_113 : decode cX5_goIn 113 = .ok (.ixor, 1) := by decide +kernel
theorem dX5_goIn_114 : decode cX5_goIn 114 = .ok (.iand, 1) := by decide +kernel
theorem dX5_goIn_115 : decode cX5_goIn 115 = .ok (.ior, 1) := by decide +kernel
theorem dX5_goIn_116 : decode cX5_goIn 116 = .ok (.iastore, 1) := by decide +kernel
theorem dX5_goIn_117 : decode cX5_goIn 117 = .ok (.iinc 2 1, 3) := by decide +kernel
theorem dX5_goIn_120 : decode cX5_goIn 120 = .ok (.goto (-118), 3) := by decide +kernel
theorem dX5_goIn_123 : decode cX5_goIn 123 = .ok (.return_, 1) := by decide +kernel
theorem dX6_init_0 : decode cX6_init 0 = .ok (.aload_n 0, 1) := by decide +kernel
theorem dX6_init_1 : decode cX6_init 1 = .ok (.invokespecial 3, 3) := by decide +kernel
theorem dX6_init_4 : decode cX6_init 4 = .ok (.aload_n 0, 1) := by decide +kernel
theorem dX6_init_5 : decode cX6_init 5 = .ok (.iconst 0, 1) := by decide +kernel
theorem dX6_init_6 : decode cX6_init 6 = .ok (.putfield 9, 3) := by decide +kernel
theorem dX6_init_9 : decode cX6_init 9 = .ok (.aload_n 0, 1) := by decide +kernel
theorem dX6_init_10 : decode cX6_init 10 = .ok (.bipush (-2), 2) := by decide +kernel
theorem dX6_init_12 : decode cX6_init 12 = .ok (.putfield 15, 3) := by decide +kernel
theorem dX6_init_15 : decode cX6_init 15 = .ok (.aload_n 0, 1) := by decide +kernel
theorem dX6_init_16 : decode cX6_init 16 = .ok (.iconst 0, 1) := by decide +kernel
theorem dX6_init_17 : decode cX6_init 17 = .ok (.putfield 18, 3) := by decide +kernel
theorem dX6_init_20 : decode cX6_init 20 = .ok (.return_, 1) := by decide +kernel
theorem dX6_look_0 : decode cX6_look 0 = .ok (.aload_n 0, 1) := by decide +kernel
theorem dX6_look_1 : decode cX6_look 1 = .ok (.iconst 0, 1) := by decide +kernel
theorem dX6_look_2 : decode cX6_look 2 = .ok (.putfield 9, 3) := by decide +kernel
theorem dX6_look_5 : decode cX6_look 5 = .ok (.aload_n 0, 1) := by decide +kernel
theorem dX6_look_6 : decode cX6_look 6 = .ok (.bipush (-2), 2) := by decide +kernel
theorem dX6_look_8 : decode cX6_look 8 = .ok (.putfield 15, 3) := by decide +kernel
theorem dX6_look_11 : decode cX6_look 11 = .ok (.aload_n 0, 1) := by decide +kernel
theorem dX6_look_12 : decode cX6_look 12 = .ok (.iconst 0, 1) := by decide +kernel
theorem dX6_look_13 : decode cX6_look 13 = .ok (.putfield 18, 3) := by decide +kernel
theorem dX6_look_16 : decode cX6_look 16 = .ok (.iconst 0, 1) := by decide +kernel
theorem dX6_look_17 : decode cX6_look 17 = .ok (.istore_n 3, 1) := by decide +kernel
theorem dX6_look_18 : decode cX6_look 18 = .ok (.iload_n 3, 1) := by decide +kernel
theorem dX6_look_19 : decode cX6_look 19 = .ok (.sipush 144, 3) := by decide +kernel
theorem dX6_look_22 : decode cX6_look 22 = .ok (.if_icmp .ge 65, 3) := by decide +kernel
theorem dX6_look_25 : decode cX6_look 25 = .ok (.aload_n 2, 1) := by decide +kernel
theorem dX6_look_26 : decode cX6_look 26 = .ok (.aload_n 1, 1) := by decide +kernel
theorem dX6_look_27 : decode cX6_look 27 = .ok (.iload_n 3, 1) := by decide +kernel
theorem dX6_look_28 : decode cX6_look 28 = .ok (.invokevirtual 21, 3) := by decide +kernel
theorem dX6_look_31 : decode cX6_look 31 = .ok (.istore 4, 2) := by decide +kernel
theorem dX6_look_33 : decode cX6_look 33 = .ok (.iload 4, 2) := by decide +kernel
theorem dX6_look_35 : decode cX6_look 35 = .ok (.ifCond .le 46, 3) := by decide +kernel
theorem dX6_look_38 : decode cX6_look 38 = .ok (.aload_n 0, 1) := by decide +kernel
theorem dX6_look_39 : decode cX6_look 39 = .ok (.dup, 1) := by decide +kernel
theorem dX6_look_40 : decode cX6_look 40 = .ok (.getfield 9, 3) := by decide +kernel
theorem dX6_look_43 : decode cX6_look 43 = .ok (.iconst 1, 1) := by decide +kernel
theorem dX6_look_44 : decode cX6_look 44 = .ok (.iadd, 1) := by decide +kernel
theorem dX6_look_45 : decode cX6_look 45 = .ok (.putfield 9, 3) := by decide +kernel
theorem dX6_look_48 : decode cX6_look 48 = .ok (.aload_n 0, 1) := by decide +kernel
theorem dX6_look_49 : decode cX6_look 49 = .ok (.aload_n 0, 1) := by decide +kernel
theorem dX6_look_50 : decode cX6_look 50 = .ok (.getfield 9, 3) := by decide +kernel
theorem dX6_look_53 : decode cX6_look 53 = .ok (.iconst 1, 1) := by decide +kernel
theorem dX6_look_54 : decode cX6_look 54 = .ok (.if_icmp .ne 7, 3) := by decide +kernel
theorem dX6_look_57 : decode cX6_look 57 = .ok (.iload_n 3, 1) := by decide +kernel
theorem dX6_look_58 : decode cX6_look 58 = .ok (.goto 7, 3) := by decide +kernel
theorem dX6_look_61 : decode cX6_look 61 = .ok (.aload_n 0, 1) := by decide +kernel
theorem dX6_look_62 : decode cX6_look 62 = .ok (.getfield 15, 3) := by decide +kernel
theorem dX6_look_65 : decode cX6_look 65 = .ok (.putfield 15, 3) := by decide +kernel
theorem dX6_look_68 : decode cX6_look 68 = .ok (.aload_n 0, 1) := by decide +kernel
theorem dX6_look_69 : decode cX6_look 69 = .ok (.aload_n 0, 1) := by decide +kernel
theorem dX6_look_70 : decode cX6_look 70 = .ok (.getfield 18, 3) := by decide +kernel
theorem dX6_look_73 : decode cX6_look 73 = .ok (.iload 4, 2) := by decide +kernel
theorem dX6_look_75 : decode cX6_look 75 = .ok (.invokestatic 27, 3) := by decide +kernel
theorem dX6_look_78 : decode cX6_look 78 = .ok (.putfield 18, 3) := by decide +kernel
theorem dX6_look_81 : decode cX6_look 81 = .ok (.iinc 3 1, 3) := by decide +kernel
theorem dX6_look_84 : decode cX6_look 84 = .ok (.goto (-66), 3) := by decide +kernel
theorem dX6_look_87 : decode cX6_look 87 = .ok (.return_, 1) := by decide +kernel
theorem dX7_init_0 : decode cX7_init 0 = .ok (.aload_n 0, 1) := by decide +kernel
theorem dX7_init_1 : decode cX7_init 1 = .ok (.invokespecial 1, 3) := by decide +kernel
theorem dX7_init_4 : decode cX7_init 4 = .ok (.aload_n 0, 1) := by decide +kernel
theorem dX7_init_5 : decode cX7_init 5 = .ok (.sipush 220, 3) := by decide +kernel
theorem dX7_init_8 : decode cX7_init 8 = .ok (.newarray .int, 2) := by decide +kernel
theorem dX7_init_10 : decode cX7_init 10 = .ok (.putfield 9, 3) := by decide +kernel
theorem dX7_init_13 : decode cX7_init 13 = .ok (.aload_n 0, 1) := by decide +kernel
theorem dX7_init_14 : decode cX7_init 14 = .ok (.iconst 0, 1) := by decide +kernel
theorem dX7_init_15 : decode cX7_init 15 = .ok (.putfield 13, 3) := by decide +kernel
theorem dX7_init_18 : decode cX7_init 18 = .ok (.return_, 1) := by decide +kernel
theorem dX7_put_0 : decode cX7_put 0 = .ok (.bipush 24, 2) := by decide +kernel
theorem dX7_put_2 : decode cX7_put 2 = .ok (.istore_n 2, 1) := by decide +kernel
theorem dX7_put_3 : decode cX7_put 3 = .ok (.iload_n 2, 1) := by decide +kernel
theorem dX7_put_4 : decode cX7_put 4 = .ok (.ifCond .lt 45, 3) := by decide +kernel
theorem dX7_put_7 : decode cX7_put 7 = .ok (.aload_n 0, 1) := by decide +kernel
theorem dX7_put_8 : decode cX7_put 8 = .ok (.getfield 13, 3) := by decide +kernel
theorem dX7_put_11 : decode cX7_put 11 = .ok (.sipush 220, 3) := by decide +kernel
theorem dX7_put_14 : decode cX7_put 14 = .ok (.if_icmp .ge 35, 3) := by decide +kernel
theorem dX7_put_17 : decode cX7_put 17 = .ok (.aload_n 0, 1) := by decide +kernel
theorem dX7_put_18 : decode cX7_put 18 = .ok (.getfield 9, 3) := by decide +kernel
theorem dX7_put_21 : decode cX7_put 21 = .ok (.aload_n 0, 1) := by decide +kernel
theorem dX7_put_22 : decode cX7_put 22 = .ok (.getfield 13, 3) := by decide +kernel
theorem dX7_put_25 : decode cX7_put 25 = .ok (.iload_n 1, 1) := by decide +kernel
theorem dX7_put_26 : decode cX7_put 26 = .ok (.iload_n 2, 1) := by decide +kernel
theorem dX7_put_27 : decode cX7_put 27 = .ok (.iushr, 1) := by decide +kernel
theorem dX7_put_28 : decode cX7_put 28 = .ok (.sipush 255, 3) := by decide +kernel
theorem dX7_put_31 : decode cX7_put 31 = .ok (.iand, 1) := by decide +kernel
theorem dX7_put_32 : decode cX7_put 32 = .ok (.iastore, 1) := by decide +kernel
theorem dX7_put_33 : decode cX7_put 33 = .ok (.aload_n 0, 1) := by decide +kernel
theorem dX7_put_34 : decode cX7_put 34 = .ok (.dup, 1) := by decide +kernel
theorem dX7_put_35 : decode cX7_put 35 = .ok (.getfield 13, 3) := by decide +kernel
theorem dX7_put_38 : decode cX7_put 38 = .ok (.iconst 1, 1) := by decide +kernel
theorem dX7_put_39 : decode cX7_put 39 = .ok (.iadd, 1) := by decide +kernel
theorem dX7_put_40 : decode cX7_put 40 = .ok (.putfield 13, 3) := by decide +kernel
theorem dX7_put_43 : decode cX7_put 43 = .ok (.iinc 2 (-8), 3) := by decide +kernel
theorem dX7_put_46 : decode cX7_put 46 = .ok (.goto (-43), 3) := by decide +kernel
theorem dX7_put_49 : decode cX7_put 49 = .ok (.return_, 1) := by decide +kernel
theorem dX7_sign_0 : decode cX7_sign 0 = .ok (.iload_n 1, 1) := by decide +kernel
theorem dX7_sign_1 : decode cX7_sign 1 = .ok (.sipush 219, 3) := by decide +kernel
theorem dX7_sign_4 : decode cX7_sign 4 = .ok (.invokestatic 17, 3) := by decide +kernel
theorem dX7_sign_7 : decode cX7_sign 7 = .ok (.ifCond .eq 12, 3) := by decide +kernel
theorem dX7_sign_10 : decode cX7_sign 10 = .ok (.aload_n 0, 1) := by decide +kernel
theorem dX7_sign_11 : decode cX7_sign 11 = .ok (.getfield 9, 3) := by decide +kernel
theorem dX7_sign_14 : decode cX7_sign 14 = .ok (.iload_n 1, 1) := by decide +kernel
theorem dX7_sign_15 : decode cX7_sign 15 = .ok (.iaload, 1) := by decide +kernel
theorem dX7_sign_16 : decode cX7_sign 16 = .ok (.goto 4, 3) := by decide +kernel
theorem dX7_sign_19 : decode cX7_sign 19 = .ok (.iconst 0, 1) := by decide +kernel
theorem dX7_sign_20 : decode cX7_sign 20 = .ok (.ireturn, 1) := by decide +kernel
theorem dX7_number_0 : decode cX7_number 0 = .ok (.iconst 0, 1) := by decide +kernel
theorem dX7_number_1 : decode cX7_number 1 = .ok (.istore_n 2, 1) := by decide +kernel
theorem dX7_number_2 : decode cX7_number 2 = .ok (.iconst 0, 1) := by decide +kernel
theorem dX7_number_3 : decode cX7_number 3 = .ok (.istore_n 3, 1) := by decide +kernel
theorem dX7_number_4 : decode cX7_number 4 = .ok (.iload_n 3, 1) := by decide +kernel
theorem dX7_number_5 : decode cX7_number 5 = .ok (.iconst 4, 1) := by decide +kernel
theorem dX7_number_6 : decode cX7_number 6 = .ok (.if_icmp .ge 24, 3) := by decide +kernel
theorem dX7_number_9 : decode cX7_number 9 = .ok (.iload_n 2, 1) := by decide +kernel
theorem dX7_number_10 : decode cX7_number 10 = .ok (.bipush 8, 2) := by decide +kernel
theorem dX7_number_12 : decode cX7_number 12 = .ok (.ishl, 1) := by decide +kernel
theorem dX7_number_13 : decode cX7_number 13 = .ok (.aload_n 0, 1) := by decide +kernel
theorem dX7_number_14 : decode cX7_number 14 = .ok (.iconst 4, 1) := by decide +kernel
theorem dX7_number_15 : decode cX7_number 15 = .ok (.iload_n 1, 1) := by decide +kernel
theorem dX7_number_16 : decode cX7_number 16 = .ok (.imul, 1) := by decide +kernel
theorem dX7_number_17 : decode cX7_number 17 = .ok (.iload_n 3, 1) := by decide +kernel
theorem dX7_number_18 : decode cX7_number 18 = .ok (.iadd, 1) := by decide +kernel
theorem dX7_number_19 : decode cX7_number 19 = .ok (.invokevirtual 23, 3) := by decide +kernel
theorem dX7_number_22 : decode cX7_number 22 = .ok (.ior, 1) := by decide +kernel
theorem dX7_number_23 : decode cX7_number 23 = .ok (.istore_n 2, 1) := by decide +kernel
theorem dX7_number_24 : decode cX7_number 24 = .ok (.iinc 3 1, 3) := by decide +kernel
theorem dX7_number_27 : decode cX7_number 27 = .ok (.goto (-23), 3) := by decide +kernel
theorem dX7_number_30 : decode cX7_number 30 = .ok (.iload_n 2, 1) := by decide +kernel
theorem dX7_number_31 : decode cX7_number 31 = .ok (.ireturn, 1) := by decide +kernel
theorem dX8_init_0 : decode cX8_init 0 = .ok (.aload_n 0, 1) := by decide +kernel
theorem dX8_init_1 : decode cX8_init 1 = .ok (.invokespecial 3, 3) := by decide +kernel
theorem dX8_init_4 : decode cX8_init 4 = .ok (.aload_n 0, 1) := by decide +kernel
theorem dX8_init_5 : decode cX8_init 5 = .ok (.sipush 144, 3) := by decide +kernel
theorem dX8_init_8 : decode cX8_init 8 = .ok (.newarray .int, 2) := by decide +kernel
theorem dX8_init_10 : decode cX8_init 10 = .ok (.putfield 9, 3) := by decide +kernel
theorem dX8_init_13 : decode cX8_init 13 = .ok (.aload_n 0, 1) := by decide +kernel
theorem dX8_init_14 : decode cX8_init 14 = .ok (.sipush 144, 3) := by decide +kernel
theorem dX8_init_17 : decode cX8_init 17 = .ok (.newarray .int, 2) := by decide +kernel
theorem dX8_init_19 : decode cX8_init 19 = .ok (.putfield 15, 3) := by decide +kernel
theorem dX8_init_22 : decode cX8_init 22 = .ok (.aload_n 0, 1) := by decide +kernel
theorem dX8_init_23 : decode cX8_init 23 = .ok (.sipush 144, 3) := by decide +kernel
theorem dX8_init_26 : decode cX8_init 26 = .ok (.newarray .int, 2) := by decide +kernel
theorem dX8_init_28 : decode cX8_init 28 = .ok (.putfield 18, 3) := by decide +kernel
theorem dX8_init_31 : decode cX8_init 31 = .ok (.aload_n 0, 1) := by decide +kernel
theorem dX8_init_32 : decode cX8_init 32 = .ok (.sipush 144, 3) := by decide +kernel
theorem dX8_init_35 : decode cX8_init 35 = .ok (.newarray .int, 2) := by decide +kernel
theorem dX8_init_37 : decode cX8_init 37 = .ok (.putfield 21, 3) := by decide +kernel
theorem dX8_init_40 : decode cX8_init 40 = .ok (.aload_n 0, 1) := by decide +kernel
theorem dX8_init_41 : decode cX8_init 41 = .ok (.bipush 100, 2) := by decide +kernel
theorem dX8_init_43 : decode cX8_init 43 = .ok (.newarray .int, 2) := by decide +kernel
theorem dX8_init_45 : decode cX8_init 45 = .ok (.putfield 24, 3) := by decide +kernel
theorem dX8_init_48 : decode cX8_init 48 = .ok (.aload_n 0, 1) := by decide +kernel
theorem dX8_init_49 : decode cX8_init 49 = .ok (.iconst 0, 1) := by decide +kernel
theorem dX8_init_50 : decode cX8_init 50 = .ok (.putfield 27, 3) := by decide +kernel
theorem dX8_init_53 : decode cX8_init 53 = .ok (.aload_n 0, 1) := by decide +kernel
theorem dX8_init_54 : decode cX8_init 54 = .ok (.iconst 0, 1) := by decide +kernel
theorem dX8_init_55 : decode cX8_init 55 = .ok (.putfield 31, 3) := by decide +kernel
theorem dX8_init_58 : decode cX8_init 58 = .ok (.aload_n 0, 1) := by decide +kernel
theorem dX8_init_59 : decode cX8_init 59 = .ok (.iconst 1, 1) := by decide +kernel
theorem dX8_init_60 : decode cX8_init 60 = .ok (.putfield 34, 3) := by decide +kernel
theorem dX8_init_63 : decode cX8_init 63 = .ok (.return_, 1) := by decide +kernel
theorem dX8_copyFrom_0 : decode cX8_copyFrom 0 = .ok (.aload_n 1, 1) := by decide +kernel
theorem dX8_copyFrom_1 : decode cX8_copyFrom 1 = .ok (.getfield 9, 3) := by decide +kernel
theorem dX8_copyFrom_4 : decode cX8_copyFrom 4 = .ok (.iconst 0, 1) := by decide +kernel
theorem dX8_copyFrom_5 : decode cX8_copyFrom 5 = .ok (.aload_n 0, 1) := by decide +kernel
theorem dX8_copyFrom_6 : decode cX8_copyFrom 6 = .ok (.getfield 9, 3) := by decide +kernel
theorem dX8_copyFrom_9 : decode cX8_copyFrom 9 = .ok (.iconst 0, 1) := by decide +kernel
theorem dX8_copyFrom_10 : decode cX8_copyFrom 10 = .ok (.sipush 144, 3) := by decide +kernel
theorem dX8_copyFrom_13 : decode cX8_copyFrom 13 = .ok (.invokestatic 37, 3) := by decide +kernel
theorem dX8_copyFrom_16 : decode cX8_copyFrom 16 = .ok (.aload_n 1, 1) := by decide +kernel
theorem dX8_copyFrom_17 : decode cX8_copyFrom 17 = .ok (.getfield 15, 3) := by decide +kernel
theorem dX8_copyFrom_20 : decode cX8_copyFrom 20 = .ok (.iconst 0, 1) := by decide +kernel
theorem dX8_copyFrom_21 : decode cX8_copyFrom 21 = .ok (.aload_n 0, 1) := by decide +kernel
theorem dX8_copyFrom_22 : decode cX8_copyFrom 22 = .ok (.getfield 15, 3) := by decide +kernel
theorem dX8_copyFrom_25 : decode cX8_copyFrom 25 = .ok (.iconst 0, 1) := by decide +kernel
theorem dX8_copyFrom_26 : decode cX8_copyFrom 26 = .ok (.sipush 144, 3) := by decide +kernel
theorem dX8_copyFrom_29 : decode cX8_copyFrom 29 = .ok (.invokestatic 37, 3) := by decide +kernel
theorem dX8_copyFrom_32 : decode cX8_copyFrom 32 = .ok (.aload_n 1, 1) := by decide +kernel
theorem dX8_copyFrom_33 : decode cX8_copyFrom 33 = .ok (.getfield 18, 3) := by decide +kernel
theorem dX8_copyFrom_36 : decode cX8_copyFrom 36 = .ok (.iconst 0, 1) := by decide +kernel
theorem dX8_copyFrom_37 : decode cX8_copyFrom 37 = .ok (.aload_n 0, 1) := by decide +kernel
theorem dX8_copyFrom_38 : decode cX8_copyFrom 38 = .ok (.getfield 18, 3) := by decide +kernel
theorem dX8_copyFrom_41 : decode cX8_copyFrom 41 = .ok (.iconst 0, 1) := by decide +kernel
theorem dX8_copyFrom_42 : decode cX8_copyFrom 42 = .ok (.sipush 144, 3) := by decide +kernel
theorem dX8_copyFrom_45 : decode cX8_copyFrom 45 = .ok (.invokestatic 37, 3) := by decide +kernel
theorem dX8_copyFrom_48 : decode cX8_copyFrom 48 = .ok (.aload_n 1, 1) := by decide +kernel
theorem dX8_copyFrom_49 : decode cX8_copyFrom 49 = .ok (.getfield 21, 3) := by decide +kernel
theorem dX8_copyFrom_52 : decode cX8_copyFrom 52 = .ok (.iconst 0, 1) := by decide +kernel
theorem dX8_copyFrom_53 : decode cX8_copyFrom 53 = .ok (.aload_n 0, 1) := by decide +kernel
theorem dX8_copyFrom_54 : decode cX8_copyFrom 54 = .ok (.getfield 21, 3) := by decide +kernel
theorem dX8_copyFrom_57 : decode cX8_copyFrom 57 = .ok (.iconst 0, 1) := by decide +kernel
theorem dX8_copyFrom_58 : decode cX8_copyFrom 58 = .ok (.sipush 144, 3) := by decide +kernel
theorem dX8_copyFrom_61 : decode cX8_copyFrom 61 = .ok (.invokestatic 37, 3) := by decide +kernel
theorem dX8_copyFrom_64 : decode cX8_copyFrom 64 = .ok (.aload_n 1, 1) := by decide +kernel
theorem dX8_copyFrom_65 : decode cX8_copyFrom 65 = .ok (.getfield 24, 3) := by decide +kernel
theorem dX8_copyFrom_68 : decode cX8_copyFrom 68 = .ok (.iconst 0, 1) := by decide +kernel
theorem dX8_copyFrom_69 : decode cX8_copyFrom 69 = .ok (.aload_n 0, 1) := by decide +kernel
theorem dX8_copyFrom_70 : decode cX8_copyFrom 70 = .ok (.getfield 24, 3) := by decide +kernel
theorem dX8_copyFrom_73 : decode cX8_copyFrom 73 = .ok (.iconst 0, 1) := by decide +kernel
theorem dX8_copyFrom_74 : decode cX8_copyFrom 74 = .ok (.bipush 100, 2) := by decide +kernel
theorem dX8_copyFrom_76 : decode cX8_copyFrom 76 = .ok (.invokestatic 37, 3) := by decide +kernel
theorem dX8_copyFrom_79 : decode cX8_copyFrom 79 = .ok (.aload_n 0, 1) := by decide +kernel
theorem dX8_copyFrom_80 : decode cX8_copyFrom 80 = .ok (.aload_n 1, 1) := by decide +kernel
theorem dX8_copyFrom_81 : decode cX8_copyFrom 81 = .ok (.getfield 27, 3) := by decide +kernel
theorem dX8_copyFrom_84 : decode cX8_copyFrom 84 = .ok (.putfield 27, 3) := by decide +kernel
theorem dX8_copyFrom_87 : decode cX8_copyFrom 87 = .ok (.aload_n 0, 1) := by decide +kernel
theorem dX8_copyFrom_88 : decode cX8_copyFrom 88 = .ok (.aload_n 1, 1) := by decide +kernel
theorem dX8_copyFrom_89 : decode cX8_copyFrom 89 = .ok (.getfield 31, 3) := by decide +kernel
theorem dX8_copyFrom_92 : decode cX8_copyFrom 92 = .ok (.putfield 31, 3) := by decide +kernel
theorem dX8_copyFrom_95 : decode cX8_copyFrom 95 = .ok (.aload_n 0, 1) := by decide +kernel
theorem dX8_copyFrom_96 : decode cX8_copyFrom 96 = .ok (.aload_n 1, 1) := by decide +kernel
theorem dX8_copyFrom_97 : decode cX8_copyFrom 97 = .ok (.getfield 34, 3) := by decide +kernel
theorem dX8_copyFrom_100 : decode cX8_copyFrom 100 = .ok (.putfield 34, 3) := by decide +kernel
theorem dX8_copyFrom_103 : decode cX8_copyFrom 103 = .ok (.return_, 1) := by decide +kernel
theorem dX8_windOf_0 : decode cX8_windOf 0 = .ok (.iload_n 1, 1) := by decide +kernel
theorem dX8_windOf_1 : decode cX8_windOf 1 = .ok (.bipush 99, 2) := by decide +kernel
theorem dX8_windOf_3 : decode cX8_windOf 3 = .ok (.invokestatic 43, 3) := by decide +kernel
theorem dX8_windOf_6 : decode cX8_windOf 6 = .ok (.ifCond .eq 12, 3) := by decide +kernel
theorem dX8_windOf_9 : decode cX8_windOf 9 = .ok (.aload_n 0, 1) := by decide +kernel
theorem dX8_windOf_10 : decode cX8_windOf 10 = .ok (.getfield 24, 3) := by decide +kernel
theorem dX8_windOf_13 : decode cX8_windOf 13 = .ok (.iload_n 1, 1) := by decide +kernel
theorem dX8_windOf_14 : decode cX8_windOf 14 = .ok (.iaload, 1) := by decide +kernel
theorem dX8_windOf_15 : decode cX8_windOf 15 = .ok (.goto 4, 3) := by decide +kernel
theorem dX8_windOf_18 : decode cX8_windOf 18 = .ok (.iconst 0, 1) := by decide +kernel
theorem dX8_windOf_19 : decode cX8_windOf 19 = .ok (.ireturn, 1) := by decide +kernel
theorem dX8_drawWind_0 : decode cX8_drawWind 0 = .ok (.aload_n 0, 1) := by decide +kernel
theorem dX8_drawWind_1 : decode cX8_drawWind 1 = .ok (.sipush 25173, 3) := by decide +kernel
theorem dX8_drawWind_4 : decode cX8_drawWind 4 = .ok (.aload_n 0, 1) := by decide +kernel
theorem dX8_drawWind_5 : decode cX8_drawWind 5 = .ok (.getfield 34, 3) := by decide +kernel
theorem dX8_drawWind_8 : decode cX8_drawWind 8 = .ok (.imul, 1) := by decide +kernel
theorem dX8_drawWind_9 : decode cX8_drawWind 9 = .ok (.sipush 13849, 3) := by decide +kernel
theorem dX8_drawWind_12 : decode cX8_drawWind 12 = .ok (.iadd, 1) := by decide +kernel
theorem dX8_drawWind_13 : decode cX8_drawWind 13 = .ok (.ldc 47, 2) := by decide +kernel
theorem dX8_drawWind_15 : decode cX8_drawWind 15 = .ok (.irem, 1) := by decide +kernel
theorem dX8_drawWind_16 : decode cX8_drawWind 16 = .ok (.putfield 34, 3) := by decide +kernel
theorem dX8_drawWind_19 : decode cX8_drawWind 19 = .ok (.aload_n 0, 1) := by decide +kernel
theorem dX8_drawWind_20 : decode cX8_drawWind 20 = .ok (.getfield 27, 3) := by decide +kernel
theorem dX8_drawWind_23 : decode cX8_drawWind 23 = .ok (.bipush 99, 2) := by decide +kernel
theorem dX8_drawWind_25 : decode cX8_drawWind 25 = .ok (.invokestatic 43, 3) := by decide +kernel
theorem dX8_drawWind_28 : decode cX8_drawWind 28 = .ok (.ifCond .eq 19, 3) := by decide +kernel
theorem dX8_drawWind_31 : decode cX8_drawWind 31 = .ok (.aload_n 0, 1) := by decide +kernel
theorem dX8_drawWind_32 : decode cX8_drawWind 32 = .ok (.getfield 24, 3) := by decide +kernel
theorem dX8_drawWind_35 : decode cX8_drawWind 35 = .ok (.aload_n 0, 1) := by decide +kernel
theorem dX8_drawWind_36 : decode cX8_drawWind 36 = .ok (.getfield 27, 3) := by decide +kernel
theorem dX8_drawWind_39 : decode cX8_drawWind 39 = .ok (.aload_n 0, 1) := by decide +kernel
theorem dX8_drawWind_40 : decode cX8_drawWind 40 = .ok (.getfield 34, 3) := by decide +kernel
theorem dX8_drawWind_43 : decode cX8_drawWind 43 = .ok (.bipush 10, 2) := by decide +kernel
theorem dX8_drawWind_45 : decode cX8_drawWind 45 = .ok (.irem, 1) := by decide +kernel
theorem dX8_drawWind_46 : decode cX8_drawWind 46 = .ok (.iastore, 1) := by decide +kernel
