theorem dX10_top_7 : decode cX10_top 7 = .ok (.aload_n 0, 1) := by decide +kernel
theorem dX10_top_8 : decode cX10_top 8 = .ok (.getfield 69, 3) := by decide +kernel
theorem dX10_top_11 : decode cX10_top 11 = .ok (.aload_n 0, 1) := by decide +kernel
theorem dX10_top_12 : decode cX10_top 12 = .ok (.getfield 204, 3) := by decide +kernel
theorem dX10_top_15 : decode cX10_top 15 = .ok (.iconst 1, 1) := by decide +kernel
theorem dX10_top_16 : decode cX10_top 16 = .ok (.isub, 1) := by decide +kernel
theorem dX10_top_17 : decode cX10_top 17 = .ok (.iaload, 1) := by decide +kernel
theorem dX10_top_18 : decode cX10_top 18 = .ok (.goto 4, 3) := by decide +kernel
theorem dX10_top_21 : decode cX10_top 21 = .ok (.iconst 0, 1) := by decide +kernel
theorem dX10_top_22 : decode cX10_top 22 = .ok (.ireturn, 1) := by decide +kernel
theorem dX10_puts_0 : decode cX10_puts 0 = .ok (.aload_n 0, 1) := by decide +kernel
theorem dX10_puts_1 : decode cX10_puts 1 = .ok (.getfield 69, 3) := by decide +kernel
theorem dX10_puts_4 : decode cX10_puts 4 = .ok (.aload_n 0, 1) := by decide +kernel
theorem dX10_puts_5 : decode cX10_puts 5 = .ok (.getfield 204, 3) := by decide +kernel
theorem dX10_puts_8 : decode cX10_puts 8 = .ok (.iload_n 1, 1) := by decide +kernel
theorem dX10_puts_9 : decode cX10_puts 9 = .ok (.iastore, 1) := by decide +kernel
theorem dX10_puts_10 : decode cX10_puts 10 = .ok (.aload_n 0, 1) := by decide +kernel
theorem dX10_puts_11 : decode cX10_puts 11 = .ok (.dup, 1) := by decide +kernel
theorem dX10_puts_12 : decode cX10_puts 12 = .ok (.getfield 204, 3) := by decide +kernel
theorem dX10_puts_15 : decode cX10_puts 15 = .ok (.iconst 1, 1) := by decide +kernel
theorem dX10_puts_16 : decode cX10_puts 16 = .ok (.iadd, 1) := by decide +kernel
theorem dX10_puts_17 : decode cX10_puts 17 = .ok (.putfield 204, 3) := by decide +kernel
theorem dX10_puts_20 : decode cX10_puts 20 = .ok (.aload_n 0, 1) := by decide +kernel
theorem dX10_puts_21 : decode cX10_puts 21 = .ok (.dup, 1) := by decide +kernel
theorem dX10_puts_22 : decode cX10_puts 22 = .ok (.getfield 188, 3) := by decide +kernel
theorem dX10_puts_25 : decode cX10_puts 25 = .ok (.iconst 1, 1) := by decide +kernel
theorem dX10_puts_26 : decode cX10_puts 26 = .ok (.iadd, 1) := by decide +kernel
theorem dX10_puts_27 : decode cX10_puts 27 = .ok (.putfield 188, 3) := by decide +kernel
theorem dX10_puts_30 : decode cX10_puts 30 = .ok (.return_, 1) := by decide +kernel
theorem dX10_opens_0 : decode cX10_opens 0 = .ok (.aload_n 0, 1) := by decide +kernel
theorem dX10_opens_1 : decode cX10_opens 1 = .ok (.getfield 207, 3) := by decide +kernel
theorem dX10_opens_4 : decode cX10_opens 4 = .ok (.bipush 6, 2) := by decide +kernel
theorem dX10_opens_6 : decode cX10_opens 6 = .ok (.if_icmp .ne 12, 3) := by decide +kernel
theorem dX10_opens_9 : decode cX10_opens 9 = .ok (.aload_n 0, 1) := by decide +kernel
theorem dX10_opens_10 : decode cX10_opens 10 = .ok (.iconst 5, 1) := by decide +kernel
theorem dX10_opens_11 : decode cX10_opens 11 = .ok (.aload_n 0, 1) := by decide +kernel
theorem dX10_opens_12 : decode cX10_opens 12 = .ok (.getfield 188, 3) := by decide +kernel
theorem dX10_opens_15 : decode cX10_opens 15 = .ok (.invokevirtual 210, 3) := by decide +kernel
theorem dX10_opens_18 : decode cX10_opens 18 = .ok (.aload_n 0, 1) := by decide +kernel
theorem dX10_opens_19 : decode cX10_opens 19 = .ok (.dup, 1) := by decide +kernel
theorem dX10_opens_20 : decode cX10_opens 20 = .ok (.getfield 207, 3) := by decide +kernel
theorem dX10_opens_23 : decode cX10_opens 23 = .ok (.iconst 1, 1) := by decide +kernel
theorem dX10_opens_24 : decode cX10_opens 24 = .ok (.iadd, 1) := by decide +kernel
theorem dX10_opens_25 : decode cX10_opens 25 = .ok (.putfield 207, 3) := by decide +kernel
theorem dX10_opens_28 : decode cX10_opens 28 = .ok (.aload_n 0, 1) := by decide +kernel
theorem dX10_opens_29 : decode cX10_opens 29 = .ok (.aload_n 0, 1) := by decide +kernel
theorem dX10_opens_30 : decode cX10_opens 30 = .ok (.invokevirtual 214, 3) := by decide +kernel
theorem dX10_opens_33 : decode cX10_opens 33 = .ok (.invokevirtual 218, 3) := by decide +kernel
theorem dX10_opens_36 : decode cX10_opens 36 = .ok (.return_, 1) := by decide +kernel
theorem dX10_seesDigit_0 : decode cX10_seesDigit 0 = .ok (.aload_n 0, 1) := by decide +kernel
theorem dX10_seesDigit_1 : decode cX10_seesDigit 1 = .ok (.invokevirtual 214, 3) := by decide +kernel
theorem dX10_seesDigit_4 : decode cX10_seesDigit 4 = .ok (.i2l, 1) := by decide +kernel
theorem dX10_seesDigit_5 : decode cX10_seesDigit 5 = .ok (.ldc2_w 221, 3) := by decide +kernel
theorem dX10_seesDigit_8 : decode cX10_seesDigit 8 = .ok (.ldc2_w 223, 3) := by decide +kernel
theorem dX10_seesDigit_11 : decode cX10_seesDigit 11 = .ok (.invokestatic 154, 3) := by decide +kernel
theorem dX10_seesDigit_14 : decode cX10_seesDigit 14 = .ok (.ireturn, 1) := by decide +kernel
theorem dX10_reads_0 : decode cX10_reads 0 = .ok (.aload_n 0, 1) := by decide +kernel
theorem dX10_reads_1 : decode cX10_reads 1 = .ok (.getfield 188, 3) := by decide +kernel
theorem dX10_reads_4 : decode cX10_reads 4 = .ok (.istore_n 1, 1) := by decide +kernel
theorem dX10_reads_5 : decode cX10_reads 5 = .ok (.iconst 0, 1) := by decide +kernel
theorem dX10_reads_6 : decode cX10_reads 6 = .ok (.istore_n 2, 1) := by decide +kernel
theorem dX10_reads_7 : decode cX10_reads 7 = .ok (.aload_n 0, 1) := by decide +kernel
theorem dX10_reads_8 : decode cX10_reads 8 = .ok (.invokevirtual 197, 3) := by decide +kernel
theorem dX10_reads_11 : decode cX10_reads 11 = .ok (.ifCond .eq 55, 3) := by decide +kernel
theorem dX10_reads_14 : decode cX10_reads 14 = .ok (.aload_n 0, 1) := by decide +kernel
theorem dX10_reads_15 : decode cX10_reads 15 = .ok (.invokevirtual 225, 3) := by decide +kernel
theorem dX10_reads_18 : decode cX10_reads 18 = .ok (.ifCond .eq 48, 3) := by decide +kernel
theorem dX10_reads_21 : decode cX10_reads 21 = .ok (.aload_n 0, 1) := by decide +kernel
theorem dX10_reads_22 : decode cX10_reads 22 = .ok (.getfield 188, 3) := by decide +kernel
theorem dX10_reads_25 : decode cX10_reads 25 = .ok (.iload_n 1, 1) := by decide +kernel
theorem dX10_reads_26 : decode cX10_reads 26 = .ok (.iconst 5, 1) := by decide +kernel
theorem dX10_reads_27 : decode cX10_reads 27 = .ok (.iadd, 1) := by decide +kernel
theorem dX10_reads_28 : decode cX10_reads 28 = .ok (.if_icmp .ne 12, 3) := by decide +kernel
theorem dX10_reads_31 : decode cX10_reads 31 = .ok (.aload_n 0, 1) := by decide +kernel
theorem dX10_reads_32 : decode cX10_reads 32 = .ok (.iconst 2, 1) := by decide +kernel
theorem dX10_reads_33 : decode cX10_reads 33 = .ok (.aload_n 0, 1) := by decide +kernel
theorem dX10_reads_34 : decode cX10_reads 34 = .ok (.getfield 188, 3) := by decide +kernel
theorem dX10_reads_37 : decode cX10_reads 37 = .ok (.invokevirtual 210, 3) := by decide +kernel
theorem dX10_reads_40 : decode cX10_reads 40 = .ok (.bipush 10, 2) := by decide +kernel
theorem dX10_reads_42 : decode cX10_reads 42 = .ok (.iload_n 2, 1) := by decide +kernel
theorem dX10_reads_43 : decode cX10_reads 43 = .ok (.imul, 1) := by decide +kernel
theorem dX10_reads_44 : decode cX10_reads 44 = .ok (.aload_n 0, 1) := by decide +kernel
theorem dX10_reads_45 : decode cX10_reads 45 = .ok (.invokevirtual 214, 3) := by decide +kernel
theorem dX10_reads_48 : decode cX10_reads 48 = .ok (.iadd, 1) := by decide +kernel
theorem dX10_reads_49 : decode cX10_reads 49 = .ok (.bipush 48, 2) := by decide +kernel
theorem dX10_reads_51 : decode cX10_reads 51 = .ok (.isub, 1) := by decide +kernel
theorem dX10_reads_52 : decode cX10_reads 52 = .ok (.istore_n 2, 1) := by decide +kernel
theorem dX10_reads_53 : decode cX10_reads 53 = .ok (.aload_n 0, 1) := by decide +kernel
theorem dX10_reads_54 : decode cX10_reads 54 = .ok (.dup, 1) := by decide +kernel
theorem dX10_reads_55 : decode cX10_reads 55 = .ok (.getfield 188, 3) := by decide +kernel
theorem dX10_reads_58 : decode cX10_reads 58 = .ok (.iconst 1, 1) := by decide +kernel
theorem dX10_reads_59 : decode cX10_reads 59 = .ok (.iadd, 1) := by decide +kernel
theorem dX10_reads_60 : decode cX10_reads 60 = .ok (.putfield 188, 3) := by decide +kernel
theorem dX10_reads_63 : decode cX10_reads 63 = .ok (.goto (-56), 3) := by decide +kernel
theorem dX10_reads_66 : decode cX10_reads 66 = .ok (.iload_n 2, 1) := by decide +kernel
theorem dX10_reads_67 : decode cX10_reads 67 = .ok (.ireturn, 1) := by decide +kernel
theorem dX10_isTimes_0 : decode cX10_isTimes 0 = .ok (.iload_n 0, 1) := by decide +kernel
theorem dX10_isTimes_1 : decode cX10_isTimes 1 = .ok (.bipush 42, 2) := by decide +kernel
theorem dX10_isTimes_3 : decode cX10_isTimes 3 = .ok (.if_icmp .eq 15, 3) := by decide +kernel
theorem dX10_isTimes_6 : decode cX10_isTimes 6 = .ok (.iload_n 0, 1) := by decide +kernel
theorem dX10_isTimes_7 : decode cX10_isTimes 7 = .ok (.bipush 47, 2) := by decide +kernel
theorem dX10_isTimes_9 : decode cX10_isTimes 9 = .ok (.if_icmp .eq 9, 3) := by decide +kernel
theorem dX10_isTimes_12 : decode cX10_isTimes 12 = .ok (.iload_n 0, 1) := by decide +kernel
theorem dX10_isTimes_13 : decode cX10_isTimes 13 = .ok (.bipush 37, 2) := by decide +kernel
theorem dX10_isTimes_15 : decode cX10_isTimes 15 = .ok (.if_icmp .ne 7, 3) := by decide +kernel
theorem dX10_isTimes_18 : decode cX10_isTimes 18 = .ok (.iconst 1, 1) := by decide +kernel
theorem dX10_isTimes_19 : decode cX10_isTimes 19 = .ok (.goto 4, 3) := by decide +kernel
theorem dX10_isTimes_22 : decode cX10_isTimes 22 = .ok (.iconst 0, 1) := by decide +kernel
theorem dX10_isTimes_23 : decode cX10_isTimes 23 = .ok (.ireturn, 1) := by decide +kernel
theorem dX10_isPlus_0 : decode cX10_isPlus 0 = .ok (.iload_n 0, 1) := by decide +kernel
theorem dX10_isPlus_1 : decode cX10_isPlus 1 = .ok (.bipush 43, 2) := by decide +kernel
theorem dX10_isPlus_3 : decode cX10_isPlus 3 = .ok (.if_icmp .eq 9, 3) := by decide +kernel
theorem dX10_isPlus_6 : decode cX10_isPlus 6 = .ok (.iload_n 0, 1) := by decide +kernel
theorem dX10_isPlus_7 : decode cX10_isPlus 7 = .ok (.bipush 45, 2) := by decide +kernel
theorem dX10_isPlus_9 : decode cX10_isPlus 9 = .ok (.if_icmp .ne 7, 3) := by decide +kernel
theorem dX10_isPlus_12 : decode cX10_isPlus 12 = .ok (.iconst 1, 1) := by decide +kernel
theorem dX10_isPlus_13 : decode cX10_isPlus 13 = .ok (.goto 4, 3) := by decide +kernel
theorem dX10_isPlus_16 : decode cX10_isPlus 16 = .ok (.iconst 0, 1) := by decide +kernel
theorem dX10_isPlus_17 : decode cX10_isPlus 17 = .ok (.ireturn, 1) := by decide +kernel
theorem dX10_isSign_0 : decode cX10_isSign 0 = .ok (.iload_n 0, 1) := by decide +kernel
theorem dX10_isSign_1 : decode cX10_isSign 1 = .ok (.bipush 60, 2) := by decide +kernel
theorem dX10_isSign_3 : decode cX10_isSign 3 = .ok (.if_icmp .eq 15, 3) := by decide +kernel
theorem dX10_isSign_6 : decode cX10_isSign 6 = .ok (.iload_n 0, 1) := by decide +kernel
theorem dX10_isSign_7 : decode cX10_isSign 7 = .ok (.bipush 62, 2) := by decide +kernel
theorem dX10_isSign_9 : decode cX10_isSign 9 = .ok (.if_icmp .eq 9, 3) := by decide +kernel
theorem dX10_isSign_12 : decode cX10_isSign 12 = .ok (.iload_n 0, 1) := by decide +kernel
theorem dX10_isSign_13 : decode cX10_isSign 13 = .ok (.bipush 61, 2) := by decide +kernel
theorem dX10_isSign_15 : decode cX10_isSign 15 = .ok (.if_icmp .ne 7, 3) := by decide +kernel
theorem dX10_isSign_18 : decode cX10_isSign 18 = .ok (.iconst 1, 1) := by decide +kernel
theorem dX10_isSign_19 : decode cX10_isSign 19 = .ok (.goto 4, 3) := by decide +kernel
theorem dX10_isSign_22 : decode cX10_isSign 22 = .ok (.iconst 0, 1) := by decide +kernel
theorem dX10_isSign_23 : decode cX10_isSign 23 = .ok (.ireturn, 1) := by decide +kernel
theorem dX10_isValue_0 : decode cX10_isValue 0 = .ok (.iload_n 0, 1) := by decide +kernel
theorem dX10_isValue_1 : decode cX10_isValue 1 = .ok (.bipush 104, 2) := by decide +kernel
theorem dX10_isValue_3 : decode cX10_isValue 3 = .ok (.if_icmp .eq 75, 3) := by decide +kernel
theorem dX10_isValue_6 : decode cX10_isValue 6 = .ok (.iload_n 0, 1) := by decide +kernel
theorem dX10_isValue_7 : decode cX10_isValue 7 = .ok (.bipush 107, 2) := by decide +kernel
theorem dX10_isValue_9 : decode cX10_isValue 9 = .ok (.if_icmp .eq 69, 3) := by decide +kernel
theorem dX10_isValue_12 : decode cX10_isValue 12 = .ok (.iload_n 0, 1) := by decide +kernel
theorem dX10_isValue_13 : decode cX10_isValue 13 = .ok (.bipush 116, 2) := by decide +kernel
theorem dX10_isValue_15 : decode cX10_isValue 15 = .ok (.if_icmp .eq 63, 3) := by decide +kernel
theorem dX10_isValue_18 : decode cX10_isValue 18 = .ok (.iload_n 0, 1) := by decide +kernel
theorem dX10_isValue_19 : decode cX10_isValue 19 = .ok (.bipush 118, 2) := by decide +kernel
theorem dX10_isValue_21 : decode cX10_isValue 21 = .ok (.if_icmp .eq 57, 3) := by decide +kernel
theorem dX10_isValue_24 : decode cX10_isValue 24 = .ok (.iload_n 0, 1) := by decide +kernel
theorem dX10_isValue_25 : decode cX10_isValue 25 = .ok (.bipush 99, 2) := by decide +kernel
theorem dX10_isValue_27 : decode cX10_isValue 27 = .ok (.if_icmp .eq 51, 3) := by decide +kernel
theorem dX10_isValue_30 : decode cX10_isValue 30 = .ok (.iload_n 0, 1) := by decide +kernel
theorem dX10_isValue_31 : decode cX10_isValue 31 = .ok (.bipush 119, 2) := by decide +kernel
theorem dX10_isValue_33 : decode cX10_isValue 33 = .ok (.if_icmp .eq 45, 3) := by decide +kernel
theorem dX10_isValue_36 : decode cX10_isValue 36 = .ok (.iload_n 0, 1) := by decide +kernel
theorem dX10_isValue_37 : decode cX10_isValue 37 = .ok (.bipush 120, 2) := by decide +kernel
theorem dX10_isValue_39 : decode cX10_isValue 39 = .ok (.if_icmp .eq 39, 3) := by decide +kernel
theorem dX10_isValue_42 : decode cX10_isValue 42 = .ok (.iload_n 0, 1) := by decide +kernel
theorem dX10_isValue_43 : decode cX10_isValue 43 = .ok (.bipush 121, 2) := by decide +kernel
theorem dX10_isValue_45 : decode cX10_isValue 45 = .ok (.if_icmp .eq 33, 3) := by decide +kernel
theorem dX10_isValue_48 : decode cX10_isValue 48 = .ok (.iload_n 0, 1) := by decide +kernel
theorem dX10_isValue_49 : decode cX10_isValue 49 = .ok (.bipush 110, 2) := by decide +kernel
theorem dX10_isValue_51 : decode cX10_isValue 51 = .ok (.if_icmp .eq 27, 3) := by decide +kernel
theorem dX10_isValue_54 : decode cX10_isValue 54 = .ok (.iload_n 0, 1) := by decide +kernel
theorem dX10_isValue_55 : decode cX10_isValue 55 = .ok (.bipush 100, 2) := by decide +kernel
theorem dX10_isValue_57 : decode cX10_isValue 57 = .ok (.if_icmp .eq 21, 3) := by decide +kernel
theorem dX10_isValue_60 : decode cX10_isValue 60 = .ok (.iload_n 0, 1) := by decide +kernel
theorem dX10_isValue_61 : decode cX10_isValue 61 = .ok (.bipush 105, 2) := by decide +kernel
theorem dX10_isValue_63 : decode cX10_isValue 63 = .ok (.if_icmp .eq 15, 3) := by decide +kernel
theorem dX10_isValue_66 : decode cX10_isValue 66 = .ok (.iload_n 0, 1) := by decide +kernel
theorem dX10_isValue_67 : decode cX10_isValue 67 = .ok (.bipush 106, 2) := by decide +kernel
theorem dX10_isValue_69 : decode cX10_isValue 69 = .ok (.if_icmp .eq 9, 3) := by decide +kernel
theorem dX10_isValue_72 : decode cX10_isValue 72 = .ok (.iload_n 0, 1) := by decide +kernel
theorem dX10_isValue_73 : decode cX10_isValue 73 = .ok (.bipush 108, 2) := by decide +kernel
theorem dX10_isValue_75 : decode cX10_isValue 75 = .ok (.if_icmp .ne 7, 3) := by decide +kernel
theorem dX10_isValue_78 : decode cX10_isValue 78 = .ok (.iconst 1, 1) := by decide +kernel
theorem dX10_isValue_79 : decode cX10_isValue 79 = .ok (.goto 4, 3) := by decide +kernel
theorem dX10_isValue_82 : decode cX10_isValue 82 = .ok (.iconst 0, 1) := by decide +kernel
theorem dX10_isValue_83 : decode cX10_isValue 83 = .ok (.ireturn, 1) := by decide +kernel
theorem dX10_folds_0 : decode cX10_folds 0 = .ok (.aload_n 0, 1) := by decide +kernel
theorem dX10_folds_1 : decode cX10_folds 1 = .ok (.invokevirtual 228, 3) := by decide +kernel
theorem dX10_folds_4 : decode cX10_folds 4 = .ok (.invokestatic 231, 3) := by decide +kernel
theorem dX10_folds_7 : decode cX10_folds 7 = .ok (.ifCond .ne 17, 3) := by decide +kernel
theorem dX10_folds_10 : decode cX10_folds 10 = .ok (.iload_n 1, 1) := by decide +kernel
theorem dX10_folds_11 : decode cX10_folds 11 = .ok (.ifCond .eq 35, 3) := by decide +kernel
theorem dX10_folds_14 : decode cX10_folds 14 = .ok (.aload_n 0, 1) := by decide +kernel
theorem dX10_folds_15 : decode cX10_folds 15 = .ok (.invokevirtual 228, 3) := by decide +kernel
theorem dX10_folds_18 : decode cX10_folds 18 = .ok (.invokestatic 234, 3) := by decide +kernel
theorem dX10_folds_21 : decode cX10_folds 21 = .ok (.ifCond .eq 25, 3) := by decide +kernel
theorem dX10_folds_24 : decode cX10_folds 24 = .ok (.aload_n 0, 1) := by decide +kernel
theorem dX10_folds_25 : decode cX10_folds 25 = .ok (.aload_n 0, 1) := by decide +kernel
theorem dX10_folds_26 : decode cX10_folds 26 = .ok (.invokevirtual 228, 3) := by decide +kernel
theorem dX10_folds_29 : decode cX10_folds 29 = .ok (.iconst 0, 1) := by decide +kernel
theorem dX10_folds_30 : decode cX10_folds 30 = .ok (.invokevirtual 237, 3) := by decide +kernel
theorem dX10_folds_33 : decode cX10_folds 33 = .ok (.aload_n 0, 1) := by decide +kernel
theorem dX10_folds_34 : decode cX10_folds 34 = .ok (.dup, 1) := by decide +kernel
theorem dX10_folds_35 : decode cX10_folds 35 = .ok (.getfield 204, 3) := by decide +kernel
theorem dX10_folds_38 : decode cX10_folds 38 = .ok (.iconst 1, 1) := by decide +kernel
theorem dX10_folds_39 : decode cX10_folds 39 = .ok (.isub, 1) := by decide +kernel
theorem dX10_folds_40 : decode cX10_folds 40 = .ok (.putfield 204, 3) := by decide +kernel
theorem dX10_folds_43 : decode cX10_folds 43 = .ok (.goto (-43), 3) := by decide +kernel
theorem dX10_folds_46 : decode cX10_folds 46 = .ok (.return_, 1) := by decide +kernel
theorem dX10_joins_0 : decode cX10_joins 0 = .ok (.aload_n 0, 1) := by decide +kernel
theorem dX10_joins_1 : decode cX10_joins 1 = .ok (.invokevirtual 228, 3) := by decide +kernel
theorem dX10_joins_4 : decode cX10_joins 4 = .ok (.bipush 38, 2) := by decide +kernel
theorem dX10_joins_6 : decode cX10_joins 6 = .ok (.if_icmp .eq 16, 3) := by decide +kernel
theorem dX10_joins_9 : decode cX10_joins 9 = .ok (.iload_n 1, 1) := by decide +kernel
theorem dX10_joins_10 : decode cX10_joins 10 = .ok (.ifCond .eq 34, 3) := by decide +kernel
theorem dX10_joins_13 : decode cX10_joins 13 = .ok (.aload_n 0, 1) := by decide +kernel
theorem dX10_joins_14 : decode cX10_joins 14 = .ok (.invokevirtual 228, 3) := by decide +kernel
theorem dX10_joins_17 : decode cX10_joins 17 = .ok (.bipush 124, 2) := by decide +kernel
theorem dX10_joins_19 : decode cX10_joins 19 = .ok (.if_icmp .ne 25, 3) := by decide +kernel
theorem dX10_joins_22 : decode cX10_joins 22 = .ok (.aload_n 0, 1) := by decide +kernel
theorem dX10_joins_23 : decode cX10_joins 23 = .ok (.aload_n 0, 1) := by decide +kernel
theorem dX10_joins_24 : decode cX10_joins 24 = .ok (.invokevirtual 228, 3) := by decide +kernel
theorem dX10_joins_27 : decode cX10_joins 27 = .ok (.iconst 0, 1) := by decide +kernel
theorem dX10_joins_28 : decode cX10_joins 28 = .ok (.invokevirtual 237, 3) := by decide +kernel
theorem dX10_joins_31 : decode cX10_joins 31 = .ok (.aload_n 0, 1) := by decide +kernel
theorem dX10_joins_32 : decode cX10_joins 32 = .ok (.dup, 1) := by decide +kernel
theorem dX10_joins_33 : decode cX10_joins 33 = .ok (.getfield 204, 3) := by decide +kernel
theorem dX10_joins_36 : decode cX10_joins 36 = .ok (.iconst 1, 1) := by decide +kernel
theorem dX10_joins_37 : decode cX10_joins 37 = .ok (.isub, 1) := by decide +kernel
theorem dX10_joins_38 : decode cX10_joins 38 = .ok (.putfield 204, 3) := by decide +kernel
theorem dX10_joins_41 : decode cX10_joins 41 = .ok (.goto (-41), 3) := by decide +kernel
theorem dX10_joins_44 : decode cX10_joins 44 = .ok (.return_, 1) := by decide +kernel
theorem dX10_ends_0 : decode cX10_ends 0 = .ok (.aload_n 0, 1) := by decide +kernel
theorem dX10_ends_1 : decode cX10_ends 1 = .ok (.invokevirtual 228, 3) := by decide +kernel
theorem dX10_ends_4 : decode cX10_ends 4 = .ok (.bipush 33, 2) := by decide +kernel
theorem dX10_ends_6 : decode cX10_ends 6 = .ok (.if_icmp .ne 32, 3) := by decide +kernel
theorem dX10_ends_9 : decode cX10_ends 9 = .ok (.aload_n 0, 1) := by decide +kernel
theorem dX10_ends_10 : decode cX10_ends 10 = .ok (.iconst 2, 1) := by decide +kernel
theorem dX10_ends_11 : decode cX10_ends 11 = .ok (.iconst 0, 1) := by decide +kernel
theorem dX10_ends_12 : decode cX10_ends 12 = .ok (.invokevirtual 237, 3) := by decide +kernel
theorem dX10_ends_15 : decode cX10_ends 15 = .ok (.aload_n 0, 1) := by decide +kernel
theorem dX10_ends_16 : decode cX10_ends 16 = .ok (.dup, 1) := by decide +kernel
theorem dX10_ends_17 : decode cX10_ends 17 = .ok (.getfield 204, 3) := by decide +kernel
theorem dX10_ends_20 : decode cX10_ends 20 = .ok (.iconst 1, 1) := by decide +kernel
theorem dX10_ends_21 : decode cX10_ends 21 = .ok (.isub, 1) := by decide +kernel
theorem dX10_ends_22 : decode cX10_ends 22 = .ok (.putfield 204, 3) := by decide +kernel
theorem dX10_ends_25 : decode cX10_ends 25 = .ok (.aload_n 0, 1) := by decide +kernel
theorem dX10_ends_26 : decode cX10_ends 26 = .ok (.dup, 1) := by decide +kernel
theorem dX10_ends_27 : decode cX10_ends 27 = .ok (.getfield 207, 3) := by decide +kernel
theorem dX10_ends_30 : decode cX10_ends 30 = .ok (.iconst 1, 1) := by decide +kernel
theorem dX10_ends_31 : decode cX10_ends 31 = .ok (.isub, 1) := by decide +kernel
theorem dX10_ends_32 : decode cX10_ends 32 = .ok (.putfield 207, 3) := by decide +kernel
theorem dX10_ends_35 : decode cX10_ends 35 = .ok (.goto (-35), 3) := by decide +kernel
theorem dX10_ends_38 : decode cX10_ends 38 = .ok (.return_, 1) := by decide +kernel
theorem dX10_factor_0 : decode cX10_factor 0 = .ok (.aload_n 0, 1) := by decide +kernel
theorem dX10_factor_1 : decode cX10_factor 1 = .ok (.invokevirtual 197, 3) := by decide +kernel
theorem dX10_factor_4 : decode cX10_factor 4 = .ok (.ifCond .eq 19, 3) := by decide +kernel
theorem dX10_factor_7 : decode cX10_factor 7 = .ok (.aload_n 0, 1) := by decide +kernel
theorem dX10_factor_8 : decode cX10_factor 8 = .ok (.invokevirtual 214, 3) := by decide +kernel
theorem dX10_factor_11 : decode cX10_factor 11 = .ok (.bipush 91, 2) := by decide +kernel
theorem dX10_factor_13 : decode cX10_factor 13 = .ok (.if_icmp .ne 10, 3) := by decide +kernel
theorem dX10_factor_16 : decode cX10_factor 16 = .ok (.aload_n 0, 1) := by decide +kernel
theorem dX10_factor_17 : decode cX10_factor 17 = .ok (.invokevirtual 240, 3) := by decide +kernel
theorem dX10_factor_20 : decode cX10_factor 20 = .ok (.goto (-20), 3) := by decide +kernel
theorem dX10_factor_23 : decode cX10_factor 23 = .ok (.aload_n 0, 1) := by decide +kernel
theorem dX10_factor_24 : decode cX10_factor 24 = .ok (.invokevirtual 197, 3) := by decide +kernel
theorem dX10_factor_27 : decode cX10_factor 27 = .ok (.ifCond .ne 4, 3) := by decide +kernel
theorem dX10_factor_30 : decode cX10_factor 30 = .ok (.return_, 1) := by decide +kernel
theorem dX10_factor_31 : decode cX10_factor 31 = .ok (.aload_n 0, 1) := by decide +kernel
theorem dX10_factor_32 : decode cX10_factor 32 = .ok (.invokevirtual 225, 3) := by decide +kernel
theorem dX10_factor_35 : decode cX10_factor 35 = .ok (.ifCond .eq 15, 3) := by decide +kernel
theorem dX10_factor_38 : decode cX10_factor 38 = .ok (.aload_n 0, 1) := by decide +kernel
theorem dX10_factor_39 : decode cX10_factor 39 = .ok (.iconst 0, 1) := by decide +kernel
theorem dX10_factor_40 : decode cX10_factor 40 = .ok (.aload_n 0, 1) := by decide +kernel
theorem dX10_factor_41 : decode cX10_factor 41 = .ok (.invokevirtual 243, 3) := by decide +kernel
theorem dX10_factor_44 : decode cX10_factor 44 = .ok (.invokevirtual 237, 3) := by decide +kernel
theorem dX10_factor_47 : decode cX10_factor 47 = .ok (.goto 44, 3) := by decide +kernel
theorem dX10_factor_50 : decode cX10_factor 50 = .ok (.aload_n 0, 1) := by decide +kernel
theorem dX10_factor_51 : decode cX10_factor 51 = .ok (.invokevirtual 214, 3) := by decide +kernel
theorem dX10_factor_54 : decode cX10_factor 54 = .ok (.invokestatic 246, 3) := by decide +kernel
theorem dX10_factor_57 : decode cX10_factor 57 = .ok (.ifCond .eq 25, 3) := by decide +kernel
theorem dX10_factor_60 : decode cX10_factor 60 = .ok (.aload_n 0, 1) := by decide +kernel
theorem dX10_factor_61 : decode cX10_factor 61 = .ok (.iconst 1, 1) := by decide +kernel
theorem dX10_factor_62 : decode cX10_factor 62 = .ok (.aload_n 0, 1) := by decide +kernel
theorem dX10_factor_63 : decode cX10_factor 63 = .ok (.invokevirtual 214, 3) := by decide +kernel
theorem dX10_factor_66 : decode cX10_factor 66 = .ok (.invokevirtual 237, 3) := by decide +kernel
theorem dX10_factor_69 : decode cX10_factor 69 = .ok (.aload_n 0, 1) := by decide +kernel
theorem dX10_factor_70 : decode cX10_factor 70 = .ok (.dup, 1) := by decide +kernel
theorem dX10_factor_71 : decode cX10_factor 71 = .ok (.getfield 188, 3) := by decide +kernel
theorem dX10_factor_74 : decode cX10_factor 74 = .ok (.iconst 1, 1) := by decide +kernel
theorem dX10_factor_75 : decode cX10_factor 75 = .ok (.iadd, 1) := by decide +kernel
theorem dX10_factor_76 : decode cX10_factor 76 = .ok (.putfield 188, 3) := by decide +kernel
theorem dX10_factor_79 : decode cX10_factor 79 = .ok (.goto 12, 3) := by decide +kernel
theorem dX10_factor_82 : decode cX10_factor 82 = .ok (.aload_n 0, 1) := by decide +kernel
theorem dX10_factor_83 : decode cX10_factor 83 = .ok (.iconst 1, 1) := by decide +kernel
theorem dX10_factor_84 : decode cX10_factor 84 = .ok (.aload_n 0, 1) := by decide +kernel
theorem dX10_factor_85 : decode cX10_factor 85 = .ok (.getfield 188, 3) := by decide +kernel
theorem dX10_factor_88 : decode cX10_factor 88 = .ok (.invokevirtual 210, 3) := by decide +kernel
theorem dX10_factor_91 : decode cX10_factor 91 = .ok (.return_, 1) := by decide +kernel
theorem dX10_stays_0 : decode cX10_stays 0 = .ok (.aload_n 0, 1) := by decide +kernel
theorem dX10_stays_1 : decode cX10_stays 1 = .ok (.invokevirtual 214, 3) := by decide +kernel
theorem dX10_stays_4 : decode cX10_stays 4 = .ok (.istore_n 1, 1) := by decide +kernel
theorem dX10_stays_5 : decode cX10_stays 5 = .ok (.iload_n 1, 1) := by decide +kernel
theorem dX10_stays_6 : decode cX10_stays 6 = .ok (.invokestatic 231, 3) := by decide +kernel
theorem dX10_stays_9 : decode cX10_stays 9 = .ok (.ifCond .ne 10, 3) := by decide +kernel
theorem dX10_stays_12 : decode cX10_stays 12 = .ok (.iload_n 1, 1) := by decide +kernel
theorem dX10_stays_13 : decode cX10_stays 13 = .ok (.invokestatic 234, 3) := by decide +kernel
theorem dX10_stays_16 : decode cX10_stays 16 = .ok (.ifCond .eq 18, 3) := by decide +kernel
theorem dX10_stays_19 : decode cX10_stays 19 = .ok (.aload_n 0, 1) := by decide +kernel
theorem dX10_stays_20 : decode cX10_stays 20 = .ok (.iload_n 1, 1) := by decide +kernel
theorem dX10_stays_21 : decode cX10_stays 21 = .ok (.invokestatic 234, 3) := by decide +kernel
theorem dX10_stays_24 : decode cX10_stays 24 = .ok (.invokevirtual 249, 3) := by decide +kernel
theorem dX10_stays_27 : decode cX10_stays 27 = .ok (.aload_n 0, 1) := by decide +kernel
theorem dX10_stays_28 : decode cX10_stays 28 = .ok (.iload_n 1, 1) := by decide +kernel
theorem dX10_stays_29 : decode cX10_stays 29 = .ok (.invokevirtual 218, 3) := by decide +kernel
theorem dX10_stays_32 : decode cX10_stays 32 = .ok (.iconst 1, 1) := by decide +kernel
theorem dX10_stays_33 : decode cX10_stays 33 = .ok (.ireturn, 1) := by decide +kernel
theorem dX10_stays_34 : decode cX10_stays 34 = .ok (.aload_n 0, 1) := by decide +kernel
theorem dX10_stays_35 : decode cX10_stays 35 = .ok (.iconst 1, 1) := by decide +kernel
theorem dX10_stays_36 : decode cX10_stays 36 = .ok (.invokevirtual 249, 3) := by decide +kernel
theorem dX10_stays_39 : decode cX10_stays 39 = .ok (.iload_n 1, 1) := by decide +kernel
theorem dX10_stays_40 : decode cX10_stays 40 = .ok (.bipush 93, 2) := by decide +kernel
theorem dX10_stays_42 : decode cX10_stays 42 = .ok (.if_icmp .eq 5, 3) := by decide +kernel
theorem dX10_stays_45 : decode cX10_stays 45 = .ok (.iconst 0, 1) := by decide +kernel
theorem dX10_stays_46 : decode cX10_stays 46 = .ok (.ireturn, 1) := by decide +kernel
theorem dX10_stays_47 : decode cX10_stays 47 = .ok (.aload_n 0, 1) := by decide +kernel
theorem dX10_stays_48 : decode cX10_stays 48 = .ok (.invokevirtual 228, 3) := by decide +kernel
theorem dX10_stays_51 : decode cX10_stays 51 = .ok (.bipush 91, 2) := by decide +kernel
theorem dX10_stays_53 : decode cX10_stays 53 = .ok (.if_icmp .eq 14, 3) := by decide +kernel
theorem dX10_stays_56 : decode cX10_stays 56 = .ok (.aload_n 0, 1) := by decide +kernel
theorem dX10_stays_57 : decode cX10_stays 57 = .ok (.iconst 1, 1) := by decide +kernel
theorem dX10_stays_58 : decode cX10_stays 58 = .ok (.aload_n 0, 1) := by decide +kernel
theorem dX10_stays_59 : decode cX10_stays 59 = .ok (.getfield 188, 3) := by decide +kernel
theorem dX10_stays_62 : decode cX10_stays 62 = .ok (.invokevirtual 210, 3) := by decide +kernel
theorem dX10_stays_65 : decode cX10_stays 65 = .ok (.iconst 0, 1) := by decide +kernel
theorem dX10_stays_66 : decode cX10_stays 66 = .ok (.ireturn, 1) := by decide +kernel
theorem dX10_stays_67 : decode cX10_stays 67 = .ok (.aload_n 0, 1) := by decide +kernel
theorem dX10_stays_68 : decode cX10_stays 68 = .ok (.dup, 1) := by decide +kernel
theorem dX10_stays_69 : decode cX10_stays 69 = .ok (.getfield 204, 3) := by decide +kernel
theorem dX10_stays_72 : decode cX10_stays 72 = .ok (.iconst 1, 1) := by decide +kernel
theorem dX10_stays_73 : decode cX10_stays 73 = .ok (.isub, 1) := by decide +kernel
theorem dX10_stays_74 : decode cX10_stays 74 = .ok (.putfield 204, 3) := by decide +kernel
theorem dX10_stays_77 : decode cX10_stays 77 = .ok (.aload_n 0, 1) := by decide +kernel
theorem dX10_stays_78 : decode cX10_stays 78 = .ok (.dup, 1) := by decide +kernel
theorem dX10_stays_79 : decode cX10_stays 79 = .ok (.getfield 207, 3) := by decide +kernel
theorem dX10_stays_82 : decode cX10_stays 82 = .ok (.iconst 1, 1) := by decide +kernel
theorem dX10_stays_83 : decode cX10_stays 83 = .ok (.isub, 1) := by decide +kernel
theorem dX10_stays_84 : decode cX10_stays 84 = .ok (.putfield 207, 3) := by decide +kernel
theorem dX10_stays_87 : decode cX10_stays 87 = .ok (.aload_n 0, 1) := by decide +kernel
theorem dX10_stays_88 : decode cX10_stays 88 = .ok (.dup, 1) := by decide +kernel
theorem dX10_stays_89 : decode cX10_stays 89 = .ok (.getfield 188, 3) := by decide +kernel
theorem dX10_stays_92 : decode cX10_stays 92 = .ok (.iconst 1, 1) := by decide +kernel
theorem dX10_stays_93 : decode cX10_stays 93 = .ok (.iadd, 1) := by decide +kernel
theorem dX10_stays_94 : decode cX10_stays 94 = .ok (.putfield 188, 3) := by decide +kernel
theorem dX10_stays_97 : decode cX10_stays 97 = .ok (.aload_n 0, 1) := by decide +kernel
theorem dX10_stays_98 : decode cX10_stays 98 = .ok (.iconst 1, 1) := by decide +kernel
theorem dX10_stays_99 : decode cX10_stays 99 = .ok (.putfield 253, 3) := by decide +kernel
theorem dX10_stays_102 : decode cX10_stays 102 = .ok (.iconst 1, 1) := by decide +kernel
theorem dX10_stays_103 : decode cX10_stays 103 = .ok (.ireturn, 1) := by decide +kernel
theorem dX10_value_0 : decode cX10_value 0 = .ok (.iconst 1, 1) := by decide +kernel
theorem dX10_value_1 : decode cX10_value 1 = .ok (.istore_n 1, 1) := by decide +kernel
theorem dX10_value_2 : decode cX10_value 2 = .ok (.aload_n 0, 1) := by decide +kernel
theorem dX10_value_3 : decode cX10_value 3 = .ok (.iconst 0, 1) := by decide +kernel
theorem dX10_value_4 : decode cX10_value 4 = .ok (.putfield 253, 3) := by decide +kernel
theorem dX10_value_7 : decode cX10_value 7 = .ok (.iload_n 1, 1) := by decide +kernel
theorem dX10_value_8 : decode cX10_value 8 = .ok (.ifCond .eq 49, 3) := by decide +kernel
theorem dX10_value_11 : decode cX10_value 11 = .ok (.aload_n 0, 1) := by decide +kernel
theorem dX10_value_12 : decode cX10_value 12 = .ok (.invokevirtual 197, 3) := by decide +kernel
theorem dX10_value_15 : decode cX10_value 15 = .ok (.ifCond .eq 42, 3) := by decide +kernel
theorem dX10_value_18 : decode cX10_value 18 = .ok (.aload_n 0, 1) := by decide +kernel
theorem dX10_value_19 : decode cX10_value 19 = .ok (.getfield 253, 3) := by decide +kernel
theorem dX10_value_22 : decode cX10_value 22 = .ok (.ifCond .ne 7, 3) := by decide +kernel
theorem dX10_value_25 : decode cX10_value 25 = .ok (.aload_n 0, 1) := by decide +kernel
theorem dX10_value_26 : decode cX10_value 26 = .ok (.invokevirtual 257, 3) := by decide +kernel
theorem dX10_value_29 : decode cX10_value 29 = .ok (.aload_n 0, 1) := by decide +kernel
theorem dX10_value_30 : decode cX10_value 30 = .ok (.iconst 0, 1) := by decide +kernel
theorem dX10_value_31 : decode cX10_value 31 = .ok (.putfield 253, 3) := by decide +kernel
theorem dX10_value_34 : decode cX10_value 34 = .ok (.aload_n 0, 1) := by decide +kernel
theorem dX10_value_35 : decode cX10_value 35 = .ok (.invokevirtual 197, 3) := by decide +kernel
theorem dX10_value_38 : decode cX10_value 38 = .ok (.ifCond .eq 14, 3) := by decide +kernel
theorem dX10_value_41 : decode cX10_value 41 = .ok (.aload_n 0, 1) := by decide +kernel
theorem dX10_value_42 : decode cX10_value 42 = .ok (.invokevirtual 260, 3) := by decide +kernel
theorem dX10_value_45 : decode cX10_value 45 = .ok (.ifCond .eq 7, 3) := by decide +kernel
theorem dX10_value_48 : decode cX10_value 48 = .ok (.iconst 1, 1) := by decide +kernel
theorem dX10_value_49 : decode cX10_value 49 = .ok (.goto 4, 3) := by decide +kernel
theorem dX10_value_52 : decode cX10_value 52 = .ok (.iconst 0, 1) := by decide +kernel
theorem dX10_value_53 : decode cX10_value 53 = .ok (.istore_n 1, 1) := by decide +kernel
theorem dX10_value_54 : decode cX10_value 54 = .ok (.goto (-47), 3) := by decide +kernel
theorem dX10_value_57 : decode cX10_value 57 = .ok (.aload_n 0, 1) := by decide +kernel
theorem dX10_value_58 : decode cX10_value 58 = .ok (.invokevirtual 197, 3) := by decide +kernel
theorem dX10_value_61 : decode cX10_value 61 = .ok (.ifCond .eq 21, 3) := by decide +kernel
theorem dX10_value_64 : decode cX10_value 64 = .ok (.aload_n 0, 1) := by decide +kernel
theorem dX10_value_65 : decode cX10_value 65 = .ok (.invokevirtual 228, 3) := by decide +kernel
theorem dX10_value_68 : decode cX10_value 68 = .ok (.bipush 91, 2) := by decide +kernel
theorem dX10_value_70 : decode cX10_value 70 = .ok (.if_icmp .ne 12, 3) := by decide +kernel
theorem dX10_value_73 : decode cX10_value 73 = .ok (.aload_n 0, 1) := by decide +kernel
theorem dX10_value_74 : decode cX10_value 74 = .ok (.iconst 1, 1) := by decide +kernel
theorem dX10_value_75 : decode cX10_value 75 = .ok (.aload_n 0, 1) := by decide +kernel
theorem dX10_value_76 : decode cX10_value 76 = .ok (.getfield 188, 3) := by decide +kernel
theorem dX10_value_79 : decode cX10_value 79 = .ok (.invokevirtual 210, 3) := by decide +kernel
theorem dX10_value_82 : decode cX10_value 82 = .ok (.return_, 1) := by decide +kernel
theorem dX10_pieceOfC_0 : decode cX10_pieceOfC 0 = .ok (.aload_n 0, 1) := by decide +kernel
theorem dX10_pieceOfC_1 : decode cX10_pieceOfC 1 = .ok (.invokevirtual 197, 3) := by decide +kernel
theorem dX10_pieceOfC_4 : decode cX10_pieceOfC 4 = .ok (.ifCond .eq 28, 3) := by decide +kernel
theorem dX10_pieceOfC_7 : decode cX10_pieceOfC 7 = .ok (.aload_n 0, 1) := by decide +kernel
theorem dX10_pieceOfC_8 : decode cX10_pieceOfC 8 = .ok (.invokevirtual 214, 3) := by decide +kernel
theorem dX10_pieceOfC_11 : decode cX10_pieceOfC 11 = .ok (.bipush 33, 2) := by decide +kernel
theorem dX10_pieceOfC_13 : decode cX10_pieceOfC 13 = .ok (.if_icmp .eq 12, 3) := by decide +kernel
theorem dX10_pieceOfC_16 : decode cX10_pieceOfC 16 = .ok (.aload_n 0, 1) := by decide +kernel
theorem dX10_pieceOfC_17 : decode cX10_pieceOfC 17 = .ok (.invokevirtual 214, 3) := by decide +kernel
theorem dX10_pieceOfC_20 : decode cX10_pieceOfC 20 = .ok (.bipush 40, 2) := by decide +kernel
theorem dX10_pieceOfC_22 : decode cX10_pieceOfC 22 = .ok (.if_icmp .ne 10, 3) := by decide +kernel
theorem dX10_pieceOfC_25 : decode cX10_pieceOfC 25 = .ok (.aload_n 0, 1) := by decide +kernel
theorem dX10_pieceOfC_26 : decode cX10_pieceOfC 26 = .ok (.invokevirtual 240, 3) := by decide +kernel
theorem dX10_pieceOfC_29 : decode cX10_pieceOfC 29 = .ok (.goto (-29), 3) := by decide +kernel
theorem dX10_pieceOfC_32 : decode cX10_pieceOfC 32 = .ok (.aload_n 0, 1) := by decide +kernel
theorem dX10_pieceOfC_33 : decode cX10_pieceOfC 33 = .ok (.invokevirtual 197, 3) := by decide +kernel
theorem dX10_pieceOfC_36 : decode cX10_pieceOfC 36 = .ok (.ifCond .eq 7, 3) := by decide +kernel
theorem dX10_pieceOfC_39 : decode cX10_pieceOfC 39 = .ok (.aload_n 0, 1) := by decide +kernel
theorem dX10_pieceOfC_40 : decode cX10_pieceOfC 40 = .ok (.invokevirtual 263, 3) := by decide +kernel
theorem dX10_pieceOfC_43 : decode cX10_pieceOfC 43 = .ok (.aload_n 0, 1) := by decide +kernel
theorem dX10_pieceOfC_44 : decode cX10_pieceOfC 44 = .ok (.invokevirtual 197, 3) := by decide +kernel
theorem dX10_pieceOfC_47 : decode cX10_pieceOfC 47 = .ok (.ifCond .ne 4, 3) := by decide +kernel
theorem dX10_pieceOfC_50 : decode cX10_pieceOfC 50 = .ok (.return_, 1) := by decide +kernel
theorem dX10_pieceOfC_51 : decode cX10_pieceOfC 51 = .ok (.aload_n 0, 1) := by decide +kernel
theorem dX10_pieceOfC_52 : decode cX10_pieceOfC 52 = .ok (.invokevirtual 214, 3) := by decide +kernel
theorem dX10_pieceOfC_55 : decode cX10_pieceOfC 55 = .ok (.istore_n 1, 1) := by decide +kernel
theorem dX10_pieceOfC_56 : decode cX10_pieceOfC 56 = .ok (.iload_n 1, 1) := by decide +kernel
theorem dX10_pieceOfC_57 : decode cX10_pieceOfC 57 = .ok (.invokestatic 266, 3) := by decide +kernel
theorem dX10_pieceOfC_60 : decode cX10_pieceOfC 60 = .ok (.ifCond .ne 13, 3) := by decide +kernel
theorem dX10_pieceOfC_63 : decode cX10_pieceOfC 63 = .ok (.aload_n 0, 1) := by decide +kernel
theorem dX10_pieceOfC_64 : decode cX10_pieceOfC 64 = .ok (.iconst 1, 1) := by decide +kernel
theorem dX10_pieceOfC_65 : decode cX10_pieceOfC 65 = .ok (.aload_n 0, 1) := by decide +kernel
theorem dX10_pieceOfC_66 : decode cX10_pieceOfC 66 = .ok (.getfield 188, 3) := by decide +kernel
theorem dX10_pieceOfC_69 : decode cX10_pieceOfC 69 = .ok (.invokevirtual 210, 3) := by decide +kernel
theorem dX10_pieceOfC_72 : decode cX10_pieceOfC 72 = .ok (.return_, 1) := by decide +kernel
theorem dX10_pieceOfC_73 : decode cX10_pieceOfC 73 = .ok (.aload_n 0, 1) := by decide +kernel
theorem dX10_pieceOfC_74 : decode cX10_pieceOfC 74 = .ok (.iload_n 1, 1) := by decide +kernel
theorem dX10_pieceOfC_75 : decode cX10_pieceOfC 75 = .ok (.invokevirtual 218, 3) := by decide +kernel
theorem dX10_pieceOfC_78 : decode cX10_pieceOfC 78 = .ok (.aload_n 0, 1) := by decide +kernel
theorem dX10_pieceOfC_79 : decode cX10_pieceOfC 79 = .ok (.invokevirtual 263, 3) := by decide +kernel
theorem dX10_pieceOfC_82 : decode cX10_pieceOfC 82 = .ok (.aload_n 0, 1) := by decide +kernel
theorem dX10_pieceOfC_83 : decode cX10_pieceOfC 83 = .ok (.invokevirtual 197, 3) := by decide +kernel
theorem dX10_pieceOfC_86 : decode cX10_pieceOfC 86 = .ok (.ifCond .ne 4, 3) := by decide +kernel
theorem dX10_pieceOfC_89 : decode cX10_pieceOfC 89 = .ok (.return_, 1) := by decide +kernel
theorem dX10_pieceOfC_90 : decode cX10_pieceOfC 90 = .ok (.aload_n 0, 1) := by decide +kernel
theorem dX10_pieceOfC_91 : decode cX10_pieceOfC 91 = .ok (.aload_n 0, 1) := by decide +kernel
theorem dX10_pieceOfC_92 : decode cX10_pieceOfC 92 = .ok (.invokevirtual 228, 3) := by decide +kernel
theorem dX10_pieceOfC_95 : decode cX10_pieceOfC 95 = .ok (.iconst 0, 1) := by decide +kernel
theorem dX10_pieceOfC_96 : decode cX10_pieceOfC 96 = .ok (.invokevirtual 237, 3) := by decide +kernel
theorem dX10_pieceOfC_99 : decode cX10_pieceOfC 99 = .ok (.aload_n 0, 1) := by decide +kernel
theorem dX10_pieceOfC_100 : decode cX10_pieceOfC 100 = .ok (.dup, 1) := by decide +kernel
theorem dX10_pieceOfC_101 : decode cX10_pieceOfC 101 = .ok (.getfield 204, 3) := by decide +kernel
theorem dX10_pieceOfC_104 : decode cX10_pieceOfC 104 = .ok (.iconst 1, 1) := by decide +kernel
theorem dX10_pieceOfC_105 : decode cX10_pieceOfC 105 = .ok (.isub, 1) := by decide +kernel
theorem dX10_pieceOfC_106 : decode cX10_pieceOfC 106 = .ok (.putfield 204, 3) := by decide +kernel
theorem dX10_pieceOfC_109 : decode cX10_pieceOfC 109 = .ok (.aload_n 0, 1) := by decide +kernel
theorem dX10_pieceOfC_110 : decode cX10_pieceOfC 110 = .ok (.invokevirtual 269, 3) := by decide +kernel
theorem dX10_pieceOfC_113 : decode cX10_pieceOfC 113 = .ok (.return_, 1) := by decide +kernel
theorem dX10_goesBehind_0 : decode cX10_goesBehind 0 = .ok (.aload_n 0, 1) := by decide +kernel
theorem dX10_goesBehind_1 : decode cX10_goesBehind 1 = .ok (.invokevirtual 214, 3) := by decide +kernel
theorem dX10_goesBehind_4 : decode cX10_goesBehind 4 = .ok (.istore_n 1, 1) := by decide +kernel
theorem dX10_goesBehind_5 : decode cX10_goesBehind 5 = .ok (.iload_n 1, 1) := by decide +kernel
theorem dX10_goesBehind_6 : decode cX10_goesBehind 6 = .ok (.bipush 38, 2) := by decide +kernel
theorem dX10_goesBehind_8 : decode cX10_goesBehind 8 = .ok (.if_icmp .eq 9, 3) := by decide +kernel
theorem dX10_goesBehind_11 : decode cX10_goesBehind 11 = .ok (.iload_n 1, 1) := by decide +kernel
theorem dX10_goesBehind_12 : decode cX10_goesBehind 12 = .ok (.bipush 124, 2) := by decide +kernel
theorem dX10_goesBehind_14 : decode cX10_goesBehind 14 = .ok (.if_icmp .ne 25, 3) := by decide +kernel
theorem dX10_goesBehind_17 : decode cX10_goesBehind 17 = .ok (.aload_n 0, 1) := by decide +kernel
theorem dX10_goesBehind_18 : decode cX10_goesBehind 18 = .ok (.iload_n 1, 1) := by decide +kernel
theorem dX10_goesBehind_19 : decode cX10_goesBehind 19 = .ok (.bipush 124, 2) := by decide +kernel
theorem dX10_goesBehind_21 : decode cX10_goesBehind 21 = .ok (.if_icmp .ne 7, 3) := by decide +kernel
theorem dX10_goesBehind_24 : decode cX10_goesBehind 24 = .ok (.iconst 1, 1) := by decide +kernel
theorem dX10_goesBehind_25 : decode cX10_goesBehind 25 = .ok (.goto 4, 3) := by decide +kernel
theorem dX10_goesBehind_28 : decode cX10_goesBehind 28 = .ok (.iconst 0, 1) := by decide +kernel
theorem dX10_goesBehind_29 : decode cX10_goesBehind 29 = .ok (.invokevirtual 272, 3) := by decide +kernel
theorem dX10_goesBehind_32 : decode cX10_goesBehind 32 = .ok (.aload_n 0, 1) := by decide +kernel
theorem dX10_goesBehind_33 : decode cX10_goesBehind 33 = .ok (.iload_n 1, 1) := by decide +kernel
theorem dX10_goesBehind_34 : decode cX10_goesBehind 34 = .ok (.invokevirtual 218, 3) := by decide +kernel
theorem dX10_goesBehind_37 : decode cX10_goesBehind 37 = .ok (.iconst 1, 1) := by decide +kernel
theorem dX10_goesBehind_38 : decode cX10_goesBehind 38 = .ok (.ireturn, 1) := by decide +kernel
theorem dX10_goesBehind_39 : decode cX10_goesBehind 39 = .ok (.iload_n 1, 1) := by decide +kernel
theorem dX10_goesBehind_40 : decode cX10_goesBehind 40 = .ok (.bipush 41, 2) := by decide +kernel
theorem dX10_goesBehind_42 : decode cX10_goesBehind 42 = .ok (.if_icmp .eq 14, 3) := by decide +kernel
theorem dX10_goesBehind_45 : decode cX10_goesBehind 45 = .ok (.aload_n 0, 1) := by decide +kernel
theorem dX10_goesBehind_46 : decode cX10_goesBehind 46 = .ok (.iconst 1, 1) := by decide +kernel
theorem dX10_goesBehind_47 : decode cX10_goesBehind 47 = .ok (.aload_n 0, 1) := by decide +kernel
theorem dX10_goesBehind_48 : decode cX10_goesBehind 48 = .ok (.getfield 188, 3) := by decide +kernel
theorem dX10_goesBehind_51 : decode cX10_goesBehind 51 = .ok (.invokevirtual 210, 3) := by decide +kernel
theorem dX10_goesBehind_54 : decode cX10_goesBehind 54 = .ok (.iconst 0, 1) := by decide +kernel
theorem dX10_goesBehind_55 : decode cX10_goesBehind 55 = .ok (.ireturn, 1) := by decide +kernel
theorem dX10_goesBehind_56 : decode cX10_goesBehind 56 = .ok (.aload_n 0, 1) := by decide +kernel
theorem dX10_goesBehind_57 : decode cX10_goesBehind 57 = .ok (.iconst 1, 1) := by decide +kernel
theorem dX10_goesBehind_58 : decode cX10_goesBehind 58 = .ok (.invokevirtual 272, 3) := by decide +kernel
theorem dX10_goesBehind_61 : decode cX10_goesBehind 61 = .ok (.aload_n 0, 1) := by decide +kernel
theorem dX10_goesBehind_62 : decode cX10_goesBehind 62 = .ok (.dup, 1) := by decide +kernel
theorem dX10_goesBehind_63 : decode cX10_goesBehind 63 = .ok (.getfield 204, 3) := by decide +kernel
theorem dX10_goesBehind_66 : decode cX10_goesBehind 66 = .ok (.iconst 1, 1) := by decide +kernel
theorem dX10_goesBehind_67 : decode cX10_goesBehind 67 = .ok (.isub, 1) := by decide +kernel
theorem dX10_goesBehind_68 : decode cX10_goesBehind 68 = .ok (.putfield 204, 3) := by decide +kernel
theorem dX10_goesBehind_71 : decode cX10_goesBehind 71 = .ok (.aload_n 0, 1) := by decide +kernel
theorem dX10_goesBehind_72 : decode cX10_goesBehind 72 = .ok (.dup, 1) := by decide +kernel
theorem dX10_goesBehind_73 : decode cX10_goesBehind 73 = .ok (.getfield 207, 3) := by decide +kernel
theorem dX10_goesBehind_76 : decode cX10_goesBehind 76 = .ok (.iconst 1, 1) := by decide +kernel
theorem dX10_goesBehind_77 : decode cX10_goesBehind 77 = .ok (.isub, 1) := by decide +kernel
theorem dX10_goesBehind_78 : decode cX10_goesBehind 78 = .ok (.putfield 207, 3) := by decide +kernel
theorem dX10_goesBehind_81 : decode cX10_goesBehind 81 = .ok (.aload_n 0, 1) := by decide +kernel
theorem dX10_goesBehind_82 : decode cX10_goesBehind 82 = .ok (.dup, 1) := by decide +kernel
theorem dX10_goesBehind_83 : decode cX10_goesBehind 83 = .ok (.getfield 188, 3) := by decide +kernel
theorem dX10_goesBehind_86 : decode cX10_goesBehind 86 = .ok (.iconst 1, 1) := by decide +kernel
theorem dX10_goesBehind_87 : decode cX10_goesBehind 87 = .ok (.iadd, 1) := by decide +kernel
theorem dX10_goesBehind_88 : decode cX10_goesBehind 88 = .ok (.putfield 188, 3) := by decide +kernel
theorem dX10_goesBehind_91 : decode cX10_goesBehind 91 = .ok (.aload_n 0, 1) := by decide +kernel
theorem dX10_goesBehind_92 : decode cX10_goesBehind 92 = .ok (.aload_n 0, 1) := by decide +kernel
theorem dX10_goesBehind_93 : decode cX10_goesBehind 93 = .ok (.getfield 204, 3) := by decide +kernel
theorem dX10_goesBehind_96 : decode cX10_goesBehind 96 = .ok (.ifCond .ne 7, 3) := by decide +kernel
theorem dX10_goesBehind_99 : decode cX10_goesBehind 99 = .ok (.iconst 1, 1) := by decide +kernel
theorem dX10_goesBehind_100 : decode cX10_goesBehind 100 = .ok (.goto 4, 3) := by decide +kernel
theorem dX10_goesBehind_103 : decode cX10_goesBehind 103 = .ok (.iconst 0, 1) := by decide +kernel
theorem dX10_goesBehind_104 : decode cX10_goesBehind 104 = .ok (.putfield 275, 3) := by decide +kernel
theorem dX10_goesBehind_107 : decode cX10_goesBehind 107 = .ok (.aload_n 0, 1) := by decide +kernel
theorem dX10_goesBehind_108 : decode cX10_goesBehind 108 = .ok (.getfield 275, 3) := by decide +kernel
theorem dX10_goesBehind_111 : decode cX10_goesBehind 111 = .ok (.ifCond .ne 7, 3) := by decide +kernel
theorem dX10_goesBehind_114 : decode cX10_goesBehind 114 = .ok (.aload_n 0, 1) := by decide +kernel
theorem dX10_goesBehind_115 : decode cX10_goesBehind 115 = .ok (.invokevirtual 269, 3) := by decide +kernel
theorem dX10_goesBehind_118 : decode cX10_goesBehind 118 = .ok (.iconst 0, 1) := by decide +kernel
theorem dX10_goesBehind_119 : decode cX10_goesBehind 119 = .ok (.ireturn, 1) := by decide +kernel
theorem dX10_condition_0 : decode cX10_condition 0 = .ok (.aload_n 0, 1) := by decide +kernel
theorem dX10_condition_1 : decode cX10_condition 1 = .ok (.iconst 0, 1) := by decide +kernel
theorem dX10_condition_2 : decode cX10_condition 2 = .ok (.putfield 275, 3) := by decide +kernel
theorem dX10_condition_5 : decode cX10_condition 5 = .ok (.aload_n 0, 1) := by decide +kernel
theorem dX10_condition_6 : decode cX10_condition 6 = .ok (.invokevirtual 214, 3) := by decide +kernel
theorem dX10_condition_9 : decode cX10_condition 9 = .ok (.bipush 40, 2) := by decide +kernel
theorem dX10_condition_11 : decode cX10_condition 11 = .ok (.if_icmp .eq 12, 3) := by decide +kernel
theorem dX10_condition_14 : decode cX10_condition 14 = .ok (.aload_n 0, 1) := by decide +kernel
theorem dX10_condition_15 : decode cX10_condition 15 = .ok (.iconst 1, 1) := by decide +kernel
theorem dX10_condition_16 : decode cX10_condition 16 = .ok (.aload_n 0, 1) := by decide +kernel
theorem dX10_condition_17 : decode cX10_condition 17 = .ok (.getfield 188, 3) := by decide +kernel
theorem dX10_condition_20 : decode cX10_condition 20 = .ok (.invokevirtual 210, 3) := by decide +kernel
theorem dX10_condition_23 : decode cX10_condition 23 = .ok (.aload_n 0, 1) := by decide +kernel
theorem dX10_condition_24 : decode cX10_condition 24 = .ok (.invokevirtual 197, 3) := by decide +kernel
theorem dX10_condition_27 : decode cX10_condition 27 = .ok (.ifCond .ne 4, 3) := by decide +kernel
theorem dX10_condition_30 : decode cX10_condition 30 = .ok (.return_, 1) := by decide +kernel
theorem dX10_condition_31 : decode cX10_condition 31 = .ok (.aload_n 0, 1) := by decide +kernel
theorem dX10_condition_32 : decode cX10_condition 32 = .ok (.invokevirtual 240, 3) := by decide +kernel
theorem dX10_condition_35 : decode cX10_condition 35 = .ok (.iconst 1, 1) := by decide +kernel
theorem dX10_condition_36 : decode cX10_condition 36 = .ok (.istore_n 1, 1) := by decide +kernel
theorem dX10_condition_37 : decode cX10_condition 37 = .ok (.aload_n 0, 1) := by decide +kernel
theorem dX10_condition_38 : decode cX10_condition 38 = .ok (.invokevirtual 197, 3) := by decide +kernel
theorem dX10_condition_41 : decode cX10_condition 41 = .ok (.ifCond .eq 33, 3) := by decide +kernel
theorem dX10_condition_44 : decode cX10_condition 44 = .ok (.aload_n 0, 1) := by decide +kernel
theorem dX10_condition_45 : decode cX10_condition 45 = .ok (.getfield 275, 3) := by decide +kernel
theorem dX10_condition_48 : decode cX10_condition 48 = .ok (.ifCond .ne 26, 3) := by decide +kernel
theorem dX10_condition_51 : decode cX10_condition 51 = .ok (.iload_n 1, 1) := by decide +kernel
theorem dX10_condition_52 : decode cX10_condition 52 = .ok (.ifCond .eq 7, 3) := by decide +kernel
theorem dX10_condition_55 : decode cX10_condition 55 = .ok (.aload_n 0, 1) := by decide +kernel
theorem dX10_condition_56 : decode cX10_condition 56 = .ok (.invokevirtual 278, 3) := by decide +kernel
theorem dX10_condition_59 : decode cX10_condition 59 = .ok (.aload_n 0, 1) := by decide +kernel
theorem dX10_condition_60 : decode cX10_condition 60 = .ok (.invokevirtual 197, 3) := by decide +kernel
theorem dX10_condition_63 : decode cX10_condition 63 = .ok (.ifCond .eq (-26), 3) := by decide +kernel
theorem dX10_condition_66 : decode cX10_condition 66 = .ok (.aload_n 0, 1) := by decide +kernel
theorem dX10_condition_67 : decode cX10_condition 67 = .ok (.invokevirtual 281, 3) := by decide +kernel
theorem dX10_condition_70 : decode cX10_condition 70 = .ok (.istore_n 1, 1) := by decide +kernel
theorem dX10_condition_71 : decode cX10_condition 71 = .ok (.goto (-34), 3) := by decide +kernel
theorem dX10_condition_74 : decode cX10_condition 74 = .ok (.return_, 1) := by decide +kernel
theorem dX10_isClause_0 : decode cX10_isClause 0 = .ok (.iload_n 0, 1) := by decide +kernel
theorem dX10_isClause_1 : decode cX10_isClause 1 = .ok (.bipush 99, 2) := by decide +kernel
theorem dX10_isClause_3 : decode cX10_isClause 3 = .ok (.if_icmp .eq 33, 3) := by decide +kernel
theorem dX10_isClause_6 : decode cX10_isClause 6 = .ok (.iload_n 0, 1) := by decide +kernel
theorem dX10_isClause_7 : decode cX10_isClause 7 = .ok (.bipush 119, 2) := by decide +kernel
theorem dX10_isClause_9 : decode cX10_isClause 9 = .ok (.if_icmp .eq 27, 3) := by decide +kernel
theorem dX10_isClause_12 : decode cX10_isClause 12 = .ok (.iload_n 0, 1) := by decide +kernel
theorem dX10_isClause_13 : decode cX10_isClause 13 = .ok (.bipush 115, 2) := by decide +kernel
theorem dX10_isClause_15 : decode cX10_isClause 15 = .ok (.if_icmp .eq 21, 3) := by decide +kernel
theorem dX10_isClause_18 : decode cX10_isClause 18 = .ok (.iload_n 0, 1) := by decide +kernel
theorem dX10_isClause_19 : decode cX10_isClause 19 = .ok (.bipush 109, 2) := by decide +kernel
theorem dX10_isClause_21 : decode cX10_isClause 21 = .ok (.if_icmp .eq 15, 3) := by decide +kernel
theorem dX10_isClause_24 : decode cX10_isClause 24 = .ok (.iload_n 0, 1) := by decide +kernel
theorem dX10_isClause_25 : decode cX10_isClause 25 = .ok (.bipush 121, 2) := by decide +kernel
theorem dX10_isClause_27 : decode cX10_isClause 27 = .ok (.if_icmp .eq 9, 3) := by decide +kernel
theorem dX10_isClause_30 : decode cX10_isClause 30 = .ok (.iload_n 0, 1) := by decide +kernel
theorem dX10_isClause_31 : decode cX10_isClause 31 = .ok (.bipush 102, 2) := by decide +kernel
theorem dX10_isClause_33 : decode cX10_isClause 33 = .ok (.if_icmp .ne 7, 3) := by decide +kernel
theorem dX10_isClause_36 : decode cX10_isClause 36 = .ok (.iconst 1, 1) := by decide +kernel
theorem dX10_isClause_37 : decode cX10_isClause 37 = .ok (.goto 4, 3) := by decide +kernel
theorem dX10_isClause_40 : decode cX10_isClause 40 = .ok (.iconst 0, 1) := by decide +kernel
theorem dX10_isClause_41 : decode cX10_isClause 41 = .ok (.ireturn, 1) := by decide +kernel
theorem dX10_clause_0 : decode cX10_clause 0 = .ok (.aload_n 0, 1) := by decide +kernel
theorem dX10_clause_1 : decode cX10_clause 1 = .ok (.invokevirtual 214, 3) := by decide +kernel
theorem dX10_clause_4 : decode cX10_clause 4 = .ok (.istore_n 1, 1) := by decide +kernel
theorem dX10_clause_5 : decode cX10_clause 5 = .ok (.iload_n 1, 1) := by decide +kernel
theorem dX10_clause_6 : decode cX10_clause 6 = .ok (.invokestatic 284, 3) := by decide +kernel
theorem dX10_clause_9 : decode cX10_clause 9 = .ok (.ifCond .ne 15, 3) := by decide +kernel
theorem dX10_clause_12 : decode cX10_clause 12 = .ok (.aload_n 0, 1) := by decide +kernel
theorem dX10_clause_13 : decode cX10_clause 13 = .ok (.iconst 1, 1) := by decide +kernel
theorem dX10_clause_14 : decode cX10_clause 14 = .ok (.aload_n 0, 1) := by decide +kernel
theorem dX10_clause_15 : decode cX10_clause 15 = .ok (.getfield 188, 3) := by decide +kernel
theorem dX10_clause_18 : decode cX10_clause 18 = .ok (.invokevirtual 210, 3) := by decide +kernel
theorem dX10_clause_21 : decode cX10_clause 21 = .ok (.goto 21, 3) := by decide +kernel
theorem dX10_clause_24 : decode cX10_clause 24 = .ok (.aload_n 0, 1) := by decide +kernel
theorem dX10_clause_25 : decode cX10_clause 25 = .ok (.getfield 287, 3) := by decide +kernel
theorem dX10_clause_28 : decode cX10_clause 28 = .ok (.bipush 14, 2) := by decide +kernel
theorem dX10_clause_30 : decode cX10_clause 30 = .ok (.if_icmp .ne 12, 3) := by decide +kernel
theorem dX10_clause_33 : decode cX10_clause 33 = .ok (.aload_n 0, 1) := by decide +kernel
theorem dX10_clause_34 : decode cX10_clause 34 = .ok (.iconst 4, 1) := by decide +kernel
theorem dX10_clause_35 : decode cX10_clause 35 = .ok (.aload_n 0, 1) := by decide +kernel
theorem dX10_clause_36 : decode cX10_clause 36 = .ok (.getfield 188, 3) := by decide +kernel
theorem dX10_clause_39 : decode cX10_clause 39 = .ok (.invokevirtual 210, 3) := by decide +kernel
theorem dX10_clause_42 : decode cX10_clause 42 = .ok (.aload_n 0, 1) := by decide +kernel
theorem dX10_clause_43 : decode cX10_clause 43 = .ok (.invokevirtual 197, 3) := by decide +kernel
theorem dX10_clause_46 : decode cX10_clause 46 = .ok (.ifCond .ne 4, 3) := by decide +kernel
theorem dX10_clause_49 : decode cX10_clause 49 = .ok (.return_, 1) := by decide +kernel
theorem dX10_clause_50 : decode cX10_clause 50 = .ok (.aload_n 0, 1) := by decide +kernel
theorem dX10_clause_51 : decode cX10_clause 51 = .ok (.getfield 51, 3) := by decide +kernel
theorem dX10_clause_54 : decode cX10_clause 54 = .ok (.aload_n 0, 1) := by decide +kernel
theorem dX10_clause_55 : decode cX10_clause 55 = .ok (.getfield 287, 3) := by decide +kernel
theorem dX10_clause_58 : decode cX10_clause 58 = .ok (.iload_n 1, 1) := by decide +kernel
theorem dX10_clause_59 : decode cX10_clause 59 = .ok (.iastore, 1) := by decide +kernel
theorem dX10_clause_60 : decode cX10_clause 60 = .ok (.aload_n 0, 1) := by decide +kernel
theorem dX10_clause_61 : decode cX10_clause 61 = .ok (.getfield 54, 3) := by decide +kernel
theorem dX10_clause_64 : decode cX10_clause 64 = .ok (.aload_n 0, 1) := by decide +kernel
theorem dX10_clause_65 : decode cX10_clause 65 = .ok (.getfield 287, 3) := by decide +kernel
theorem dX10_clause_68 : decode cX10_clause 68 = .ok (.aload_n 0, 1) := by decide +kernel
theorem dX10_clause_69 : decode cX10_clause 69 = .ok (.getfield 201, 3) := by decide +kernel
theorem dX10_clause_72 : decode cX10_clause 72 = .ok (.iastore, 1) := by decide +kernel
theorem dX10_clause_73 : decode cX10_clause 73 = .ok (.aload_n 0, 1) := by decide +kernel
theorem dX10_clause_74 : decode cX10_clause 74 = .ok (.dup, 1) := by decide +kernel
theorem dX10_clause_75 : decode cX10_clause 75 = .ok (.getfield 188, 3) := by decide +kernel
theorem dX10_clause_78 : decode cX10_clause 78 = .ok (.iconst 1, 1) := by decide +kernel
theorem dX10_clause_79 : decode cX10_clause 79 = .ok (.iadd, 1) := by decide +kernel
theorem dX10_clause_80 : decode cX10_clause 80 = .ok (.putfield 188, 3) := by decide +kernel
theorem dX10_clause_83 : decode cX10_clause 83 = .ok (.aload_n 0, 1) := by decide +kernel
theorem dX10_clause_84 : decode cX10_clause 84 = .ok (.iconst 0, 1) := by decide +kernel
theorem dX10_clause_85 : decode cX10_clause 85 = .ok (.putfield 204, 3) := by decide +kernel
theorem dX10_clause_88 : decode cX10_clause 88 = .ok (.aload_n 0, 1) := by decide +kernel
theorem dX10_clause_89 : decode cX10_clause 89 = .ok (.iconst 0, 1) := by decide +kernel
theorem dX10_clause_90 : decode cX10_clause 90 = .ok (.putfield 207, 3) := by decide +kernel
theorem dX10_clause_93 : decode cX10_clause 93 = .ok (.aload_n 0, 1) := by decide +kernel
theorem dX10_clause_94 : decode cX10_clause 94 = .ok (.invokevirtual 263, 3) := by decide +kernel
theorem dX10_clause_97 : decode cX10_clause 97 = .ok (.aload_n 0, 1) := by decide +kernel
theorem dX10_clause_98 : decode cX10_clause 98 = .ok (.getfield 57, 3) := by decide +kernel
theorem dX10_clause_101 : decode cX10_clause 101 = .ok (.aload_n 0, 1) := by decide +kernel
theorem dX10_clause_102 : decode cX10_clause 102 = .ok (.getfield 287, 3) := by decide +kernel
theorem dX10_clause_105 : decode cX10_clause 105 = .ok (.aload_n 0, 1) := by decide +kernel
theorem dX10_clause_106 : decode cX10_clause 106 = .ok (.getfield 201, 3) := by decide +kernel
theorem dX10_clause_109 : decode cX10_clause 109 = .ok (.iastore, 1) := by decide +kernel
theorem dX10_clause_110 : decode cX10_clause 110 = .ok (.aload_n 0, 1) := by decide +kernel
theorem dX10_clause_111 : decode cX10_clause 111 = .ok (.invokevirtual 197, 3) := by decide +kernel
theorem dX10_clause_114 : decode cX10_clause 114 = .ok (.ifCond .eq 7, 3) := by decide +kernel
theorem dX10_clause_117 : decode cX10_clause 117 = .ok (.aload_n 0, 1) := by decide +kernel
theorem dX10_clause_118 : decode cX10_clause 118 = .ok (.invokevirtual 290, 3) := by decide +kernel
theorem dX10_clause_121 : decode cX10_clause 121 = .ok (.aload_n 0, 1) := by decide +kernel
theorem dX10_clause_122 : decode cX10_clause 122 = .ok (.getfield 60, 3) := by decide +kernel
theorem dX10_clause_125 : decode cX10_clause 125 = .ok (.aload_n 0, 1) := by decide +kernel
theorem dX10_clause_126 : decode cX10_clause 126 = .ok (.getfield 287, 3) := by decide +kernel
theorem dX10_clause_129 : decode cX10_clause 129 = .ok (.aload_n 0, 1) := by decide +kernel
theorem dX10_clause_130 : decode cX10_clause 130 = .ok (.getfield 201, 3) := by decide +kernel
theorem dX10_clause_133 : decode cX10_clause 133 = .ok (.iastore, 1) := by decide +kernel
theorem dX10_clause_134 : decode cX10_clause 134 = .ok (.aload_n 0, 1) := by decide +kernel
theorem dX10_clause_135 : decode cX10_clause 135 = .ok (.dup, 1) := by decide +kernel
theorem dX10_clause_136 : decode cX10_clause 136 = .ok (.getfield 287, 3) := by decide +kernel
theorem dX10_clause_139 : decode cX10_clause 139 = .ok (.iconst 1, 1) := by decide +kernel
theorem dX10_clause_140 : decode cX10_clause 140 = .ok (.iadd, 1) := by decide +kernel
theorem dX10_clause_141 : decode cX10_clause 141 = .ok (.putfield 287, 3) := by decide +kernel
theorem dX10_clause_144 : decode cX10_clause 144 = .ok (.return_, 1) := by decide +kernel
theorem dX10_law_0 : decode cX10_law 0 = .ok (.iload_n 1, 1) := by decide +kernel
theorem dX10_law_1 : decode cX10_law 1 = .ok (.i2l, 1) := by decide +kernel
theorem dX10_law_2 : decode cX10_law 2 = .ok (.lconst 1, 1) := by decide +kernel
theorem dX10_law_3 : decode cX10_law 3 = .ok (.ldc2_w 293, 3) := by decide +kernel
theorem dX10_law_6 : decode cX10_law 6 = .ok (.invokestatic 154, 3) := by decide +kernel
theorem dX10_law_9 : decode cX10_law 9 = .ok (.ifCond .eq 11, 3) := by decide +kernel
theorem dX10_law_12 : decode cX10_law 12 = .ok (.iload_n 1, 1) := by decide +kernel
theorem dX10_law_13 : decode cX10_law 13 = .ok (.aload_n 0, 1) := by decide +kernel
theorem dX10_law_14 : decode cX10_law 14 = .ok (.getfield 181, 3) := by decide +kernel
theorem dX10_law_17 : decode cX10_law 17 = .ok (.if_icmp .le 5, 3) := by decide +kernel
theorem dX10_law_20 : decode cX10_law 20 = .ok (.iconst (-1), 1) := by decide +kernel
theorem dX10_law_21 : decode cX10_law 21 = .ok (.ireturn, 1) := by decide +kernel
theorem dX10_law_22 : decode cX10_law 22 = .ok (.aload_n 0, 1) := by decide +kernel
theorem dX10_law_23 : decode cX10_law 23 = .ok (.iconst 0, 1) := by decide +kernel
theorem dX10_law_24 : decode cX10_law 24 = .ok (.putfield 181, 3) := by decide +kernel
theorem dX10_law_27 : decode cX10_law 27 = .ok (.aload_n 0, 1) := by decide +kernel
theorem dX10_law_28 : decode cX10_law 28 = .ok (.iconst 0, 1) := by decide +kernel
theorem dX10_law_29 : decode cX10_law 29 = .ok (.putfield 188, 3) := by decide +kernel
theorem dX10_law_32 : decode cX10_law 32 = .ok (.aload_n 0, 1) := by decide +kernel
theorem dX10_law_33 : decode cX10_law 33 = .ok (.iload_n 1, 1) := by decide +kernel
theorem dX10_law_34 : decode cX10_law 34 = .ok (.putfield 191, 3) := by decide +kernel
theorem dX10_law_37 : decode cX10_law 37 = .ok (.aload_n 0, 1) := by decide +kernel
theorem dX10_law_38 : decode cX10_law 38 = .ok (.iconst 0, 1) := by decide +kernel
theorem dX10_law_39 : decode cX10_law 39 = .ok (.putfield 194, 3) := by decide +kernel
theorem dX10_law_42 : decode cX10_law 42 = .ok (.aload_n 0, 1) := by decide +kernel
theorem dX10_law_43 : decode cX10_law 43 = .ok (.iconst 0, 1) := by decide +kernel
theorem dX10_law_44 : decode cX10_law 44 = .ok (.putfield 287, 3) := by decide +kernel
theorem dX10_law_47 : decode cX10_law 47 = .ok (.aload_n 0, 1) := by decide +kernel
theorem dX10_law_48 : decode cX10_law 48 = .ok (.iconst 0, 1) := by decide +kernel
theorem dX10_law_49 : decode cX10_law 49 = .ok (.putfield 201, 3) := by decide +kernel
theorem dX10_law_52 : decode cX10_law 52 = .ok (.iconst 1, 1) := by decide +kernel
theorem dX10_law_53 : decode cX10_law 53 = .ok (.istore_n 2, 1) := by decide +kernel
theorem dX10_law_54 : decode cX10_law 54 = .ok (.iload_n 2, 1) := by decide +kernel
theorem dX10_law_55 : decode cX10_law 55 = .ok (.ifCond .eq 73, 3) := by decide +kernel
theorem dX10_law_58 : decode cX10_law 58 = .ok (.aload_n 0, 1) := by decide +kernel
theorem dX10_law_59 : decode cX10_law 59 = .ok (.invokevirtual 197, 3) := by decide +kernel
theorem dX10_law_62 : decode cX10_law 62 = .ok (.ifCond .eq 66, 3) := by decide +kernel
theorem dX10_law_65 : decode cX10_law 65 = .ok (.aload_n 0, 1) := by decide +kernel
theorem dX10_law_66 : decode cX10_law 66 = .ok (.invokevirtual 295, 3) := by decide +kernel
theorem dX10_law_69 : decode cX10_law 69 = .ok (.aload_n 0, 1) := by decide +kernel
theorem dX10_law_70 : decode cX10_law 70 = .ok (.invokevirtual 197, 3) := by decide +kernel
theorem dX10_law_73 : decode cX10_law 73 = .ok (.ifCond .eq 18, 3) := by decide +kernel
theorem dX10_law_76 : decode cX10_law 76 = .ok (.aload_n 0, 1) := by decide +kernel
theorem dX10_law_77 : decode cX10_law 77 = .ok (.getfield 188, 3) := by decide +kernel
theorem dX10_law_80 : decode cX10_law 80 = .ok (.aload_n 0, 1) := by decide +kernel
theorem dX10_law_81 : decode cX10_law 81 = .ok (.getfield 191, 3) := by decide +kernel
theorem dX10_law_84 : decode cX10_law 84 = .ok (.if_icmp .ge 7, 3) := by decide +kernel
theorem dX10_law_87 : decode cX10_law 87 = .ok (.iconst 1, 1) := by decide +kernel
theorem dX10_law_88 : decode cX10_law 88 = .ok (.goto 4, 3) := by decide +kernel
theorem dX10_law_91 : decode cX10_law 91 = .ok (.iconst 0, 1) := by decide +kernel
theorem dX10_law_92 : decode cX10_law 92 = .ok (.istore_n 2, 1) := by decide +kernel
theorem dX10_law_93 : decode cX10_law 93 = .ok (.iload_n 2, 1) := by decide +kernel
theorem dX10_law_94 : decode cX10_law 94 = .ok (.ifCond .eq (-40), 3) := by decide +kernel
theorem dX10_law_97 : decode cX10_law 97 = .ok (.aload_n 0, 1) := by decide +kernel
theorem dX10_law_98 : decode cX10_law 98 = .ok (.invokevirtual 214, 3) := by decide +kernel
theorem dX10_law_101 : decode cX10_law 101 = .ok (.bipush 59, 2) := by decide +kernel
theorem dX10_law_103 : decode cX10_law 103 = .ok (.if_icmp .eq 12, 3) := by decide +kernel
theorem dX10_law_106 : decode cX10_law 106 = .ok (.aload_n 0, 1) := by decide +kernel
theorem dX10_law_107 : decode cX10_law 107 = .ok (.iconst 1, 1) := by decide +kernel
theorem dX10_law_108 : decode cX10_law 108 = .ok (.aload_n 0, 1) := by decide +kernel
theorem dX10_law_109 : decode cX10_law 109 = .ok (.getfield 188, 3) := by decide +kernel
theorem dX10_law_112 : decode cX10_law 112 = .ok (.invokevirtual 210, 3) := by decide +kernel
theorem dX10_law_115 : decode cX10_law 115 = .ok (.aload_n 0, 1) := by decide +kernel
theorem dX10_law_116 : decode cX10_law 116 = .ok (.dup, 1) := by decide +kernel
theorem dX10_law_117 : decode cX10_law 117 = .ok (.getfield 188, 3) := by decide +kernel
theorem dX10_law_120 : decode cX10_law 120 = .ok (.iconst 1, 1) := by decide +kernel
theorem dX10_law_121 : decode cX10_law 121 = .ok (.iadd, 1) := by decide +kernel
theorem dX10_law_122 : decode cX10_law 122 = .ok (.putfield 188, 3) := by decide +kernel
theorem dX10_law_125 : decode cX10_law 125 = .ok (.goto (-71), 3) := by decide +kernel
theorem dX10_law_128 : decode cX10_law 128 = .ok (.aload_n 0, 1) := by decide +kernel
theorem dX10_law_129 : decode cX10_law 129 = .ok (.getfield 194, 3) := by decide +kernel
theorem dX10_law_132 : decode cX10_law 132 = .ok (.ifCond .ge 8, 3) := by decide +kernel
theorem dX10_law_135 : decode cX10_law 135 = .ok (.aload_n 0, 1) := by decide +kernel
theorem dX10_law_136 : decode cX10_law 136 = .ok (.getfield 194, 3) := by decide +kernel
theorem dX10_law_139 : decode cX10_law 139 = .ok (.ireturn, 1) := by decide +kernel
theorem dX10_law_140 : decode cX10_law 140 = .ok (.iconst 0, 1) := by decide +kernel
theorem dX10_law_141 : decode cX10_law 141 = .ok (.istore_n 3, 1) := by decide +kernel
theorem dX10_law_142 : decode cX10_law 142 = .ok (.iload_n 3, 1) := by decide +kernel
theorem dX10_law_143 : decode cX10_law 143 = .ok (.aload_n 0, 1) := by decide +kernel
theorem dX10_law_144 : decode cX10_law 144 = .ok (.getfield 287, 3) := by decide +kernel
theorem dX10_law_147 : decode cX10_law 147 = .ok (.if_icmp .ge 57, 3) := by decide +kernel
theorem dX10_law_150 : decode cX10_law 150 = .ok (.aload_n 0, 1) := by decide +kernel
theorem dX10_law_151 : decode cX10_law 151 = .ok (.getfield 33, 3) := by decide +kernel
theorem dX10_law_154 : decode cX10_law 154 = .ok (.iload_n 3, 1) := by decide +kernel
theorem dX10_law_155 : decode cX10_law 155 = .ok (.aload_n 0, 1) := by decide +kernel
theorem dX10_law_156 : decode cX10_law 156 = .ok (.getfield 51, 3) := by decide +kernel
theorem dX10_law_159 : decode cX10_law 159 = .ok (.iload_n 3, 1) := by decide +kernel
theorem dX10_law_160 : decode cX10_law 160 = .ok (.iaload, 1) := by decide +kernel
theorem dX10_law_161 : decode cX10_law 161 = .ok (.iastore, 1) := by decide +kernel
theorem dX10_law_162 : decode cX10_law 162 = .ok (.aload_n 0, 1) := by decide +kernel
theorem dX10_law_163 : decode cX10_law 163 = .ok (.getfield 36, 3) := by decide +kernel
theorem dX10_law_166 : decode cX10_law 166 = .ok (.iload_n 3, 1) := by decide +kernel
theorem dX10_law_167 : decode cX10_law 167 = .ok (.aload_n 0, 1) := by decide +kernel
theorem dX10_law_168 : decode cX10_law 168 = .ok (.getfield 54, 3) := by decide +kernel
theorem dX10_law_171 : decode cX10_law 171 = .ok (.iload_n 3, 1) := by decide +kernel
theorem dX10_law_172 : decode cX10_law 172 = .ok (.iaload, 1) := by decide +kernel
theorem dX10_law_173 : decode cX10_law 173 = .ok (.iastore, 1) := by decide +kernel
theorem dX10_law_174 : decode cX10_law 174 = .ok (.aload_n 0, 1) := by decide +kernel
theorem dX10_law_175 : decode cX10_law 175 = .ok (.getfield 39, 3) := by decide +kernel
theorem dX10_law_178 : decode cX10_law 178 = .ok (.iload_n 3, 1) := by decide +kernel
theorem dX10_law_179 : decode cX10_law 179 = .ok (.aload_n 0, 1) := by decide +kernel
theorem dX10_law_180 : decode cX10_law 180 = .ok (.getfield 57, 3) := by decide +kernel
theorem dX10_law_183 : decode cX10_law 183 = .ok (.iload_n 3, 1) := by decide +kernel
theorem dX10_law_184 : decode cX10_law 184 = .ok (.iaload, 1) := by decide +kernel
theorem dX10_law_185 : decode cX10_law 185 = .ok (.iastore, 1) := by decide +kernel
theorem dX10_law_186 : decode cX10_law 186 = .ok (.aload_n 0, 1) := by decide +kernel
theorem dX10_law_187 : decode cX10_law 187 = .ok (.getfield 42, 3) := by decide +kernel
theorem dX10_law_190 : decode cX10_law 190 = .ok (.iload_n 3, 1) := by decide +kernel
theorem dX10_law_191 : decode cX10_law 191 = .ok (.aload_n 0, 1) := by decide +kernel
theorem dX10_law_192 : decode cX10_law 192 = .ok (.getfield 60, 3) := by decide +kernel
theorem dX10_law_195 : decode cX10_law 195 = .ok (.iload_n 3, 1) := by decide +kernel
theorem dX10_law_196 : decode cX10_law 196 = .ok (.iaload, 1) := by decide +kernel
theorem dX10_law_197 : decode cX10_law 197 = .ok (.iastore, 1) := by decide +kernel
theorem dX10_law_198 : decode cX10_law 198 = .ok (.iinc 3 1, 3) := by decide +kernel
theorem dX10_law_201 : decode cX10_law 201 = .ok (.goto (-59), 3) := by decide +kernel
theorem dX10_law_204 : decode cX10_law 204 = .ok (.iconst 0, 1) := by decide +kernel
theorem dX10_law_205 : decode cX10_law 205 = .ok (.istore_n 3, 1) := by decide +kernel
theorem dX10_law_206 : decode cX10_law 206 = .ok (.iload_n 3, 1) := by decide +kernel
theorem dX10_law_207 : decode cX10_law 207 = .ok (.aload_n 0, 1) := by decide +kernel
theorem dX10_law_208 : decode cX10_law 208 = .ok (.getfield 201, 3) := by decide +kernel
theorem dX10_law_211 : decode cX10_law 211 = .ok (.if_icmp .ge 33, 3) := by decide +kernel
theorem dX10_law_214 : decode cX10_law 214 = .ok (.aload_n 0, 1) := by decide +kernel
theorem dX10_law_215 : decode cX10_law 215 = .ok (.getfield 45, 3) := by decide +kernel
theorem dX10_law_218 : decode cX10_law 218 = .ok (.iload_n 3, 1) := by decide +kernel
theorem dX10_law_219 : decode cX10_law 219 = .ok (.aload_n 0, 1) := by decide +kernel
theorem dX10_law_220 : decode cX10_law 220 = .ok (.getfield 63, 3) := by decide +kernel
theorem dX10_law_223 : decode cX10_law 223 = .ok (.iload_n 3, 1) := by decide +kernel
theorem dX10_law_224 : decode cX10_law 224 = .ok (.iaload, 1) := by decide +kernel
theorem dX10_law_225 : decode cX10_law 225 = .ok (.iastore, 1) := by decide +kernel
theorem dX10_law_226 : decode cX10_law 226 = .ok (.aload_n 0, 1) := by decide +kernel
theorem dX10_law_227 : decode cX10_law 227 = .ok (.getfield 48, 3) := by decide +kernel
theorem dX10_law_230 : decode cX10_law 230 = .ok (.iload_n 3, 1) := by decide +kernel
theorem dX10_law_231 : decode cX10_law 231 = .ok (.aload_n 0, 1) := by decide +kernel
theorem dX10_law_232 : decode cX10_law 232 = .ok (.getfield 66, 3) := by decide +kernel
theorem dX10_law_235 : decode cX10_law 235 = .ok (.iload_n 3, 1) := by decide +kernel
theorem dX10_law_236 : decode cX10_law 236 = .ok (.iaload, 1) := by decide +kernel
theorem dX10_law_237 : decode cX10_law 237 = .ok (.iastore, 1) := by decide +kernel
theorem dX10_law_238 : decode cX10_law 238 = .ok (.iinc 3 1, 3) := by decide +kernel
theorem dX10_law_241 : decode cX10_law 241 = .ok (.goto (-35), 3) := by decide +kernel
theorem dX10_law_244 : decode cX10_law 244 = .ok (.aload_n 0, 1) := by decide +kernel
theorem dX10_law_245 : decode cX10_law 245 = .ok (.aload_n 0, 1) := by decide +kernel
theorem dX10_law_246 : decode cX10_law 246 = .ok (.getfield 287, 3) := by decide +kernel
theorem dX10_law_249 : decode cX10_law 249 = .ok (.putfield 298, 3) := by decide +kernel
theorem dX10_law_252 : decode cX10_law 252 = .ok (.aload_n 0, 1) := by decide +kernel
theorem dX10_law_253 : decode cX10_law 253 = .ok (.getfield 298, 3) := by decide +kernel
theorem dX10_law_256 : decode cX10_law 256 = .ok (.ireturn, 1) := by decide +kernel
theorem dX10_windNow_0 : decode cX10_windNow 0 = .ok (.aload_n 0, 1) := by decide +kernel
theorem dX10_windNow_1 : decode cX10_windNow 1 = .ok (.getfield 301, 3) := by decide +kernel
theorem dX10_windNow_4 : decode cX10_windNow 4 = .ok (.bipush 100, 2) := by decide +kernel
theorem dX10_windNow_6 : decode cX10_windNow 6 = .ok (.if_icmp .ge 15, 3) := by decide +kernel
theorem dX10_windNow_9 : decode cX10_windNow 9 = .ok (.aload_n 0, 1) := by decide +kernel
theorem dX10_windNow_10 : decode cX10_windNow 10 = .ok (.getfield 30, 3) := by decide +kernel
theorem dX10_windNow_13 : decode cX10_windNow 13 = .ok (.aload_n 0, 1) := by decide +kernel
theorem dX10_windNow_14 : decode cX10_windNow 14 = .ok (.getfield 301, 3) := by decide +kernel
theorem dX10_windNow_17 : decode cX10_windNow 17 = .ok (.iaload, 1) := by decide +kernel
theorem dX10_windNow_18 : decode cX10_windNow 18 = .ok (.goto 4, 3) := by decide +kernel
theorem dX10_windNow_21 : decode cX10_windNow 21 = .ok (.iconst 0, 1) := by decide +kernel
theorem dX10_windNow_22 : decode cX10_windNow 22 = .ok (.ireturn, 1) := by decide +kernel
theorem dX10_ofCell_0 : decode cX10_ofCell 0 = .ok (.iload_n 1, 1) := by decide +kernel
theorem dX10_ofCell_1 : decode cX10_ofCell 1 = .ok (.tableswitch 182 99 121 #[137, 182, 182, 182, 182, 107, 182, 182, 117, 182, 182, 173, 182, 182, 182, 182, 182, 127, 182, 132, 147, 157, 165], 107) := by decide +kernel
theorem dX10_ofCell_108 : decode cX10_ofCell 108 = .ok (.aload_n 0, 1) := by decide +kernel
theorem dX10_ofCell_109 : decode cX10_ofCell 109 = .ok (.getfield 17, 3) := by decide +kernel
theorem dX10_ofCell_112 : decode cX10_ofCell 112 = .ok (.aload_n 0, 1) := by decide +kernel
theorem dX10_ofCell_113 : decode cX10_ofCell 113 = .ok (.getfield 304, 3) := by decide +kernel
theorem dX10_ofCell_116 : decode cX10_ofCell 116 = .ok (.iaload, 1) := by decide +kernel
theorem dX10_ofCell_117 : decode cX10_ofCell 117 = .ok (.ireturn, 1) := by decide +kernel
theorem dX10_ofCell_118 : decode cX10_ofCell 118 = .ok (.aload_n 0, 1) := by decide +kernel
theorem dX10_ofCell_119 : decode cX10_ofCell 119 = .ok (.getfield 21, 3) := by decide +kernel
theorem dX10_ofCell_122 : decode cX10_ofCell 122 = .ok (.aload_n 0, 1) := by decide +kernel
theorem dX10_ofCell_123 : decode cX10_ofCell 123 = .ok (.getfield 304, 3) := by decide +kernel
theorem dX10_ofCell_126 : decode cX10_ofCell 126 = .ok (.iaload, 1) := by decide +kernel
theorem dX10_ofCell_127 : decode cX10_ofCell 127 = .ok (.ireturn, 1) := by decide +kernel
theorem dX10_ofCell_128 : decode cX10_ofCell 128 = .ok (.aload_n 0, 1) := by decide +kernel
theorem dX10_ofCell_129 : decode cX10_ofCell 129 = .ok (.getfield 301, 3) := by decide +kernel
theorem dX10_ofCell_132 : decode cX10_ofCell 132 = .ok (.ireturn, 1) := by decide +kernel
theorem dX10_ofCell_133 : decode cX10_ofCell 133 = .ok (.aload_n 0, 1) := by decide +kernel
theorem dX10_ofCell_134 : decode cX10_ofCell 134 = .ok (.invokevirtual 307, 3) := by decide +kernel
theorem dX10_ofCell_137 : decode cX10_ofCell 137 = .ok (.ireturn, 1) := by decide +kernel
theorem dX10_ofCell_138 : decode cX10_ofCell 138 = .ok (.aload_n 0, 1) := by decide +kernel
theorem dX10_ofCell_139 : decode cX10_ofCell 139 = .ok (.getfield 24, 3) := by decide +kernel
theorem dX10_ofCell_142 : decode cX10_ofCell 142 = .ok (.aload_n 0, 1) := by decide +kernel
theorem dX10_ofCell_143 : decode cX10_ofCell 143 = .ok (.getfield 304, 3) := by decide +kernel
theorem dX10_ofCell_146 : decode cX10_ofCell 146 = .ok (.iaload, 1) := by decide +kernel
theorem dX10_ofCell_147 : decode cX10_ofCell 147 = .ok (.ireturn, 1) := by decide +kernel
theorem dX10_ofCell_148 : decode cX10_ofCell 148 = .ok (.aload_n 0, 1) := by decide +kernel
theorem dX10_ofCell_149 : decode cX10_ofCell 149 = .ok (.getfield 27, 3) := by decide +kernel
theorem dX10_ofCell_152 : decode cX10_ofCell 152 = .ok (.aload_n 0, 1) := by decide +kernel
theorem dX10_ofCell_153 : decode cX10_ofCell 153 = .ok (.getfield 304, 3) := by decide +kernel
theorem dX10_ofCell_156 : decode cX10_ofCell 156 = .ok (.iaload, 1) := by decide +kernel
theorem dX10_ofCell_157 : decode cX10_ofCell 157 = .ok (.ireturn, 1) := by decide +kernel
theorem dX10_ofCell_158 : decode cX10_ofCell 158 = .ok (.aload_n 0, 1) := by decide +kernel
theorem dX10_ofCell_159 : decode cX10_ofCell 159 = .ok (.getfield 304, 3) := by decide +kernel
theorem dX10_ofCell_162 : decode cX10_ofCell 162 = .ok (.bipush 12, 2) := by decide +kernel
theorem dX10_ofCell_164 : decode cX10_ofCell 164 = .ok (.irem, 1) := by decide +kernel
theorem dX10_ofCell_165 : decode cX10_ofCell 165 = .ok (.ireturn, 1) := by decide +kernel
theorem dX10_ofCell_166 : decode cX10_ofCell 166 = .ok (.aload_n 0, 1) := by decide +kernel
theorem dX10_ofCell_167 : decode cX10_ofCell 167 = .ok (.getfield 304, 3) := by decide +kernel
theorem dX10_ofCell_170 : decode cX10_ofCell 170 = .ok (.bipush 12, 2) := by decide +kernel
theorem dX10_ofCell_172 : decode cX10_ofCell 172 = .ok (.idiv, 1) := by decide +kernel
theorem dX10_ofCell_173 : decode cX10_ofCell 173 = .ok (.ireturn, 1) := by decide +kernel
theorem dX10_ofCell_174 : decode cX10_ofCell 174 = .ok (.aload_n 0, 1) := by decide +kernel
theorem dX10_ofCell_175 : decode cX10_ofCell 175 = .ok (.aload_n 0, 1) := by decide +kernel
theorem dX10_ofCell_176 : decode cX10_ofCell 176 = .ok (.getfield 304, 3) := by decide +kernel
theorem dX10_ofCell_179 : decode cX10_ofCell 179 = .ok (.invokevirtual 310, 3) := by decide +kernel
theorem dX10_ofCell_182 : decode cX10_ofCell 182 = .ok (.ireturn, 1) := by decide +kernel
theorem dX10_ofCell_183 : decode cX10_ofCell 183 = .ok (.aload_n 0, 1) := by decide +kernel
theorem dX10_ofCell_184 : decode cX10_ofCell 184 = .ok (.getfield 314, 3) := by decide +kernel
theorem dX10_ofCell_187 : decode cX10_ofCell 187 = .ok (.ireturn, 1) := by decide +kernel
theorem dX10_valueOf_0 : decode cX10_valueOf 0 = .ok (.iload_n 1, 1) := by decide +kernel
theorem dX10_valueOf_1 : decode cX10_valueOf 1 = .ok (.bipush 105, 2) := by decide +kernel
theorem dX10_valueOf_3 : decode cX10_valueOf 3 = .ok (.if_icmp .ne 8, 3) := by decide +kernel
theorem dX10_valueOf_6 : decode cX10_valueOf 6 = .ok (.aload_n 0, 1) := by decide +kernel
theorem dX10_valueOf_7 : decode cX10_valueOf 7 = .ok (.getfield 317, 3) := by decide +kernel
theorem dX10_valueOf_10 : decode cX10_valueOf 10 = .ok (.ireturn, 1) := by decide +kernel
theorem dX10_valueOf_11 : decode cX10_valueOf 11 = .ok (.iload_n 1, 1) := by decide +kernel
theorem dX10_valueOf_12 : decode cX10_valueOf 12 = .ok (.bipush 106, 2) := by decide +kernel
theorem dX10_valueOf_14 : decode cX10_valueOf 14 = .ok (.if_icmp .ne 8, 3) := by decide +kernel
theorem dX10_valueOf_17 : decode cX10_valueOf 17 = .ok (.aload_n 0, 1) := by decide +kernel
theorem dX10_valueOf_18 : decode cX10_valueOf 18 = .ok (.getfield 320, 3) := by decide +kernel
theorem dX10_valueOf_21 : decode cX10_valueOf 21 = .ok (.ireturn, 1) := by decide +kernel
theorem dX10_valueOf_22 : decode cX10_valueOf 22 = .ok (.iload_n 1, 1) := by decide +kernel
theorem dX10_valueOf_23 : decode cX10_valueOf 23 = .ok (.bipush 108, 2) := by decide +kernel
theorem dX10_valueOf_25 : decode cX10_valueOf 25 = .ok (.if_icmp .ne 8, 3) := by decide +kernel
theorem dX10_valueOf_28 : decode cX10_valueOf 28 = .ok (.aload_n 0, 1) := by decide +kernel
theorem dX10_valueOf_29 : decode cX10_valueOf 29 = .ok (.getfield 323, 3) := by decide +kernel
theorem dX10_valueOf_32 : decode cX10_valueOf 32 = .ok (.ireturn, 1) := by decide +kernel
theorem dX10_valueOf_33 : decode cX10_valueOf 33 = .ok (.aload_n 0, 1) := by decide +kernel
theorem dX10_valueOf_34 : decode cX10_valueOf 34 = .ok (.getfield 304, 3) := by decide +kernel
theorem dX10_valueOf_37 : decode cX10_valueOf 37 = .ok (.iconst (-1), 1) := by decide +kernel
theorem dX10_valueOf_38 : decode cX10_valueOf 38 = .ok (.if_icmp .ne 7, 3) := by decide +kernel
theorem dX10_valueOf_41 : decode cX10_valueOf 41 = .ok (.iconst 0, 1) := by decide +kernel
theorem dX10_valueOf_42 : decode cX10_valueOf 42 = .ok (.goto 8, 3) := by decide +kernel
theorem dX10_valueOf_45 : decode cX10_valueOf 45 = .ok (.aload_n 0, 1) := by decide +kernel
theorem dX10_valueOf_46 : decode cX10_valueOf 46 = .ok (.iload_n 1, 1) := by decide +kernel
theorem dX10_valueOf_47 : decode cX10_valueOf 47 = .ok (.invokevirtual 326, 3) := by decide +kernel
theorem dX10_valueOf_50 : decode cX10_valueOf 50 = .ok (.ireturn, 1) := by decide +kernel
theorem dX10_worked_0 : decode cX10_worked 0 = .ok (.iload_n 0, 1) := by decide +kernel
theorem dX10_worked_1 : decode cX10_worked 1 = .ok (.lookupswitch 125 #[(37, 91), (42, 75), (43, 67), (45, 71), (47, 79), (60, 103), (62, 114)], 67) := by decide +kernel
theorem dX10_worked_68 : decode cX10_worked 68 = .ok (.iload_n 1, 1) := by decide +kernel
theorem dX10_worked_69 : decode cX10_worked 69 = .ok (.iload_n 2, 1) := by decide +kernel
theorem dX10_worked_70 : decode cX10_worked 70 = .ok (.iadd, 1) := by decide +kernel
theorem dX10_worked_71 : decode cX10_worked 71 = .ok (.ireturn, 1) := by decide +kernel
theorem dX10_worked_72 : decode cX10_worked 72 = .ok (.iload_n 1, 1) := by decide +kernel
theorem dX10_worked_73 : decode cX10_worked 73 = .ok (.iload_n 2, 1) := by decide +kernel
theorem dX10_worked_74 : decode cX10_worked 74 = .ok (.isub, 1) := by decide +kernel
theorem dX10_worked_75 : decode cX10_worked 75 = .ok (.ireturn, 1) := by decide +kernel
theorem dX10_worked_76 : decode cX10_worked 76 = .ok (.iload_n 1, 1) := by decide +kernel
theorem dX10_worked_77 : decode cX10_worked 77 = .ok (.iload_n 2, 1) := by decide +kernel
theorem dX10_worked_78 : decode cX10_worked 78 = .ok (.imul, 1) := by decide +kernel
theorem dX10_worked_79 : decode cX10_worked 79 = .ok (.ireturn, 1) := by decide +kernel
theorem dX10_worked_80 : decode cX10_worked 80 = .ok (.iload_n 2, 1) := by decide +kernel
theorem dX10_worked_81 : decode cX10_worked 81 = .ok (.ifCond .ne 7, 3) := by decide +kernel
theorem dX10_worked_84 : decode cX10_worked 84 = .ok (.iconst 0, 1) := by decide +kernel
theorem dX10_worked_85 : decode cX10_worked 85 = .ok (.goto 6, 3) := by decide +kernel
theorem dX10_worked_88 : decode cX10_worked 88 = .ok (.iload_n 1, 1) := by decide +kernel
theorem dX10_worked_89 : decode cX10_worked 89 = .ok (.iload_n 2, 1) := by decide +kernel
theorem dX10_worked_90 : decode cX10_worked 90 = .ok (.idiv, 1) := by decide +kernel
theorem dX10_worked_91 : decode cX10_worked 91 = .ok (.ireturn, 1) := by decide +kernel
theorem dX10_worked_92 : decode cX10_worked 92 = .ok (.iload_n 2, 1) := by decide +kernel
theorem dX10_worked_93 : decode cX10_worked 93 = .ok (.ifCond .ne 7, 3) := by decide +kernel
theorem dX10_worked_96 : decode cX10_worked 96 = .ok (.iconst 0, 1) := by decide +kernel
theorem dX10_worked_97 : decode cX10_worked 97 = .ok (.goto 6, 3) := by decide +kernel
theorem dX10_worked_100 : decode cX10_worked 100 = .ok (.iload_n 1, 1) := by decide +kernel
theorem dX10_worked_101 : decode cX10_worked 101 = .ok (.iload_n 2, 1) := by decide +kernel
theorem dX10_worked_102 : decode cX10_worked 102 = .ok (.irem, 1) := by decide +kernel
theorem dX10_worked_103 : decode cX10_worked 103 = .ok (.ireturn, 1) := by decide +kernel
theorem dX10_worked_104 : decode cX10_worked 104 = .ok (.iload_n 1, 1) := by decide +kernel
theorem dX10_worked_105 : decode cX10_worked 105 = .ok (.iload_n 2, 1) := by decide +kernel
theorem dX10_worked_106 : decode cX10_worked 106 = .ok (.if_icmp .ge 7, 3) := by decide +kernel
theorem dX10_worked_109 : decode cX10_worked 109 = .ok (.iconst 1, 1) := by decide +kernel
theorem dX10_worked_110 : decode cX10_worked 110 = .ok (.goto 4, 3) := by decide +kernel
theorem dX10_worked_113 : decode cX10_worked 113 = .ok (.iconst 0, 1) := by decide +kernel
theorem dX10_worked_114 : decode cX10_worked 114 = .ok (.ireturn, 1) := by decide +kernel
theorem dX10_worked_115 : decode cX10_worked 115 = .ok (.iload_n 1, 1) := by decide +kernel
theorem dX10_worked_116 : decode cX10_worked 116 = .ok (.iload_n 2, 1) := by decide +kernel
theorem dX10_worked_117 : decode cX10_worked 117 = .ok (.if_icmp .le 7, 3) := by decide +kernel
theorem dX10_worked_120 : decode cX10_worked 120 = .ok (.iconst 1, 1) := by decide +kernel
theorem dX10_worked_121 : decode cX10_worked 121 = .ok (.goto 4, 3) := by decide +kernel
theorem dX10_worked_124 : decode cX10_worked 124 = .ok (.iconst 0, 1) := by decide +kernel
theorem dX10_worked_125 : decode cX10_worked 125 = .ok (.ireturn, 1) := by decide +kernel
theorem dX10_worked_126 : decode cX10_worked 126 = .ok (.iload_n 1, 1) := by decide +kernel
theorem dX10_worked_127 : decode cX10_worked 127 = .ok (.iload_n 2, 1) := by decide +kernel
theorem dX10_worked_128 : decode cX10_worked 128 = .ok (.if_icmp .ne 7, 3) := by decide +kernel
theorem dX10_worked_131 : decode cX10_worked 131 = .ok (.iconst 1, 1) := by decide +kernel
theorem dX10_worked_132 : decode cX10_worked 132 = .ok (.goto 4, 3) := by decide +kernel
theorem dX10_worked_135 : decode cX10_worked 135 = .ok (.iconst 0, 1) := by decide +kernel
theorem dX10_worked_136 : decode cX10_worked 136 = .ok (.ireturn, 1) := by decide +kernel
theorem dX10_does_0 : decode cX10_does 0 = .ok (.iload_n 2, 1) := by decide +kernel
theorem dX10_does_1 : decode cX10_does 1 = .ok (.iconst 1, 1) := by decide +kernel
theorem dX10_does_2 : decode cX10_does 2 = .ok (.iadd, 1) := by decide +kernel
theorem dX10_does_3 : decode cX10_does 3 = .ok (.istore_n 3, 1) := by decide +kernel
theorem dX10_does_4 : decode cX10_does 4 = .ok (.iload_n 1, 1) := by decide +kernel
theorem dX10_does_5 : decode cX10_does 5 = .ok (.bipush 38, 2) := by decide +kernel
theorem dX10_does_7 : decode cX10_does 7 = .ok (.if_icmp .eq 9, 3) := by decide +kernel
theorem dX10_does_10 : decode cX10_does 10 = .ok (.iload_n 1, 1) := by decide +kernel
theorem dX10_does_11 : decode cX10_does 11 = .ok (.bipush 124, 2) := by decide +kernel
theorem dX10_does_13 : decode cX10_does 13 = .ok (.if_icmp .ne 58, 3) := by decide +kernel
theorem dX10_does_16 : decode cX10_does 16 = .ok (.aload_n 0, 1) := by decide +kernel
theorem dX10_does_17 : decode cX10_does 17 = .ok (.getfield 75, 3) := by decide +kernel
theorem dX10_does_20 : decode cX10_does 20 = .ok (.iload_n 2, 1) := by decide +kernel
theorem dX10_does_21 : decode cX10_does 21 = .ok (.baload, 1) := by decide +kernel
theorem dX10_does_22 : decode cX10_does 22 = .ok (.ifCond .ne 23, 3) := by decide +kernel
theorem dX10_does_25 : decode cX10_does 25 = .ok (.aload_n 0, 1) := by decide +kernel
theorem dX10_does_26 : decode cX10_does 26 = .ok (.getfield 72, 3) := by decide +kernel
theorem dX10_does_29 : decode cX10_does 29 = .ok (.iload_n 2, 1) := by decide +kernel
theorem dX10_does_30 : decode cX10_does 30 = .ok (.iaload, 1) := by decide +kernel
theorem dX10_does_31 : decode cX10_does 31 = .ok (.iload_n 1, 1) := by decide +kernel
theorem dX10_does_32 : decode cX10_does 32 = .ok (.bipush 38, 2) := by decide +kernel
theorem dX10_does_34 : decode cX10_does 34 = .ok (.if_icmp .ne 7, 3) := by decide +kernel
theorem dX10_does_37 : decode cX10_does 37 = .ok (.iconst 1, 1) := by decide +kernel
theorem dX10_does_38 : decode cX10_does 38 = .ok (.goto 4, 3) := by decide +kernel
theorem dX10_does_41 : decode cX10_does 41 = .ok (.iconst 0, 1) := by decide +kernel
theorem dX10_does_42 : decode cX10_does 42 = .ok (.if_icmp .eq 4, 3) := by decide +kernel
theorem dX10_does_45 : decode cX10_does 45 = .ok (.return_, 1) := by decide +kernel
theorem dX10_does_46 : decode cX10_does 46 = .ok (.aload_n 0, 1) := by decide +kernel
theorem dX10_does_47 : decode cX10_does 47 = .ok (.getfield 72, 3) := by decide +kernel
theorem dX10_does_50 : decode cX10_does 50 = .ok (.iload_n 2, 1) := by decide +kernel
theorem dX10_does_51 : decode cX10_does 51 = .ok (.aload_n 0, 1) := by decide +kernel
theorem dX10_does_52 : decode cX10_does 52 = .ok (.getfield 72, 3) := by decide +kernel
theorem dX10_does_55 : decode cX10_does 55 = .ok (.iload_n 3, 1) := by decide +kernel
theorem dX10_does_56 : decode cX10_does 56 = .ok (.iaload, 1) := by decide +kernel
theorem dX10_does_57 : decode cX10_does 57 = .ok (.iastore, 1) := by decide +kernel
theorem dX10_does_58 : decode cX10_does 58 = .ok (.aload_n 0, 1) := by decide +kernel
theorem dX10_does_59 : decode cX10_does 59 = .ok (.getfield 75, 3) := by decide +kernel
theorem dX10_does_62 : decode cX10_does 62 = .ok (.iload_n 2, 1) := by decide +kernel
theorem dX10_does_63 : decode cX10_does 63 = .ok (.aload_n 0, 1) := by decide +kernel
theorem dX10_does_64 : decode cX10_does 64 = .ok (.getfield 75, 3) := by decide +kernel
theorem dX10_does_67 : decode cX10_does 67 = .ok (.iload_n 3, 1) := by decide +kernel
theorem dX10_does_68 : decode cX10_does 68 = .ok (.baload, 1) := by decide +kernel
theorem dX10_does_69 : decode cX10_does 69 = .ok (.bastore, 1) := by decide +kernel
theorem dX10_does_70 : decode cX10_does 70 = .ok (.return_, 1) := by decide +kernel
theorem dX10_does_71 : decode cX10_does 71 = .ok (.aload_n 0, 1) := by decide +kernel
theorem dX10_does_72 : decode cX10_does 72 = .ok (.getfield 75, 3) := by decide +kernel
theorem dX10_does_75 : decode cX10_does 75 = .ok (.iload_n 2, 1) := by decide +kernel
theorem dX10_does_76 : decode cX10_does 76 = .ok (.aload_n 0, 1) := by decide +kernel
theorem dX10_does_77 : decode cX10_does 77 = .ok (.getfield 75, 3) := by decide +kernel
theorem dX10_does_80 : decode cX10_does 80 = .ok (.iload_n 2, 1) := by decide +kernel
theorem dX10_does_81 : decode cX10_does 81 = .ok (.baload, 1) := by decide +kernel
theorem dX10_does_82 : decode cX10_does 82 = .ok (.ifCond .ne 33, 3) := by decide +kernel
theorem dX10_does_85 : decode cX10_does 85 = .ok (.aload_n 0, 1) := by decide +kernel
theorem dX10_does_86 : decode cX10_does 86 = .ok (.getfield 75, 3) := by decide +kernel
theorem dX10_does_89 : decode cX10_does 89 = .ok (.iload_n 3, 1) := by decide +kernel
theorem dX10_does_90 : decode cX10_does 90 = .ok (.baload, 1) := by decide +kernel
theorem dX10_does_91 : decode cX10_does 91 = .ok (.ifCond .ne 24, 3) := by decide +kernel
theorem dX10_does_94 : decode cX10_does 94 = .ok (.iload_n 1, 1) := by decide +kernel
theorem dX10_does_95 : decode cX10_does 95 = .ok (.bipush 47, 2) := by decide +kernel
theorem dX10_does_97 : decode cX10_does 97 = .ok (.if_icmp .eq 9, 3) := by decide +kernel
theorem dX10_does_100 : decode cX10_does 100 = .ok (.iload_n 1, 1) := by decide +kernel
theorem dX10_does_101 : decode cX10_does 101 = .ok (.bipush 37, 2) := by decide +kernel
theorem dX10_does_103 : decode cX10_does 103 = .ok (.if_icmp .ne 16, 3) := by decide +kernel
theorem dX10_does_106 : decode cX10_does 106 = .ok (.aload_n 0, 1) := by decide +kernel
theorem dX10_does_107 : decode cX10_does 107 = .ok (.getfield 72, 3) := by decide +kernel
theorem dX10_does_110 : decode cX10_does 110 = .ok (.iload_n 3, 1) := by decide +kernel
theorem dX10_does_111 : decode cX10_does 111 = .ok (.iaload, 1) := by decide +kernel
theorem dX10_does_112 : decode cX10_does 112 = .ok (.ifCond .ne 7, 3) := by decide +kernel
theorem dX10_does_115 : decode cX10_does 115 = .ok (.iconst 1, 1) := by decide +kernel
theorem dX10_does_116 : decode cX10_does 116 = .ok (.goto 4, 3) := by decide +kernel
theorem dX10_does_119 : decode cX10_does 119 = .ok (.iconst 0, 1) := by decide +kernel
theorem dX10_does_120 : decode cX10_does 120 = .ok (.bastore, 1) := by decide +kernel
theorem dX10_does_121 : decode cX10_does 121 = .ok (.aload_n 0, 1) := by decide +kernel
theorem dX10_does_122 : decode cX10_does 122 = .ok (.getfield 72, 3) := by decide +kernel
theorem dX10_does_125 : decode cX10_does 125 = .ok (.iload_n 2, 1) := by decide +kernel
theorem dX10_does_126 : decode cX10_does 126 = .ok (.iload_n 1, 1) := by decide +kernel
theorem dX10_does_127 : decode cX10_does 127 = .ok (.aload_n 0, 1) := by decide +kernel
theorem dX10_does_128 : decode cX10_does 128 = .ok (.getfield 72, 3) := by decide +kernel
theorem dX10_does_131 : decode cX10_does 131 = .ok (.iload_n 2, 1) := by decide +kernel
theorem dX10_does_132 : decode cX10_does 132 = .ok (.iaload, 1) := by decide +kernel
theorem dX10_does_133 : decode cX10_does 133 = .ok (.aload_n 0, 1) := by decide +kernel
theorem dX10_does_134 : decode cX10_does 134 = .ok (.getfield 72, 3) := by decide +kernel
theorem dX10_does_137 : decode cX10_does 137 = .ok (.iload_n 3, 1) := by decide +kernel
theorem dX10_does_138 : decode cX10_does 138 = .ok (.iaload, 1) := by decide +kernel
theorem dX10_does_139 : decode cX10_does 139 = .ok (.invokestatic 329, 3) := by decide +kernel
theorem dX10_does_142 : decode cX10_does 142 = .ok (.iastore, 1) := by decide +kernel
theorem dX10_does_143 : decode cX10_does 143 = .ok (.return_, 1) := by decide +kernel
theorem dX10_goesThrough_0 : decode cX10_goesThrough 0 = .ok (.iconst 0, 1) := by decide +kernel
theorem dX10_goesThrough_1 : decode cX10_goesThrough 1 = .ok (.istore_n 3, 1) := by decide +kernel
theorem dX10_goesThrough_2 : decode cX10_goesThrough 2 = .ok (.iload_n 1, 1) := by decide +kernel
theorem dX10_goesThrough_3 : decode cX10_goesThrough 3 = .ok (.istore 4, 2) := by decide +kernel
theorem dX10_goesThrough_5 : decode cX10_goesThrough 5 = .ok (.iload 4, 2) := by decide +kernel
theorem dX10_goesThrough_7 : decode cX10_goesThrough 7 = .ok (.iload_n 2, 1) := by decide +kernel
theorem dX10_goesThrough_8 : decode cX10_goesThrough 8 = .ok (.if_icmp .ge 119, 3) := by decide +kernel
theorem dX10_goesThrough_11 : decode cX10_goesThrough 11 = .ok (.aload_n 0, 1) := by decide +kernel
theorem dX10_goesThrough_12 : decode cX10_goesThrough 12 = .ok (.getfield 45, 3) := by decide +kernel
theorem dX10_goesThrough_15 : decode cX10_goesThrough 15 = .ok (.iload 4, 2) := by decide +kernel
theorem dX10_goesThrough_17 : decode cX10_goesThrough 17 = .ok (.iaload, 1) := by decide +kernel
theorem dX10_goesThrough_18 : decode cX10_goesThrough 18 = .ok (.iconst 2, 1) := by decide +kernel
theorem dX10_goesThrough_19 : decode cX10_goesThrough 19 = .ok (.if_icmp .le 23, 3) := by decide +kernel
theorem dX10_goesThrough_22 : decode cX10_goesThrough 22 = .ok (.iinc 3 (-1), 3) := by decide +kernel
theorem dX10_goesThrough_25 : decode cX10_goesThrough 25 = .ok (.aload_n 0, 1) := by decide +kernel
theorem dX10_goesThrough_26 : decode cX10_goesThrough 26 = .ok (.aload_n 0, 1) := by decide +kernel
theorem dX10_goesThrough_27 : decode cX10_goesThrough 27 = .ok (.getfield 45, 3) := by decide +kernel
theorem dX10_goesThrough_30 : decode cX10_goesThrough 30 = .ok (.iload 4, 2) := by decide +kernel
theorem dX10_goesThrough_32 : decode cX10_goesThrough 32 = .ok (.iaload, 1) := by decide +kernel
theorem dX10_goesThrough_33 : decode cX10_goesThrough 33 = .ok (.iload_n 3, 1) := by decide +kernel
theorem dX10_goesThrough_34 : decode cX10_goesThrough 34 = .ok (.iconst 1, 1) := by decide +kernel
theorem dX10_goesThrough_35 : decode cX10_goesThrough 35 = .ok (.isub, 1) := by decide +kernel
theorem dX10_goesThrough_36 : decode cX10_goesThrough 36 = .ok (.invokevirtual 333, 3) := by decide +kernel
theorem dX10_goesThrough_39 : decode cX10_goesThrough 39 = .ok (.goto 82, 3) := by decide +kernel
theorem dX10_goesThrough_42 : decode cX10_goesThrough 42 = .ok (.aload_n 0, 1) := by decide +kernel
theorem dX10_goesThrough_43 : decode cX10_goesThrough 43 = .ok (.getfield 45, 3) := by decide +kernel
theorem dX10_goesThrough_46 : decode cX10_goesThrough 46 = .ok (.iload 4, 2) := by decide +kernel
theorem dX10_goesThrough_48 : decode cX10_goesThrough 48 = .ok (.iaload, 1) := by decide +kernel
theorem dX10_goesThrough_49 : decode cX10_goesThrough 49 = .ok (.iconst 2, 1) := by decide +kernel
theorem dX10_goesThrough_50 : decode cX10_goesThrough 50 = .ok (.if_icmp .ne 24, 3) := by decide +kernel
theorem dX10_goesThrough_53 : decode cX10_goesThrough 53 = .ok (.aload_n 0, 1) := by decide +kernel
theorem dX10_goesThrough_54 : decode cX10_goesThrough 54 = .ok (.getfield 72, 3) := by decide +kernel
theorem dX10_goesThrough_57 : decode cX10_goesThrough 57 = .ok (.iload_n 3, 1) := by decide +kernel
theorem dX10_goesThrough_58 : decode cX10_goesThrough 58 = .ok (.iconst 1, 1) := by decide +kernel
theorem dX10_goesThrough_59 : decode cX10_goesThrough 59 = .ok (.isub, 1) := by decide +kernel
theorem dX10_goesThrough_60 : decode cX10_goesThrough 60 = .ok (.iconst 1, 1) := by decide +kernel
theorem dX10_goesThrough_61 : decode cX10_goesThrough 61 = .ok (.aload_n 0, 1) := by decide +kernel
theorem dX10_goesThrough_62 : decode cX10_goesThrough 62 = .ok (.getfield 72, 3) := by decide +kernel
theorem dX10_goesThrough_65 : decode cX10_goesThrough 65 = .ok (.iload_n 3, 1) := by decide +kernel
theorem dX10_goesThrough_66 : decode cX10_goesThrough 66 = .ok (.iconst 1, 1) := by decide +kernel
theorem dX10_goesThrough_67 : decode cX10_goesThrough 67 = .ok (.isub, 1) := by decide +kernel
theorem dX10_goesThrough_68 : decode cX10_goesThrough 68 = .ok (.iaload, 1) := by decide +kernel
theorem dX10_goesThrough_69 : decode cX10_goesThrough 69 = .ok (.isub, 1) := by decide +kernel
theorem dX10_goesThrough_70 : decode cX10_goesThrough 70 = .ok (.iastore, 1) := by decide +kernel
theorem dX10_goesThrough_71 : decode cX10_goesThrough 71 = .ok (.goto 50, 3) := by decide +kernel
theorem dX10_goesThrough_74 : decode cX10_goesThrough 74 = .ok (.aload_n 0, 1) := by decide +kernel
theorem dX10_goesThrough_75 : decode cX10_goesThrough 75 = .ok (.getfield 75, 3) := by decide +kernel
theorem dX10_goesThrough_78 : decode cX10_goesThrough 78 = .ok (.iload_n 3, 1) := by decide +kernel
theorem dX10_goesThrough_79 : decode cX10_goesThrough 79 = .ok (.iconst 0, 1) := by decide +kernel
theorem dX10_goesThrough_80 : decode cX10_goesThrough 80 = .ok (.bastore, 1) := by decide +kernel
theorem dX10_goesThrough_81 : decode cX10_goesThrough 81 = .ok (.aload_n 0, 1) := by decide +kernel
theorem dX10_goesThrough_82 : decode cX10_goesThrough 82 = .ok (.getfield 72, 3) := by decide +kernel
theorem dX10_goesThrough_85 : decode cX10_goesThrough 85 = .ok (.iload_n 3, 1) := by decide +kernel
theorem dX10_goesThrough_86 : decode cX10_goesThrough 86 = .ok (.aload_n 0, 1) := by decide +kernel
theorem dX10_goesThrough_87 : decode cX10_goesThrough 87 = .ok (.getfield 45, 3) := by decide +kernel
theorem dX10_goesThrough_90 : decode cX10_goesThrough 90 = .ok (.iload 4, 2) := by decide +kernel
theorem dX10_goesThrough_92 : decode cX10_goesThrough 92 = .ok (.iaload, 1) := by decide +kernel
theorem dX10_goesThrough_93 : decode cX10_goesThrough 93 = .ok (.ifCond .ne 13, 3) := by decide +kernel
theorem dX10_goesThrough_96 : decode cX10_goesThrough 96 = .ok (.aload_n 0, 1) := by decide +kernel
theorem dX10_goesThrough_97 : decode cX10_goesThrough 97 = .ok (.getfield 48, 3) := by decide +kernel
theorem dX10_goesThrough_100 : decode cX10_goesThrough 100 = .ok (.iload 4, 2) := by decide +kernel
theorem dX10_goesThrough_102 : decode cX10_goesThrough 102 = .ok (.iaload, 1) := by decide +kernel
theorem dX10_goesThrough_103 : decode cX10_goesThrough 103 = .ok (.goto 14, 3) := by decide +kernel
theorem dX10_goesThrough_106 : decode cX10_goesThrough 106 = .ok (.aload_n 0, 1) := by decide +kernel
theorem dX10_goesThrough_107 : decode cX10_goesThrough 107 = .ok (.aload_n 0, 1) := by decide +kernel
theorem dX10_goesThrough_108 : decode cX10_goesThrough 108 = .ok (.getfield 48, 3) := by decide +kernel
theorem dX10_goesThrough_111 : decode cX10_goesThrough 111 = .ok (.iload 4, 2) := by decide +kernel
theorem dX10_goesThrough_113 : decode cX10_goesThrough 113 = .ok (.iaload, 1) := by decide +kernel
theorem dX10_goesThrough_114 : decode cX10_goesThrough 114 = .ok (.invokevirtual 336, 3) := by decide +kernel
theorem dX10_goesThrough_117 : decode cX10_goesThrough 117 = .ok (.iastore, 1) := by decide +kernel
theorem dX10_goesThrough_118 : decode cX10_goesThrough 118 = .ok (.iinc 3 1, 3) := by decide +kernel
theorem dX10_goesThrough_121 : decode cX10_goesThrough 121 = .ok (.iinc 4 1, 3) := by decide +kernel
