theorem dX10_dam_66 : decode cX10_dam 66 = .ok (.invokevirtual 401, 3) := by decide +kernel
theorem dX10_dam_69 : decode cX10_dam 69 = .ok (.aload_n 0, 1) := by decide +kernel
theorem dX10_dam_70 : decode cX10_dam 70 = .ok (.getfield 24, 3) := by decide +kernel
theorem dX10_dam_73 : decode cX10_dam 73 = .ok (.iload_n 1, 1) := by decide +kernel
theorem dX10_dam_74 : decode cX10_dam 74 = .ok (.iaload, 1) := by decide +kernel
theorem dX10_dam_75 : decode cX10_dam 75 = .ok (.istore 7, 2) := by decide +kernel
theorem dX10_dam_77 : decode cX10_dam 77 = .ok (.aload_n 0, 1) := by decide +kernel
theorem dX10_dam_78 : decode cX10_dam 78 = .ok (.iconst 0, 1) := by decide +kernel
theorem dX10_dam_79 : decode cX10_dam 79 = .ok (.invokevirtual 394, 3) := by decide +kernel
theorem dX10_dam_82 : decode cX10_dam 82 = .ok (.iload 4, 2) := by decide +kernel
theorem dX10_dam_84 : decode cX10_dam 84 = .ok (.iconst (-1), 1) := by decide +kernel
theorem dX10_dam_85 : decode cX10_dam 85 = .ok (.if_icmp .eq 13, 3) := by decide +kernel
theorem dX10_dam_88 : decode cX10_dam 88 = .ok (.iload 7, 2) := by decide +kernel
theorem dX10_dam_90 : decode cX10_dam 90 = .ok (.iload 5, 2) := by decide +kernel
theorem dX10_dam_92 : decode cX10_dam 92 = .ok (.if_icmp .lt 6, 3) := by decide +kernel
theorem dX10_dam_95 : decode cX10_dam 95 = .ok (.goto 11, 3) := by decide +kernel
theorem dX10_dam_98 : decode cX10_dam 98 = .ok (.iload 6, 2) := by decide +kernel
theorem dX10_dam_100 : decode cX10_dam 100 = .ok (.istore 4, 2) := by decide +kernel
theorem dX10_dam_102 : decode cX10_dam 102 = .ok (.iload 7, 2) := by decide +kernel
theorem dX10_dam_104 : decode cX10_dam 104 = .ok (.istore 5, 2) := by decide +kernel
theorem dX10_dam_106 : decode cX10_dam 106 = .ok (.iinc 6 1, 3) := by decide +kernel
theorem dX10_dam_109 : decode cX10_dam 109 = .ok (.goto (-64), 3) := by decide +kernel
theorem dX10_dam_112 : decode cX10_dam 112 = .ok (.iload_n 3, 1) := by decide +kernel
theorem dX10_dam_113 : decode cX10_dam 113 = .ok (.ifCond .ne 8, 3) := by decide +kernel
theorem dX10_dam_116 : decode cX10_dam 116 = .ok (.iload 4, 2) := by decide +kernel
theorem dX10_dam_118 : decode cX10_dam 118 = .ok (.goto 5, 3) := by decide +kernel
theorem dX10_dam_121 : decode cX10_dam 121 = .ok (.iload 5, 2) := by decide +kernel
theorem dX10_dam_123 : decode cX10_dam 123 = .ok (.ireturn, 1) := by decide +kernel
theorem dX10_isNode_0 : decode cX10_isNode 0 = .ok (.iload_n 0, 1) := by decide +kernel
theorem dX10_isNode_1 : decode cX10_isNode 1 = .ok (.i2l, 1) := by decide +kernel
theorem dX10_isNode_2 : decode cX10_isNode 2 = .ok (.lconst 0, 1) := by decide +kernel
theorem dX10_isNode_3 : decode cX10_isNode 3 = .ok (.ldc2_w 179, 3) := by decide +kernel
theorem dX10_isNode_6 : decode cX10_isNode 6 = .ok (.invokestatic 154, 3) := by decide +kernel
theorem dX10_isNode_9 : decode cX10_isNode 9 = .ok (.ireturn, 1) := by decide +kernel
theorem dX10_road_0 : decode cX10_road 0 = .ok (.iload_n 1, 1) := by decide +kernel
theorem dX10_road_1 : decode cX10_road 1 = .ok (.i2l, 1) := by decide +kernel
theorem dX10_road_2 : decode cX10_road 2 = .ok (.lconst 0, 1) := by decide +kernel
theorem dX10_road_3 : decode cX10_road 3 = .ok (.ldc2_w 408, 3) := by decide +kernel
theorem dX10_road_6 : decode cX10_road 6 = .ok (.invokestatic 154, 3) := by decide +kernel
theorem dX10_road_9 : decode cX10_road 9 = .ok (.ifCond .eq 48, 3) := by decide +kernel
theorem dX10_road_12 : decode cX10_road 12 = .ok (.iload_n 2, 1) := by decide +kernel
theorem dX10_road_13 : decode cX10_road 13 = .ok (.invokestatic 410, 3) := by decide +kernel
theorem dX10_road_16 : decode cX10_road 16 = .ok (.ifCond .eq 41, 3) := by decide +kernel
theorem dX10_road_19 : decode cX10_road 19 = .ok (.iload_n 3, 1) := by decide +kernel
theorem dX10_road_20 : decode cX10_road 20 = .ok (.invokestatic 410, 3) := by decide +kernel
theorem dX10_road_23 : decode cX10_road 23 = .ok (.ifCond .eq 34, 3) := by decide +kernel
theorem dX10_road_26 : decode cX10_road 26 = .ok (.iload_n 2, 1) := by decide +kernel
theorem dX10_road_27 : decode cX10_road 27 = .ok (.iload_n 3, 1) := by decide +kernel
theorem dX10_road_28 : decode cX10_road 28 = .ok (.if_icmp .eq 29, 3) := by decide +kernel
theorem dX10_road_31 : decode cX10_road 31 = .ok (.iload 4, 2) := by decide +kernel
theorem dX10_road_33 : decode cX10_road 33 = .ok (.i2l, 1) := by decide +kernel
theorem dX10_road_34 : decode cX10_road 34 = .ok (.lconst 1, 1) := by decide +kernel
theorem dX10_road_35 : decode cX10_road 35 = .ok (.ldc2_w 170, 3) := by decide +kernel
theorem dX10_road_38 : decode cX10_road 38 = .ok (.invokestatic 154, 3) := by decide +kernel
theorem dX10_road_41 : decode cX10_road 41 = .ok (.ifCond .eq 16, 3) := by decide +kernel
theorem dX10_road_44 : decode cX10_road 44 = .ok (.iload 5, 2) := by decide +kernel
theorem dX10_road_46 : decode cX10_road 46 = .ok (.i2l, 1) := by decide +kernel
theorem dX10_road_47 : decode cX10_road 47 = .ok (.lconst 0, 1) := by decide +kernel
theorem dX10_road_48 : decode cX10_road 48 = .ok (.ldc2_w 404, 3) := by decide +kernel
theorem dX10_road_51 : decode cX10_road 51 = .ok (.invokestatic 154, 3) := by decide +kernel
theorem dX10_road_54 : decode cX10_road 54 = .ok (.ifCond .ne 5, 3) := by decide +kernel
theorem dX10_road_57 : decode cX10_road 57 = .ok (.iconst 0, 1) := by decide +kernel
theorem dX10_road_58 : decode cX10_road 58 = .ok (.ireturn, 1) := by decide +kernel
theorem dX10_road_59 : decode cX10_road 59 = .ok (.aload_n 0, 1) := by decide +kernel
theorem dX10_road_60 : decode cX10_road 60 = .ok (.getfield 113, 3) := by decide +kernel
theorem dX10_road_63 : decode cX10_road 63 = .ok (.iload_n 1, 1) := by decide +kernel
theorem dX10_road_64 : decode cX10_road 64 = .ok (.iconst 1, 1) := by decide +kernel
theorem dX10_road_65 : decode cX10_road 65 = .ok (.bastore, 1) := by decide +kernel
theorem dX10_road_66 : decode cX10_road 66 = .ok (.aload_n 0, 1) := by decide +kernel
theorem dX10_road_67 : decode cX10_road 67 = .ok (.getfield 116, 3) := by decide +kernel
theorem dX10_road_70 : decode cX10_road 70 = .ok (.iload_n 1, 1) := by decide +kernel
theorem dX10_road_71 : decode cX10_road 71 = .ok (.iload_n 2, 1) := by decide +kernel
theorem dX10_road_72 : decode cX10_road 72 = .ok (.iastore, 1) := by decide +kernel
theorem dX10_road_73 : decode cX10_road 73 = .ok (.aload_n 0, 1) := by decide +kernel
theorem dX10_road_74 : decode cX10_road 74 = .ok (.getfield 119, 3) := by decide +kernel
theorem dX10_road_77 : decode cX10_road 77 = .ok (.iload_n 1, 1) := by decide +kernel
theorem dX10_road_78 : decode cX10_road 78 = .ok (.iload_n 3, 1) := by decide +kernel
theorem dX10_road_79 : decode cX10_road 79 = .ok (.iastore, 1) := by decide +kernel
theorem dX10_road_80 : decode cX10_road 80 = .ok (.aload_n 0, 1) := by decide +kernel
theorem dX10_road_81 : decode cX10_road 81 = .ok (.getfield 122, 3) := by decide +kernel
theorem dX10_road_84 : decode cX10_road 84 = .ok (.iload_n 1, 1) := by decide +kernel
theorem dX10_road_85 : decode cX10_road 85 = .ok (.iload 4, 2) := by decide +kernel
theorem dX10_road_87 : decode cX10_road 87 = .ok (.iastore, 1) := by decide +kernel
theorem dX10_road_88 : decode cX10_road 88 = .ok (.aload_n 0, 1) := by decide +kernel
theorem dX10_road_89 : decode cX10_road 89 = .ok (.getfield 125, 3) := by decide +kernel
theorem dX10_road_92 : decode cX10_road 92 = .ok (.iload_n 1, 1) := by decide +kernel
theorem dX10_road_93 : decode cX10_road 93 = .ok (.iload 5, 2) := by decide +kernel
theorem dX10_road_95 : decode cX10_road 95 = .ok (.iastore, 1) := by decide +kernel
theorem dX10_road_96 : decode cX10_road 96 = .ok (.iconst 1, 1) := by decide +kernel
theorem dX10_road_97 : decode cX10_road 97 = .ok (.ireturn, 1) := by decide +kernel
theorem dX10_laysYards_0 : decode cX10_laysYards 0 = .ok (.aload_n 0, 1) := by decide +kernel
theorem dX10_laysYards_1 : decode cX10_laysYards 1 = .ok (.iconst 0, 1) := by decide +kernel
theorem dX10_laysYards_2 : decode cX10_laysYards 2 = .ok (.invokevirtual 388, 3) := by decide +kernel
theorem dX10_laysYards_5 : decode cX10_laysYards 5 = .ok (.iconst 0, 1) := by decide +kernel
theorem dX10_laysYards_6 : decode cX10_laysYards 6 = .ok (.istore_n 1, 1) := by decide +kernel
theorem dX10_laysYards_7 : decode cX10_laysYards 7 = .ok (.iload_n 1, 1) := by decide +kernel
theorem dX10_laysYards_8 : decode cX10_laysYards 8 = .ok (.bipush 30, 2) := by decide +kernel
theorem dX10_laysYards_10 : decode cX10_laysYards 10 = .ok (.if_icmp .ge 61, 3) := by decide +kernel
theorem dX10_laysYards_13 : decode cX10_laysYards 13 = .ok (.iconst 0, 1) := by decide +kernel
theorem dX10_laysYards_14 : decode cX10_laysYards 14 = .ok (.istore_n 2, 1) := by decide +kernel
theorem dX10_laysYards_15 : decode cX10_laysYards 15 = .ok (.iload_n 2, 1) := by decide +kernel
theorem dX10_laysYards_16 : decode cX10_laysYards 16 = .ok (.bipush 20, 2) := by decide +kernel
theorem dX10_laysYards_18 : decode cX10_laysYards 18 = .ok (.if_icmp .ge 43, 3) := by decide +kernel
theorem dX10_laysYards_21 : decode cX10_laysYards 21 = .ok (.aload_n 0, 1) := by decide +kernel
theorem dX10_laysYards_22 : decode cX10_laysYards 22 = .ok (.getfield 128, 3) := by decide +kernel
theorem dX10_laysYards_25 : decode cX10_laysYards 25 = .ok (.bipush 30, 2) := by decide +kernel
theorem dX10_laysYards_27 : decode cX10_laysYards 27 = .ok (.iload_n 2, 1) := by decide +kernel
theorem dX10_laysYards_28 : decode cX10_laysYards 28 = .ok (.imul, 1) := by decide +kernel
theorem dX10_laysYards_29 : decode cX10_laysYards 29 = .ok (.iload_n 1, 1) := by decide +kernel
theorem dX10_laysYards_30 : decode cX10_laysYards 30 = .ok (.iadd, 1) := by decide +kernel
theorem dX10_laysYards_31 : decode cX10_laysYards 31 = .ok (.aload_n 0, 1) := by decide +kernel
theorem dX10_laysYards_32 : decode cX10_laysYards 32 = .ok (.getfield 113, 3) := by decide +kernel
theorem dX10_laysYards_35 : decode cX10_laysYards 35 = .ok (.iload_n 2, 1) := by decide +kernel
theorem dX10_laysYards_36 : decode cX10_laysYards 36 = .ok (.baload, 1) := by decide +kernel
theorem dX10_laysYards_37 : decode cX10_laysYards 37 = .ok (.ifCond .eq 16, 3) := by decide +kernel
theorem dX10_laysYards_40 : decode cX10_laysYards 40 = .ok (.aload_n 0, 1) := by decide +kernel
theorem dX10_laysYards_41 : decode cX10_laysYards 41 = .ok (.aload_n 0, 1) := by decide +kernel
theorem dX10_laysYards_42 : decode cX10_laysYards 42 = .ok (.getfield 125, 3) := by decide +kernel
theorem dX10_laysYards_45 : decode cX10_laysYards 45 = .ok (.iload_n 2, 1) := by decide +kernel
theorem dX10_laysYards_46 : decode cX10_laysYards 46 = .ok (.iaload, 1) := by decide +kernel
theorem dX10_laysYards_47 : decode cX10_laysYards 47 = .ok (.invokevirtual 379, 3) := by decide +kernel
theorem dX10_laysYards_50 : decode cX10_laysYards 50 = .ok (.goto 4, 3) := by decide +kernel
theorem dX10_laysYards_53 : decode cX10_laysYards 53 = .ok (.iconst 0, 1) := by decide +kernel
theorem dX10_laysYards_54 : decode cX10_laysYards 54 = .ok (.iastore, 1) := by decide +kernel
theorem dX10_laysYards_55 : decode cX10_laysYards 55 = .ok (.iinc 2 1, 3) := by decide +kernel
theorem dX10_laysYards_58 : decode cX10_laysYards 58 = .ok (.goto (-43), 3) := by decide +kernel
theorem dX10_laysYards_61 : decode cX10_laysYards 61 = .ok (.aload_n 0, 1) := by decide +kernel
theorem dX10_laysYards_62 : decode cX10_laysYards 62 = .ok (.invokevirtual 376, 3) := by decide +kernel
theorem dX10_laysYards_65 : decode cX10_laysYards 65 = .ok (.iinc 1 1, 3) := by decide +kernel
theorem dX10_laysYards_68 : decode cX10_laysYards 68 = .ok (.goto (-61), 3) := by decide +kernel
theorem dX10_laysYards_71 : decode cX10_laysYards 71 = .ok (.aload_n 0, 1) := by decide +kernel
theorem dX10_laysYards_72 : decode cX10_laysYards 72 = .ok (.iconst 0, 1) := by decide +kernel
theorem dX10_laysYards_73 : decode cX10_laysYards 73 = .ok (.invokevirtual 394, 3) := by decide +kernel
theorem dX10_laysYards_76 : decode cX10_laysYards 76 = .ok (.return_, 1) := by decide +kernel
theorem dX10_outOf_0 : decode cX10_outOf 0 = .ok (.iload_n 2, 1) := by decide +kernel
theorem dX10_outOf_1 : decode cX10_outOf 1 = .ok (.sipush 300, 3) := by decide +kernel
theorem dX10_outOf_4 : decode cX10_outOf 4 = .ok (.if_icmp .ge 20, 3) := by decide +kernel
theorem dX10_outOf_7 : decode cX10_outOf 7 = .ok (.aload_n 0, 1) := by decide +kernel
theorem dX10_outOf_8 : decode cX10_outOf 8 = .ok (.getfield 128, 3) := by decide +kernel
theorem dX10_outOf_11 : decode cX10_outOf 11 = .ok (.bipush 30, 2) := by decide +kernel
theorem dX10_outOf_13 : decode cX10_outOf 13 = .ok (.iload_n 1, 1) := by decide +kernel
theorem dX10_outOf_14 : decode cX10_outOf 14 = .ok (.imul, 1) := by decide +kernel
theorem dX10_outOf_15 : decode cX10_outOf 15 = .ok (.iload_n 2, 1) := by decide +kernel
theorem dX10_outOf_16 : decode cX10_outOf 16 = .ok (.bipush 10, 2) := by decide +kernel
theorem dX10_outOf_18 : decode cX10_outOf 18 = .ok (.idiv, 1) := by decide +kernel
theorem dX10_outOf_19 : decode cX10_outOf 19 = .ok (.iadd, 1) := by decide +kernel
theorem dX10_outOf_20 : decode cX10_outOf 20 = .ok (.iaload, 1) := by decide +kernel
theorem dX10_outOf_21 : decode cX10_outOf 21 = .ok (.goto 4, 3) := by decide +kernel
theorem dX10_outOf_24 : decode cX10_outOf 24 = .ok (.iconst 0, 1) := by decide +kernel
theorem dX10_outOf_25 : decode cX10_outOf 25 = .ok (.istore_n 3, 1) := by decide +kernel
theorem dX10_outOf_26 : decode cX10_outOf 26 = .ok (.iload_n 3, 1) := by decide +kernel
theorem dX10_outOf_27 : decode cX10_outOf 27 = .ok (.ifCond .ne 9, 3) := by decide +kernel
theorem dX10_outOf_30 : decode cX10_outOf 30 = .ok (.ldc_w 413, 3) := by decide +kernel
theorem dX10_outOf_33 : decode cX10_outOf 33 = .ok (.goto 20, 3) := by decide +kernel
theorem dX10_outOf_36 : decode cX10_outOf 36 = .ok (.iload_n 2, 1) := by decide +kernel
theorem dX10_outOf_37 : decode cX10_outOf 37 = .ok (.bipush 100, 2) := by decide +kernel
theorem dX10_outOf_39 : decode cX10_outOf 39 = .ok (.aload_n 0, 1) := by decide +kernel
theorem dX10_outOf_40 : decode cX10_outOf 40 = .ok (.getfield 122, 3) := by decide +kernel
theorem dX10_outOf_43 : decode cX10_outOf 43 = .ok (.iload_n 1, 1) := by decide +kernel
theorem dX10_outOf_44 : decode cX10_outOf 44 = .ok (.iaload, 1) := by decide +kernel
theorem dX10_outOf_45 : decode cX10_outOf 45 = .ok (.imul, 1) := by decide +kernel
theorem dX10_outOf_46 : decode cX10_outOf 46 = .ok (.iload_n 3, 1) := by decide +kernel
theorem dX10_outOf_47 : decode cX10_outOf 47 = .ok (.iadd, 1) := by decide +kernel
theorem dX10_outOf_48 : decode cX10_outOf 48 = .ok (.iconst 1, 1) := by decide +kernel
theorem dX10_outOf_49 : decode cX10_outOf 49 = .ok (.isub, 1) := by decide +kernel
theorem dX10_outOf_50 : decode cX10_outOf 50 = .ok (.iload_n 3, 1) := by decide +kernel
theorem dX10_outOf_51 : decode cX10_outOf 51 = .ok (.idiv, 1) := by decide +kernel
theorem dX10_outOf_52 : decode cX10_outOf 52 = .ok (.iadd, 1) := by decide +kernel
theorem dX10_outOf_53 : decode cX10_outOf 53 = .ok (.ireturn, 1) := by decide +kernel
theorem dX10_arrives_0 : decode cX10_arrives 0 = .ok (.iload_n 2, 1) := by decide +kernel
theorem dX10_arrives_1 : decode cX10_arrives 1 = .ok (.sipush 300, 3) := by decide +kernel
theorem dX10_arrives_4 : decode cX10_arrives 4 = .ok (.if_icmp .gt 15, 3) := by decide +kernel
theorem dX10_arrives_7 : decode cX10_arrives 7 = .ok (.aload_n 0, 1) := by decide +kernel
theorem dX10_arrives_8 : decode cX10_arrives 8 = .ok (.getfield 131, 3) := by decide +kernel
theorem dX10_arrives_11 : decode cX10_arrives 11 = .ok (.bipush 10, 2) := by decide +kernel
theorem dX10_arrives_13 : decode cX10_arrives 13 = .ok (.iload_n 2, 1) := by decide +kernel
theorem dX10_arrives_14 : decode cX10_arrives 14 = .ok (.imul, 1) := by decide +kernel
theorem dX10_arrives_15 : decode cX10_arrives 15 = .ok (.iload_n 1, 1) := by decide +kernel
theorem dX10_arrives_16 : decode cX10_arrives 16 = .ok (.iadd, 1) := by decide +kernel
theorem dX10_arrives_17 : decode cX10_arrives 17 = .ok (.iconst 1, 1) := by decide +kernel
theorem dX10_arrives_18 : decode cX10_arrives 18 = .ok (.bastore, 1) := by decide +kernel
theorem dX10_arrives_19 : decode cX10_arrives 19 = .ok (.return_, 1) := by decide +kernel
theorem dX10_soonest_0 : decode cX10_soonest 0 = .ok (.iload_n 1, 1) := by decide +kernel
theorem dX10_soonest_1 : decode cX10_soonest 1 = .ok (.invokestatic 410, 3) := by decide +kernel
theorem dX10_soonest_4 : decode cX10_soonest 4 = .ok (.ifCond .eq 33, 3) := by decide +kernel
theorem dX10_soonest_7 : decode cX10_soonest 7 = .ok (.iload_n 2, 1) := by decide +kernel
theorem dX10_soonest_8 : decode cX10_soonest 8 = .ok (.invokestatic 410, 3) := by decide +kernel
theorem dX10_soonest_11 : decode cX10_soonest 11 = .ok (.ifCond .eq 26, 3) := by decide +kernel
theorem dX10_soonest_14 : decode cX10_soonest 14 = .ok (.iload_n 3, 1) := by decide +kernel
theorem dX10_soonest_15 : decode cX10_soonest 15 = .ok (.i2l, 1) := by decide +kernel
theorem dX10_soonest_16 : decode cX10_soonest 16 = .ok (.lconst 0, 1) := by decide +kernel
theorem dX10_soonest_17 : decode cX10_soonest 17 = .ok (.ldc2_w 414, 3) := by decide +kernel
theorem dX10_soonest_20 : decode cX10_soonest 20 = .ok (.invokestatic 154, 3) := by decide +kernel
theorem dX10_soonest_23 : decode cX10_soonest 23 = .ok (.ifCond .eq 14, 3) := by decide +kernel
theorem dX10_soonest_26 : decode cX10_soonest 26 = .ok (.iload 4, 2) := by decide +kernel
theorem dX10_soonest_28 : decode cX10_soonest 28 = .ok (.i2l, 1) := by decide +kernel
theorem dX10_soonest_29 : decode cX10_soonest 29 = .ok (.lconst 0, 1) := by decide +kernel
theorem dX10_soonest_30 : decode cX10_soonest 30 = .ok (.lconst 1, 1) := by decide +kernel
theorem dX10_soonest_31 : decode cX10_soonest 31 = .ok (.invokestatic 154, 3) := by decide +kernel
theorem dX10_soonest_34 : decode cX10_soonest 34 = .ok (.ifCond .ne 5, 3) := by decide +kernel
theorem dX10_soonest_37 : decode cX10_soonest 37 = .ok (.iconst (-1), 1) := by decide +kernel
theorem dX10_soonest_38 : decode cX10_soonest 38 = .ok (.ireturn, 1) := by decide +kernel
theorem dX10_soonest_39 : decode cX10_soonest 39 = .ok (.aload_n 0, 1) := by decide +kernel
theorem dX10_soonest_40 : decode cX10_soonest 40 = .ok (.invokevirtual 416, 3) := by decide +kernel
theorem dX10_soonest_43 : decode cX10_soonest 43 = .ok (.iconst 0, 1) := by decide +kernel
theorem dX10_soonest_44 : decode cX10_soonest 44 = .ok (.istore 5, 2) := by decide +kernel
theorem dX10_soonest_46 : decode cX10_soonest 46 = .ok (.iload 5, 2) := by decide +kernel
theorem dX10_soonest_48 : decode cX10_soonest 48 = .ok (.sipush 3010, 3) := by decide +kernel
theorem dX10_soonest_51 : decode cX10_soonest 51 = .ok (.if_icmp .ge 17, 3) := by decide +kernel
theorem dX10_soonest_54 : decode cX10_soonest 54 = .ok (.aload_n 0, 1) := by decide +kernel
theorem dX10_soonest_55 : decode cX10_soonest 55 = .ok (.getfield 131, 3) := by decide +kernel
theorem dX10_soonest_58 : decode cX10_soonest 58 = .ok (.iload 5, 2) := by decide +kernel
theorem dX10_soonest_60 : decode cX10_soonest 60 = .ok (.iconst 0, 1) := by decide +kernel
theorem dX10_soonest_61 : decode cX10_soonest 61 = .ok (.bastore, 1) := by decide +kernel
theorem dX10_soonest_62 : decode cX10_soonest 62 = .ok (.iinc 5 1, 3) := by decide +kernel
theorem dX10_soonest_65 : decode cX10_soonest 65 = .ok (.goto (-19), 3) := by decide +kernel
theorem dX10_soonest_68 : decode cX10_soonest 68 = .ok (.aload_n 0, 1) := by decide +kernel
theorem dX10_soonest_69 : decode cX10_soonest 69 = .ok (.getfield 131, 3) := by decide +kernel
theorem dX10_soonest_72 : decode cX10_soonest 72 = .ok (.bipush 10, 2) := by decide +kernel
theorem dX10_soonest_74 : decode cX10_soonest 74 = .ok (.iload_n 3, 1) := by decide +kernel
theorem dX10_soonest_75 : decode cX10_soonest 75 = .ok (.imul, 1) := by decide +kernel
theorem dX10_soonest_76 : decode cX10_soonest 76 = .ok (.iload_n 1, 1) := by decide +kernel
theorem dX10_soonest_77 : decode cX10_soonest 77 = .ok (.iadd, 1) := by decide +kernel
theorem dX10_soonest_78 : decode cX10_soonest 78 = .ok (.iconst 1, 1) := by decide +kernel
theorem dX10_soonest_79 : decode cX10_soonest 79 = .ok (.bastore, 1) := by decide +kernel
theorem dX10_soonest_80 : decode cX10_soonest 80 = .ok (.iload_n 3, 1) := by decide +kernel
theorem dX10_soonest_81 : decode cX10_soonest 81 = .ok (.istore 5, 2) := by decide +kernel
theorem dX10_soonest_83 : decode cX10_soonest 83 = .ok (.iload 5, 2) := by decide +kernel
theorem dX10_soonest_85 : decode cX10_soonest 85 = .ok (.sipush 300, 3) := by decide +kernel
theorem dX10_soonest_88 : decode cX10_soonest 88 = .ok (.if_icmp .gt 182, 3) := by decide +kernel
theorem dX10_soonest_91 : decode cX10_soonest 91 = .ok (.aload_n 0, 1) := by decide +kernel
theorem dX10_soonest_92 : decode cX10_soonest 92 = .ok (.getfield 131, 3) := by decide +kernel
theorem dX10_soonest_95 : decode cX10_soonest 95 = .ok (.bipush 10, 2) := by decide +kernel
theorem dX10_soonest_97 : decode cX10_soonest 97 = .ok (.iload 5, 2) := by decide +kernel
theorem dX10_soonest_99 : decode cX10_soonest 99 = .ok (.imul, 1) := by decide +kernel
theorem dX10_soonest_100 : decode cX10_soonest 100 = .ok (.iload_n 2, 1) := by decide +kernel
theorem dX10_soonest_101 : decode cX10_soonest 101 = .ok (.iadd, 1) := by decide +kernel
theorem dX10_soonest_102 : decode cX10_soonest 102 = .ok (.baload, 1) := by decide +kernel
theorem dX10_soonest_103 : decode cX10_soonest 103 = .ok (.ifCond .eq 6, 3) := by decide +kernel
theorem dX10_soonest_106 : decode cX10_soonest 106 = .ok (.iload 5, 2) := by decide +kernel
theorem dX10_soonest_108 : decode cX10_soonest 108 = .ok (.ireturn, 1) := by decide +kernel
theorem dX10_soonest_109 : decode cX10_soonest 109 = .ok (.iconst 0, 1) := by decide +kernel
theorem dX10_soonest_110 : decode cX10_soonest 110 = .ok (.istore 6, 2) := by decide +kernel
theorem dX10_soonest_112 : decode cX10_soonest 112 = .ok (.iload 6, 2) := by decide +kernel
theorem dX10_soonest_114 : decode cX10_soonest 114 = .ok (.bipush 10, 2) := by decide +kernel
theorem dX10_soonest_116 : decode cX10_soonest 116 = .ok (.if_icmp .ge 148, 3) := by decide +kernel
theorem dX10_soonest_119 : decode cX10_soonest 119 = .ok (.aload_n 0, 1) := by decide +kernel
theorem dX10_soonest_120 : decode cX10_soonest 120 = .ok (.getfield 131, 3) := by decide +kernel
theorem dX10_soonest_123 : decode cX10_soonest 123 = .ok (.bipush 10, 2) := by decide +kernel
theorem dX10_soonest_125 : decode cX10_soonest 125 = .ok (.iload 5, 2) := by decide +kernel
theorem dX10_soonest_127 : decode cX10_soonest 127 = .ok (.imul, 1) := by decide +kernel
theorem dX10_soonest_128 : decode cX10_soonest 128 = .ok (.iload 6, 2) := by decide +kernel
theorem dX10_soonest_130 : decode cX10_soonest 130 = .ok (.iadd, 1) := by decide +kernel
theorem dX10_soonest_131 : decode cX10_soonest 131 = .ok (.baload, 1) := by decide +kernel
theorem dX10_soonest_132 : decode cX10_soonest 132 = .ok (.ifCond .ne 6, 3) := by decide +kernel
theorem dX10_soonest_135 : decode cX10_soonest 135 = .ok (.goto 123, 3) := by decide +kernel
theorem dX10_soonest_138 : decode cX10_soonest 138 = .ok (.iload 4, 2) := by decide +kernel
theorem dX10_soonest_140 : decode cX10_soonest 140 = .ok (.ifCond .ne 13, 3) := by decide +kernel
theorem dX10_soonest_143 : decode cX10_soonest 143 = .ok (.aload_n 0, 1) := by decide +kernel
theorem dX10_soonest_144 : decode cX10_soonest 144 = .ok (.iload 6, 2) := by decide +kernel
theorem dX10_soonest_146 : decode cX10_soonest 146 = .ok (.iload 5, 2) := by decide +kernel
theorem dX10_soonest_148 : decode cX10_soonest 148 = .ok (.iconst 1, 1) := by decide +kernel
theorem dX10_soonest_149 : decode cX10_soonest 149 = .ok (.iadd, 1) := by decide +kernel
theorem dX10_soonest_150 : decode cX10_soonest 150 = .ok (.invokevirtual 419, 3) := by decide +kernel
theorem dX10_soonest_153 : decode cX10_soonest 153 = .ok (.iconst 0, 1) := by decide +kernel
theorem dX10_soonest_154 : decode cX10_soonest 154 = .ok (.istore 7, 2) := by decide +kernel
theorem dX10_soonest_156 : decode cX10_soonest 156 = .ok (.iload 7, 2) := by decide +kernel
theorem dX10_soonest_158 : decode cX10_soonest 158 = .ok (.bipush 20, 2) := by decide +kernel
theorem dX10_soonest_160 : decode cX10_soonest 160 = .ok (.if_icmp .ge 98, 3) := by decide +kernel
theorem dX10_soonest_163 : decode cX10_soonest 163 = .ok (.aload_n 0, 1) := by decide +kernel
theorem dX10_soonest_164 : decode cX10_soonest 164 = .ok (.getfield 113, 3) := by decide +kernel
theorem dX10_soonest_167 : decode cX10_soonest 167 = .ok (.iload 7, 2) := by decide +kernel
theorem dX10_soonest_169 : decode cX10_soonest 169 = .ok (.baload, 1) := by decide +kernel
theorem dX10_soonest_170 : decode cX10_soonest 170 = .ok (.ifCond .eq 82, 3) := by decide +kernel
theorem dX10_soonest_173 : decode cX10_soonest 173 = .ok (.aload_n 0, 1) := by decide +kernel
theorem dX10_soonest_174 : decode cX10_soonest 174 = .ok (.iload 7, 2) := by decide +kernel
theorem dX10_soonest_176 : decode cX10_soonest 176 = .ok (.iload 5, 2) := by decide +kernel
theorem dX10_soonest_178 : decode cX10_soonest 178 = .ok (.invokevirtual 422, 3) := by decide +kernel
theorem dX10_soonest_181 : decode cX10_soonest 181 = .ok (.ldc_w 413, 3) := by decide +kernel
theorem dX10_soonest_184 : decode cX10_soonest 184 = .ok (.if_icmp .ne 6, 3) := by decide +kernel
theorem dX10_soonest_187 : decode cX10_soonest 187 = .ok (.goto 65, 3) := by decide +kernel
theorem dX10_soonest_190 : decode cX10_soonest 190 = .ok (.aload_n 0, 1) := by decide +kernel
theorem dX10_soonest_191 : decode cX10_soonest 191 = .ok (.getfield 116, 3) := by decide +kernel
theorem dX10_soonest_194 : decode cX10_soonest 194 = .ok (.iload 7, 2) := by decide +kernel
theorem dX10_soonest_196 : decode cX10_soonest 196 = .ok (.iaload, 1) := by decide +kernel
theorem dX10_soonest_197 : decode cX10_soonest 197 = .ok (.iload 6, 2) := by decide +kernel
theorem dX10_soonest_199 : decode cX10_soonest 199 = .ok (.if_icmp .ne 22, 3) := by decide +kernel
theorem dX10_soonest_202 : decode cX10_soonest 202 = .ok (.aload_n 0, 1) := by decide +kernel
theorem dX10_soonest_203 : decode cX10_soonest 203 = .ok (.aload_n 0, 1) := by decide +kernel
theorem dX10_soonest_204 : decode cX10_soonest 204 = .ok (.getfield 119, 3) := by decide +kernel
theorem dX10_soonest_207 : decode cX10_soonest 207 = .ok (.iload 7, 2) := by decide +kernel
theorem dX10_soonest_209 : decode cX10_soonest 209 = .ok (.iaload, 1) := by decide +kernel
theorem dX10_soonest_210 : decode cX10_soonest 210 = .ok (.aload_n 0, 1) := by decide +kernel
theorem dX10_soonest_211 : decode cX10_soonest 211 = .ok (.iload 7, 2) := by decide +kernel
theorem dX10_soonest_213 : decode cX10_soonest 213 = .ok (.iload 5, 2) := by decide +kernel
theorem dX10_soonest_215 : decode cX10_soonest 215 = .ok (.invokevirtual 422, 3) := by decide +kernel
theorem dX10_soonest_218 : decode cX10_soonest 218 = .ok (.invokevirtual 419, 3) := by decide +kernel
theorem dX10_soonest_221 : decode cX10_soonest 221 = .ok (.aload_n 0, 1) := by decide +kernel
theorem dX10_soonest_222 : decode cX10_soonest 222 = .ok (.getfield 119, 3) := by decide +kernel
theorem dX10_soonest_225 : decode cX10_soonest 225 = .ok (.iload 7, 2) := by decide +kernel
theorem dX10_soonest_227 : decode cX10_soonest 227 = .ok (.iaload, 1) := by decide +kernel
theorem dX10_soonest_228 : decode cX10_soonest 228 = .ok (.iload 6, 2) := by decide +kernel
theorem dX10_soonest_230 : decode cX10_soonest 230 = .ok (.if_icmp .ne 22, 3) := by decide +kernel
theorem dX10_soonest_233 : decode cX10_soonest 233 = .ok (.aload_n 0, 1) := by decide +kernel
theorem dX10_soonest_234 : decode cX10_soonest 234 = .ok (.aload_n 0, 1) := by decide +kernel
theorem dX10_soonest_235 : decode cX10_soonest 235 = .ok (.getfield 116, 3) := by decide +kernel
theorem dX10_soonest_238 : decode cX10_soonest 238 = .ok (.iload 7, 2) := by decide +kernel
theorem dX10_soonest_240 : decode cX10_soonest 240 = .ok (.iaload, 1) := by decide +kernel
theorem dX10_soonest_241 : decode cX10_soonest 241 = .ok (.aload_n 0, 1) := by decide +kernel
theorem dX10_soonest_242 : decode cX10_soonest 242 = .ok (.iload 7, 2) := by decide +kernel
theorem dX10_soonest_244 : decode cX10_soonest 244 = .ok (.iload 5, 2) := by decide +kernel
theorem dX10_soonest_246 : decode cX10_soonest 246 = .ok (.invokevirtual 422, 3) := by decide +kernel
theorem dX10_soonest_249 : decode cX10_soonest 249 = .ok (.invokevirtual 419, 3) := by decide +kernel
theorem dX10_soonest_252 : decode cX10_soonest 252 = .ok (.iinc 7 1, 3) := by decide +kernel
theorem dX10_soonest_255 : decode cX10_soonest 255 = .ok (.goto (-99), 3) := by decide +kernel
theorem dX10_soonest_258 : decode cX10_soonest 258 = .ok (.iinc 6 1, 3) := by decide +kernel
theorem dX10_soonest_261 : decode cX10_soonest 261 = .ok (.goto (-149), 3) := by decide +kernel
theorem dX10_soonest_264 : decode cX10_soonest 264 = .ok (.iinc 5 1, 3) := by decide +kernel
theorem dX10_soonest_267 : decode cX10_soonest 267 = .ok (.goto (-184), 3) := by decide +kernel
theorem dX10_soonest_270 : decode cX10_soonest 270 = .ok (.bipush (-2), 2) := by decide +kernel
theorem dX10_soonest_272 : decode cX10_soonest 272 = .ok (.ireturn, 1) := by decide +kernel
theorem dX10_meet_0 : decode cX10_meet 0 = .ok (.aload_n 0, 1) := by decide +kernel
theorem dX10_meet_1 : decode cX10_meet 1 = .ok (.getfield 116, 3) := by decide +kernel
theorem dX10_meet_4 : decode cX10_meet 4 = .ok (.iload_n 1, 1) := by decide +kernel
theorem dX10_meet_5 : decode cX10_meet 5 = .ok (.iaload, 1) := by decide +kernel
theorem dX10_meet_6 : decode cX10_meet 6 = .ok (.aload_n 0, 1) := by decide +kernel
theorem dX10_meet_7 : decode cX10_meet 7 = .ok (.getfield 116, 3) := by decide +kernel
theorem dX10_meet_10 : decode cX10_meet 10 = .ok (.iload_n 2, 1) := by decide +kernel
theorem dX10_meet_11 : decode cX10_meet 11 = .ok (.iaload, 1) := by decide +kernel
theorem dX10_meet_12 : decode cX10_meet 12 = .ok (.if_icmp .eq 48, 3) := by decide +kernel
theorem dX10_meet_15 : decode cX10_meet 15 = .ok (.aload_n 0, 1) := by decide +kernel
theorem dX10_meet_16 : decode cX10_meet 16 = .ok (.getfield 116, 3) := by decide +kernel
theorem dX10_meet_19 : decode cX10_meet 19 = .ok (.iload_n 1, 1) := by decide +kernel
theorem dX10_meet_20 : decode cX10_meet 20 = .ok (.iaload, 1) := by decide +kernel
theorem dX10_meet_21 : decode cX10_meet 21 = .ok (.aload_n 0, 1) := by decide +kernel
theorem dX10_meet_22 : decode cX10_meet 22 = .ok (.getfield 119, 3) := by decide +kernel
theorem dX10_meet_25 : decode cX10_meet 25 = .ok (.iload_n 2, 1) := by decide +kernel
theorem dX10_meet_26 : decode cX10_meet 26 = .ok (.iaload, 1) := by decide +kernel
theorem dX10_meet_27 : decode cX10_meet 27 = .ok (.if_icmp .eq 33, 3) := by decide +kernel
theorem dX10_meet_30 : decode cX10_meet 30 = .ok (.aload_n 0, 1) := by decide +kernel
theorem dX10_meet_31 : decode cX10_meet 31 = .ok (.getfield 119, 3) := by decide +kernel
theorem dX10_meet_34 : decode cX10_meet 34 = .ok (.iload_n 1, 1) := by decide +kernel
theorem dX10_meet_35 : decode cX10_meet 35 = .ok (.iaload, 1) := by decide +kernel
theorem dX10_meet_36 : decode cX10_meet 36 = .ok (.aload_n 0, 1) := by decide +kernel
theorem dX10_meet_37 : decode cX10_meet 37 = .ok (.getfield 116, 3) := by decide +kernel
theorem dX10_meet_40 : decode cX10_meet 40 = .ok (.iload_n 2, 1) := by decide +kernel
theorem dX10_meet_41 : decode cX10_meet 41 = .ok (.iaload, 1) := by decide +kernel
theorem dX10_meet_42 : decode cX10_meet 42 = .ok (.if_icmp .eq 18, 3) := by decide +kernel
theorem dX10_meet_45 : decode cX10_meet 45 = .ok (.aload_n 0, 1) := by decide +kernel
theorem dX10_meet_46 : decode cX10_meet 46 = .ok (.getfield 119, 3) := by decide +kernel
theorem dX10_meet_49 : decode cX10_meet 49 = .ok (.iload_n 1, 1) := by decide +kernel
theorem dX10_meet_50 : decode cX10_meet 50 = .ok (.iaload, 1) := by decide +kernel
theorem dX10_meet_51 : decode cX10_meet 51 = .ok (.aload_n 0, 1) := by decide +kernel
theorem dX10_meet_52 : decode cX10_meet 52 = .ok (.getfield 119, 3) := by decide +kernel
theorem dX10_meet_55 : decode cX10_meet 55 = .ok (.iload_n 2, 1) := by decide +kernel
theorem dX10_meet_56 : decode cX10_meet 56 = .ok (.iaload, 1) := by decide +kernel
theorem dX10_meet_57 : decode cX10_meet 57 = .ok (.if_icmp .ne 7, 3) := by decide +kernel
theorem dX10_meet_60 : decode cX10_meet 60 = .ok (.iconst 1, 1) := by decide +kernel
theorem dX10_meet_61 : decode cX10_meet 61 = .ok (.goto 4, 3) := by decide +kernel
theorem dX10_meet_64 : decode cX10_meet 64 = .ok (.iconst 0, 1) := by decide +kernel
theorem dX10_meet_65 : decode cX10_meet 65 = .ok (.ireturn, 1) := by decide +kernel
theorem dX10_edge_0 : decode cX10_edge 0 = .ok (.iload_n 1, 1) := by decide +kernel
theorem dX10_edge_1 : decode cX10_edge 1 = .ok (.i2l, 1) := by decide +kernel
theorem dX10_edge_2 : decode cX10_edge 2 = .ok (.lconst 0, 1) := by decide +kernel
theorem dX10_edge_3 : decode cX10_edge 3 = .ok (.ldc2_w 425, 3) := by decide +kernel
theorem dX10_edge_6 : decode cX10_edge 6 = .ok (.invokestatic 154, 3) := by decide +kernel
theorem dX10_edge_9 : decode cX10_edge 9 = .ok (.ifCond .ne 5, 3) := by decide +kernel
theorem dX10_edge_12 : decode cX10_edge 12 = .ok (.iconst (-1), 1) := by decide +kernel
theorem dX10_edge_13 : decode cX10_edge 13 = .ok (.ireturn, 1) := by decide +kernel
theorem dX10_edge_14 : decode cX10_edge 14 = .ok (.bipush (-2), 2) := by decide +kernel
theorem dX10_edge_16 : decode cX10_edge 16 = .ok (.istore_n 2, 1) := by decide +kernel
theorem dX10_edge_17 : decode cX10_edge 17 = .ok (.bipush (-2), 2) := by decide +kernel
theorem dX10_edge_19 : decode cX10_edge 19 = .ok (.istore_n 3, 1) := by decide +kernel
theorem dX10_edge_20 : decode cX10_edge 20 = .ok (.bipush (-2), 2) := by decide +kernel
theorem dX10_edge_22 : decode cX10_edge 22 = .ok (.istore 4, 2) := by decide +kernel
theorem dX10_edge_24 : decode cX10_edge 24 = .ok (.iconst 0, 1) := by decide +kernel
theorem dX10_edge_25 : decode cX10_edge 25 = .ok (.istore 5, 2) := by decide +kernel
theorem dX10_edge_27 : decode cX10_edge 27 = .ok (.iload 5, 2) := by decide +kernel
theorem dX10_edge_29 : decode cX10_edge 29 = .ok (.bipush 20, 2) := by decide +kernel
theorem dX10_edge_31 : decode cX10_edge 31 = .ok (.if_icmp .ge 122, 3) := by decide +kernel
theorem dX10_edge_34 : decode cX10_edge 34 = .ok (.iload 5, 2) := by decide +kernel
theorem dX10_edge_36 : decode cX10_edge 36 = .ok (.iconst 1, 1) := by decide +kernel
theorem dX10_edge_37 : decode cX10_edge 37 = .ok (.iadd, 1) := by decide +kernel
theorem dX10_edge_38 : decode cX10_edge 38 = .ok (.istore 6, 2) := by decide +kernel
theorem dX10_edge_40 : decode cX10_edge 40 = .ok (.iload 6, 2) := by decide +kernel
theorem dX10_edge_42 : decode cX10_edge 42 = .ok (.bipush 20, 2) := by decide +kernel
theorem dX10_edge_44 : decode cX10_edge 44 = .ok (.if_icmp .ge 103, 3) := by decide +kernel
theorem dX10_edge_47 : decode cX10_edge 47 = .ok (.aload_n 0, 1) := by decide +kernel
theorem dX10_edge_48 : decode cX10_edge 48 = .ok (.getfield 113, 3) := by decide +kernel
theorem dX10_edge_51 : decode cX10_edge 51 = .ok (.iload 5, 2) := by decide +kernel
theorem dX10_edge_53 : decode cX10_edge 53 = .ok (.baload, 1) := by decide +kernel
theorem dX10_edge_54 : decode cX10_edge 54 = .ok (.ifCond .eq 87, 3) := by decide +kernel
theorem dX10_edge_57 : decode cX10_edge 57 = .ok (.aload_n 0, 1) := by decide +kernel
theorem dX10_edge_58 : decode cX10_edge 58 = .ok (.getfield 113, 3) := by decide +kernel
theorem dX10_edge_61 : decode cX10_edge 61 = .ok (.iload 6, 2) := by decide +kernel
theorem dX10_edge_63 : decode cX10_edge 63 = .ok (.baload, 1) := by decide +kernel
theorem dX10_edge_64 : decode cX10_edge 64 = .ok (.ifCond .eq 77, 3) := by decide +kernel
theorem dX10_edge_67 : decode cX10_edge 67 = .ok (.aload_n 0, 1) := by decide +kernel
theorem dX10_edge_68 : decode cX10_edge 68 = .ok (.iload 5, 2) := by decide +kernel
theorem dX10_edge_70 : decode cX10_edge 70 = .ok (.iload 6, 2) := by decide +kernel
theorem dX10_edge_72 : decode cX10_edge 72 = .ok (.invokevirtual 427, 3) := by decide +kernel
theorem dX10_edge_75 : decode cX10_edge 75 = .ok (.ifCond .ne 6, 3) := by decide +kernel
theorem dX10_edge_78 : decode cX10_edge 78 = .ok (.goto 63, 3) := by decide +kernel
theorem dX10_edge_81 : decode cX10_edge 81 = .ok (.aload_n 0, 1) := by decide +kernel
theorem dX10_edge_82 : decode cX10_edge 82 = .ok (.aload_n 0, 1) := by decide +kernel
theorem dX10_edge_83 : decode cX10_edge 83 = .ok (.getfield 125, 3) := by decide +kernel
theorem dX10_edge_86 : decode cX10_edge 86 = .ok (.iload 5, 2) := by decide +kernel
theorem dX10_edge_88 : decode cX10_edge 88 = .ok (.iaload, 1) := by decide +kernel
theorem dX10_edge_89 : decode cX10_edge 89 = .ok (.invokevirtual 379, 3) := by decide +kernel
theorem dX10_edge_92 : decode cX10_edge 92 = .ok (.aload_n 0, 1) := by decide +kernel
theorem dX10_edge_93 : decode cX10_edge 93 = .ok (.aload_n 0, 1) := by decide +kernel
theorem dX10_edge_94 : decode cX10_edge 94 = .ok (.getfield 125, 3) := by decide +kernel
theorem dX10_edge_97 : decode cX10_edge 97 = .ok (.iload 6, 2) := by decide +kernel
theorem dX10_edge_99 : decode cX10_edge 99 = .ok (.iaload, 1) := by decide +kernel
theorem dX10_edge_100 : decode cX10_edge 100 = .ok (.invokevirtual 379, 3) := by decide +kernel
theorem dX10_edge_103 : decode cX10_edge 103 = .ok (.isub, 1) := by decide +kernel
theorem dX10_edge_104 : decode cX10_edge 104 = .ok (.istore 7, 2) := by decide +kernel
theorem dX10_edge_106 : decode cX10_edge 106 = .ok (.iload 7, 2) := by decide +kernel
theorem dX10_edge_108 : decode cX10_edge 108 = .ok (.ifCond .ge 9, 3) := by decide +kernel
theorem dX10_edge_111 : decode cX10_edge 111 = .ok (.iload 7, 2) := by decide +kernel
theorem dX10_edge_113 : decode cX10_edge 113 = .ok (.ineg, 1) := by decide +kernel
theorem dX10_edge_114 : decode cX10_edge 114 = .ok (.goto 5, 3) := by decide +kernel
theorem dX10_edge_117 : decode cX10_edge 117 = .ok (.iload 7, 2) := by decide +kernel
theorem dX10_edge_119 : decode cX10_edge 119 = .ok (.istore 7, 2) := by decide +kernel
theorem dX10_edge_121 : decode cX10_edge 121 = .ok (.iload 7, 2) := by decide +kernel
theorem dX10_edge_123 : decode cX10_edge 123 = .ok (.iload 4, 2) := by decide +kernel
theorem dX10_edge_125 : decode cX10_edge 125 = .ok (.if_icmp .gt 6, 3) := by decide +kernel
theorem dX10_edge_128 : decode cX10_edge 128 = .ok (.goto 13, 3) := by decide +kernel
theorem dX10_edge_131 : decode cX10_edge 131 = .ok (.iload 5, 2) := by decide +kernel
theorem dX10_edge_133 : decode cX10_edge 133 = .ok (.istore_n 2, 1) := by decide +kernel
theorem dX10_edge_134 : decode cX10_edge 134 = .ok (.iload 6, 2) := by decide +kernel
theorem dX10_edge_136 : decode cX10_edge 136 = .ok (.istore_n 3, 1) := by decide +kernel
theorem dX10_edge_137 : decode cX10_edge 137 = .ok (.iload 7, 2) := by decide +kernel
theorem dX10_edge_139 : decode cX10_edge 139 = .ok (.istore 4, 2) := by decide +kernel
theorem dX10_edge_141 : decode cX10_edge 141 = .ok (.iinc 6 1, 3) := by decide +kernel
theorem dX10_edge_144 : decode cX10_edge 144 = .ok (.goto (-104), 3) := by decide +kernel
theorem dX10_edge_147 : decode cX10_edge 147 = .ok (.iinc 5 1, 3) := by decide +kernel
theorem dX10_edge_150 : decode cX10_edge 150 = .ok (.goto (-123), 3) := by decide +kernel
theorem dX10_edge_153 : decode cX10_edge 153 = .ok (.iload_n 1, 1) := by decide +kernel
theorem dX10_edge_154 : decode cX10_edge 154 = .ok (.ifCond .ne 7, 3) := by decide +kernel
theorem dX10_edge_157 : decode cX10_edge 157 = .ok (.iload_n 2, 1) := by decide +kernel
theorem dX10_edge_158 : decode cX10_edge 158 = .ok (.goto 14, 3) := by decide +kernel
theorem dX10_edge_161 : decode cX10_edge 161 = .ok (.iload_n 1, 1) := by decide +kernel
theorem dX10_edge_162 : decode cX10_edge 162 = .ok (.iconst 1, 1) := by decide +kernel
theorem dX10_edge_163 : decode cX10_edge 163 = .ok (.if_icmp .ne 7, 3) := by decide +kernel
theorem dX10_edge_166 : decode cX10_edge 166 = .ok (.iload_n 3, 1) := by decide +kernel
theorem dX10_edge_167 : decode cX10_edge 167 = .ok (.goto 5, 3) := by decide +kernel
theorem dX10_edge_170 : decode cX10_edge 170 = .ok (.iload 4, 2) := by decide +kernel
theorem dX10_edge_172 : decode cX10_edge 172 = .ok (.ireturn, 1) := by decide +kernel
theorem dX10_was_0 : decode cX10_was 0 = .ok (.iload_n 1, 1) := by decide +kernel
theorem dX10_was_1 : decode cX10_was 1 = .ok (.i2l, 1) := by decide +kernel
theorem dX10_was_2 : decode cX10_was 2 = .ok (.lconst 0, 1) := by decide +kernel
theorem dX10_was_3 : decode cX10_was 3 = .ok (.ldc2_w 170, 3) := by decide +kernel
theorem dX10_was_6 : decode cX10_was 6 = .ok (.invokestatic 154, 3) := by decide +kernel
theorem dX10_was_9 : decode cX10_was 9 = .ok (.ifCond .eq 62, 3) := by decide +kernel
theorem dX10_was_12 : decode cX10_was 12 = .ok (.iload_n 2, 1) := by decide +kernel
theorem dX10_was_13 : decode cX10_was 13 = .ok (.i2l, 1) := by decide +kernel
theorem dX10_was_14 : decode cX10_was 14 = .ok (.lconst 0, 1) := by decide +kernel
theorem dX10_was_15 : decode cX10_was 15 = .ok (.ldc2_w 170, 3) := by decide +kernel
theorem dX10_was_18 : decode cX10_was 18 = .ok (.invokestatic 154, 3) := by decide +kernel
theorem dX10_was_21 : decode cX10_was 21 = .ok (.ifCond .eq 50, 3) := by decide +kernel
theorem dX10_was_24 : decode cX10_was 24 = .ok (.iload_n 3, 1) := by decide +kernel
theorem dX10_was_25 : decode cX10_was 25 = .ok (.i2l, 1) := by decide +kernel
theorem dX10_was_26 : decode cX10_was 26 = .ok (.lconst 0, 1) := by decide +kernel
theorem dX10_was_27 : decode cX10_was 27 = .ok (.ldc2_w 170, 3) := by decide +kernel
theorem dX10_was_30 : decode cX10_was 30 = .ok (.invokestatic 154, 3) := by decide +kernel
theorem dX10_was_33 : decode cX10_was 33 = .ok (.ifCond .eq 38, 3) := by decide +kernel
theorem dX10_was_36 : decode cX10_was 36 = .ok (.iload 4, 2) := by decide +kernel
theorem dX10_was_38 : decode cX10_was 38 = .ok (.i2l, 1) := by decide +kernel
theorem dX10_was_39 : decode cX10_was 39 = .ok (.lconst 0, 1) := by decide +kernel
theorem dX10_was_40 : decode cX10_was 40 = .ok (.ldc2_w 170, 3) := by decide +kernel
theorem dX10_was_43 : decode cX10_was 43 = .ok (.invokestatic 154, 3) := by decide +kernel
theorem dX10_was_46 : decode cX10_was 46 = .ok (.ifCond .eq 25, 3) := by decide +kernel
theorem dX10_was_49 : decode cX10_was 49 = .ok (.iload 5, 2) := by decide +kernel
theorem dX10_was_51 : decode cX10_was 51 = .ok (.i2l, 1) := by decide +kernel
theorem dX10_was_52 : decode cX10_was 52 = .ok (.lconst 0, 1) := by decide +kernel
theorem dX10_was_53 : decode cX10_was 53 = .ok (.ldc2_w 430, 3) := by decide +kernel
theorem dX10_was_56 : decode cX10_was 56 = .ok (.invokestatic 154, 3) := by decide +kernel
theorem dX10_was_59 : decode cX10_was 59 = .ok (.ifCond .eq 12, 3) := by decide +kernel
theorem dX10_was_62 : decode cX10_was 62 = .ok (.aload_n 0, 1) := by decide +kernel
theorem dX10_was_63 : decode cX10_was 63 = .ok (.getfield 432, 3) := by decide +kernel
theorem dX10_was_66 : decode cX10_was 66 = .ok (.bipush 60, 2) := by decide +kernel
theorem dX10_was_68 : decode cX10_was 68 = .ok (.if_icmp .ne 5, 3) := by decide +kernel
theorem dX10_was_71 : decode cX10_was 71 = .ok (.iconst (-1), 1) := by decide +kernel
theorem dX10_was_72 : decode cX10_was 72 = .ok (.ireturn, 1) := by decide +kernel
theorem dX10_was_73 : decode cX10_was 73 = .ok (.aload_n 0, 1) := by decide +kernel
theorem dX10_was_74 : decode cX10_was 74 = .ok (.getfield 134, 3) := by decide +kernel
theorem dX10_was_77 : decode cX10_was 77 = .ok (.iconst 3, 1) := by decide +kernel
theorem dX10_was_78 : decode cX10_was 78 = .ok (.aload_n 0, 1) := by decide +kernel
theorem dX10_was_79 : decode cX10_was 79 = .ok (.getfield 432, 3) := by decide +kernel
theorem dX10_was_82 : decode cX10_was 82 = .ok (.imul, 1) := by decide +kernel
theorem dX10_was_83 : decode cX10_was 83 = .ok (.iload_n 1, 1) := by decide +kernel
theorem dX10_was_84 : decode cX10_was 84 = .ok (.iastore, 1) := by decide +kernel
theorem dX10_was_85 : decode cX10_was 85 = .ok (.aload_n 0, 1) := by decide +kernel
theorem dX10_was_86 : decode cX10_was 86 = .ok (.getfield 134, 3) := by decide +kernel
theorem dX10_was_89 : decode cX10_was 89 = .ok (.iconst 3, 1) := by decide +kernel
theorem dX10_was_90 : decode cX10_was 90 = .ok (.aload_n 0, 1) := by decide +kernel
theorem dX10_was_91 : decode cX10_was 91 = .ok (.getfield 432, 3) := by decide +kernel
theorem dX10_was_94 : decode cX10_was 94 = .ok (.imul, 1) := by decide +kernel
theorem dX10_was_95 : decode cX10_was 95 = .ok (.iconst 1, 1) := by decide +kernel
theorem dX10_was_96 : decode cX10_was 96 = .ok (.iadd, 1) := by decide +kernel
theorem dX10_was_97 : decode cX10_was 97 = .ok (.iload_n 2, 1) := by decide +kernel
theorem dX10_was_98 : decode cX10_was 98 = .ok (.iastore, 1) := by decide +kernel
theorem dX10_was_99 : decode cX10_was 99 = .ok (.aload_n 0, 1) := by decide +kernel
theorem dX10_was_100 : decode cX10_was 100 = .ok (.getfield 134, 3) := by decide +kernel
theorem dX10_was_103 : decode cX10_was 103 = .ok (.iconst 3, 1) := by decide +kernel
theorem dX10_was_104 : decode cX10_was 104 = .ok (.aload_n 0, 1) := by decide +kernel
theorem dX10_was_105 : decode cX10_was 105 = .ok (.getfield 432, 3) := by decide +kernel
theorem dX10_was_108 : decode cX10_was 108 = .ok (.imul, 1) := by decide +kernel
theorem dX10_was_109 : decode cX10_was 109 = .ok (.iconst 2, 1) := by decide +kernel
theorem dX10_was_110 : decode cX10_was 110 = .ok (.iadd, 1) := by decide +kernel
theorem dX10_was_111 : decode cX10_was 111 = .ok (.iload_n 3, 1) := by decide +kernel
theorem dX10_was_112 : decode cX10_was 112 = .ok (.iastore, 1) := by decide +kernel
theorem dX10_was_113 : decode cX10_was 113 = .ok (.aload_n 0, 1) := by decide +kernel
theorem dX10_was_114 : decode cX10_was 114 = .ok (.getfield 137, 3) := by decide +kernel
theorem dX10_was_117 : decode cX10_was 117 = .ok (.aload_n 0, 1) := by decide +kernel
theorem dX10_was_118 : decode cX10_was 118 = .ok (.getfield 432, 3) := by decide +kernel
theorem dX10_was_121 : decode cX10_was 121 = .ok (.iload 4, 2) := by decide +kernel
theorem dX10_was_123 : decode cX10_was 123 = .ok (.iastore, 1) := by decide +kernel
theorem dX10_was_124 : decode cX10_was 124 = .ok (.aload_n 0, 1) := by decide +kernel
theorem dX10_was_125 : decode cX10_was 125 = .ok (.getfield 140, 3) := by decide +kernel
theorem dX10_was_128 : decode cX10_was 128 = .ok (.aload_n 0, 1) := by decide +kernel
theorem dX10_was_129 : decode cX10_was 129 = .ok (.getfield 432, 3) := by decide +kernel
theorem dX10_was_132 : decode cX10_was 132 = .ok (.iload 5, 2) := by decide +kernel
theorem dX10_was_134 : decode cX10_was 134 = .ok (.iastore, 1) := by decide +kernel
theorem dX10_was_135 : decode cX10_was 135 = .ok (.aload_n 0, 1) := by decide +kernel
theorem dX10_was_136 : decode cX10_was 136 = .ok (.dup, 1) := by decide +kernel
theorem dX10_was_137 : decode cX10_was 137 = .ok (.getfield 432, 3) := by decide +kernel
theorem dX10_was_140 : decode cX10_was 140 = .ok (.iconst 1, 1) := by decide +kernel
theorem dX10_was_141 : decode cX10_was 141 = .ok (.iadd, 1) := by decide +kernel
theorem dX10_was_142 : decode cX10_was 142 = .ok (.putfield 432, 3) := by decide +kernel
theorem dX10_was_145 : decode cX10_was 145 = .ok (.aload_n 0, 1) := by decide +kernel
theorem dX10_was_146 : decode cX10_was 146 = .ok (.getfield 432, 3) := by decide +kernel
theorem dX10_was_149 : decode cX10_was 149 = .ok (.ireturn, 1) := by decide +kernel
theorem dX10_costOf_0 : decode cX10_costOf 0 = .ok (.iconst 0, 1) := by decide +kernel
theorem dX10_costOf_1 : decode cX10_costOf 1 = .ok (.istore 5, 2) := by decide +kernel
theorem dX10_costOf_3 : decode cX10_costOf 3 = .ok (.iconst 0, 1) := by decide +kernel
theorem dX10_costOf_4 : decode cX10_costOf 4 = .ok (.istore 6, 2) := by decide +kernel
theorem dX10_costOf_6 : decode cX10_costOf 6 = .ok (.iload 6, 2) := by decide +kernel
theorem dX10_costOf_8 : decode cX10_costOf 8 = .ok (.aload_n 0, 1) := by decide +kernel
theorem dX10_costOf_9 : decode cX10_costOf 9 = .ok (.getfield 432, 3) := by decide +kernel
theorem dX10_costOf_12 : decode cX10_costOf 12 = .ok (.if_icmp .ge 67, 3) := by decide +kernel
theorem dX10_costOf_15 : decode cX10_costOf 15 = .ok (.aload_n 0, 1) := by decide +kernel
theorem dX10_costOf_16 : decode cX10_costOf 16 = .ok (.getfield 134, 3) := by decide +kernel
theorem dX10_costOf_19 : decode cX10_costOf 19 = .ok (.iconst 3, 1) := by decide +kernel
theorem dX10_costOf_20 : decode cX10_costOf 20 = .ok (.iload 6, 2) := by decide +kernel
theorem dX10_costOf_22 : decode cX10_costOf 22 = .ok (.imul, 1) := by decide +kernel
theorem dX10_costOf_23 : decode cX10_costOf 23 = .ok (.iload_n 1, 1) := by decide +kernel
theorem dX10_costOf_24 : decode cX10_costOf 24 = .ok (.iadd, 1) := by decide +kernel
theorem dX10_costOf_25 : decode cX10_costOf 25 = .ok (.iaload, 1) := by decide +kernel
theorem dX10_costOf_26 : decode cX10_costOf 26 = .ok (.iload_n 2, 1) := by decide +kernel
theorem dX10_costOf_27 : decode cX10_costOf 27 = .ok (.if_icmp .lt 7, 3) := by decide +kernel
theorem dX10_costOf_30 : decode cX10_costOf 30 = .ok (.iconst 1, 1) := by decide +kernel
theorem dX10_costOf_31 : decode cX10_costOf 31 = .ok (.goto 4, 3) := by decide +kernel
theorem dX10_costOf_34 : decode cX10_costOf 34 = .ok (.iconst 0, 1) := by decide +kernel
theorem dX10_costOf_35 : decode cX10_costOf 35 = .ok (.istore 7, 2) := by decide +kernel
theorem dX10_costOf_37 : decode cX10_costOf 37 = .ok (.iload 7, 2) := by decide +kernel
theorem dX10_costOf_39 : decode cX10_costOf 39 = .ok (.aload_n 0, 1) := by decide +kernel
theorem dX10_costOf_40 : decode cX10_costOf 40 = .ok (.getfield 137, 3) := by decide +kernel
theorem dX10_costOf_43 : decode cX10_costOf 43 = .ok (.iload 6, 2) := by decide +kernel
theorem dX10_costOf_45 : decode cX10_costOf 45 = .ok (.iaload, 1) := by decide +kernel
theorem dX10_costOf_46 : decode cX10_costOf 46 = .ok (.ifCond .le 7, 3) := by decide +kernel
theorem dX10_costOf_49 : decode cX10_costOf 49 = .ok (.iconst 1, 1) := by decide +kernel
theorem dX10_costOf_50 : decode cX10_costOf 50 = .ok (.goto 4, 3) := by decide +kernel
theorem dX10_costOf_53 : decode cX10_costOf 53 = .ok (.iconst 0, 1) := by decide +kernel
theorem dX10_costOf_54 : decode cX10_costOf 54 = .ok (.if_icmp .eq 19, 3) := by decide +kernel
theorem dX10_costOf_57 : decode cX10_costOf 57 = .ok (.iload 5, 2) := by decide +kernel
theorem dX10_costOf_59 : decode cX10_costOf 59 = .ok (.iload 7, 2) := by decide +kernel
theorem dX10_costOf_61 : decode cX10_costOf 61 = .ok (.ifCond .eq 8, 3) := by decide +kernel
theorem dX10_costOf_64 : decode cX10_costOf 64 = .ok (.iload 4, 2) := by decide +kernel
theorem dX10_costOf_66 : decode cX10_costOf 66 = .ok (.goto 4, 3) := by decide +kernel
theorem dX10_costOf_69 : decode cX10_costOf 69 = .ok (.iload_n 3, 1) := by decide +kernel
theorem dX10_costOf_70 : decode cX10_costOf 70 = .ok (.iadd, 1) := by decide +kernel
theorem dX10_costOf_71 : decode cX10_costOf 71 = .ok (.istore 5, 2) := by decide +kernel
theorem dX10_costOf_73 : decode cX10_costOf 73 = .ok (.iinc 6 1, 3) := by decide +kernel
theorem dX10_costOf_76 : decode cX10_costOf 76 = .ok (.goto (-70), 3) := by decide +kernel
theorem dX10_costOf_79 : decode cX10_costOf 79 = .ok (.iload 5, 2) := by decide +kernel
theorem dX10_costOf_81 : decode cX10_costOf 81 = .ok (.ireturn, 1) := by decide +kernel
theorem dX10_bestLine_0 : decode cX10_bestLine 0 = .ok (.iconst 0, 1) := by decide +kernel
theorem dX10_bestLine_1 : decode cX10_bestLine 1 = .ok (.istore 4, 2) := by decide +kernel
theorem dX10_bestLine_3 : decode cX10_bestLine 3 = .ok (.iconst 1, 1) := by decide +kernel
theorem dX10_bestLine_4 : decode cX10_bestLine 4 = .ok (.istore 5, 2) := by decide +kernel
theorem dX10_bestLine_6 : decode cX10_bestLine 6 = .ok (.iload 5, 2) := by decide +kernel
theorem dX10_bestLine_8 : decode cX10_bestLine 8 = .ok (.bipush 100, 2) := by decide +kernel
theorem dX10_bestLine_10 : decode cX10_bestLine 10 = .ok (.if_icmp .gt 34, 3) := by decide +kernel
theorem dX10_bestLine_13 : decode cX10_bestLine 13 = .ok (.aload_n 0, 1) := by decide +kernel
theorem dX10_bestLine_14 : decode cX10_bestLine 14 = .ok (.iload_n 1, 1) := by decide +kernel
theorem dX10_bestLine_15 : decode cX10_bestLine 15 = .ok (.iload 5, 2) := by decide +kernel
theorem dX10_bestLine_17 : decode cX10_bestLine 17 = .ok (.iload_n 2, 1) := by decide +kernel
theorem dX10_bestLine_18 : decode cX10_bestLine 18 = .ok (.iload_n 3, 1) := by decide +kernel
theorem dX10_bestLine_19 : decode cX10_bestLine 19 = .ok (.invokevirtual 435, 3) := by decide +kernel
theorem dX10_bestLine_22 : decode cX10_bestLine 22 = .ok (.aload_n 0, 1) := by decide +kernel
theorem dX10_bestLine_23 : decode cX10_bestLine 23 = .ok (.iload_n 1, 1) := by decide +kernel
theorem dX10_bestLine_24 : decode cX10_bestLine 24 = .ok (.iload 4, 2) := by decide +kernel
theorem dX10_bestLine_26 : decode cX10_bestLine 26 = .ok (.iload_n 2, 1) := by decide +kernel
theorem dX10_bestLine_27 : decode cX10_bestLine 27 = .ok (.iload_n 3, 1) := by decide +kernel
theorem dX10_bestLine_28 : decode cX10_bestLine 28 = .ok (.invokevirtual 435, 3) := by decide +kernel
theorem dX10_bestLine_31 : decode cX10_bestLine 31 = .ok (.if_icmp .ge 7, 3) := by decide +kernel
theorem dX10_bestLine_34 : decode cX10_bestLine 34 = .ok (.iload 5, 2) := by decide +kernel
theorem dX10_bestLine_36 : decode cX10_bestLine 36 = .ok (.istore 4, 2) := by decide +kernel
theorem dX10_bestLine_38 : decode cX10_bestLine 38 = .ok (.iinc 5 1, 3) := by decide +kernel
theorem dX10_bestLine_41 : decode cX10_bestLine 41 = .ok (.goto (-35), 3) := by decide +kernel
theorem dX10_bestLine_44 : decode cX10_bestLine 44 = .ok (.iload 4, 2) := by decide +kernel
theorem dX10_bestLine_46 : decode cX10_bestLine 46 = .ok (.ireturn, 1) := by decide +kernel
theorem dX10_isPrice_0 : decode cX10_isPrice 0 = .ok (.iload_n 0, 1) := by decide +kernel
theorem dX10_isPrice_1 : decode cX10_isPrice 1 = .ok (.i2l, 1) := by decide +kernel
theorem dX10_isPrice_2 : decode cX10_isPrice 2 = .ok (.lconst 0, 1) := by decide +kernel
theorem dX10_isPrice_3 : decode cX10_isPrice 3 = .ok (.ldc2_w 430, 3) := by decide +kernel
theorem dX10_isPrice_6 : decode cX10_isPrice 6 = .ok (.invokestatic 154, 3) := by decide +kernel
theorem dX10_isPrice_9 : decode cX10_isPrice 9 = .ok (.ireturn, 1) := by decide +kernel
theorem dX10_line_0 : decode cX10_line 0 = .ok (.iload_n 1, 1) := by decide +kernel
theorem dX10_line_1 : decode cX10_line 1 = .ok (.i2l, 1) := by decide +kernel
theorem dX10_line_2 : decode cX10_line 2 = .ok (.lconst 0, 1) := by decide +kernel
theorem dX10_line_3 : decode cX10_line 3 = .ok (.ldc2_w 425, 3) := by decide +kernel
theorem dX10_line_6 : decode cX10_line 6 = .ok (.invokestatic 154, 3) := by decide +kernel
theorem dX10_line_9 : decode cX10_line 9 = .ok (.ifCond .eq 28, 3) := by decide +kernel
theorem dX10_line_12 : decode cX10_line 12 = .ok (.iload_n 2, 1) := by decide +kernel
theorem dX10_line_13 : decode cX10_line 13 = .ok (.invokestatic 438, 3) := by decide +kernel
theorem dX10_line_16 : decode cX10_line 16 = .ok (.ifCond .eq 21, 3) := by decide +kernel
theorem dX10_line_19 : decode cX10_line 19 = .ok (.iload_n 3, 1) := by decide +kernel
theorem dX10_line_20 : decode cX10_line 20 = .ok (.invokestatic 438, 3) := by decide +kernel
theorem dX10_line_23 : decode cX10_line 23 = .ok (.ifCond .eq 14, 3) := by decide +kernel
theorem dX10_line_26 : decode cX10_line 26 = .ok (.iload 4, 2) := by decide +kernel
theorem dX10_line_28 : decode cX10_line 28 = .ok (.i2l, 1) := by decide +kernel
theorem dX10_line_29 : decode cX10_line 29 = .ok (.lconst 0, 1) := by decide +kernel
theorem dX10_line_30 : decode cX10_line 30 = .ok (.lconst 1, 1) := by decide +kernel
theorem dX10_line_31 : decode cX10_line 31 = .ok (.invokestatic 154, 3) := by decide +kernel
theorem dX10_line_34 : decode cX10_line 34 = .ok (.ifCond .ne 5, 3) := by decide +kernel
theorem dX10_line_37 : decode cX10_line 37 = .ok (.iconst (-1), 1) := by decide +kernel
theorem dX10_line_38 : decode cX10_line 38 = .ok (.ireturn, 1) := by decide +kernel
theorem dX10_line_39 : decode cX10_line 39 = .ok (.aload_n 0, 1) := by decide +kernel
theorem dX10_line_40 : decode cX10_line 40 = .ok (.iload_n 1, 1) := by decide +kernel
theorem dX10_line_41 : decode cX10_line 41 = .ok (.iload_n 2, 1) := by decide +kernel
theorem dX10_line_42 : decode cX10_line 42 = .ok (.iload_n 3, 1) := by decide +kernel
theorem dX10_line_43 : decode cX10_line 43 = .ok (.invokevirtual 441, 3) := by decide +kernel
theorem dX10_line_46 : decode cX10_line 46 = .ok (.istore 5, 2) := by decide +kernel
theorem dX10_line_48 : decode cX10_line 48 = .ok (.iload 4, 2) := by decide +kernel
theorem dX10_line_50 : decode cX10_line 50 = .ok (.iconst 1, 1) := by decide +kernel
theorem dX10_line_51 : decode cX10_line 51 = .ok (.if_icmp .ne 8, 3) := by decide +kernel
theorem dX10_line_54 : decode cX10_line 54 = .ok (.iload 5, 2) := by decide +kernel
theorem dX10_line_56 : decode cX10_line 56 = .ok (.goto 12, 3) := by decide +kernel
theorem dX10_line_59 : decode cX10_line 59 = .ok (.aload_n 0, 1) := by decide +kernel
theorem dX10_line_60 : decode cX10_line 60 = .ok (.iload_n 1, 1) := by decide +kernel
theorem dX10_line_61 : decode cX10_line 61 = .ok (.iload 5, 2) := by decide +kernel
theorem dX10_line_63 : decode cX10_line 63 = .ok (.iload_n 2, 1) := by decide +kernel
theorem dX10_line_64 : decode cX10_line 64 = .ok (.iload_n 3, 1) := by decide +kernel
theorem dX10_line_65 : decode cX10_line 65 = .ok (.invokevirtual 435, 3) := by decide +kernel
theorem dX10_line_68 : decode cX10_line 68 = .ok (.ireturn, 1) := by decide +kernel
theorem dX10_tells_0 : decode cX10_tells 0 = .ok (.iload_n 1, 1) := by decide +kernel
theorem dX10_tells_1 : decode cX10_tells 1 = .ok (.invokestatic 438, 3) := by decide +kernel
theorem dX10_tells_4 : decode cX10_tells 4 = .ok (.ifCond .eq 10, 3) := by decide +kernel
theorem dX10_tells_7 : decode cX10_tells 7 = .ok (.iload_n 2, 1) := by decide +kernel
theorem dX10_tells_8 : decode cX10_tells 8 = .ok (.invokestatic 438, 3) := by decide +kernel
theorem dX10_tells_11 : decode cX10_tells 11 = .ok (.ifCond .ne 5, 3) := by decide +kernel
theorem dX10_tells_14 : decode cX10_tells 14 = .ok (.iconst (-1), 1) := by decide +kernel
theorem dX10_tells_15 : decode cX10_tells 15 = .ok (.ireturn, 1) := by decide +kernel
theorem dX10_tells_16 : decode cX10_tells 16 = .ok (.iconst 0, 1) := by decide +kernel
theorem dX10_tells_17 : decode cX10_tells 17 = .ok (.istore_n 3, 1) := by decide +kernel
theorem dX10_tells_18 : decode cX10_tells 18 = .ok (.iconst 1, 1) := by decide +kernel
theorem dX10_tells_19 : decode cX10_tells 19 = .ok (.istore 4, 2) := by decide +kernel
theorem dX10_tells_21 : decode cX10_tells 21 = .ok (.iload 4, 2) := by decide +kernel
theorem dX10_tells_23 : decode cX10_tells 23 = .ok (.iconst 3, 1) := by decide +kernel
theorem dX10_tells_24 : decode cX10_tells 24 = .ok (.if_icmp .ge 45, 3) := by decide +kernel
theorem dX10_tells_27 : decode cX10_tells 27 = .ok (.aload_n 0, 1) := by decide +kernel
theorem dX10_tells_28 : decode cX10_tells 28 = .ok (.iload 4, 2) := by decide +kernel
theorem dX10_tells_30 : decode cX10_tells 30 = .ok (.aload_n 0, 1) := by decide +kernel
theorem dX10_tells_31 : decode cX10_tells 31 = .ok (.iload 4, 2) := by decide +kernel
theorem dX10_tells_33 : decode cX10_tells 33 = .ok (.iload_n 1, 1) := by decide +kernel
theorem dX10_tells_34 : decode cX10_tells 34 = .ok (.iload_n 2, 1) := by decide +kernel
theorem dX10_tells_35 : decode cX10_tells 35 = .ok (.invokevirtual 441, 3) := by decide +kernel
theorem dX10_tells_38 : decode cX10_tells 38 = .ok (.iload_n 1, 1) := by decide +kernel
theorem dX10_tells_39 : decode cX10_tells 39 = .ok (.iload_n 2, 1) := by decide +kernel
theorem dX10_tells_40 : decode cX10_tells 40 = .ok (.invokevirtual 435, 3) := by decide +kernel
theorem dX10_tells_43 : decode cX10_tells 43 = .ok (.aload_n 0, 1) := by decide +kernel
theorem dX10_tells_44 : decode cX10_tells 44 = .ok (.iload_n 3, 1) := by decide +kernel
theorem dX10_tells_45 : decode cX10_tells 45 = .ok (.aload_n 0, 1) := by decide +kernel
theorem dX10_tells_46 : decode cX10_tells 46 = .ok (.iload_n 3, 1) := by decide +kernel
theorem dX10_tells_47 : decode cX10_tells 47 = .ok (.iload_n 1, 1) := by decide +kernel
theorem dX10_tells_48 : decode cX10_tells 48 = .ok (.iload_n 2, 1) := by decide +kernel
theorem dX10_tells_49 : decode cX10_tells 49 = .ok (.invokevirtual 441, 3) := by decide +kernel
theorem dX10_tells_52 : decode cX10_tells 52 = .ok (.iload_n 1, 1) := by decide +kernel
theorem dX10_tells_53 : decode cX10_tells 53 = .ok (.iload_n 2, 1) := by decide +kernel
theorem dX10_tells_54 : decode cX10_tells 54 = .ok (.invokevirtual 435, 3) := by decide +kernel
theorem dX10_tells_57 : decode cX10_tells 57 = .ok (.if_icmp .ge 6, 3) := by decide +kernel
theorem dX10_tells_60 : decode cX10_tells 60 = .ok (.iload 4, 2) := by decide +kernel
theorem dX10_tells_62 : decode cX10_tells 62 = .ok (.istore_n 3, 1) := by decide +kernel
theorem dX10_tells_63 : decode cX10_tells 63 = .ok (.iinc 4 1, 3) := by decide +kernel
theorem dX10_tells_66 : decode cX10_tells 66 = .ok (.goto (-45), 3) := by decide +kernel
theorem dX10_tells_69 : decode cX10_tells 69 = .ok (.iload_n 3, 1) := by decide +kernel
theorem dX10_tells_70 : decode cX10_tells 70 = .ok (.ireturn, 1) := by decide +kernel
theorem dX10_held_0 : decode cX10_held 0 = .ok (.iload_n 1, 1) := by decide +kernel
theorem dX10_held_1 : decode cX10_held 1 = .ok (.invokestatic 438, 3) := by decide +kernel
theorem dX10_held_4 : decode cX10_held 4 = .ok (.ifCond .eq 10, 3) := by decide +kernel
theorem dX10_held_7 : decode cX10_held 7 = .ok (.iload_n 2, 1) := by decide +kernel
theorem dX10_held_8 : decode cX10_held 8 = .ok (.invokestatic 438, 3) := by decide +kernel
theorem dX10_held_11 : decode cX10_held 11 = .ok (.ifCond .ne 5, 3) := by decide +kernel
theorem dX10_held_14 : decode cX10_held 14 = .ok (.iconst (-1), 1) := by decide +kernel
theorem dX10_held_15 : decode cX10_held 15 = .ok (.ireturn, 1) := by decide +kernel
theorem dX10_held_16 : decode cX10_held 16 = .ok (.iconst 0, 1) := by decide +kernel
theorem dX10_held_17 : decode cX10_held 17 = .ok (.istore_n 3, 1) := by decide +kernel
theorem dX10_held_18 : decode cX10_held 18 = .ok (.iconst 0, 1) := by decide +kernel
theorem dX10_held_19 : decode cX10_held 19 = .ok (.istore 4, 2) := by decide +kernel
theorem dX10_held_21 : decode cX10_held 21 = .ok (.iload 4, 2) := by decide +kernel
theorem dX10_held_23 : decode cX10_held 23 = .ok (.aload_n 0, 1) := by decide +kernel
theorem dX10_held_24 : decode cX10_held 24 = .ok (.getfield 432, 3) := by decide +kernel
theorem dX10_held_27 : decode cX10_held 27 = .ok (.if_icmp .ge 107, 3) := by decide +kernel
theorem dX10_held_30 : decode cX10_held 30 = .ok (.aload_n 0, 1) := by decide +kernel
theorem dX10_held_31 : decode cX10_held 31 = .ok (.iconst (-1), 1) := by decide +kernel
theorem dX10_held_32 : decode cX10_held 32 = .ok (.putfield 304, 3) := by decide +kernel
theorem dX10_held_35 : decode cX10_held 35 = .ok (.aload_n 0, 1) := by decide +kernel
theorem dX10_held_36 : decode cX10_held 36 = .ok (.aload_n 0, 1) := by decide +kernel
theorem dX10_held_37 : decode cX10_held 37 = .ok (.getfield 134, 3) := by decide +kernel
theorem dX10_held_40 : decode cX10_held 40 = .ok (.iconst 3, 1) := by decide +kernel
theorem dX10_held_41 : decode cX10_held 41 = .ok (.iload 4, 2) := by decide +kernel
theorem dX10_held_43 : decode cX10_held 43 = .ok (.imul, 1) := by decide +kernel
theorem dX10_held_44 : decode cX10_held 44 = .ok (.iaload, 1) := by decide +kernel
theorem dX10_held_45 : decode cX10_held 45 = .ok (.putfield 317, 3) := by decide +kernel
theorem dX10_held_48 : decode cX10_held 48 = .ok (.aload_n 0, 1) := by decide +kernel
theorem dX10_held_49 : decode cX10_held 49 = .ok (.aload_n 0, 1) := by decide +kernel
theorem dX10_held_50 : decode cX10_held 50 = .ok (.getfield 134, 3) := by decide +kernel
theorem dX10_held_53 : decode cX10_held 53 = .ok (.iconst 3, 1) := by decide +kernel
theorem dX10_held_54 : decode cX10_held 54 = .ok (.iload 4, 2) := by decide +kernel
theorem dX10_held_56 : decode cX10_held 56 = .ok (.imul, 1) := by decide +kernel
theorem dX10_held_57 : decode cX10_held 57 = .ok (.iconst 1, 1) := by decide +kernel
theorem dX10_held_58 : decode cX10_held 58 = .ok (.iadd, 1) := by decide +kernel
theorem dX10_held_59 : decode cX10_held 59 = .ok (.iaload, 1) := by decide +kernel
theorem dX10_held_60 : decode cX10_held 60 = .ok (.putfield 320, 3) := by decide +kernel
theorem dX10_held_63 : decode cX10_held 63 = .ok (.aload_n 0, 1) := by decide +kernel
theorem dX10_held_64 : decode cX10_held 64 = .ok (.aload_n 0, 1) := by decide +kernel
theorem dX10_held_65 : decode cX10_held 65 = .ok (.getfield 134, 3) := by decide +kernel
theorem dX10_held_68 : decode cX10_held 68 = .ok (.iconst 3, 1) := by decide +kernel
theorem dX10_held_69 : decode cX10_held 69 = .ok (.iload 4, 2) := by decide +kernel
theorem dX10_held_71 : decode cX10_held 71 = .ok (.imul, 1) := by decide +kernel
theorem dX10_held_72 : decode cX10_held 72 = .ok (.iconst 2, 1) := by decide +kernel
theorem dX10_held_73 : decode cX10_held 73 = .ok (.iadd, 1) := by decide +kernel
theorem dX10_held_74 : decode cX10_held 74 = .ok (.iaload, 1) := by decide +kernel
theorem dX10_held_75 : decode cX10_held 75 = .ok (.putfield 323, 3) := by decide +kernel
theorem dX10_held_78 : decode cX10_held 78 = .ok (.aload_n 0, 1) := by decide +kernel
theorem dX10_held_79 : decode cX10_held 79 = .ok (.bipush 102, 2) := by decide +kernel
theorem dX10_held_81 : decode cX10_held 81 = .ok (.iconst 1, 1) := by decide +kernel
theorem dX10_held_82 : decode cX10_held 82 = .ok (.invokevirtual 342, 3) := by decide +kernel
theorem dX10_held_85 : decode cX10_held 85 = .ok (.ifCond .le 7, 3) := by decide +kernel
theorem dX10_held_88 : decode cX10_held 88 = .ok (.iconst 1, 1) := by decide +kernel
theorem dX10_held_89 : decode cX10_held 89 = .ok (.goto 4, 3) := by decide +kernel
theorem dX10_held_92 : decode cX10_held 92 = .ok (.iconst 0, 1) := by decide +kernel
theorem dX10_held_93 : decode cX10_held 93 = .ok (.istore 5, 2) := by decide +kernel
theorem dX10_held_95 : decode cX10_held 95 = .ok (.iload 5, 2) := by decide +kernel
theorem dX10_held_97 : decode cX10_held 97 = .ok (.aload_n 0, 1) := by decide +kernel
theorem dX10_held_98 : decode cX10_held 98 = .ok (.getfield 137, 3) := by decide +kernel
theorem dX10_held_101 : decode cX10_held 101 = .ok (.iload 4, 2) := by decide +kernel
theorem dX10_held_103 : decode cX10_held 103 = .ok (.iaload, 1) := by decide +kernel
theorem dX10_held_104 : decode cX10_held 104 = .ok (.ifCond .le 7, 3) := by decide +kernel
theorem dX10_held_107 : decode cX10_held 107 = .ok (.iconst 1, 1) := by decide +kernel
theorem dX10_held_108 : decode cX10_held 108 = .ok (.goto 4, 3) := by decide +kernel
theorem dX10_held_111 : decode cX10_held 111 = .ok (.iconst 0, 1) := by decide +kernel
theorem dX10_held_112 : decode cX10_held 112 = .ok (.if_icmp .eq 16, 3) := by decide +kernel
theorem dX10_held_115 : decode cX10_held 115 = .ok (.iload_n 3, 1) := by decide +kernel
theorem dX10_held_116 : decode cX10_held 116 = .ok (.iload 5, 2) := by decide +kernel
theorem dX10_held_118 : decode cX10_held 118 = .ok (.ifCond .eq 7, 3) := by decide +kernel
theorem dX10_held_121 : decode cX10_held 121 = .ok (.iload_n 2, 1) := by decide +kernel
theorem dX10_held_122 : decode cX10_held 122 = .ok (.goto 4, 3) := by decide +kernel
theorem dX10_held_125 : decode cX10_held 125 = .ok (.iload_n 1, 1) := by decide +kernel
theorem dX10_held_126 : decode cX10_held 126 = .ok (.iadd, 1) := by decide +kernel
theorem dX10_held_127 : decode cX10_held 127 = .ok (.istore_n 3, 1) := by decide +kernel
theorem dX10_held_128 : decode cX10_held 128 = .ok (.iinc 4 1, 3) := by decide +kernel
theorem dX10_held_131 : decode cX10_held 131 = .ok (.goto (-110), 3) := by decide +kernel
theorem dX10_held_134 : decode cX10_held 134 = .ok (.iload_n 3, 1) := by decide +kernel
theorem dX10_held_135 : decode cX10_held 135 = .ok (.ireturn, 1) := by decide +kernel
theorem dX10_isWithin_0 : decode cX10_isWithin 0 = .ok (.iload_n 0, 1) := by decide +kernel
theorem dX10_isWithin_1 : decode cX10_isWithin 1 = .ok (.iload_n 1, 1) := by decide +kernel
theorem dX10_isWithin_2 : decode cX10_isWithin 2 = .ok (.isub, 1) := by decide +kernel
theorem dX10_isWithin_3 : decode cX10_isWithin 3 = .ok (.i2l, 1) := by decide +kernel
theorem dX10_isWithin_4 : decode cX10_isWithin 4 = .ok (.iload_n 2, 1) := by decide +kernel
theorem dX10_isWithin_5 : decode cX10_isWithin 5 = .ok (.ineg, 1) := by decide +kernel
theorem dX10_isWithin_6 : decode cX10_isWithin 6 = .ok (.i2l, 1) := by decide +kernel
theorem dX10_isWithin_7 : decode cX10_isWithin 7 = .ok (.iload_n 2, 1) := by decide +kernel
theorem dX10_isWithin_8 : decode cX10_isWithin 8 = .ok (.i2l, 1) := by decide +kernel
theorem dX10_isWithin_9 : decode cX10_isWithin 9 = .ok (.invokestatic 154, 3) := by decide +kernel
theorem dX10_isWithin_12 : decode cX10_isWithin 12 = .ok (.ireturn, 1) := by decide +kernel
theorem dX10_divisor_0 : decode cX10_divisor 0 = .ok (.lload_n 0, 1) := by decide +kernel
theorem dX10_divisor_1 : decode cX10_divisor 1 = .ok (.lstore 4, 2) := by decide +kernel
theorem dX10_divisor_3 : decode cX10_divisor 3 = .ok (.lload_n 2, 1) := by decide +kernel
theorem dX10_divisor_4 : decode cX10_divisor 4 = .ok (.lstore 6, 2) := by decide +kernel
theorem dX10_divisor_6 : decode cX10_divisor 6 = .ok (.lload 6, 2) := by decide +kernel
theorem dX10_divisor_8 : decode cX10_divisor 8 = .ok (.lconst 0, 1) := by decide +kernel
theorem dX10_divisor_9 : decode cX10_divisor 9 = .ok (.lcmp, 1) := by decide +kernel
theorem dX10_divisor_10 : decode cX10_divisor 10 = .ok (.ifCond .eq 21, 3) := by decide +kernel
theorem dX10_divisor_13 : decode cX10_divisor 13 = .ok (.lload 4, 2) := by decide +kernel
theorem dX10_divisor_15 : decode cX10_divisor 15 = .ok (.lload 6, 2) := by decide +kernel
theorem dX10_divisor_17 : decode cX10_divisor 17 = .ok (.lrem, 1) := by decide +kernel
theorem dX10_divisor_18 : decode cX10_divisor 18 = .ok (.lstore 8, 2) := by decide +kernel
theorem dX10_divisor_20 : decode cX10_divisor 20 = .ok (.lload 6, 2) := by decide +kernel
theorem dX10_divisor_22 : decode cX10_divisor 22 = .ok (.lstore 4, 2) := by decide +kernel
theorem dX10_divisor_24 : decode cX10_divisor 24 = .ok (.lload 8, 2) := by decide +kernel
theorem dX10_divisor_26 : decode cX10_divisor 26 = .ok (.lstore 6, 2) := by decide +kernel
theorem dX10_divisor_28 : decode cX10_divisor 28 = .ok (.goto (-22), 3) := by decide +kernel
theorem dX10_divisor_31 : decode cX10_divisor 31 = .ok (.lload 4, 2) := by decide +kernel
theorem dX10_divisor_33 : decode cX10_divisor 33 = .ok (.lreturn, 1) := by decide +kernel
theorem dX10_odds_0 : decode cX10_odds 0 = .ok (.iload_n 1, 1) := by decide +kernel
theorem dX10_odds_1 : decode cX10_odds 1 = .ok (.i2l, 1) := by decide +kernel
theorem dX10_odds_2 : decode cX10_odds 2 = .ok (.lconst 0, 1) := by decide +kernel
theorem dX10_odds_3 : decode cX10_odds 3 = .ok (.ldc2_w 170, 3) := by decide +kernel
theorem dX10_odds_6 : decode cX10_odds 6 = .ok (.invokestatic 154, 3) := by decide +kernel
theorem dX10_odds_9 : decode cX10_odds 9 = .ok (.ifCond .eq 53, 3) := by decide +kernel
theorem dX10_odds_12 : decode cX10_odds 12 = .ok (.iload_n 2, 1) := by decide +kernel
theorem dX10_odds_13 : decode cX10_odds 13 = .ok (.i2l, 1) := by decide +kernel
theorem dX10_odds_14 : decode cX10_odds 14 = .ok (.lconst 0, 1) := by decide +kernel
theorem dX10_odds_15 : decode cX10_odds 15 = .ok (.ldc2_w 170, 3) := by decide +kernel
theorem dX10_odds_18 : decode cX10_odds 18 = .ok (.invokestatic 154, 3) := by decide +kernel
theorem dX10_odds_21 : decode cX10_odds 21 = .ok (.ifCond .eq 41, 3) := by decide +kernel
theorem dX10_odds_24 : decode cX10_odds 24 = .ok (.iload_n 3, 1) := by decide +kernel
theorem dX10_odds_25 : decode cX10_odds 25 = .ok (.i2l, 1) := by decide +kernel
theorem dX10_odds_26 : decode cX10_odds 26 = .ok (.lconst 0, 1) := by decide +kernel
theorem dX10_odds_27 : decode cX10_odds 27 = .ok (.ldc2_w 170, 3) := by decide +kernel
theorem dX10_odds_30 : decode cX10_odds 30 = .ok (.invokestatic 154, 3) := by decide +kernel
theorem dX10_odds_33 : decode cX10_odds 33 = .ok (.ifCond .eq 29, 3) := by decide +kernel
theorem dX10_odds_36 : decode cX10_odds 36 = .ok (.iload 4, 2) := by decide +kernel
theorem dX10_odds_38 : decode cX10_odds 38 = .ok (.i2l, 1) := by decide +kernel
theorem dX10_odds_39 : decode cX10_odds 39 = .ok (.lconst 0, 1) := by decide +kernel
theorem dX10_odds_40 : decode cX10_odds 40 = .ok (.ldc2_w 170, 3) := by decide +kernel
theorem dX10_odds_43 : decode cX10_odds 43 = .ok (.invokestatic 154, 3) := by decide +kernel
theorem dX10_odds_46 : decode cX10_odds 46 = .ok (.ifCond .eq 16, 3) := by decide +kernel
theorem dX10_odds_49 : decode cX10_odds 49 = .ok (.iload 5, 2) := by decide +kernel
theorem dX10_odds_51 : decode cX10_odds 51 = .ok (.i2l, 1) := by decide +kernel
theorem dX10_odds_52 : decode cX10_odds 52 = .ok (.lconst 0, 1) := by decide +kernel
theorem dX10_odds_53 : decode cX10_odds 53 = .ok (.ldc2_w 425, 3) := by decide +kernel
theorem dX10_odds_56 : decode cX10_odds 56 = .ok (.invokestatic 154, 3) := by decide +kernel
theorem dX10_odds_59 : decode cX10_odds 59 = .ok (.ifCond .ne 5, 3) := by decide +kernel
theorem dX10_odds_62 : decode cX10_odds 62 = .ok (.iconst (-1), 1) := by decide +kernel
theorem dX10_odds_63 : decode cX10_odds 63 = .ok (.ireturn, 1) := by decide +kernel
theorem dX10_odds_64 : decode cX10_odds 64 = .ok (.iconst 0, 1) := by decide +kernel
theorem dX10_odds_65 : decode cX10_odds 65 = .ok (.istore 6, 2) := by decide +kernel
theorem dX10_odds_67 : decode cX10_odds 67 = .ok (.iconst 0, 1) := by decide +kernel
theorem dX10_odds_68 : decode cX10_odds 68 = .ok (.istore 7, 2) := by decide +kernel
theorem dX10_odds_70 : decode cX10_odds 70 = .ok (.iconst 0, 1) := by decide +kernel
theorem dX10_odds_71 : decode cX10_odds 71 = .ok (.istore 8, 2) := by decide +kernel
theorem dX10_odds_73 : decode cX10_odds 73 = .ok (.iconst 0, 1) := by decide +kernel
theorem dX10_odds_74 : decode cX10_odds 74 = .ok (.istore 9, 2) := by decide +kernel
theorem dX10_odds_76 : decode cX10_odds 76 = .ok (.iload 9, 2) := by decide +kernel
theorem dX10_odds_78 : decode cX10_odds 78 = .ok (.aload_n 0, 1) := by decide +kernel
theorem dX10_odds_79 : decode cX10_odds 79 = .ok (.getfield 432, 3) := by decide +kernel
theorem dX10_odds_82 : decode cX10_odds 82 = .ok (.if_icmp .ge 119, 3) := by decide +kernel
theorem dX10_odds_85 : decode cX10_odds 85 = .ok (.aload_n 0, 1) := by decide +kernel
theorem dX10_odds_86 : decode cX10_odds 86 = .ok (.getfield 134, 3) := by decide +kernel
theorem dX10_odds_89 : decode cX10_odds 89 = .ok (.iconst 3, 1) := by decide +kernel
theorem dX10_odds_90 : decode cX10_odds 90 = .ok (.iload 9, 2) := by decide +kernel
theorem dX10_odds_92 : decode cX10_odds 92 = .ok (.imul, 1) := by decide +kernel
theorem dX10_odds_93 : decode cX10_odds 93 = .ok (.iaload, 1) := by decide +kernel
theorem dX10_odds_94 : decode cX10_odds 94 = .ok (.iload_n 1, 1) := by decide +kernel
theorem dX10_odds_95 : decode cX10_odds 95 = .ok (.iload 4, 2) := by decide +kernel
theorem dX10_odds_97 : decode cX10_odds 97 = .ok (.invokestatic 444, 3) := by decide +kernel
theorem dX10_odds_100 : decode cX10_odds 100 = .ok (.ifCond .eq 95, 3) := by decide +kernel
theorem dX10_odds_103 : decode cX10_odds 103 = .ok (.aload_n 0, 1) := by decide +kernel
theorem dX10_odds_104 : decode cX10_odds 104 = .ok (.getfield 134, 3) := by decide +kernel
theorem dX10_odds_107 : decode cX10_odds 107 = .ok (.iconst 3, 1) := by decide +kernel
theorem dX10_odds_108 : decode cX10_odds 108 = .ok (.iload 9, 2) := by decide +kernel
theorem dX10_odds_110 : decode cX10_odds 110 = .ok (.imul, 1) := by decide +kernel
theorem dX10_odds_111 : decode cX10_odds 111 = .ok (.iconst 1, 1) := by decide +kernel
theorem dX10_odds_112 : decode cX10_odds 112 = .ok (.iadd, 1) := by decide +kernel
theorem dX10_odds_113 : decode cX10_odds 113 = .ok (.iaload, 1) := by decide +kernel
theorem dX10_odds_114 : decode cX10_odds 114 = .ok (.iload_n 2, 1) := by decide +kernel
theorem dX10_odds_115 : decode cX10_odds 115 = .ok (.iload 4, 2) := by decide +kernel
theorem dX10_odds_117 : decode cX10_odds 117 = .ok (.invokestatic 444, 3) := by decide +kernel
theorem dX10_odds_120 : decode cX10_odds 120 = .ok (.ifCond .eq 75, 3) := by decide +kernel
theorem dX10_odds_123 : decode cX10_odds 123 = .ok (.aload_n 0, 1) := by decide +kernel
theorem dX10_odds_124 : decode cX10_odds 124 = .ok (.getfield 134, 3) := by decide +kernel
theorem dX10_odds_127 : decode cX10_odds 127 = .ok (.iconst 3, 1) := by decide +kernel
theorem dX10_odds_128 : decode cX10_odds 128 = .ok (.iload 9, 2) := by decide +kernel
theorem dX10_odds_130 : decode cX10_odds 130 = .ok (.imul, 1) := by decide +kernel
theorem dX10_odds_131 : decode cX10_odds 131 = .ok (.iconst 2, 1) := by decide +kernel
theorem dX10_odds_132 : decode cX10_odds 132 = .ok (.iadd, 1) := by decide +kernel
theorem dX10_odds_133 : decode cX10_odds 133 = .ok (.iaload, 1) := by decide +kernel
theorem dX10_odds_134 : decode cX10_odds 134 = .ok (.iload_n 3, 1) := by decide +kernel
theorem dX10_odds_135 : decode cX10_odds 135 = .ok (.iload 4, 2) := by decide +kernel
theorem dX10_odds_137 : decode cX10_odds 137 = .ok (.invokestatic 444, 3) := by decide +kernel
theorem dX10_odds_140 : decode cX10_odds 140 = .ok (.ifCond .ne 6, 3) := by decide +kernel
theorem dX10_odds_143 : decode cX10_odds 143 = .ok (.goto 52, 3) := by decide +kernel
theorem dX10_odds_146 : decode cX10_odds 146 = .ok (.iinc 6 1, 3) := by decide +kernel
theorem dX10_odds_149 : decode cX10_odds 149 = .ok (.iload 7, 2) := by decide +kernel
theorem dX10_odds_151 : decode cX10_odds 151 = .ok (.aload_n 0, 1) := by decide +kernel
theorem dX10_odds_152 : decode cX10_odds 152 = .ok (.getfield 137, 3) := by decide +kernel
theorem dX10_odds_155 : decode cX10_odds 155 = .ok (.iload 9, 2) := by decide +kernel
theorem dX10_odds_157 : decode cX10_odds 157 = .ok (.iaload, 1) := by decide +kernel
theorem dX10_odds_158 : decode cX10_odds 158 = .ok (.ifCond .le 7, 3) := by decide +kernel
theorem dX10_odds_161 : decode cX10_odds 161 = .ok (.iconst 1, 1) := by decide +kernel
theorem dX10_odds_162 : decode cX10_odds 162 = .ok (.goto 4, 3) := by decide +kernel
theorem dX10_odds_165 : decode cX10_odds 165 = .ok (.iconst 0, 1) := by decide +kernel
theorem dX10_odds_166 : decode cX10_odds 166 = .ok (.iadd, 1) := by decide +kernel
theorem dX10_odds_167 : decode cX10_odds 167 = .ok (.istore 7, 2) := by decide +kernel
theorem dX10_odds_169 : decode cX10_odds 169 = .ok (.aload_n 0, 1) := by decide +kernel
theorem dX10_odds_170 : decode cX10_odds 170 = .ok (.getfield 137, 3) := by decide +kernel
theorem dX10_odds_173 : decode cX10_odds 173 = .ok (.iload 9, 2) := by decide +kernel
theorem dX10_odds_175 : decode cX10_odds 175 = .ok (.iaload, 1) := by decide +kernel
theorem dX10_odds_176 : decode cX10_odds 176 = .ok (.iload 8, 2) := by decide +kernel
theorem dX10_odds_178 : decode cX10_odds 178 = .ok (.if_icmp .le 13, 3) := by decide +kernel
theorem dX10_odds_181 : decode cX10_odds 181 = .ok (.aload_n 0, 1) := by decide +kernel
theorem dX10_odds_182 : decode cX10_odds 182 = .ok (.getfield 137, 3) := by decide +kernel
theorem dX10_odds_185 : decode cX10_odds 185 = .ok (.iload 9, 2) := by decide +kernel
theorem dX10_odds_187 : decode cX10_odds 187 = .ok (.iaload, 1) := by decide +kernel
theorem dX10_odds_188 : decode cX10_odds 188 = .ok (.goto 5, 3) := by decide +kernel
theorem dX10_odds_191 : decode cX10_odds 191 = .ok (.iload 8, 2) := by decide +kernel
theorem dX10_odds_193 : decode cX10_odds 193 = .ok (.istore 8, 2) := by decide +kernel
theorem dX10_odds_195 : decode cX10_odds 195 = .ok (.iinc 9 1, 3) := by decide +kernel
theorem dX10_odds_198 : decode cX10_odds 198 = .ok (.goto (-122), 3) := by decide +kernel
theorem dX10_odds_201 : decode cX10_odds 201 = .ok (.iload 6, 2) := by decide +kernel
theorem dX10_odds_203 : decode cX10_odds 203 = .ok (.ifCond .ne 6, 3) := by decide +kernel
theorem dX10_odds_206 : decode cX10_odds 206 = .ok (.bipush (-2), 2) := by decide +kernel
theorem dX10_odds_208 : decode cX10_odds 208 = .ok (.ireturn, 1) := by decide +kernel
theorem dX10_odds_209 : decode cX10_odds 209 = .ok (.iload 5, 2) := by decide +kernel
theorem dX10_odds_211 : decode cX10_odds 211 = .ok (.iconst 2, 1) := by decide +kernel
theorem dX10_odds_212 : decode cX10_odds 212 = .ok (.if_icmp .ne 6, 3) := by decide +kernel
theorem dX10_odds_215 : decode cX10_odds 215 = .ok (.iload 8, 2) := by decide +kernel
theorem dX10_odds_217 : decode cX10_odds 217 = .ok (.ireturn, 1) := by decide +kernel
theorem dX10_odds_218 : decode cX10_odds 218 = .ok (.iload 7, 2) := by decide +kernel
theorem dX10_odds_220 : decode cX10_odds 220 = .ok (.i2l, 1) := by decide +kernel
theorem dX10_odds_221 : decode cX10_odds 221 = .ok (.iload 6, 2) := by decide +kernel
theorem dX10_odds_223 : decode cX10_odds 223 = .ok (.i2l, 1) := by decide +kernel
theorem dX10_odds_224 : decode cX10_odds 224 = .ok (.invokestatic 448, 3) := by decide +kernel
theorem dX10_odds_227 : decode cX10_odds 227 = .ok (.l2i, 1) := by decide +kernel
theorem dX10_odds_228 : decode cX10_odds 228 = .ok (.istore 9, 2) := by decide +kernel
theorem dX10_odds_230 : decode cX10_odds 230 = .ok (.iload 5, 2) := by decide +kernel
theorem dX10_odds_232 : decode cX10_odds 232 = .ok (.ifCond .ne 11, 3) := by decide +kernel
theorem dX10_odds_235 : decode cX10_odds 235 = .ok (.iload 7, 2) := by decide +kernel
theorem dX10_odds_237 : decode cX10_odds 237 = .ok (.iload 9, 2) := by decide +kernel
theorem dX10_odds_239 : decode cX10_odds 239 = .ok (.idiv, 1) := by decide +kernel
theorem dX10_odds_240 : decode cX10_odds 240 = .ok (.goto 8, 3) := by decide +kernel
theorem dX10_odds_243 : decode cX10_odds 243 = .ok (.iload 6, 2) := by decide +kernel
theorem dX10_odds_245 : decode cX10_odds 245 = .ok (.iload 9, 2) := by decide +kernel
theorem dX10_odds_247 : decode cX10_odds 247 = .ok (.idiv, 1) := by decide +kernel
theorem dX10_odds_248 : decode cX10_odds 248 = .ok (.ireturn, 1) := by decide +kernel
theorem dX10_costWhen_0 : decode cX10_costWhen 0 = .ok (.iconst 0, 1) := by decide +kernel
theorem dX10_costWhen_1 : decode cX10_costWhen 1 = .ok (.istore 4, 2) := by decide +kernel
theorem dX10_costWhen_3 : decode cX10_costWhen 3 = .ok (.iconst 0, 1) := by decide +kernel
theorem dX10_costWhen_4 : decode cX10_costWhen 4 = .ok (.istore 5, 2) := by decide +kernel
theorem dX10_costWhen_6 : decode cX10_costWhen 6 = .ok (.iload 5, 2) := by decide +kernel
theorem dX10_costWhen_8 : decode cX10_costWhen 8 = .ok (.aload_n 0, 1) := by decide +kernel
theorem dX10_costWhen_9 : decode cX10_costWhen 9 = .ok (.getfield 432, 3) := by decide +kernel
theorem dX10_costWhen_12 : decode cX10_costWhen 12 = .ok (.if_icmp .ge 63, 3) := by decide +kernel
theorem dX10_costWhen_15 : decode cX10_costWhen 15 = .ok (.aload_n 0, 1) := by decide +kernel
theorem dX10_costWhen_16 : decode cX10_costWhen 16 = .ok (.getfield 137, 3) := by decide +kernel
theorem dX10_costWhen_19 : decode cX10_costWhen 19 = .ok (.iload 5, 2) := by decide +kernel
theorem dX10_costWhen_21 : decode cX10_costWhen 21 = .ok (.iaload, 1) := by decide +kernel
theorem dX10_costWhen_22 : decode cX10_costWhen 22 = .ok (.ifCond .ne 6, 3) := by decide +kernel
theorem dX10_costWhen_25 : decode cX10_costWhen 25 = .ok (.goto 44, 3) := by decide +kernel
theorem dX10_costWhen_28 : decode cX10_costWhen 28 = .ok (.iload 4, 2) := by decide +kernel
theorem dX10_costWhen_30 : decode cX10_costWhen 30 = .ok (.aload_n 0, 1) := by decide +kernel
theorem dX10_costWhen_31 : decode cX10_costWhen 31 = .ok (.getfield 140, 3) := by decide +kernel
theorem dX10_costWhen_34 : decode cX10_costWhen 34 = .ok (.iload 5, 2) := by decide +kernel
theorem dX10_costWhen_36 : decode cX10_costWhen 36 = .ok (.iaload, 1) := by decide +kernel
theorem dX10_costWhen_37 : decode cX10_costWhen 37 = .ok (.iload_n 1, 1) := by decide +kernel
theorem dX10_costWhen_38 : decode cX10_costWhen 38 = .ok (.if_icmp .le 17, 3) := by decide +kernel
theorem dX10_costWhen_41 : decode cX10_costWhen 41 = .ok (.iload_n 2, 1) := by decide +kernel
theorem dX10_costWhen_42 : decode cX10_costWhen 42 = .ok (.aload_n 0, 1) := by decide +kernel
theorem dX10_costWhen_43 : decode cX10_costWhen 43 = .ok (.getfield 140, 3) := by decide +kernel
theorem dX10_costWhen_46 : decode cX10_costWhen 46 = .ok (.iload 5, 2) := by decide +kernel
theorem dX10_costWhen_48 : decode cX10_costWhen 48 = .ok (.iaload, 1) := by decide +kernel
theorem dX10_costWhen_49 : decode cX10_costWhen 49 = .ok (.iload_n 1, 1) := by decide +kernel
theorem dX10_costWhen_50 : decode cX10_costWhen 50 = .ok (.isub, 1) := by decide +kernel
theorem dX10_costWhen_51 : decode cX10_costWhen 51 = .ok (.imul, 1) := by decide +kernel
theorem dX10_costWhen_52 : decode cX10_costWhen 52 = .ok (.goto 14, 3) := by decide +kernel
theorem dX10_costWhen_55 : decode cX10_costWhen 55 = .ok (.iload_n 3, 1) := by decide +kernel
theorem dX10_costWhen_56 : decode cX10_costWhen 56 = .ok (.iload_n 1, 1) := by decide +kernel
theorem dX10_costWhen_57 : decode cX10_costWhen 57 = .ok (.aload_n 0, 1) := by decide +kernel
theorem dX10_costWhen_58 : decode cX10_costWhen 58 = .ok (.getfield 140, 3) := by decide +kernel
theorem dX10_costWhen_61 : decode cX10_costWhen 61 = .ok (.iload 5, 2) := by decide +kernel
theorem dX10_costWhen_63 : decode cX10_costWhen 63 = .ok (.iaload, 1) := by decide +kernel
theorem dX10_costWhen_64 : decode cX10_costWhen 64 = .ok (.isub, 1) := by decide +kernel
theorem dX10_costWhen_65 : decode cX10_costWhen 65 = .ok (.imul, 1) := by decide +kernel
theorem dX10_costWhen_66 : decode cX10_costWhen 66 = .ok (.iadd, 1) := by decide +kernel
theorem dX10_costWhen_67 : decode cX10_costWhen 67 = .ok (.istore 4, 2) := by decide +kernel
theorem dX10_costWhen_69 : decode cX10_costWhen 69 = .ok (.iinc 5 1, 3) := by decide +kernel
theorem dX10_costWhen_72 : decode cX10_costWhen 72 = .ok (.goto (-66), 3) := by decide +kernel
theorem dX10_costWhen_75 : decode cX10_costWhen 75 = .ok (.iload 4, 2) := by decide +kernel
theorem dX10_costWhen_77 : decode cX10_costWhen 77 = .ok (.ireturn, 1) := by decide +kernel
theorem dX10_when_0 : decode cX10_when 0 = .ok (.iload_n 1, 1) := by decide +kernel
theorem dX10_when_1 : decode cX10_when 1 = .ok (.i2l, 1) := by decide +kernel
theorem dX10_when_2 : decode cX10_when 2 = .ok (.lconst 0, 1) := by decide +kernel
theorem dX10_when_3 : decode cX10_when 3 = .ok (.ldc2_w 170, 3) := by decide +kernel
theorem dX10_when_6 : decode cX10_when 6 = .ok (.invokestatic 154, 3) := by decide +kernel
theorem dX10_when_9 : decode cX10_when 9 = .ok (.ifCond .eq 25, 3) := by decide +kernel
theorem dX10_when_12 : decode cX10_when 12 = .ok (.iload_n 2, 1) := by decide +kernel
theorem dX10_when_13 : decode cX10_when 13 = .ok (.i2l, 1) := by decide +kernel
theorem dX10_when_14 : decode cX10_when 14 = .ok (.lconst 0, 1) := by decide +kernel
theorem dX10_when_15 : decode cX10_when 15 = .ok (.ldc2_w 170, 3) := by decide +kernel
theorem dX10_when_18 : decode cX10_when 18 = .ok (.invokestatic 154, 3) := by decide +kernel
theorem dX10_when_21 : decode cX10_when 21 = .ok (.ifCond .eq 13, 3) := by decide +kernel
theorem dX10_when_24 : decode cX10_when 24 = .ok (.iload_n 3, 1) := by decide +kernel
theorem dX10_when_25 : decode cX10_when 25 = .ok (.i2l, 1) := by decide +kernel
theorem dX10_when_26 : decode cX10_when 26 = .ok (.lconst 0, 1) := by decide +kernel
theorem dX10_when_27 : decode cX10_when 27 = .ok (.lconst 1, 1) := by decide +kernel
theorem dX10_when_28 : decode cX10_when 28 = .ok (.invokestatic 154, 3) := by decide +kernel
theorem dX10_when_31 : decode cX10_when 31 = .ok (.ifCond .ne 5, 3) := by decide +kernel
theorem dX10_when_34 : decode cX10_when 34 = .ok (.iconst (-1), 1) := by decide +kernel
theorem dX10_when_35 : decode cX10_when 35 = .ok (.ireturn, 1) := by decide +kernel
theorem dX10_when_36 : decode cX10_when 36 = .ok (.iconst 0, 1) := by decide +kernel
theorem dX10_when_37 : decode cX10_when 37 = .ok (.istore 4, 2) := by decide +kernel
theorem dX10_when_39 : decode cX10_when 39 = .ok (.aload_n 0, 1) := by decide +kernel
theorem dX10_when_40 : decode cX10_when 40 = .ok (.iconst 0, 1) := by decide +kernel
theorem dX10_when_41 : decode cX10_when 41 = .ok (.iload_n 1, 1) := by decide +kernel
theorem dX10_when_42 : decode cX10_when 42 = .ok (.iload_n 2, 1) := by decide +kernel
theorem dX10_when_43 : decode cX10_when 43 = .ok (.invokevirtual 452, 3) := by decide +kernel
theorem dX10_when_46 : decode cX10_when 46 = .ok (.istore 5, 2) := by decide +kernel
theorem dX10_when_48 : decode cX10_when 48 = .ok (.iconst 1, 1) := by decide +kernel
theorem dX10_when_49 : decode cX10_when 49 = .ok (.istore 6, 2) := by decide +kernel
theorem dX10_when_51 : decode cX10_when 51 = .ok (.iload 6, 2) := by decide +kernel
theorem dX10_when_53 : decode cX10_when 53 = .ok (.sipush 1000, 3) := by decide +kernel
theorem dX10_when_56 : decode cX10_when 56 = .ok (.if_icmp .ge 37, 3) := by decide +kernel
theorem dX10_when_59 : decode cX10_when 59 = .ok (.aload_n 0, 1) := by decide +kernel
theorem dX10_when_60 : decode cX10_when 60 = .ok (.iload 6, 2) := by decide +kernel
theorem dX10_when_62 : decode cX10_when 62 = .ok (.iload_n 1, 1) := by decide +kernel
theorem dX10_when_63 : decode cX10_when 63 = .ok (.iload_n 2, 1) := by decide +kernel
theorem dX10_when_64 : decode cX10_when 64 = .ok (.invokevirtual 452, 3) := by decide +kernel
theorem dX10_when_67 : decode cX10_when 67 = .ok (.istore 7, 2) := by decide +kernel
theorem dX10_when_69 : decode cX10_when 69 = .ok (.iload 7, 2) := by decide +kernel
theorem dX10_when_71 : decode cX10_when 71 = .ok (.iload 5, 2) := by decide +kernel
theorem dX10_when_73 : decode cX10_when 73 = .ok (.if_icmp .lt 6, 3) := by decide +kernel
theorem dX10_when_76 : decode cX10_when 76 = .ok (.goto 11, 3) := by decide +kernel
theorem dX10_when_79 : decode cX10_when 79 = .ok (.iload 6, 2) := by decide +kernel
theorem dX10_when_81 : decode cX10_when 81 = .ok (.istore 4, 2) := by decide +kernel
theorem dX10_when_83 : decode cX10_when 83 = .ok (.iload 7, 2) := by decide +kernel
theorem dX10_when_85 : decode cX10_when 85 = .ok (.istore 5, 2) := by decide +kernel
theorem dX10_when_87 : decode cX10_when 87 = .ok (.iinc 6 1, 3) := by decide +kernel
theorem dX10_when_90 : decode cX10_when 90 = .ok (.goto (-39), 3) := by decide +kernel
theorem dX10_when_93 : decode cX10_when 93 = .ok (.iload_n 3, 1) := by decide +kernel
theorem dX10_when_94 : decode cX10_when 94 = .ok (.ifCond .ne 8, 3) := by decide +kernel
theorem dX10_when_97 : decode cX10_when 97 = .ok (.iload 4, 2) := by decide +kernel
theorem dX10_when_99 : decode cX10_when 99 = .ok (.goto 5, 3) := by decide +kernel
theorem dX10_when_102 : decode cX10_when 102 = .ok (.iload 5, 2) := by decide +kernel
theorem dX10_when_104 : decode cX10_when 104 = .ok (.ireturn, 1) := by decide +kernel
theorem dX10_lid_0 : decode cX10_lid 0 = .ok (.iload_n 1, 1) := by decide +kernel
theorem dX10_lid_1 : decode cX10_lid 1 = .ok (.i2l, 1) := by decide +kernel
theorem dX10_lid_2 : decode cX10_lid 2 = .ok (.lconst 1, 1) := by decide +kernel
theorem dX10_lid_3 : decode cX10_lid 3 = .ok (.ldc2_w 293, 3) := by decide +kernel
theorem dX10_lid_6 : decode cX10_lid 6 = .ok (.invokestatic 154, 3) := by decide +kernel
theorem dX10_lid_9 : decode cX10_lid 9 = .ok (.ifCond .eq 38, 3) := by decide +kernel
theorem dX10_lid_12 : decode cX10_lid 12 = .ok (.iload_n 2, 1) := by decide +kernel
theorem dX10_lid_13 : decode cX10_lid 13 = .ok (.i2l, 1) := by decide +kernel
theorem dX10_lid_14 : decode cX10_lid 14 = .ok (.lconst 1, 1) := by decide +kernel
theorem dX10_lid_15 : decode cX10_lid 15 = .ok (.ldc2_w 455, 3) := by decide +kernel
theorem dX10_lid_18 : decode cX10_lid 18 = .ok (.invokestatic 154, 3) := by decide +kernel
theorem dX10_lid_21 : decode cX10_lid 21 = .ok (.ifCond .eq 26, 3) := by decide +kernel
theorem dX10_lid_24 : decode cX10_lid 24 = .ok (.iload_n 3, 1) := by decide +kernel
theorem dX10_lid_25 : decode cX10_lid 25 = .ok (.i2l, 1) := by decide +kernel
theorem dX10_lid_26 : decode cX10_lid 26 = .ok (.lconst 1, 1) := by decide +kernel
theorem dX10_lid_27 : decode cX10_lid 27 = .ok (.ldc2_w 179, 3) := by decide +kernel
theorem dX10_lid_30 : decode cX10_lid 30 = .ok (.invokestatic 154, 3) := by decide +kernel
theorem dX10_lid_33 : decode cX10_lid 33 = .ok (.ifCond .eq 14, 3) := by decide +kernel
theorem dX10_lid_36 : decode cX10_lid 36 = .ok (.iload 4, 2) := by decide +kernel
theorem dX10_lid_38 : decode cX10_lid 38 = .ok (.i2l, 1) := by decide +kernel
theorem dX10_lid_39 : decode cX10_lid 39 = .ok (.lconst 0, 1) := by decide +kernel
theorem dX10_lid_40 : decode cX10_lid 40 = .ok (.lconst 1, 1) := by decide +kernel
theorem dX10_lid_41 : decode cX10_lid 41 = .ok (.invokestatic 154, 3) := by decide +kernel
theorem dX10_lid_44 : decode cX10_lid 44 = .ok (.ifCond .ne 7, 3) := by decide +kernel
theorem dX10_lid_47 : decode cX10_lid 47 = .ok (.ldc2_w 457, 3) := by decide +kernel
theorem dX10_lid_50 : decode cX10_lid 50 = .ok (.lreturn, 1) := by decide +kernel
theorem dX10_lid_51 : decode cX10_lid 51 = .ok (.iconst 0, 1) := by decide +kernel
theorem dX10_lid_52 : decode cX10_lid 52 = .ok (.istore 5, 2) := by decide +kernel
theorem dX10_lid_54 : decode cX10_lid 54 = .ok (.iload 5, 2) := by decide +kernel
theorem dX10_lid_56 : decode cX10_lid 56 = .ok (.bipush 121, 2) := by decide +kernel
theorem dX10_lid_58 : decode cX10_lid 58 = .ok (.if_icmp .ge 26, 3) := by decide +kernel
theorem dX10_lid_61 : decode cX10_lid 61 = .ok (.aload_n 0, 1) := by decide +kernel
theorem dX10_lid_62 : decode cX10_lid 62 = .ok (.getfield 143, 3) := by decide +kernel
theorem dX10_lid_65 : decode cX10_lid 65 = .ok (.iload 5, 2) := by decide +kernel
theorem dX10_lid_67 : decode cX10_lid 67 = .ok (.iload 5, 2) := by decide +kernel
theorem dX10_lid_69 : decode cX10_lid 69 = .ok (.ifCond .ne 7, 3) := by decide +kernel
theorem dX10_lid_72 : decode cX10_lid 72 = .ok (.lconst 1, 1) := by decide +kernel
theorem dX10_lid_73 : decode cX10_lid 73 = .ok (.goto 4, 3) := by decide +kernel
theorem dX10_lid_76 : decode cX10_lid 76 = .ok (.lconst 0, 1) := by decide +kernel
theorem dX10_lid_77 : decode cX10_lid 77 = .ok (.lastore, 1) := by decide +kernel
theorem dX10_lid_78 : decode cX10_lid 78 = .ok (.iinc 5 1, 3) := by decide +kernel
theorem dX10_lid_81 : decode cX10_lid 81 = .ok (.goto (-27), 3) := by decide +kernel
theorem dX10_lid_84 : decode cX10_lid 84 = .ok (.lconst 1, 1) := by decide +kernel
theorem dX10_lid_85 : decode cX10_lid 85 = .ok (.lstore 5, 2) := by decide +kernel
theorem dX10_lid_87 : decode cX10_lid 87 = .ok (.iconst 0, 1) := by decide +kernel
theorem dX10_lid_88 : decode cX10_lid 88 = .ok (.istore 7, 2) := by decide +kernel
theorem dX10_lid_90 : decode cX10_lid 90 = .ok (.iload 7, 2) := by decide +kernel
theorem dX10_lid_92 : decode cX10_lid 92 = .ok (.iload_n 2, 1) := by decide +kernel
theorem dX10_lid_93 : decode cX10_lid 93 = .ok (.if_icmp .ge 114, 3) := by decide +kernel
theorem dX10_lid_96 : decode cX10_lid 96 = .ok (.iconst 0, 1) := by decide +kernel
theorem dX10_lid_97 : decode cX10_lid 97 = .ok (.istore 8, 2) := by decide +kernel
theorem dX10_lid_99 : decode cX10_lid 99 = .ok (.iload 8, 2) := by decide +kernel
theorem dX10_lid_101 : decode cX10_lid 101 = .ok (.bipush 121, 2) := by decide +kernel
theorem dX10_lid_103 : decode cX10_lid 103 = .ok (.if_icmp .ge 59, 3) := by decide +kernel
theorem dX10_lid_106 : decode cX10_lid 106 = .ok (.aload_n 0, 1) := by decide +kernel
theorem dX10_lid_107 : decode cX10_lid 107 = .ok (.getfield 146, 3) := by decide +kernel
theorem dX10_lid_110 : decode cX10_lid 110 = .ok (.iload 8, 2) := by decide +kernel
theorem dX10_lid_112 : decode cX10_lid 112 = .ok (.lconst 0, 1) := by decide +kernel
theorem dX10_lid_113 : decode cX10_lid 113 = .ok (.lastore, 1) := by decide +kernel
theorem dX10_lid_114 : decode cX10_lid 114 = .ok (.iconst 0, 1) := by decide +kernel
theorem dX10_lid_115 : decode cX10_lid 115 = .ok (.istore 9, 2) := by decide +kernel
theorem dX10_lid_117 : decode cX10_lid 117 = .ok (.iload 9, 2) := by decide +kernel
theorem dX10_lid_119 : decode cX10_lid 119 = .ok (.iload_n 3, 1) := by decide +kernel
theorem dX10_lid_120 : decode cX10_lid 120 = .ok (.if_icmp .gt 36, 3) := by decide +kernel
theorem dX10_lid_123 : decode cX10_lid 123 = .ok (.iload 9, 2) := by decide +kernel
theorem dX10_lid_125 : decode cX10_lid 125 = .ok (.iload 8, 2) := by decide +kernel
theorem dX10_lid_127 : decode cX10_lid 127 = .ok (.if_icmp .gt 29, 3) := by decide +kernel
theorem dX10_lid_130 : decode cX10_lid 130 = .ok (.aload_n 0, 1) := by decide +kernel
theorem dX10_lid_131 : decode cX10_lid 131 = .ok (.getfield 146, 3) := by decide +kernel
theorem dX10_lid_134 : decode cX10_lid 134 = .ok (.iload 8, 2) := by decide +kernel
theorem dX10_lid_136 : decode cX10_lid 136 = .ok (.dup2, 1) := by decide +kernel
