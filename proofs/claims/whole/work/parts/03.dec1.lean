theorem dX0_init_0 : decode cX0_init 0 = .ok (.aload_n 0, 1) := by decide +kernel
theorem dX0_init_1 : decode cX0_init 1 = .ok (.invokespecial 1, 3) := by decide +kernel
theorem dX0_init_4 : decode cX0_init 4 = .ok (.aload_n 0, 1) := by decide +kernel
theorem dX0_init_5 : decode cX0_init 5 = .ok (.lload_n 1, 1) := by decide +kernel
theorem dX0_init_6 : decode cX0_init 6 = .ok (.putfield 7, 3) := by decide +kernel
theorem dX0_init_9 : decode cX0_init 9 = .ok (.return_, 1) := by decide +kernel
theorem dX0_next_0 : decode cX0_next 0 = .ok (.aload_n 0, 1) := by decide +kernel
theorem dX0_next_1 : decode cX0_next 1 = .ok (.aload_n 0, 1) := by decide +kernel
theorem dX0_next_2 : decode cX0_next 2 = .ok (.getfield 7, 3) := by decide +kernel
theorem dX0_next_5 : decode cX0_next 5 = .ok (.ldc2_w 13, 3) := by decide +kernel
theorem dX0_next_8 : decode cX0_next 8 = .ok (.lmul, 1) := by decide +kernel
theorem dX0_next_9 : decode cX0_next 9 = .ok (.ldc2_w 15, 3) := by decide +kernel
theorem dX0_next_12 : decode cX0_next 12 = .ok (.ladd, 1) := by decide +kernel
theorem dX0_next_13 : decode cX0_next 13 = .ok (.putfield 7, 3) := by decide +kernel
theorem dX0_next_16 : decode cX0_next 16 = .ok (.iload_n 1, 1) := by decide +kernel
theorem dX0_next_17 : decode cX0_next 17 = .ok (.ifCond .le 17, 3) := by decide +kernel
theorem dX0_next_20 : decode cX0_next 20 = .ok (.aload_n 0, 1) := by decide +kernel
theorem dX0_next_21 : decode cX0_next 21 = .ok (.getfield 7, 3) := by decide +kernel
theorem dX0_next_24 : decode cX0_next 24 = .ok (.bipush 33, 2) := by decide +kernel
theorem dX0_next_26 : decode cX0_next 26 = .ok (.lushr, 1) := by decide +kernel
theorem dX0_next_27 : decode cX0_next 27 = .ok (.iload_n 1, 1) := by decide +kernel
theorem dX0_next_28 : decode cX0_next 28 = .ok (.i2l, 1) := by decide +kernel
theorem dX0_next_29 : decode cX0_next 29 = .ok (.lrem, 1) := by decide +kernel
theorem dX0_next_30 : decode cX0_next 30 = .ok (.l2i, 1) := by decide +kernel
theorem dX0_next_31 : decode cX0_next 31 = .ok (.goto 4, 3) := by decide +kernel
theorem dX0_next_34 : decode cX0_next 34 = .ok (.iconst 0, 1) := by decide +kernel
theorem dX0_next_35 : decode cX0_next 35 = .ok (.ireturn, 1) := by decide +kernel
theorem dX1_init_0 : decode cX1_init 0 = .ok (.aload_n 0, 1) := by decide +kernel
theorem dX1_init_1 : decode cX1_init 1 = .ok (.invokespecial 3, 3) := by decide +kernel
theorem dX1_init_4 : decode cX1_init 4 = .ok (.aload_n 0, 1) := by decide +kernel
theorem dX1_init_5 : decode cX1_init 5 = .ok (.sipush 256, 3) := by decide +kernel
theorem dX1_init_8 : decode cX1_init 8 = .ok (.newarray .boolean, 2) := by decide +kernel
theorem dX1_init_10 : decode cX1_init 10 = .ok (.putfield 9, 3) := by decide +kernel
theorem dX1_init_13 : decode cX1_init 13 = .ok (.aload_n 0, 1) := by decide +kernel
theorem dX1_init_14 : decode cX1_init 14 = .ok (.sipush 256, 3) := by decide +kernel
theorem dX1_init_17 : decode cX1_init 17 = .ok (.newarray .int, 2) := by decide +kernel
theorem dX1_init_19 : decode cX1_init 19 = .ok (.putfield 15, 3) := by decide +kernel
theorem dX1_init_22 : decode cX1_init 22 = .ok (.return_, 1) := by decide +kernel
theorem dX1_spread_0 : decode cX1_spread 0 = .ok (.aload_n 0, 1) := by decide +kernel
theorem dX1_spread_1 : decode cX1_spread 1 = .ok (.getfield 9, 3) := by decide +kernel
theorem dX1_spread_4 : decode cX1_spread 4 = .ok (.iload_n 1, 1) := by decide +kernel
theorem dX1_spread_5 : decode cX1_spread 5 = .ok (.baload, 1) := by decide +kernel
theorem dX1_spread_6 : decode cX1_spread 6 = .ok (.ifCond .ne 5, 3) := by decide +kernel
theorem dX1_spread_9 : decode cX1_spread 9 = .ok (.iconst 0, 1) := by decide +kernel
theorem dX1_spread_10 : decode cX1_spread 10 = .ok (.ireturn, 1) := by decide +kernel
theorem dX1_spread_11 : decode cX1_spread 11 = .ok (.aload_n 0, 1) := by decide +kernel
theorem dX1_spread_12 : decode cX1_spread 12 = .ok (.getfield 9, 3) := by decide +kernel
theorem dX1_spread_15 : decode cX1_spread 15 = .ok (.iload_n 1, 1) := by decide +kernel
theorem dX1_spread_16 : decode cX1_spread 16 = .ok (.iconst 0, 1) := by decide +kernel
theorem dX1_spread_17 : decode cX1_spread 17 = .ok (.bastore, 1) := by decide +kernel
theorem dX1_spread_18 : decode cX1_spread 18 = .ok (.aload_n 0, 1) := by decide +kernel
theorem dX1_spread_19 : decode cX1_spread 19 = .ok (.getfield 15, 3) := by decide +kernel
theorem dX1_spread_22 : decode cX1_spread 22 = .ok (.iconst 0, 1) := by decide +kernel
theorem dX1_spread_23 : decode cX1_spread 23 = .ok (.iload_n 1, 1) := by decide +kernel
theorem dX1_spread_24 : decode cX1_spread 24 = .ok (.iastore, 1) := by decide +kernel
theorem dX1_spread_25 : decode cX1_spread 25 = .ok (.iconst 1, 1) := by decide +kernel
theorem dX1_spread_26 : decode cX1_spread 26 = .ok (.istore_n 2, 1) := by decide +kernel
theorem dX1_spread_27 : decode cX1_spread 27 = .ok (.iconst 0, 1) := by decide +kernel
theorem dX1_spread_28 : decode cX1_spread 28 = .ok (.istore_n 3, 1) := by decide +kernel
theorem dX1_spread_29 : decode cX1_spread 29 = .ok (.iload_n 3, 1) := by decide +kernel
theorem dX1_spread_30 : decode cX1_spread 30 = .ok (.iload_n 2, 1) := by decide +kernel
theorem dX1_spread_31 : decode cX1_spread 31 = .ok (.if_icmp .ge 86, 3) := by decide +kernel
theorem dX1_spread_34 : decode cX1_spread 34 = .ok (.iload_n 3, 1) := by decide +kernel
theorem dX1_spread_35 : decode cX1_spread 35 = .ok (.sipush 256, 3) := by decide +kernel
theorem dX1_spread_38 : decode cX1_spread 38 = .ok (.if_icmp .ge 79, 3) := by decide +kernel
theorem dX1_spread_41 : decode cX1_spread 41 = .ok (.iconst 0, 1) := by decide +kernel
theorem dX1_spread_42 : decode cX1_spread 42 = .ok (.istore 4, 2) := by decide +kernel
theorem dX1_spread_44 : decode cX1_spread 44 = .ok (.iload 4, 2) := by decide +kernel
theorem dX1_spread_46 : decode cX1_spread 46 = .ok (.iconst 4, 1) := by decide +kernel
theorem dX1_spread_47 : decode cX1_spread 47 = .ok (.if_icmp .ge 64, 3) := by decide +kernel
theorem dX1_spread_50 : decode cX1_spread 50 = .ok (.aload_n 0, 1) := by decide +kernel
theorem dX1_spread_51 : decode cX1_spread 51 = .ok (.getfield 15, 3) := by decide +kernel
theorem dX1_spread_54 : decode cX1_spread 54 = .ok (.iload_n 3, 1) := by decide +kernel
theorem dX1_spread_55 : decode cX1_spread 55 = .ok (.iaload, 1) := by decide +kernel
theorem dX1_spread_56 : decode cX1_spread 56 = .ok (.iload 4, 2) := by decide +kernel
theorem dX1_spread_58 : decode cX1_spread 58 = .ok (.invokestatic 19, 3) := by decide +kernel
theorem dX1_spread_61 : decode cX1_spread 61 = .ok (.istore 5, 2) := by decide +kernel
theorem dX1_spread_63 : decode cX1_spread 63 = .ok (.iload 5, 2) := by decide +kernel
theorem dX1_spread_65 : decode cX1_spread 65 = .ok (.iconst (-1), 1) := by decide +kernel
theorem dX1_spread_66 : decode cX1_spread 66 = .ok (.if_icmp .eq 39, 3) := by decide +kernel
theorem dX1_spread_69 : decode cX1_spread 69 = .ok (.aload_n 0, 1) := by decide +kernel
theorem dX1_spread_70 : decode cX1_spread 70 = .ok (.getfield 9, 3) := by decide +kernel
theorem dX1_spread_73 : decode cX1_spread 73 = .ok (.iload 5, 2) := by decide +kernel
theorem dX1_spread_75 : decode cX1_spread 75 = .ok (.baload, 1) := by decide +kernel
theorem dX1_spread_76 : decode cX1_spread 76 = .ok (.ifCond .eq 29, 3) := by decide +kernel
theorem dX1_spread_79 : decode cX1_spread 79 = .ok (.iload_n 2, 1) := by decide +kernel
theorem dX1_spread_80 : decode cX1_spread 80 = .ok (.sipush 256, 3) := by decide +kernel
theorem dX1_spread_83 : decode cX1_spread 83 = .ok (.if_icmp .ge 22, 3) := by decide +kernel
theorem dX1_spread_86 : decode cX1_spread 86 = .ok (.aload_n 0, 1) := by decide +kernel
theorem dX1_spread_87 : decode cX1_spread 87 = .ok (.getfield 9, 3) := by decide +kernel
theorem dX1_spread_90 : decode cX1_spread 90 = .ok (.iload 5, 2) := by decide +kernel
theorem dX1_spread_92 : decode cX1_spread 92 = .ok (.iconst 0, 1) := by decide +kernel
theorem dX1_spread_93 : decode cX1_spread 93 = .ok (.bastore, 1) := by decide +kernel
theorem dX1_spread_94 : decode cX1_spread 94 = .ok (.aload_n 0, 1) := by decide +kernel
theorem dX1_spread_95 : decode cX1_spread 95 = .ok (.getfield 15, 3) := by decide +kernel
theorem dX1_spread_98 : decode cX1_spread 98 = .ok (.iload_n 2, 1) := by decide +kernel
theorem dX1_spread_99 : decode cX1_spread 99 = .ok (.iload 5, 2) := by decide +kernel
theorem dX1_spread_101 : decode cX1_spread 101 = .ok (.iastore, 1) := by decide +kernel
theorem dX1_spread_102 : decode cX1_spread 102 = .ok (.iinc 2 1, 3) := by decide +kernel
theorem dX1_spread_105 : decode cX1_spread 105 = .ok (.iinc 4 1, 3) := by decide +kernel
theorem dX1_spread_108 : decode cX1_spread 108 = .ok (.goto (-64), 3) := by decide +kernel
theorem dX1_spread_111 : decode cX1_spread 111 = .ok (.iinc 3 1, 3) := by decide +kernel
theorem dX1_spread_114 : decode cX1_spread 114 = .ok (.goto (-85), 3) := by decide +kernel
theorem dX1_spread_117 : decode cX1_spread 117 = .ok (.iload_n 2, 1) := by decide +kernel
theorem dX1_spread_118 : decode cX1_spread 118 = .ok (.ireturn, 1) := by decide +kernel
theorem dX1_countParts_0 : decode cX1_countParts 0 = .ok (.iconst 0, 1) := by decide +kernel
theorem dX1_countParts_1 : decode cX1_countParts 1 = .ok (.istore_n 1, 1) := by decide +kernel
theorem dX1_countParts_2 : decode cX1_countParts 2 = .ok (.iconst 0, 1) := by decide +kernel
theorem dX1_countParts_3 : decode cX1_countParts 3 = .ok (.istore_n 2, 1) := by decide +kernel
theorem dX1_countParts_4 : decode cX1_countParts 4 = .ok (.iload_n 2, 1) := by decide +kernel
theorem dX1_countParts_5 : decode cX1_countParts 5 = .ok (.sipush 256, 3) := by decide +kernel
theorem dX1_countParts_8 : decode cX1_countParts 8 = .ok (.if_icmp .ge 20, 3) := by decide +kernel
theorem dX1_countParts_11 : decode cX1_countParts 11 = .ok (.aload_n 0, 1) := by decide +kernel
theorem dX1_countParts_12 : decode cX1_countParts 12 = .ok (.iload_n 2, 1) := by decide +kernel
theorem dX1_countParts_13 : decode cX1_countParts 13 = .ok (.invokevirtual 23, 3) := by decide +kernel
theorem dX1_countParts_16 : decode cX1_countParts 16 = .ok (.ifCond .le 6, 3) := by decide +kernel
theorem dX1_countParts_19 : decode cX1_countParts 19 = .ok (.iinc 1 1, 3) := by decide +kernel
theorem dX1_countParts_22 : decode cX1_countParts 22 = .ok (.iinc 2 1, 3) := by decide +kernel
theorem dX1_countParts_25 : decode cX1_countParts 25 = .ok (.goto (-21), 3) := by decide +kernel
theorem dX1_countParts_28 : decode cX1_countParts 28 = .ok (.iload_n 1, 1) := by decide +kernel
theorem dX1_countParts_29 : decode cX1_countParts 29 = .ok (.ireturn, 1) := by decide +kernel
theorem dX2_init_0 : decode cX2_init 0 = .ok (.aload_n 0, 1) := by decide +kernel
theorem dX2_init_1 : decode cX2_init 1 = .ok (.invokespecial 3, 3) := by decide +kernel
theorem dX2_init_4 : decode cX2_init 4 = .ok (.aload_n 0, 1) := by decide +kernel
theorem dX2_init_5 : decode cX2_init 5 = .ok (.sipush 256, 3) := by decide +kernel
theorem dX2_init_8 : decode cX2_init 8 = .ok (.newarray .int, 2) := by decide +kernel
theorem dX2_init_10 : decode cX2_init 10 = .ok (.putfield 9, 3) := by decide +kernel
theorem dX2_init_13 : decode cX2_init 13 = .ok (.aload_n 0, 1) := by decide +kernel
theorem dX2_init_14 : decode cX2_init 14 = .ok (.sipush 256, 3) := by decide +kernel
theorem dX2_init_17 : decode cX2_init 17 = .ok (.newarray .int, 2) := by decide +kernel
theorem dX2_init_19 : decode cX2_init 19 = .ok (.putfield 15, 3) := by decide +kernel
theorem dX2_init_22 : decode cX2_init 22 = .ok (.aload_n 0, 1) := by decide +kernel
theorem dX2_init_23 : decode cX2_init 23 = .ok (.sipush 256, 3) := by decide +kernel
theorem dX2_init_26 : decode cX2_init 26 = .ok (.newarray .int, 2) := by decide +kernel
theorem dX2_init_28 : decode cX2_init 28 = .ok (.putfield 18, 3) := by decide +kernel
theorem dX2_init_31 : decode cX2_init 31 = .ok (.aload_n 0, 1) := by decide +kernel
theorem dX2_init_32 : decode cX2_init 32 = .ok (.sipush 256, 3) := by decide +kernel
theorem dX2_init_35 : decode cX2_init 35 = .ok (.newarray .int, 2) := by decide +kernel
theorem dX2_init_37 : decode cX2_init 37 = .ok (.putfield 21, 3) := by decide +kernel
theorem dX2_init_40 : decode cX2_init 40 = .ok (.aload_n 0, 1) := by decide +kernel
theorem dX2_init_41 : decode cX2_init 41 = .ok (.sipush 256, 3) := by decide +kernel
theorem dX2_init_44 : decode cX2_init 44 = .ok (.newarray .int, 2) := by decide +kernel
theorem dX2_init_46 : decode cX2_init 46 = .ok (.putfield 24, 3) := by decide +kernel
theorem dX2_init_49 : decode cX2_init 49 = .ok (.aload_n 0, 1) := by decide +kernel
theorem dX2_init_50 : decode cX2_init 50 = .ok (.sipush 256, 3) := by decide +kernel
theorem dX2_init_53 : decode cX2_init 53 = .ok (.newarray .int, 2) := by decide +kernel
theorem dX2_init_55 : decode cX2_init 55 = .ok (.putfield 27, 3) := by decide +kernel
theorem dX2_init_58 : decode cX2_init 58 = .ok (.aload_n 0, 1) := by decide +kernel
theorem dX2_init_59 : decode cX2_init 59 = .ok (.sipush 256, 3) := by decide +kernel
theorem dX2_init_62 : decode cX2_init 62 = .ok (.newarray .int, 2) := by decide +kernel
theorem dX2_init_64 : decode cX2_init 64 = .ok (.putfield 30, 3) := by decide +kernel
theorem dX2_init_67 : decode cX2_init 67 = .ok (.aload_n 0, 1) := by decide +kernel
theorem dX2_init_68 : decode cX2_init 68 = .ok (.sipush 256, 3) := by decide +kernel
theorem dX2_init_71 : decode cX2_init 71 = .ok (.newarray .int, 2) := by decide +kernel
theorem dX2_init_73 : decode cX2_init 73 = .ok (.putfield 33, 3) := by decide +kernel
theorem dX2_init_76 : decode cX2_init 76 = .ok (.aload_n 0, 1) := by decide +kernel
theorem dX2_init_77 : decode cX2_init 77 = .ok (.sipush 256, 3) := by decide +kernel
theorem dX2_init_80 : decode cX2_init 80 = .ok (.newarray .int, 2) := by decide +kernel
theorem dX2_init_82 : decode cX2_init 82 = .ok (.putfield 36, 3) := by decide +kernel
theorem dX2_init_85 : decode cX2_init 85 = .ok (.aload_n 0, 1) := by decide +kernel
theorem dX2_init_86 : decode cX2_init 86 = .ok (.sipush 200, 3) := by decide +kernel
theorem dX2_init_89 : decode cX2_init 89 = .ok (.newarray .int, 2) := by decide +kernel
theorem dX2_init_91 : decode cX2_init 91 = .ok (.putfield 39, 3) := by decide +kernel
theorem dX2_init_94 : decode cX2_init 94 = .ok (.aload_n 0, 1) := by decide +kernel
theorem dX2_init_95 : decode cX2_init 95 = .ok (.bipush 8, 2) := by decide +kernel
theorem dX2_init_97 : decode cX2_init 97 = .ok (.newarray .int, 2) := by decide +kernel
theorem dX2_init_99 : decode cX2_init 99 = .ok (.putfield 42, 3) := by decide +kernel
theorem dX2_init_102 : decode cX2_init 102 = .ok (.return_, 1) := by decide +kernel
theorem dX2_survey_0 : decode cX2_survey 0 = .ok (.iconst 0, 1) := by decide +kernel
theorem dX2_survey_1 : decode cX2_survey 1 = .ok (.istore_n 3, 1) := by decide +kernel
theorem dX2_survey_2 : decode cX2_survey 2 = .ok (.iload_n 3, 1) := by decide +kernel
theorem dX2_survey_3 : decode cX2_survey 3 = .ok (.sipush 256, 3) := by decide +kernel
theorem dX2_survey_6 : decode cX2_survey 6 = .ok (.if_icmp .ge 112, 3) := by decide +kernel
theorem dX2_survey_9 : decode cX2_survey 9 = .ok (.aload_n 0, 1) := by decide +kernel
theorem dX2_survey_10 : decode cX2_survey 10 = .ok (.getfield 42, 3) := by decide +kernel
theorem dX2_survey_13 : decode cX2_survey 13 = .ok (.iconst 0, 1) := by decide +kernel
theorem dX2_survey_14 : decode cX2_survey 14 = .ok (.iload_n 3, 1) := by decide +kernel
theorem dX2_survey_15 : decode cX2_survey 15 = .ok (.bipush 16, 2) := by decide +kernel
theorem dX2_survey_17 : decode cX2_survey 17 = .ok (.irem, 1) := by decide +kernel
theorem dX2_survey_18 : decode cX2_survey 18 = .ok (.iastore, 1) := by decide +kernel
theorem dX2_survey_19 : decode cX2_survey 19 = .ok (.aload_n 0, 1) := by decide +kernel
theorem dX2_survey_20 : decode cX2_survey 20 = .ok (.getfield 42, 3) := by decide +kernel
theorem dX2_survey_23 : decode cX2_survey 23 = .ok (.iconst 1, 1) := by decide +kernel
theorem dX2_survey_24 : decode cX2_survey 24 = .ok (.iload_n 3, 1) := by decide +kernel
theorem dX2_survey_25 : decode cX2_survey 25 = .ok (.bipush 16, 2) := by decide +kernel
theorem dX2_survey_27 : decode cX2_survey 27 = .ok (.idiv, 1) := by decide +kernel
theorem dX2_survey_28 : decode cX2_survey 28 = .ok (.iastore, 1) := by decide +kernel
theorem dX2_survey_29 : decode cX2_survey 29 = .ok (.aload_n 0, 1) := by decide +kernel
theorem dX2_survey_30 : decode cX2_survey 30 = .ok (.getfield 9, 3) := by decide +kernel
theorem dX2_survey_33 : decode cX2_survey 33 = .ok (.iload_n 3, 1) := by decide +kernel
theorem dX2_survey_34 : decode cX2_survey 34 = .ok (.aload_n 2, 1) := by decide +kernel
theorem dX2_survey_35 : decode cX2_survey 35 = .ok (.iconst 1, 1) := by decide +kernel
theorem dX2_survey_36 : decode cX2_survey 36 = .ok (.aload_n 0, 1) := by decide +kernel
theorem dX2_survey_37 : decode cX2_survey 37 = .ok (.getfield 42, 3) := by decide +kernel
theorem dX2_survey_40 : decode cX2_survey 40 = .ok (.iconst 0, 1) := by decide +kernel
theorem dX2_survey_41 : decode cX2_survey 41 = .ok (.invokevirtual 45, 3) := by decide +kernel
theorem dX2_survey_44 : decode cX2_survey 44 = .ok (.iastore, 1) := by decide +kernel
theorem dX2_survey_45 : decode cX2_survey 45 = .ok (.aload_n 0, 1) := by decide +kernel
theorem dX2_survey_46 : decode cX2_survey 46 = .ok (.getfield 15, 3) := by decide +kernel
theorem dX2_survey_49 : decode cX2_survey 49 = .ok (.iload_n 3, 1) := by decide +kernel
theorem dX2_survey_50 : decode cX2_survey 50 = .ok (.bipush 99, 2) := by decide +kernel
theorem dX2_survey_52 : decode cX2_survey 52 = .ok (.aload_n 1, 1) := by decide +kernel
theorem dX2_survey_53 : decode cX2_survey 53 = .ok (.getfield 51, 3) := by decide +kernel
theorem dX2_survey_56 : decode cX2_survey 56 = .ok (.iload_n 3, 1) := by decide +kernel
theorem dX2_survey_57 : decode cX2_survey 57 = .ok (.iaload, 1) := by decide +kernel
theorem dX2_survey_58 : decode cX2_survey 58 = .ok (.aload_n 0, 1) := by decide +kernel
theorem dX2_survey_59 : decode cX2_survey 59 = .ok (.getfield 9, 3) := by decide +kernel
theorem dX2_survey_62 : decode cX2_survey 62 = .ok (.iload_n 3, 1) := by decide +kernel
theorem dX2_survey_63 : decode cX2_survey 63 = .ok (.iaload, 1) := by decide +kernel
theorem dX2_survey_64 : decode cX2_survey 64 = .ok (.iadd, 1) := by decide +kernel
theorem dX2_survey_65 : decode cX2_survey 65 = .ok (.invokestatic 54, 3) := by decide +kernel
theorem dX2_survey_68 : decode cX2_survey 68 = .ok (.iastore, 1) := by decide +kernel
theorem dX2_survey_69 : decode cX2_survey 69 = .ok (.aload_n 0, 1) := by decide +kernel
theorem dX2_survey_70 : decode cX2_survey 70 = .ok (.getfield 18, 3) := by decide +kernel
theorem dX2_survey_73 : decode cX2_survey 73 = .ok (.iload_n 3, 1) := by decide +kernel
theorem dX2_survey_74 : decode cX2_survey 74 = .ok (.bipush 99, 2) := by decide +kernel
theorem dX2_survey_76 : decode cX2_survey 76 = .ok (.aload_n 1, 1) := by decide +kernel
theorem dX2_survey_77 : decode cX2_survey 77 = .ok (.getfield 60, 3) := by decide +kernel
theorem dX2_survey_80 : decode cX2_survey 80 = .ok (.iload_n 3, 1) := by decide +kernel
theorem dX2_survey_81 : decode cX2_survey 81 = .ok (.iaload, 1) := by decide +kernel
theorem dX2_survey_82 : decode cX2_survey 82 = .ok (.aload_n 0, 1) := by decide +kernel
theorem dX2_survey_83 : decode cX2_survey 83 = .ok (.getfield 9, 3) := by decide +kernel
theorem dX2_survey_86 : decode cX2_survey 86 = .ok (.iload_n 3, 1) := by decide +kernel
theorem dX2_survey_87 : decode cX2_survey 87 = .ok (.iaload, 1) := by decide +kernel
theorem dX2_survey_88 : decode cX2_survey 88 = .ok (.iadd, 1) := by decide +kernel
theorem dX2_survey_89 : decode cX2_survey 89 = .ok (.invokestatic 54, 3) := by decide +kernel
theorem dX2_survey_92 : decode cX2_survey 92 = .ok (.iastore, 1) := by decide +kernel
theorem dX2_survey_93 : decode cX2_survey 93 = .ok (.aload_n 0, 1) := by decide +kernel
theorem dX2_survey_94 : decode cX2_survey 94 = .ok (.getfield 21, 3) := by decide +kernel
theorem dX2_survey_97 : decode cX2_survey 97 = .ok (.iload_n 3, 1) := by decide +kernel
theorem dX2_survey_98 : decode cX2_survey 98 = .ok (.aload_n 0, 1) := by decide +kernel
theorem dX2_survey_99 : decode cX2_survey 99 = .ok (.getfield 15, 3) := by decide +kernel
theorem dX2_survey_102 : decode cX2_survey 102 = .ok (.iload_n 3, 1) := by decide +kernel
theorem dX2_survey_103 : decode cX2_survey 103 = .ok (.iaload, 1) := by decide +kernel
theorem dX2_survey_104 : decode cX2_survey 104 = .ok (.aload_n 0, 1) := by decide +kernel
theorem dX2_survey_105 : decode cX2_survey 105 = .ok (.getfield 18, 3) := by decide +kernel
theorem dX2_survey_108 : decode cX2_survey 108 = .ok (.iload_n 3, 1) := by decide +kernel
theorem dX2_survey_109 : decode cX2_survey 109 = .ok (.iaload, 1) := by decide +kernel
theorem dX2_survey_110 : decode cX2_survey 110 = .ok (.iadd, 1) := by decide +kernel
theorem dX2_survey_111 : decode cX2_survey 111 = .ok (.iastore, 1) := by decide +kernel
theorem dX2_survey_112 : decode cX2_survey 112 = .ok (.iinc 3 1, 3) := by decide +kernel
theorem dX2_survey_115 : decode cX2_survey 115 = .ok (.goto (-113), 3) := by decide +kernel
theorem dX2_survey_118 : decode cX2_survey 118 = .ok (.iconst 0, 1) := by decide +kernel
theorem dX2_survey_119 : decode cX2_survey 119 = .ok (.istore_n 3, 1) := by decide +kernel
theorem dX2_survey_120 : decode cX2_survey 120 = .ok (.iload_n 3, 1) := by decide +kernel
theorem dX2_survey_121 : decode cX2_survey 121 = .ok (.sipush 256, 3) := by decide +kernel
theorem dX2_survey_124 : decode cX2_survey 124 = .ok (.if_icmp .ge 31, 3) := by decide +kernel
theorem dX2_survey_127 : decode cX2_survey 127 = .ok (.aload_n 0, 1) := by decide +kernel
theorem dX2_survey_128 : decode cX2_survey 128 = .ok (.getfield 24, 3) := by decide +kernel
theorem dX2_survey_131 : decode cX2_survey 131 = .ok (.iload_n 3, 1) := by decide +kernel
theorem dX2_survey_132 : decode cX2_survey 132 = .ok (.aload_n 0, 1) := by decide +kernel
theorem dX2_survey_133 : decode cX2_survey 133 = .ok (.iload_n 3, 1) := by decide +kernel
theorem dX2_survey_134 : decode cX2_survey 134 = .ok (.invokevirtual 61, 3) := by decide +kernel
theorem dX2_survey_137 : decode cX2_survey 137 = .ok (.iastore, 1) := by decide +kernel
theorem dX2_survey_138 : decode cX2_survey 138 = .ok (.aload_n 0, 1) := by decide +kernel
theorem dX2_survey_139 : decode cX2_survey 139 = .ok (.getfield 30, 3) := by decide +kernel
theorem dX2_survey_142 : decode cX2_survey 142 = .ok (.iload_n 3, 1) := by decide +kernel
theorem dX2_survey_143 : decode cX2_survey 143 = .ok (.aload_n 0, 1) := by decide +kernel
theorem dX2_survey_144 : decode cX2_survey 144 = .ok (.iload_n 3, 1) := by decide +kernel
theorem dX2_survey_145 : decode cX2_survey 145 = .ok (.invokevirtual 65, 3) := by decide +kernel
theorem dX2_survey_148 : decode cX2_survey 148 = .ok (.iastore, 1) := by decide +kernel
theorem dX2_survey_149 : decode cX2_survey 149 = .ok (.iinc 3 1, 3) := by decide +kernel
theorem dX2_survey_152 : decode cX2_survey 152 = .ok (.goto (-32), 3) := by decide +kernel
theorem dX2_survey_155 : decode cX2_survey 155 = .ok (.aload_n 0, 1) := by decide +kernel
theorem dX2_survey_156 : decode cX2_survey 156 = .ok (.invokevirtual 68, 3) := by decide +kernel
theorem dX2_survey_159 : decode cX2_survey 159 = .ok (.aload_n 0, 1) := by decide +kernel
theorem dX2_survey_160 : decode cX2_survey 160 = .ok (.invokevirtual 71, 3) := by decide +kernel
theorem dX2_survey_163 : decode cX2_survey 163 = .ok (.return_, 1) := by decide +kernel
theorem dX2_lowestBeside_0 : decode cX2_lowestBeside 0 = .ok (.iconst (-1), 1) := by decide +kernel
theorem dX2_lowestBeside_1 : decode cX2_lowestBeside 1 = .ok (.istore_n 2, 1) := by decide +kernel
theorem dX2_lowestBeside_2 : decode cX2_lowestBeside 2 = .ok (.aload_n 0, 1) := by decide +kernel
theorem dX2_lowestBeside_3 : decode cX2_lowestBeside 3 = .ok (.getfield 21, 3) := by decide +kernel
theorem dX2_lowestBeside_6 : decode cX2_lowestBeside 6 = .ok (.iload_n 1, 1) := by decide +kernel
theorem dX2_lowestBeside_7 : decode cX2_lowestBeside 7 = .ok (.iaload, 1) := by decide +kernel
theorem dX2_lowestBeside_8 : decode cX2_lowestBeside 8 = .ok (.istore_n 3, 1) := by decide +kernel
theorem dX2_lowestBeside_9 : decode cX2_lowestBeside 9 = .ok (.iconst 0, 1) := by decide +kernel
theorem dX2_lowestBeside_10 : decode cX2_lowestBeside 10 = .ok (.istore 4, 2) := by decide +kernel
theorem dX2_lowestBeside_12 : decode cX2_lowestBeside 12 = .ok (.iload 4, 2) := by decide +kernel
theorem dX2_lowestBeside_14 : decode cX2_lowestBeside 14 = .ok (.iconst 4, 1) := by decide +kernel
theorem dX2_lowestBeside_15 : decode cX2_lowestBeside 15 = .ok (.if_icmp .ge 45, 3) := by decide +kernel
theorem dX2_lowestBeside_18 : decode cX2_lowestBeside 18 = .ok (.iload_n 1, 1) := by decide +kernel
theorem dX2_lowestBeside_19 : decode cX2_lowestBeside 19 = .ok (.iload 4, 2) := by decide +kernel
theorem dX2_lowestBeside_21 : decode cX2_lowestBeside 21 = .ok (.invokestatic 74, 3) := by decide +kernel
theorem dX2_lowestBeside_24 : decode cX2_lowestBeside 24 = .ok (.istore 5, 2) := by decide +kernel
theorem dX2_lowestBeside_26 : decode cX2_lowestBeside 26 = .ok (.iload 5, 2) := by decide +kernel
theorem dX2_lowestBeside_28 : decode cX2_lowestBeside 28 = .ok (.iconst (-1), 1) := by decide +kernel
theorem dX2_lowestBeside_29 : decode cX2_lowestBeside 29 = .ok (.if_icmp .eq 25, 3) := by decide +kernel
theorem dX2_lowestBeside_32 : decode cX2_lowestBeside 32 = .ok (.aload_n 0, 1) := by decide +kernel
theorem dX2_lowestBeside_33 : decode cX2_lowestBeside 33 = .ok (.getfield 21, 3) := by decide +kernel
theorem dX2_lowestBeside_36 : decode cX2_lowestBeside 36 = .ok (.iload 5, 2) := by decide +kernel
theorem dX2_lowestBeside_38 : decode cX2_lowestBeside 38 = .ok (.iaload, 1) := by decide +kernel
theorem dX2_lowestBeside_39 : decode cX2_lowestBeside 39 = .ok (.iload_n 3, 1) := by decide +kernel
theorem dX2_lowestBeside_40 : decode cX2_lowestBeside 40 = .ok (.if_icmp .ge 14, 3) := by decide +kernel
theorem dX2_lowestBeside_43 : decode cX2_lowestBeside 43 = .ok (.iload 5, 2) := by decide +kernel
theorem dX2_lowestBeside_45 : decode cX2_lowestBeside 45 = .ok (.istore_n 2, 1) := by decide +kernel
theorem dX2_lowestBeside_46 : decode cX2_lowestBeside 46 = .ok (.aload_n 0, 1) := by decide +kernel
theorem dX2_lowestBeside_47 : decode cX2_lowestBeside 47 = .ok (.getfield 21, 3) := by decide +kernel
theorem dX2_lowestBeside_50 : decode cX2_lowestBeside 50 = .ok (.iload 5, 2) := by decide +kernel
theorem dX2_lowestBeside_52 : decode cX2_lowestBeside 52 = .ok (.iaload, 1) := by decide +kernel
theorem dX2_lowestBeside_53 : decode cX2_lowestBeside 53 = .ok (.istore_n 3, 1) := by decide +kernel
theorem dX2_lowestBeside_54 : decode cX2_lowestBeside 54 = .ok (.iinc 4 1, 3) := by decide +kernel
theorem dX2_lowestBeside_57 : decode cX2_lowestBeside 57 = .ok (.goto (-45), 3) := by decide +kernel
theorem dX2_lowestBeside_60 : decode cX2_lowestBeside 60 = .ok (.iload_n 2, 1) := by decide +kernel
theorem dX2_lowestBeside_61 : decode cX2_lowestBeside 61 = .ok (.ireturn, 1) := by decide +kernel
theorem dX2_countHigherRound_0 : decode cX2_countHigherRound 0 = .ok (.iload_n 1, 1) := by decide +kernel
theorem dX2_countHigherRound_1 : decode cX2_countHigherRound 1 = .ok (.bipush 16, 2) := by decide +kernel
theorem dX2_countHigherRound_3 : decode cX2_countHigherRound 3 = .ok (.irem, 1) := by decide +kernel
theorem dX2_countHigherRound_4 : decode cX2_countHigherRound 4 = .ok (.ifCond .ne 7, 3) := by decide +kernel
theorem dX2_countHigherRound_7 : decode cX2_countHigherRound 7 = .ok (.iconst 0, 1) := by decide +kernel
theorem dX2_countHigherRound_8 : decode cX2_countHigherRound 8 = .ok (.goto 4, 3) := by decide +kernel
theorem dX2_countHigherRound_11 : decode cX2_countHigherRound 11 = .ok (.iconst 1, 1) := by decide +kernel
theorem dX2_countHigherRound_12 : decode cX2_countHigherRound 12 = .ok (.istore_n 2, 1) := by decide +kernel
theorem dX2_countHigherRound_13 : decode cX2_countHigherRound 13 = .ok (.iload_n 1, 1) := by decide +kernel
theorem dX2_countHigherRound_14 : decode cX2_countHigherRound 14 = .ok (.bipush 16, 2) := by decide +kernel
theorem dX2_countHigherRound_16 : decode cX2_countHigherRound 16 = .ok (.irem, 1) := by decide +kernel
theorem dX2_countHigherRound_17 : decode cX2_countHigherRound 17 = .ok (.bipush 15, 2) := by decide +kernel
theorem dX2_countHigherRound_19 : decode cX2_countHigherRound 19 = .ok (.if_icmp .ne 7, 3) := by decide +kernel
theorem dX2_countHigherRound_22 : decode cX2_countHigherRound 22 = .ok (.iconst 0, 1) := by decide +kernel
theorem dX2_countHigherRound_23 : decode cX2_countHigherRound 23 = .ok (.goto 4, 3) := by decide +kernel
theorem dX2_countHigherRound_26 : decode cX2_countHigherRound 26 = .ok (.iconst 1, 1) := by decide +kernel
theorem dX2_countHigherRound_27 : decode cX2_countHigherRound 27 = .ok (.istore_n 3, 1) := by decide +kernel
theorem dX2_countHigherRound_28 : decode cX2_countHigherRound 28 = .ok (.aload_n 0, 1) := by decide +kernel
theorem dX2_countHigherRound_29 : decode cX2_countHigherRound 29 = .ok (.getfield 21, 3) := by decide +kernel
theorem dX2_countHigherRound_32 : decode cX2_countHigherRound 32 = .ok (.iload_n 1, 1) := by decide +kernel
theorem dX2_countHigherRound_33 : decode cX2_countHigherRound 33 = .ok (.iaload, 1) := by decide +kernel
theorem dX2_countHigherRound_34 : decode cX2_countHigherRound 34 = .ok (.istore 4, 2) := by decide +kernel
theorem dX2_countHigherRound_36 : decode cX2_countHigherRound 36 = .ok (.iconst 0, 1) := by decide +kernel
theorem dX2_countHigherRound_37 : decode cX2_countHigherRound 37 = .ok (.istore 5, 2) := by decide +kernel
theorem dX2_countHigherRound_39 : decode cX2_countHigherRound 39 = .ok (.iload_n 1, 1) := by decide +kernel
theorem dX2_countHigherRound_40 : decode cX2_countHigherRound 40 = .ok (.bipush 16, 2) := by decide +kernel
theorem dX2_countHigherRound_42 : decode cX2_countHigherRound 42 = .ok (.isub, 1) := by decide +kernel
theorem dX2_countHigherRound_43 : decode cX2_countHigherRound 43 = .ok (.istore 6, 2) := by decide +kernel
theorem dX2_countHigherRound_45 : decode cX2_countHigherRound 45 = .ok (.iload 6, 2) := by decide +kernel
theorem dX2_countHigherRound_47 : decode cX2_countHigherRound 47 = .ok (.iload_n 1, 1) := by decide +kernel
theorem dX2_countHigherRound_48 : decode cX2_countHigherRound 48 = .ok (.bipush 16, 2) := by decide +kernel
theorem dX2_countHigherRound_50 : decode cX2_countHigherRound 50 = .ok (.iadd, 1) := by decide +kernel
theorem dX2_countHigherRound_51 : decode cX2_countHigherRound 51 = .ok (.if_icmp .gt 60, 3) := by decide +kernel
theorem dX2_countHigherRound_54 : decode cX2_countHigherRound 54 = .ok (.iload 6, 2) := by decide +kernel
theorem dX2_countHigherRound_56 : decode cX2_countHigherRound 56 = .ok (.invokestatic 77, 3) := by decide +kernel
theorem dX2_countHigherRound_59 : decode cX2_countHigherRound 59 = .ok (.ifCond .eq 46, 3) := by decide +kernel
theorem dX2_countHigherRound_62 : decode cX2_countHigherRound 62 = .ok (.iload 6, 2) := by decide +kernel
theorem dX2_countHigherRound_64 : decode cX2_countHigherRound 64 = .ok (.iload_n 2, 1) := by decide +kernel
theorem dX2_countHigherRound_65 : decode cX2_countHigherRound 65 = .ok (.isub, 1) := by decide +kernel
theorem dX2_countHigherRound_66 : decode cX2_countHigherRound 66 = .ok (.istore 7, 2) := by decide +kernel
theorem dX2_countHigherRound_68 : decode cX2_countHigherRound 68 = .ok (.iload 7, 2) := by decide +kernel
theorem dX2_countHigherRound_70 : decode cX2_countHigherRound 70 = .ok (.iload 6, 2) := by decide +kernel
theorem dX2_countHigherRound_72 : decode cX2_countHigherRound 72 = .ok (.iload_n 3, 1) := by decide +kernel
theorem dX2_countHigherRound_73 : decode cX2_countHigherRound 73 = .ok (.iadd, 1) := by decide +kernel
theorem dX2_countHigherRound_74 : decode cX2_countHigherRound 74 = .ok (.if_icmp .gt 31, 3) := by decide +kernel
theorem dX2_countHigherRound_77 : decode cX2_countHigherRound 77 = .ok (.iload 5, 2) := by decide +kernel
theorem dX2_countHigherRound_79 : decode cX2_countHigherRound 79 = .ok (.aload_n 0, 1) := by decide +kernel
theorem dX2_countHigherRound_80 : decode cX2_countHigherRound 80 = .ok (.getfield 21, 3) := by decide +kernel
theorem dX2_countHigherRound_83 : decode cX2_countHigherRound 83 = .ok (.iload 7, 2) := by decide +kernel
theorem dX2_countHigherRound_85 : decode cX2_countHigherRound 85 = .ok (.iaload, 1) := by decide +kernel
theorem dX2_countHigherRound_86 : decode cX2_countHigherRound 86 = .ok (.iload 4, 2) := by decide +kernel
theorem dX2_countHigherRound_88 : decode cX2_countHigherRound 88 = .ok (.if_icmp .le 7, 3) := by decide +kernel
theorem dX2_countHigherRound_91 : decode cX2_countHigherRound 91 = .ok (.iconst 1, 1) := by decide +kernel
theorem dX2_countHigherRound_92 : decode cX2_countHigherRound 92 = .ok (.goto 4, 3) := by decide +kernel
theorem dX2_countHigherRound_95 : decode cX2_countHigherRound 95 = .ok (.iconst 0, 1) := by decide +kernel
theorem dX2_countHigherRound_96 : decode cX2_countHigherRound 96 = .ok (.iadd, 1) := by decide +kernel
theorem dX2_countHigherRound_97 : decode cX2_countHigherRound 97 = .ok (.istore 5, 2) := by decide +kernel
theorem dX2_countHigherRound_99 : decode cX2_countHigherRound 99 = .ok (.iinc 7 1, 3) := by decide +kernel
theorem dX2_countHigherRound_102 : decode cX2_countHigherRound 102 = .ok (.goto (-34), 3) := by decide +kernel
theorem dX2_countHigherRound_105 : decode cX2_countHigherRound 105 = .ok (.iinc 6 16, 3) := by decide +kernel
theorem dX2_countHigherRound_108 : decode cX2_countHigherRound 108 = .ok (.goto (-63), 3) := by decide +kernel
theorem dX2_countHigherRound_111 : decode cX2_countHigherRound 111 = .ok (.iload 5, 2) := by decide +kernel
theorem dX2_countHigherRound_113 : decode cX2_countHigherRound 113 = .ok (.ireturn, 1) := by decide +kernel
theorem dX2_sortByMiddle_0 : decode cX2_sortByMiddle 0 = .ok (.aload_n 0, 1) := by decide +kernel
theorem dX2_sortByMiddle_1 : decode cX2_sortByMiddle 1 = .ok (.getfield 39, 3) := by decide +kernel
theorem dX2_sortByMiddle_4 : decode cX2_sortByMiddle 4 = .ok (.iconst 0, 1) := by decide +kernel
theorem dX2_sortByMiddle_5 : decode cX2_sortByMiddle 5 = .ok (.invokestatic 81, 3) := by decide +kernel
theorem dX2_sortByMiddle_8 : decode cX2_sortByMiddle 8 = .ok (.iconst 0, 1) := by decide +kernel
theorem dX2_sortByMiddle_9 : decode cX2_sortByMiddle 9 = .ok (.istore_n 1, 1) := by decide +kernel
theorem dX2_sortByMiddle_10 : decode cX2_sortByMiddle 10 = .ok (.iload_n 1, 1) := by decide +kernel
theorem dX2_sortByMiddle_11 : decode cX2_sortByMiddle 11 = .ok (.sipush 256, 3) := by decide +kernel
theorem dX2_sortByMiddle_14 : decode cX2_sortByMiddle 14 = .ok (.if_icmp .ge 26, 3) := by decide +kernel
theorem dX2_sortByMiddle_17 : decode cX2_sortByMiddle 17 = .ok (.aload_n 0, 1) := by decide +kernel
theorem dX2_sortByMiddle_18 : decode cX2_sortByMiddle 18 = .ok (.getfield 39, 3) := by decide +kernel
theorem dX2_sortByMiddle_21 : decode cX2_sortByMiddle 21 = .ok (.aload_n 0, 1) := by decide +kernel
theorem dX2_sortByMiddle_22 : decode cX2_sortByMiddle 22 = .ok (.getfield 21, 3) := by decide +kernel
theorem dX2_sortByMiddle_25 : decode cX2_sortByMiddle 25 = .ok (.iload_n 1, 1) := by decide +kernel
theorem dX2_sortByMiddle_26 : decode cX2_sortByMiddle 26 = .ok (.iaload, 1) := by decide +kernel
theorem dX2_sortByMiddle_27 : decode cX2_sortByMiddle 27 = .ok (.iconst 1, 1) := by decide +kernel
theorem dX2_sortByMiddle_28 : decode cX2_sortByMiddle 28 = .ok (.iadd, 1) := by decide +kernel
theorem dX2_sortByMiddle_29 : decode cX2_sortByMiddle 29 = .ok (.dup2, 1) := by decide +kernel
theorem dX2_sortByMiddle_30 : decode cX2_sortByMiddle 30 = .ok (.iaload, 1) := by decide +kernel
theorem dX2_sortByMiddle_31 : decode cX2_sortByMiddle 31 = .ok (.iconst 1, 1) := by decide +kernel
theorem dX2_sortByMiddle_32 : decode cX2_sortByMiddle 32 = .ok (.iadd, 1) := by decide +kernel
theorem dX2_sortByMiddle_33 : decode cX2_sortByMiddle 33 = .ok (.iastore, 1) := by decide +kernel
theorem dX2_sortByMiddle_34 : decode cX2_sortByMiddle 34 = .ok (.iinc 1 1, 3) := by decide +kernel
theorem dX2_sortByMiddle_37 : decode cX2_sortByMiddle 37 = .ok (.goto (-27), 3) := by decide +kernel
theorem dX2_sortByMiddle_40 : decode cX2_sortByMiddle 40 = .ok (.iconst 0, 1) := by decide +kernel
theorem dX2_sortByMiddle_41 : decode cX2_sortByMiddle 41 = .ok (.istore_n 1, 1) := by decide +kernel
theorem dX2_sortByMiddle_42 : decode cX2_sortByMiddle 42 = .ok (.iload_n 1, 1) := by decide +kernel
theorem dX2_sortByMiddle_43 : decode cX2_sortByMiddle 43 = .ok (.sipush 199, 3) := by decide +kernel
theorem dX2_sortByMiddle_46 : decode cX2_sortByMiddle 46 = .ok (.if_icmp .ge 26, 3) := by decide +kernel
theorem dX2_sortByMiddle_49 : decode cX2_sortByMiddle 49 = .ok (.aload_n 0, 1) := by decide +kernel
theorem dX2_sortByMiddle_50 : decode cX2_sortByMiddle 50 = .ok (.getfield 39, 3) := by decide +kernel
theorem dX2_sortByMiddle_53 : decode cX2_sortByMiddle 53 = .ok (.iload_n 1, 1) := by decide +kernel
theorem dX2_sortByMiddle_54 : decode cX2_sortByMiddle 54 = .ok (.iconst 1, 1) := by decide +kernel
theorem dX2_sortByMiddle_55 : decode cX2_sortByMiddle 55 = .ok (.iadd, 1) := by decide +kernel
theorem dX2_sortByMiddle_56 : decode cX2_sortByMiddle 56 = .ok (.dup2, 1) := by decide +kernel
theorem dX2_sortByMiddle_57 : decode cX2_sortByMiddle 57 = .ok (.iaload, 1) := by decide +kernel
theorem dX2_sortByMiddle_58 : decode cX2_sortByMiddle 58 = .ok (.aload_n 0, 1) := by decide +kernel
theorem dX2_sortByMiddle_59 : decode cX2_sortByMiddle 59 = .ok (.getfield 39, 3) := by decide +kernel
theorem dX2_sortByMiddle_62 : decode cX2_sortByMiddle 62 = .ok (.iload_n 1, 1) := by decide +kernel
theorem dX2_sortByMiddle_63 : decode cX2_sortByMiddle 63 = .ok (.iaload, 1) := by decide +kernel
theorem dX2_sortByMiddle_64 : decode cX2_sortByMiddle 64 = .ok (.iadd, 1) := by decide +kernel
theorem dX2_sortByMiddle_65 : decode cX2_sortByMiddle 65 = .ok (.iastore, 1) := by decide +kernel
theorem dX2_sortByMiddle_66 : decode cX2_sortByMiddle 66 = .ok (.iinc 1 1, 3) := by decide +kernel
theorem dX2_sortByMiddle_69 : decode cX2_sortByMiddle 69 = .ok (.goto (-27), 3) := by decide +kernel
theorem dX2_sortByMiddle_72 : decode cX2_sortByMiddle 72 = .ok (.iconst 0, 1) := by decide +kernel
theorem dX2_sortByMiddle_73 : decode cX2_sortByMiddle 73 = .ok (.istore_n 1, 1) := by decide +kernel
theorem dX2_sortByMiddle_74 : decode cX2_sortByMiddle 74 = .ok (.iload_n 1, 1) := by decide +kernel
theorem dX2_sortByMiddle_75 : decode cX2_sortByMiddle 75 = .ok (.sipush 256, 3) := by decide +kernel
theorem dX2_sortByMiddle_78 : decode cX2_sortByMiddle 78 = .ok (.if_icmp .ge 41, 3) := by decide +kernel
theorem dX2_sortByMiddle_81 : decode cX2_sortByMiddle 81 = .ok (.aload_n 0, 1) := by decide +kernel
theorem dX2_sortByMiddle_82 : decode cX2_sortByMiddle 82 = .ok (.getfield 36, 3) := by decide +kernel
theorem dX2_sortByMiddle_85 : decode cX2_sortByMiddle 85 = .ok (.aload_n 0, 1) := by decide +kernel
theorem dX2_sortByMiddle_86 : decode cX2_sortByMiddle 86 = .ok (.getfield 39, 3) := by decide +kernel
theorem dX2_sortByMiddle_89 : decode cX2_sortByMiddle 89 = .ok (.aload_n 0, 1) := by decide +kernel
theorem dX2_sortByMiddle_90 : decode cX2_sortByMiddle 90 = .ok (.getfield 21, 3) := by decide +kernel
theorem dX2_sortByMiddle_93 : decode cX2_sortByMiddle 93 = .ok (.iload_n 1, 1) := by decide +kernel
theorem dX2_sortByMiddle_94 : decode cX2_sortByMiddle 94 = .ok (.iaload, 1) := by decide +kernel
theorem dX2_sortByMiddle_95 : decode cX2_sortByMiddle 95 = .ok (.iaload, 1) := by decide +kernel
theorem dX2_sortByMiddle_96 : decode cX2_sortByMiddle 96 = .ok (.iload_n 1, 1) := by decide +kernel
theorem dX2_sortByMiddle_97 : decode cX2_sortByMiddle 97 = .ok (.iastore, 1) := by decide +kernel
theorem dX2_sortByMiddle_98 : decode cX2_sortByMiddle 98 = .ok (.aload_n 0, 1) := by decide +kernel
theorem dX2_sortByMiddle_99 : decode cX2_sortByMiddle 99 = .ok (.getfield 39, 3) := by decide +kernel
theorem dX2_sortByMiddle_102 : decode cX2_sortByMiddle 102 = .ok (.aload_n 0, 1) := by decide +kernel
theorem dX2_sortByMiddle_103 : decode cX2_sortByMiddle 103 = .ok (.getfield 21, 3) := by decide +kernel
theorem dX2_sortByMiddle_106 : decode cX2_sortByMiddle 106 = .ok (.iload_n 1, 1) := by decide +kernel
theorem dX2_sortByMiddle_107 : decode cX2_sortByMiddle 107 = .ok (.iaload, 1) := by decide +kernel
theorem dX2_sortByMiddle_108 : decode cX2_sortByMiddle 108 = .ok (.dup2, 1) := by decide +kernel
theorem dX2_sortByMiddle_109 : decode cX2_sortByMiddle 109 = .ok (.iaload, 1) := by decide +kernel
theorem dX2_sortByMiddle_110 : decode cX2_sortByMiddle 110 = .ok (.iconst 1, 1) := by decide +kernel
theorem dX2_sortByMiddle_111 : decode cX2_sortByMiddle 111 = .ok (.iadd, 1) := by decide +kernel
theorem dX2_sortByMiddle_112 : decode cX2_sortByMiddle 112 = .ok (.iastore, 1) := by decide +kernel
theorem dX2_sortByMiddle_113 : decode cX2_sortByMiddle 113 = .ok (.iinc 1 1, 3) := by decide +kernel
theorem dX2_sortByMiddle_116 : decode cX2_sortByMiddle 116 = .ok (.goto (-42), 3) := by decide +kernel
theorem dX2_sortByMiddle_119 : decode cX2_sortByMiddle 119 = .ok (.return_, 1) := by decide +kernel
theorem dX2_runWater_0 : decode cX2_runWater 0 = .ok (.aload_n 0, 1) := by decide +kernel
theorem dX2_runWater_1 : decode cX2_runWater 1 = .ok (.getfield 27, 3) := by decide +kernel
theorem dX2_runWater_4 : decode cX2_runWater 4 = .ok (.iconst 1, 1) := by decide +kernel
theorem dX2_runWater_5 : decode cX2_runWater 5 = .ok (.invokestatic 81, 3) := by decide +kernel
theorem dX2_runWater_8 : decode cX2_runWater 8 = .ok (.sipush 255, 3) := by decide +kernel
theorem dX2_runWater_11 : decode cX2_runWater 11 = .ok (.istore_n 1, 1) := by decide +kernel
theorem dX2_runWater_12 : decode cX2_runWater 12 = .ok (.iload_n 1, 1) := by decide +kernel
theorem dX2_runWater_13 : decode cX2_runWater 13 = .ok (.ifCond .lt 63, 3) := by decide +kernel
theorem dX2_runWater_16 : decode cX2_runWater 16 = .ok (.aload_n 0, 1) := by decide +kernel
theorem dX2_runWater_17 : decode cX2_runWater 17 = .ok (.getfield 36, 3) := by decide +kernel
theorem dX2_runWater_20 : decode cX2_runWater 20 = .ok (.iload_n 1, 1) := by decide +kernel
theorem dX2_runWater_21 : decode cX2_runWater 21 = .ok (.iaload, 1) := by decide +kernel
theorem dX2_runWater_22 : decode cX2_runWater 22 = .ok (.istore_n 2, 1) := by decide +kernel
theorem dX2_runWater_23 : decode cX2_runWater 23 = .ok (.aload_n 0, 1) := by decide +kernel
theorem dX2_runWater_24 : decode cX2_runWater 24 = .ok (.getfield 27, 3) := by decide +kernel
theorem dX2_runWater_27 : decode cX2_runWater 27 = .ok (.iload_n 2, 1) := by decide +kernel
theorem dX2_runWater_28 : decode cX2_runWater 28 = .ok (.aload_n 0, 1) := by decide +kernel
theorem dX2_runWater_29 : decode cX2_runWater 29 = .ok (.getfield 27, 3) := by decide +kernel
theorem dX2_runWater_32 : decode cX2_runWater 32 = .ok (.iload_n 2, 1) := by decide +kernel
theorem dX2_runWater_33 : decode cX2_runWater 33 = .ok (.iaload, 1) := by decide +kernel
theorem dX2_runWater_34 : decode cX2_runWater 34 = .ok (.bipush 99, 2) := by decide +kernel
theorem dX2_runWater_36 : decode cX2_runWater 36 = .ok (.invokestatic 54, 3) := by decide +kernel
theorem dX2_runWater_39 : decode cX2_runWater 39 = .ok (.iastore, 1) := by decide +kernel
theorem dX2_runWater_40 : decode cX2_runWater 40 = .ok (.aload_n 0, 1) := by decide +kernel
theorem dX2_runWater_41 : decode cX2_runWater 41 = .ok (.getfield 24, 3) := by decide +kernel
theorem dX2_runWater_44 : decode cX2_runWater 44 = .ok (.iload_n 2, 1) := by decide +kernel
theorem dX2_runWater_45 : decode cX2_runWater 45 = .ok (.iaload, 1) := by decide +kernel
theorem dX2_runWater_46 : decode cX2_runWater 46 = .ok (.iconst (-1), 1) := by decide +kernel
theorem dX2_runWater_47 : decode cX2_runWater 47 = .ok (.if_icmp .eq 23, 3) := by decide +kernel
theorem dX2_runWater_50 : decode cX2_runWater 50 = .ok (.aload_n 0, 1) := by decide +kernel
theorem dX2_runWater_51 : decode cX2_runWater 51 = .ok (.getfield 27, 3) := by decide +kernel
theorem dX2_runWater_54 : decode cX2_runWater 54 = .ok (.aload_n 0, 1) := by decide +kernel
theorem dX2_runWater_55 : decode cX2_runWater 55 = .ok (.getfield 24, 3) := by decide +kernel
theorem dX2_runWater_58 : decode cX2_runWater 58 = .ok (.iload_n 2, 1) := by decide +kernel
theorem dX2_runWater_59 : decode cX2_runWater 59 = .ok (.iaload, 1) := by decide +kernel
theorem dX2_runWater_60 : decode cX2_runWater 60 = .ok (.dup2, 1) := by decide +kernel
theorem dX2_runWater_61 : decode cX2_runWater 61 = .ok (.iaload, 1) := by decide +kernel
theorem dX2_runWater_62 : decode cX2_runWater 62 = .ok (.aload_n 0, 1) := by decide +kernel
theorem dX2_runWater_63 : decode cX2_runWater 63 = .ok (.getfield 27, 3) := by decide +kernel
theorem dX2_runWater_66 : decode cX2_runWater 66 = .ok (.iload_n 2, 1) := by decide +kernel
theorem dX2_runWater_67 : decode cX2_runWater 67 = .ok (.iaload, 1) := by decide +kernel
theorem dX2_runWater_68 : decode cX2_runWater 68 = .ok (.iadd, 1) := by decide +kernel
theorem dX2_runWater_69 : decode cX2_runWater 69 = .ok (.iastore, 1) := by decide +kernel
theorem dX2_runWater_70 : decode cX2_runWater 70 = .ok (.iinc 1 (-1), 3) := by decide +kernel
theorem dX2_runWater_73 : decode cX2_runWater 73 = .ok (.goto (-61), 3) := by decide +kernel
theorem dX2_runWater_76 : decode cX2_runWater 76 = .ok (.iconst 0, 1) := by decide +kernel
theorem dX2_runWater_77 : decode cX2_runWater 77 = .ok (.istore_n 1, 1) := by decide +kernel
theorem dX2_runWater_78 : decode cX2_runWater 78 = .ok (.iload_n 1, 1) := by decide +kernel
theorem dX2_runWater_79 : decode cX2_runWater 79 = .ok (.sipush 256, 3) := by decide +kernel
theorem dX2_runWater_82 : decode cX2_runWater 82 = .ok (.if_icmp .ge 47, 3) := by decide +kernel
theorem dX2_runWater_85 : decode cX2_runWater 85 = .ok (.aload_n 0, 1) := by decide +kernel
theorem dX2_runWater_86 : decode cX2_runWater 86 = .ok (.getfield 36, 3) := by decide +kernel
theorem dX2_runWater_89 : decode cX2_runWater 89 = .ok (.iload_n 1, 1) := by decide +kernel
theorem dX2_runWater_90 : decode cX2_runWater 90 = .ok (.iaload, 1) := by decide +kernel
theorem dX2_runWater_91 : decode cX2_runWater 91 = .ok (.istore_n 2, 1) := by decide +kernel
theorem dX2_runWater_92 : decode cX2_runWater 92 = .ok (.aload_n 0, 1) := by decide +kernel
theorem dX2_runWater_93 : decode cX2_runWater 93 = .ok (.getfield 33, 3) := by decide +kernel
theorem dX2_runWater_96 : decode cX2_runWater 96 = .ok (.iload_n 2, 1) := by decide +kernel
theorem dX2_runWater_97 : decode cX2_runWater 97 = .ok (.aload_n 0, 1) := by decide +kernel
theorem dX2_runWater_98 : decode cX2_runWater 98 = .ok (.getfield 24, 3) := by decide +kernel
theorem dX2_runWater_101 : decode cX2_runWater 101 = .ok (.iload_n 2, 1) := by decide +kernel
theorem dX2_runWater_102 : decode cX2_runWater 102 = .ok (.iaload, 1) := by decide +kernel
theorem dX2_runWater_103 : decode cX2_runWater 103 = .ok (.iconst (-1), 1) := by decide +kernel
theorem dX2_runWater_104 : decode cX2_runWater 104 = .ok (.if_icmp .ne 7, 3) := by decide +kernel
theorem dX2_runWater_107 : decode cX2_runWater 107 = .ok (.iload_n 2, 1) := by decide +kernel
theorem dX2_runWater_108 : decode cX2_runWater 108 = .ok (.goto 14, 3) := by decide +kernel
theorem dX2_runWater_111 : decode cX2_runWater 111 = .ok (.aload_n 0, 1) := by decide +kernel
theorem dX2_runWater_112 : decode cX2_runWater 112 = .ok (.getfield 33, 3) := by decide +kernel
theorem dX2_runWater_115 : decode cX2_runWater 115 = .ok (.aload_n 0, 1) := by decide +kernel
theorem dX2_runWater_116 : decode cX2_runWater 116 = .ok (.getfield 24, 3) := by decide +kernel
theorem dX2_runWater_119 : decode cX2_runWater 119 = .ok (.iload_n 2, 1) := by decide +kernel
theorem dX2_runWater_120 : decode cX2_runWater 120 = .ok (.iaload, 1) := by decide +kernel
theorem dX2_runWater_121 : decode cX2_runWater 121 = .ok (.iaload, 1) := by decide +kernel
theorem dX2_runWater_122 : decode cX2_runWater 122 = .ok (.iastore, 1) := by decide +kernel
theorem dX2_runWater_123 : decode cX2_runWater 123 = .ok (.iinc 1 1, 3) := by decide +kernel
theorem dX2_runWater_126 : decode cX2_runWater 126 = .ok (.goto (-48), 3) := by decide +kernel
theorem dX2_runWater_129 : decode cX2_runWater 129 = .ok (.return_, 1) := by decide +kernel
theorem dX2_isSure_0 : decode cX2_isSure 0 = .ok (.aload_n 0, 1) := by decide +kernel
theorem dX2_isSure_1 : decode cX2_isSure 1 = .ok (.getfield 24, 3) := by decide +kernel
theorem dX2_isSure_4 : decode cX2_isSure 4 = .ok (.iload_n 1, 1) := by decide +kernel
theorem dX2_isSure_5 : decode cX2_isSure 5 = .ok (.iaload, 1) := by decide +kernel
theorem dX2_isSure_6 : decode cX2_isSure 6 = .ok (.istore_n 2, 1) := by decide +kernel
theorem dX2_isSure_7 : decode cX2_isSure 7 = .ok (.iload_n 2, 1) := by decide +kernel
theorem dX2_isSure_8 : decode cX2_isSure 8 = .ok (.iconst (-1), 1) := by decide +kernel
theorem dX2_isSure_9 : decode cX2_isSure 9 = .ok (.if_icmp .eq 18, 3) := by decide +kernel
theorem dX2_isSure_12 : decode cX2_isSure 12 = .ok (.aload_n 0, 1) := by decide +kernel
theorem dX2_isSure_13 : decode cX2_isSure 13 = .ok (.getfield 18, 3) := by decide +kernel
theorem dX2_isSure_16 : decode cX2_isSure 16 = .ok (.iload_n 2, 1) := by decide +kernel
theorem dX2_isSure_17 : decode cX2_isSure 17 = .ok (.iaload, 1) := by decide +kernel
theorem dX2_isSure_18 : decode cX2_isSure 18 = .ok (.aload_n 0, 1) := by decide +kernel
theorem dX2_isSure_19 : decode cX2_isSure 19 = .ok (.getfield 15, 3) := by decide +kernel
theorem dX2_isSure_22 : decode cX2_isSure 22 = .ok (.iload_n 1, 1) := by decide +kernel
theorem dX2_isSure_23 : decode cX2_isSure 23 = .ok (.iaload, 1) := by decide +kernel
theorem dX2_isSure_24 : decode cX2_isSure 24 = .ok (.if_icmp .lt 5, 3) := by decide +kernel
theorem dX2_isSure_27 : decode cX2_isSure 27 = .ok (.iconst 0, 1) := by decide +kernel
theorem dX2_isSure_28 : decode cX2_isSure 28 = .ok (.ireturn, 1) := by decide +kernel
theorem dX2_isSure_29 : decode cX2_isSure 29 = .ok (.iconst 0, 1) := by decide +kernel
theorem dX2_isSure_30 : decode cX2_isSure 30 = .ok (.istore_n 3, 1) := by decide +kernel
theorem dX2_isSure_31 : decode cX2_isSure 31 = .ok (.iload_n 3, 1) := by decide +kernel
theorem dX2_isSure_32 : decode cX2_isSure 32 = .ok (.iconst 4, 1) := by decide +kernel
theorem dX2_isSure_33 : decode cX2_isSure 33 = .ok (.if_icmp .ge 46, 3) := by decide +kernel
theorem dX2_isSure_36 : decode cX2_isSure 36 = .ok (.iload_n 1, 1) := by decide +kernel
theorem dX2_isSure_37 : decode cX2_isSure 37 = .ok (.iload_n 3, 1) := by decide +kernel
theorem dX2_isSure_38 : decode cX2_isSure 38 = .ok (.invokestatic 74, 3) := by decide +kernel
theorem dX2_isSure_41 : decode cX2_isSure 41 = .ok (.istore 4, 2) := by decide +kernel
theorem dX2_isSure_43 : decode cX2_isSure 43 = .ok (.iload 4, 2) := by decide +kernel
theorem dX2_isSure_45 : decode cX2_isSure 45 = .ok (.iconst (-1), 1) := by decide +kernel
theorem dX2_isSure_46 : decode cX2_isSure 46 = .ok (.if_icmp .eq 27, 3) := by decide +kernel
theorem dX2_isSure_49 : decode cX2_isSure 49 = .ok (.iload 4, 2) := by decide +kernel
theorem dX2_isSure_51 : decode cX2_isSure 51 = .ok (.iload_n 2, 1) := by decide +kernel
theorem dX2_isSure_52 : decode cX2_isSure 52 = .ok (.if_icmp .eq 21, 3) := by decide +kernel
theorem dX2_isSure_55 : decode cX2_isSure 55 = .ok (.aload_n 0, 1) := by decide +kernel
theorem dX2_isSure_56 : decode cX2_isSure 56 = .ok (.getfield 15, 3) := by decide +kernel
theorem dX2_isSure_59 : decode cX2_isSure 59 = .ok (.iload 4, 2) := by decide +kernel
theorem dX2_isSure_61 : decode cX2_isSure 61 = .ok (.iaload, 1) := by decide +kernel
theorem dX2_isSure_62 : decode cX2_isSure 62 = .ok (.aload_n 0, 1) := by decide +kernel
theorem dX2_isSure_63 : decode cX2_isSure 63 = .ok (.getfield 18, 3) := by decide +kernel
theorem dX2_isSure_66 : decode cX2_isSure 66 = .ok (.iload_n 2, 1) := by decide +kernel
theorem dX2_isSure_67 : decode cX2_isSure 67 = .ok (.iaload, 1) := by decide +kernel
theorem dX2_isSure_68 : decode cX2_isSure 68 = .ok (.if_icmp .ge 5, 3) := by decide +kernel
theorem dX2_isSure_71 : decode cX2_isSure 71 = .ok (.iconst 0, 1) := by decide +kernel
theorem dX2_isSure_72 : decode cX2_isSure 72 = .ok (.ireturn, 1) := by decide +kernel
theorem dX2_isSure_73 : decode cX2_isSure 73 = .ok (.iinc 3 1, 3) := by decide +kernel
theorem dX2_isSure_76 : decode cX2_isSure 76 = .ok (.goto (-45), 3) := by decide +kernel
theorem dX2_isSure_79 : decode cX2_isSure 79 = .ok (.iconst 1, 1) := by decide +kernel
theorem dX2_isSure_80 : decode cX2_isSure 80 = .ok (.ireturn, 1) := by decide +kernel
theorem dX3_init_0 : decode cX3_init 0 = .ok (.aload_n 0, 1) := by decide +kernel
theorem dX3_init_1 : decode cX3_init 1 = .ok (.invokespecial 3, 3) := by decide +kernel
theorem dX3_init_4 : decode cX3_init 4 = .ok (.aload_n 0, 1) := by decide +kernel
theorem dX3_init_5 : decode cX3_init 5 = .ok (.iconst 0, 1) := by decide +kernel
theorem dX3_init_6 : decode cX3_init 6 = .ok (.putfield 9, 3) := by decide +kernel
theorem dX3_init_9 : decode cX3_init 9 = .ok (.aload_n 0, 1) := by decide +kernel
theorem dX3_init_10 : decode cX3_init 10 = .ok (.iconst 0, 1) := by decide +kernel
theorem dX3_init_11 : decode cX3_init 11 = .ok (.putfield 15, 3) := by decide +kernel
theorem dX3_init_14 : decode cX3_init 14 = .ok (.aload_n 0, 1) := by decide +kernel
theorem dX3_init_15 : decode cX3_init 15 = .ok (.bipush 40, 2) := by decide +kernel
theorem dX3_init_17 : decode cX3_init 17 = .ok (.newarray .int, 2) := by decide +kernel
theorem dX3_init_19 : decode cX3_init 19 = .ok (.putfield 18, 3) := by decide +kernel
theorem dX3_init_22 : decode cX3_init 22 = .ok (.aload_n 0, 1) := by decide +kernel
theorem dX3_init_23 : decode cX3_init 23 = .ok (.bipush 40, 2) := by decide +kernel
theorem dX3_init_25 : decode cX3_init 25 = .ok (.newarray .int, 2) := by decide +kernel
theorem dX3_init_27 : decode cX3_init 27 = .ok (.putfield 22, 3) := by decide +kernel
theorem dX3_init_30 : decode cX3_init 30 = .ok (.aload_n 0, 1) := by decide +kernel
theorem dX3_init_31 : decode cX3_init 31 = .ok (.bipush 40, 2) := by decide +kernel
theorem dX3_init_33 : decode cX3_init 33 = .ok (.newarray .int, 2) := by decide +kernel
theorem dX3_init_35 : decode cX3_init 35 = .ok (.putfield 25, 3) := by decide +kernel
theorem dX3_init_38 : decode cX3_init 38 = .ok (.aload_n 0, 1) := by decide +kernel
theorem dX3_init_39 : decode cX3_init 39 = .ok (.bipush 40, 2) := by decide +kernel
theorem dX3_init_41 : decode cX3_init 41 = .ok (.newarray .int, 2) := by decide +kernel
theorem dX3_init_43 : decode cX3_init 43 = .ok (.putfield 28, 3) := by decide +kernel
theorem dX3_init_46 : decode cX3_init 46 = .ok (.aload_n 0, 1) := by decide +kernel
theorem dX3_init_47 : decode cX3_init 47 = .ok (.sipush 700, 3) := by decide +kernel
theorem dX3_init_50 : decode cX3_init 50 = .ok (.newarray .int, 2) := by decide +kernel
theorem dX3_init_52 : decode cX3_init 52 = .ok (.putfield 31, 3) := by decide +kernel
theorem dX3_init_55 : decode cX3_init 55 = .ok (.aload_n 0, 1) := by decide +kernel
theorem dX3_init_56 : decode cX3_init 56 = .ok (.iconst 0, 1) := by decide +kernel
theorem dX3_init_57 : decode cX3_init 57 = .ok (.putfield 34, 3) := by decide +kernel
theorem dX3_init_60 : decode cX3_init 60 = .ok (.aload_n 0, 1) := by decide +kernel
theorem dX3_init_61 : decode cX3_init 61 = .ok (.bipush 100, 2) := by decide +kernel
theorem dX3_init_63 : decode cX3_init 63 = .ok (.newarray .int, 2) := by decide +kernel
theorem dX3_init_65 : decode cX3_init 65 = .ok (.putfield 37, 3) := by decide +kernel
theorem dX3_init_68 : decode cX3_init 68 = .ok (.aload_n 0, 1) := by decide +kernel
theorem dX3_init_69 : decode cX3_init 69 = .ok (.bipush 100, 2) := by decide +kernel
theorem dX3_init_71 : decode cX3_init 71 = .ok (.newarray .int, 2) := by decide +kernel
theorem dX3_init_73 : decode cX3_init 73 = .ok (.putfield 40, 3) := by decide +kernel
theorem dX3_init_76 : decode cX3_init 76 = .ok (.aload_n 0, 1) := by decide +kernel
theorem dX3_init_77 : decode cX3_init 77 = .ok (.bipush 100, 2) := by decide +kernel
theorem dX3_init_79 : decode cX3_init 79 = .ok (.newarray .boolean, 2) := by decide +kernel
theorem dX3_init_81 : decode cX3_init 81 = .ok (.putfield 43, 3) := by decide +kernel
theorem dX3_init_84 : decode cX3_init 84 = .ok (.aload_n 0, 1) := by decide +kernel
theorem dX3_init_85 : decode cX3_init 85 = .ok (.bipush 100, 2) := by decide +kernel
theorem dX3_init_87 : decode cX3_init 87 = .ok (.newarray .boolean, 2) := by decide +kernel
theorem dX3_init_89 : decode cX3_init 89 = .ok (.putfield 47, 3) := by decide +kernel
theorem dX3_init_92 : decode cX3_init 92 = .ok (.aload_n 0, 1) := by decide +kernel
theorem dX3_init_93 : decode cX3_init 93 = .ok (.bipush 100, 2) := by decide +kernel
theorem dX3_init_95 : decode cX3_init 95 = .ok (.newarray .int, 2) := by decide +kernel
theorem dX3_init_97 : decode cX3_init 97 = .ok (.putfield 50, 3) := by decide +kernel
theorem dX3_init_100 : decode cX3_init 100 = .ok (.aload_n 0, 1) := by decide +kernel
theorem dX3_init_101 : decode cX3_init 101 = .ok (.iconst 0, 1) := by decide +kernel
theorem dX3_init_102 : decode cX3_init 102 = .ok (.putfield 53, 3) := by decide +kernel
theorem dX3_init_105 : decode cX3_init 105 = .ok (.aload_n 0, 1) := by decide +kernel
theorem dX3_init_106 : decode cX3_init 106 = .ok (.iconst 3, 1) := by decide +kernel
theorem dX3_init_107 : decode cX3_init 107 = .ok (.newarray .int, 2) := by decide +kernel
theorem dX3_init_109 : decode cX3_init 109 = .ok (.putfield 56, 3) := by decide +kernel
theorem dX3_init_112 : decode cX3_init 112 = .ok (.return_, 1) := by decide +kernel
theorem dX3_clear_0 : decode cX3_clear 0 = .ok (.aload_n 0, 1) := by decide +kernel
theorem dX3_clear_1 : decode cX3_clear 1 = .ok (.iconst 0, 1) := by decide +kernel
theorem dX3_clear_2 : decode cX3_clear 2 = .ok (.putfield 9, 3) := by decide +kernel
theorem dX3_clear_5 : decode cX3_clear 5 = .ok (.aload_n 0, 1) := by decide +kernel
theorem dX3_clear_6 : decode cX3_clear 6 = .ok (.iconst 0, 1) := by decide +kernel
theorem dX3_clear_7 : decode cX3_clear 7 = .ok (.putfield 15, 3) := by decide +kernel
theorem dX3_clear_10 : decode cX3_clear 10 = .ok (.aload_n 0, 1) := by decide +kernel
theorem dX3_clear_11 : decode cX3_clear 11 = .ok (.iconst 0, 1) := by decide +kernel
theorem dX3_clear_12 : decode cX3_clear 12 = .ok (.putfield 34, 3) := by decide +kernel
theorem dX3_clear_15 : decode cX3_clear 15 = .ok (.aload_n 0, 1) := by decide +kernel
theorem dX3_clear_16 : decode cX3_clear 16 = .ok (.iconst 0, 1) := by decide +kernel
theorem dX3_clear_17 : decode cX3_clear 17 = .ok (.putfield 53, 3) := by decide +kernel
theorem dX3_clear_20 : decode cX3_clear 20 = .ok (.aload_n 0, 1) := by decide +kernel
theorem dX3_clear_21 : decode cX3_clear 21 = .ok (.getfield 56, 3) := by decide +kernel
theorem dX3_clear_24 : decode cX3_clear 24 = .ok (.iconst 0, 1) := by decide +kernel
theorem dX3_clear_25 : decode cX3_clear 25 = .ok (.invokestatic 59, 3) := by decide +kernel
theorem dX3_clear_28 : decode cX3_clear 28 = .ok (.iconst 0, 1) := by decide +kernel
theorem dX3_clear_29 : decode cX3_clear 29 = .ok (.istore_n 1, 1) := by decide +kernel
theorem dX3_clear_30 : decode cX3_clear 30 = .ok (.iload_n 1, 1) := by decide +kernel
theorem dX3_clear_31 : decode cX3_clear 31 = .ok (.bipush 100, 2) := by decide +kernel
theorem dX3_clear_33 : decode cX3_clear 33 = .ok (.if_icmp .ge 23, 3) := by decide +kernel
theorem dX3_clear_36 : decode cX3_clear 36 = .ok (.aload_n 0, 1) := by decide +kernel
theorem dX3_clear_37 : decode cX3_clear 37 = .ok (.getfield 43, 3) := by decide +kernel
theorem dX3_clear_40 : decode cX3_clear 40 = .ok (.iload_n 1, 1) := by decide +kernel
theorem dX3_clear_41 : decode cX3_clear 41 = .ok (.iconst 0, 1) := by decide +kernel
theorem dX3_clear_42 : decode cX3_clear 42 = .ok (.bastore, 1) := by decide +kernel
theorem dX3_clear_43 : decode cX3_clear 43 = .ok (.aload_n 0, 1) := by decide +kernel
theorem dX3_clear_44 : decode cX3_clear 44 = .ok (.getfield 47, 3) := by decide +kernel
theorem dX3_clear_47 : decode cX3_clear 47 = .ok (.iload_n 1, 1) := by decide +kernel
theorem dX3_clear_48 : decode cX3_clear 48 = .ok (.iconst 0, 1) := by decide +kernel
theorem dX3_clear_49 : decode cX3_clear 49 = .ok (.bastore, 1) := by decide +kernel
theorem dX3_clear_50 : decode cX3_clear 50 = .ok (.iinc 1 1, 3) := by decide +kernel
theorem dX3_clear_53 : decode cX3_clear 53 = .ok (.goto (-23), 3) := by decide +kernel
theorem dX3_clear_56 : decode cX3_clear 56 = .ok (.return_, 1) := by decide +kernel
theorem dX3_putSea_0 : decode cX3_putSea 0 = .ok (.aload_n 0, 1) := by decide +kernel
theorem dX3_putSea_1 : decode cX3_putSea 1 = .ok (.getfield 43, 3) := by decide +kernel
theorem dX3_putSea_4 : decode cX3_putSea 4 = .ok (.iload_n 1, 1) := by decide +kernel
theorem dX3_putSea_5 : decode cX3_putSea 5 = .ok (.iconst 1, 1) := by decide +kernel
theorem dX3_putSea_6 : decode cX3_putSea 6 = .ok (.bastore, 1) := by decide +kernel
theorem dX3_putSea_7 : decode cX3_putSea 7 = .ok (.aload_n 0, 1) := by decide +kernel
theorem dX3_putSea_8 : decode cX3_putSea 8 = .ok (.getfield 37, 3) := by decide +kernel
theorem dX3_putSea_11 : decode cX3_putSea 11 = .ok (.iload_n 1, 1) := by decide +kernel
theorem dX3_putSea_12 : decode cX3_putSea 12 = .ok (.iload_n 2, 1) := by decide +kernel
theorem dX3_putSea_13 : decode cX3_putSea 13 = .ok (.iastore, 1) := by decide +kernel
theorem dX3_putSea_14 : decode cX3_putSea 14 = .ok (.aload_n 0, 1) := by decide +kernel
theorem dX3_putSea_15 : decode cX3_putSea 15 = .ok (.getfield 40, 3) := by decide +kernel
theorem dX3_putSea_18 : decode cX3_putSea 18 = .ok (.iload_n 1, 1) := by decide +kernel
theorem dX3_putSea_19 : decode cX3_putSea 19 = .ok (.iload_n 3, 1) := by decide +kernel
theorem dX3_putSea_20 : decode cX3_putSea 20 = .ok (.iastore, 1) := by decide +kernel
theorem dX3_putSea_21 : decode cX3_putSea 21 = .ok (.aload_n 0, 1) := by decide +kernel
theorem dX3_putSea_22 : decode cX3_putSea 22 = .ok (.getfield 47, 3) := by decide +kernel
theorem dX3_putSea_25 : decode cX3_putSea 25 = .ok (.iload_n 1, 1) := by decide +kernel
theorem dX3_putSea_26 : decode cX3_putSea 26 = .ok (.iconst 1, 1) := by decide +kernel
theorem dX3_putSea_27 : decode cX3_putSea 27 = .ok (.bastore, 1) := by decide +kernel
theorem dX3_putSea_28 : decode cX3_putSea 28 = .ok (.return_, 1) := by decide +kernel
theorem dX3_putAsking_0 : decode cX3_putAsking 0 = .ok (.aload_n 0, 1) := by decide +kernel
theorem dX3_putAsking_1 : decode cX3_putAsking 1 = .ok (.getfield 15, 3) := by decide +kernel
theorem dX3_putAsking_4 : decode cX3_putAsking 4 = .ok (.bipush 40, 2) := by decide +kernel
theorem dX3_putAsking_6 : decode cX3_putAsking 6 = .ok (.if_icmp .ge 56, 3) := by decide +kernel
theorem dX3_putAsking_9 : decode cX3_putAsking 9 = .ok (.aload_n 0, 1) := by decide +kernel
theorem dX3_putAsking_10 : decode cX3_putAsking 10 = .ok (.getfield 18, 3) := by decide +kernel
theorem dX3_putAsking_13 : decode cX3_putAsking 13 = .ok (.aload_n 0, 1) := by decide +kernel
theorem dX3_putAsking_14 : decode cX3_putAsking 14 = .ok (.getfield 15, 3) := by decide +kernel
theorem dX3_putAsking_17 : decode cX3_putAsking 17 = .ok (.iload_n 1, 1) := by decide +kernel
theorem dX3_putAsking_18 : decode cX3_putAsking 18 = .ok (.iastore, 1) := by decide +kernel
theorem dX3_putAsking_19 : decode cX3_putAsking 19 = .ok (.aload_n 0, 1) := by decide +kernel
theorem dX3_putAsking_20 : decode cX3_putAsking 20 = .ok (.getfield 22, 3) := by decide +kernel
theorem dX3_putAsking_23 : decode cX3_putAsking 23 = .ok (.aload_n 0, 1) := by decide +kernel
theorem dX3_putAsking_24 : decode cX3_putAsking 24 = .ok (.getfield 15, 3) := by decide +kernel
theorem dX3_putAsking_27 : decode cX3_putAsking 27 = .ok (.iload_n 2, 1) := by decide +kernel
theorem dX3_putAsking_28 : decode cX3_putAsking 28 = .ok (.iastore, 1) := by decide +kernel
theorem dX3_putAsking_29 : decode cX3_putAsking 29 = .ok (.aload_n 0, 1) := by decide +kernel
theorem dX3_putAsking_30 : decode cX3_putAsking 30 = .ok (.getfield 25, 3) := by decide +kernel
theorem dX3_putAsking_33 : decode cX3_putAsking 33 = .ok (.aload_n 0, 1) := by decide +kernel
theorem dX3_putAsking_34 : decode cX3_putAsking 34 = .ok (.getfield 15, 3) := by decide +kernel
theorem dX3_putAsking_37 : decode cX3_putAsking 37 = .ok (.iload_n 3, 1) := by decide +kernel
theorem dX3_putAsking_38 : decode cX3_putAsking 38 = .ok (.iastore, 1) := by decide +kernel
theorem dX3_putAsking_39 : decode cX3_putAsking 39 = .ok (.aload_n 0, 1) := by decide +kernel
theorem dX3_putAsking_40 : decode cX3_putAsking 40 = .ok (.getfield 28, 3) := by decide +kernel
theorem dX3_putAsking_43 : decode cX3_putAsking 43 = .ok (.aload_n 0, 1) := by decide +kernel
theorem dX3_putAsking_44 : decode cX3_putAsking 44 = .ok (.getfield 15, 3) := by decide +kernel
theorem dX3_putAsking_47 : decode cX3_putAsking 47 = .ok (.aload_n 0, 1) := by decide +kernel
theorem dX3_putAsking_48 : decode cX3_putAsking 48 = .ok (.getfield 34, 3) := by decide +kernel
theorem dX3_putAsking_51 : decode cX3_putAsking 51 = .ok (.iastore, 1) := by decide +kernel
theorem dX3_putAsking_52 : decode cX3_putAsking 52 = .ok (.aload_n 0, 1) := by decide +kernel
theorem dX3_putAsking_53 : decode cX3_putAsking 53 = .ok (.dup, 1) := by decide +kernel
theorem dX3_putAsking_54 : decode cX3_putAsking 54 = .ok (.getfield 15, 3) := by decide +kernel
theorem dX3_putAsking_57 : decode cX3_putAsking 57 = .ok (.iconst 1, 1) := by decide +kernel
theorem dX3_putAsking_58 : decode cX3_putAsking 58 = .ok (.iadd, 1) := by decide +kernel
theorem dX3_putAsking_59 : decode cX3_putAsking 59 = .ok (.putfield 15, 3) := by decide +kernel
theorem dX3_putAsking_62 : decode cX3_putAsking 62 = .ok (.return_, 1) := by decide +kernel
theorem dX3_putStep_0 : decode cX3_putStep 0 = .ok (.aload_n 0, 1) := by decide +kernel
theorem dX3_putStep_1 : decode cX3_putStep 1 = .ok (.getfield 34, 3) := by decide +kernel
theorem dX3_putStep_4 : decode cX3_putStep 4 = .ok (.sipush 700, 3) := by decide +kernel
theorem dX3_putStep_7 : decode cX3_putStep 7 = .ok (.if_icmp .ge 23, 3) := by decide +kernel
theorem dX3_putStep_10 : decode cX3_putStep 10 = .ok (.aload_n 0, 1) := by decide +kernel
theorem dX3_putStep_11 : decode cX3_putStep 11 = .ok (.getfield 31, 3) := by decide +kernel
theorem dX3_putStep_14 : decode cX3_putStep 14 = .ok (.aload_n 0, 1) := by decide +kernel
theorem dX3_putStep_15 : decode cX3_putStep 15 = .ok (.getfield 34, 3) := by decide +kernel
theorem dX3_putStep_18 : decode cX3_putStep 18 = .ok (.iload_n 1, 1) := by decide +kernel
theorem dX3_putStep_19 : decode cX3_putStep 19 = .ok (.iastore, 1) := by decide +kernel
theorem dX3_putStep_20 : decode cX3_putStep 20 = .ok (.aload_n 0, 1) := by decide +kernel
theorem dX3_putStep_21 : decode cX3_putStep 21 = .ok (.dup, 1) := by decide +kernel
theorem dX3_putStep_22 : decode cX3_putStep 22 = .ok (.getfield 34, 3) := by decide +kernel
theorem dX3_putStep_25 : decode cX3_putStep 25 = .ok (.iconst 1, 1) := by decide +kernel
theorem dX3_putStep_26 : decode cX3_putStep 26 = .ok (.iadd, 1) := by decide +kernel
theorem dX3_putStep_27 : decode cX3_putStep 27 = .ok (.putfield 34, 3) := by decide +kernel
theorem dX3_putStep_30 : decode cX3_putStep 30 = .ok (.return_, 1) := by decide +kernel
theorem dX3_putComparison_0 : decode cX3_putComparison 0 = .ok (.aload_n 0, 1) := by decide +kernel
theorem dX3_putComparison_1 : decode cX3_putComparison 1 = .ok (.iload_n 3, 1) := by decide +kernel
theorem dX3_putComparison_2 : decode cX3_putComparison 2 = .ok (.bipush 8, 2) := by decide +kernel
theorem dX3_putComparison_4 : decode cX3_putComparison 4 = .ok (.ishl, 1) := by decide +kernel
theorem dX3_putComparison_5 : decode cX3_putComparison 5 = .ok (.iload_n 1, 1) := by decide +kernel
theorem dX3_putComparison_6 : decode cX3_putComparison 6 = .ok (.iconst 4, 1) := by decide +kernel
theorem dX3_putComparison_7 : decode cX3_putComparison 7 = .ok (.ishl, 1) := by decide +kernel
theorem dX3_putComparison_8 : decode cX3_putComparison 8 = .ok (.ior, 1) := by decide +kernel
theorem dX3_putComparison_9 : decode cX3_putComparison 9 = .ok (.iload_n 2, 1) := by decide +kernel
theorem dX3_putComparison_10 : decode cX3_putComparison 10 = .ok (.ior, 1) := by decide +kernel
theorem dX3_putComparison_11 : decode cX3_putComparison 11 = .ok (.invokevirtual 65, 3) := by decide +kernel
theorem dX3_putComparison_14 : decode cX3_putComparison 14 = .ok (.iload_n 1, 1) := by decide +kernel
theorem dX3_putComparison_15 : decode cX3_putComparison 15 = .ok (.iconst 2, 1) := by decide +kernel
theorem dX3_putComparison_16 : decode cX3_putComparison 16 = .ok (.if_icmp .ne 24, 3) := by decide +kernel
theorem dX3_putComparison_19 : decode cX3_putComparison 19 = .ok (.iload_n 2, 1) := by decide +kernel
theorem dX3_putComparison_20 : decode cX3_putComparison 20 = .ok (.iconst 1, 1) := by decide +kernel
theorem dX3_putComparison_21 : decode cX3_putComparison 21 = .ok (.if_icmp .eq 8, 3) := by decide +kernel
theorem dX3_putComparison_24 : decode cX3_putComparison 24 = .ok (.aload_n 0, 1) := by decide +kernel
theorem dX3_putComparison_25 : decode cX3_putComparison 25 = .ok (.iload_n 3, 1) := by decide +kernel
theorem dX3_putComparison_26 : decode cX3_putComparison 26 = .ok (.invokevirtual 69, 3) := by decide +kernel
theorem dX3_putComparison_29 : decode cX3_putComparison 29 = .ok (.iload_n 2, 1) := by decide +kernel
theorem dX3_putComparison_30 : decode cX3_putComparison 30 = .ok (.ifCond .eq 10, 3) := by decide +kernel
theorem dX3_putComparison_33 : decode cX3_putComparison 33 = .ok (.aload_n 0, 1) := by decide +kernel
theorem dX3_putComparison_34 : decode cX3_putComparison 34 = .ok (.iload_n 3, 1) := by decide +kernel
theorem dX3_putComparison_35 : decode cX3_putComparison 35 = .ok (.iconst 1, 1) := by decide +kernel
theorem dX3_putComparison_36 : decode cX3_putComparison 36 = .ok (.iadd, 1) := by decide +kernel
theorem dX3_putComparison_37 : decode cX3_putComparison 37 = .ok (.invokevirtual 69, 3) := by decide +kernel
theorem dX3_putComparison_40 : decode cX3_putComparison 40 = .ok (.return_, 1) := by decide +kernel
theorem dX3_putEdge_0 : decode cX3_putEdge 0 = .ok (.iload_n 1, 1) := by decide +kernel
theorem dX3_putEdge_1 : decode cX3_putEdge 1 = .ok (.bipush 100, 2) := by decide +kernel
theorem dX3_putEdge_3 : decode cX3_putEdge 3 = .ok (.if_icmp .ge 10, 3) := by decide +kernel
theorem dX3_putEdge_6 : decode cX3_putEdge 6 = .ok (.aload_n 0, 1) := by decide +kernel
theorem dX3_putEdge_7 : decode cX3_putEdge 7 = .ok (.getfield 47, 3) := by decide +kernel
theorem dX3_putEdge_10 : decode cX3_putEdge 10 = .ok (.iload_n 1, 1) := by decide +kernel
theorem dX3_putEdge_11 : decode cX3_putEdge 11 = .ok (.iconst 1, 1) := by decide +kernel
theorem dX3_putEdge_12 : decode cX3_putEdge 12 = .ok (.bastore, 1) := by decide +kernel
theorem dX3_putEdge_13 : decode cX3_putEdge 13 = .ok (.return_, 1) := by decide +kernel
theorem dX3_finish_0 : decode cX3_finish 0 = .ok (.iconst 0, 1) := by decide +kernel
theorem dX3_finish_1 : decode cX3_finish 1 = .ok (.istore_n 1, 1) := by decide +kernel
theorem dX3_finish_2 : decode cX3_finish 2 = .ok (.iconst 0, 1) := by decide +kernel
theorem dX3_finish_3 : decode cX3_finish 3 = .ok (.istore_n 2, 1) := by decide +kernel
theorem dX3_finish_4 : decode cX3_finish 4 = .ok (.iconst 0, 1) := by decide +kernel
theorem dX3_finish_5 : decode cX3_finish 5 = .ok (.istore_n 3, 1) := by decide +kernel
theorem dX3_finish_6 : decode cX3_finish 6 = .ok (.iconst 0, 1) := by decide +kernel
theorem dX3_finish_7 : decode cX3_finish 7 = .ok (.istore 4, 2) := by decide +kernel
theorem dX3_finish_9 : decode cX3_finish 9 = .ok (.iload 4, 2) := by decide +kernel
theorem dX3_finish_11 : decode cX3_finish 11 = .ok (.bipush 100, 2) := by decide +kernel
theorem dX3_finish_13 : decode cX3_finish 13 = .ok (.if_icmp .ge 76, 3) := by decide +kernel
theorem dX3_finish_16 : decode cX3_finish 16 = .ok (.aload_n 0, 1) := by decide +kernel
theorem dX3_finish_17 : decode cX3_finish 17 = .ok (.getfield 43, 3) := by decide +kernel
theorem dX3_finish_20 : decode cX3_finish 20 = .ok (.iload 4, 2) := by decide +kernel
theorem dX3_finish_22 : decode cX3_finish 22 = .ok (.baload, 1) := by decide +kernel
theorem dX3_finish_23 : decode cX3_finish 23 = .ok (.ifCond .eq 19, 3) := by decide +kernel
theorem dX3_finish_26 : decode cX3_finish 26 = .ok (.aload_n 0, 1) := by decide +kernel
theorem dX3_finish_27 : decode cX3_finish 27 = .ok (.getfield 37, 3) := by decide +kernel
theorem dX3_finish_30 : decode cX3_finish 30 = .ok (.iload 4, 2) := by decide +kernel
theorem dX3_finish_32 : decode cX3_finish 32 = .ok (.iaload, 1) := by decide +kernel
theorem dX3_finish_33 : decode cX3_finish 33 = .ok (.istore_n 1, 1) := by decide +kernel
theorem dX3_finish_34 : decode cX3_finish 34 = .ok (.aload_n 0, 1) := by decide +kernel
theorem dX3_finish_35 : decode cX3_finish 35 = .ok (.getfield 40, 3) := by decide +kernel
theorem dX3_finish_38 : decode cX3_finish 38 = .ok (.iload 4, 2) := by decide +kernel
theorem dX3_finish_40 : decode cX3_finish 40 = .ok (.iaload, 1) := by decide +kernel
theorem dX3_finish_41 : decode cX3_finish 41 = .ok (.istore_n 2, 1) := by decide +kernel
theorem dX3_finish_42 : decode cX3_finish 42 = .ok (.aload_n 0, 1) := by decide +kernel
theorem dX3_finish_43 : decode cX3_finish 43 = .ok (.getfield 37, 3) := by decide +kernel
theorem dX3_finish_46 : decode cX3_finish 46 = .ok (.iload 4, 2) := by decide +kernel
theorem dX3_finish_48 : decode cX3_finish 48 = .ok (.iload_n 1, 1) := by decide +kernel
theorem dX3_finish_49 : decode cX3_finish 49 = .ok (.iastore, 1) := by decide +kernel
theorem dX3_finish_50 : decode cX3_finish 50 = .ok (.aload_n 0, 1) := by decide +kernel
theorem dX3_finish_51 : decode cX3_finish 51 = .ok (.getfield 40, 3) := by decide +kernel
theorem dX3_finish_54 : decode cX3_finish 54 = .ok (.iload 4, 2) := by decide +kernel
theorem dX3_finish_56 : decode cX3_finish 56 = .ok (.iload_n 2, 1) := by decide +kernel
theorem dX3_finish_57 : decode cX3_finish 57 = .ok (.iastore, 1) := by decide +kernel
theorem dX3_finish_58 : decode cX3_finish 58 = .ok (.aload_n 0, 1) := by decide +kernel
theorem dX3_finish_59 : decode cX3_finish 59 = .ok (.getfield 47, 3) := by decide +kernel
theorem dX3_finish_62 : decode cX3_finish 62 = .ok (.iload 4, 2) := by decide +kernel
theorem dX3_finish_64 : decode cX3_finish 64 = .ok (.baload, 1) := by decide +kernel
theorem dX3_finish_65 : decode cX3_finish 65 = .ok (.ifCond .eq 8, 3) := by decide +kernel
theorem dX3_finish_68 : decode cX3_finish 68 = .ok (.iload 4, 2) := by decide +kernel
theorem dX3_finish_70 : decode cX3_finish 70 = .ok (.goto 4, 3) := by decide +kernel
theorem dX3_finish_73 : decode cX3_finish 73 = .ok (.iload_n 3, 1) := by decide +kernel
theorem dX3_finish_74 : decode cX3_finish 74 = .ok (.istore_n 3, 1) := by decide +kernel
theorem dX3_finish_75 : decode cX3_finish 75 = .ok (.aload_n 0, 1) := by decide +kernel
theorem dX3_finish_76 : decode cX3_finish 76 = .ok (.getfield 50, 3) := by decide +kernel
theorem dX3_finish_79 : decode cX3_finish 79 = .ok (.iload 4, 2) := by decide +kernel
theorem dX3_finish_81 : decode cX3_finish 81 = .ok (.iload_n 3, 1) := by decide +kernel
theorem dX3_finish_82 : decode cX3_finish 82 = .ok (.iastore, 1) := by decide +kernel
theorem dX3_finish_83 : decode cX3_finish 83 = .ok (.iinc 4 1, 3) := by decide +kernel
theorem dX3_finish_86 : decode cX3_finish 86 = .ok (.goto (-77), 3) := by decide +kernel
theorem dX3_finish_89 : decode cX3_finish 89 = .ok (.return_, 1) := by decide +kernel
theorem dX3_bothLevels_0 : decode cX3_bothLevels 0 = .ok (.aload_n 0, 1) := by decide +kernel
theorem dX3_bothLevels_1 : decode cX3_bothLevels 1 = .ok (.getfield 37, 3) := by decide +kernel
theorem dX3_bothLevels_4 : decode cX3_bothLevels 4 = .ok (.iload_n 1, 1) := by decide +kernel
theorem dX3_bothLevels_5 : decode cX3_bothLevels 5 = .ok (.iaload, 1) := by decide +kernel
theorem dX3_bothLevels_6 : decode cX3_bothLevels 6 = .ok (.aload_n 0, 1) := by decide +kernel
theorem dX3_bothLevels_7 : decode cX3_bothLevels 7 = .ok (.getfield 40, 3) := by decide +kernel
theorem dX3_bothLevels_10 : decode cX3_bothLevels 10 = .ok (.iload_n 1, 1) := by decide +kernel
theorem dX3_bothLevels_11 : decode cX3_bothLevels 11 = .ok (.iaload, 1) := by decide +kernel
theorem dX3_bothLevels_12 : decode cX3_bothLevels 12 = .ok (.iadd, 1) := by decide +kernel
theorem dX3_bothLevels_13 : decode cX3_bothLevels 13 = .ok (.ireturn, 1) := by decide +kernel
theorem dX3_firstAgeAt_0 : decode cX3_firstAgeAt 0 = .ok (.iconst 0, 1) := by decide +kernel
theorem dX3_firstAgeAt_1 : decode cX3_firstAgeAt 1 = .ok (.istore_n 3, 1) := by decide +kernel
theorem dX3_firstAgeAt_2 : decode cX3_firstAgeAt 2 = .ok (.iload_n 3, 1) := by decide +kernel
theorem dX3_firstAgeAt_3 : decode cX3_firstAgeAt 3 = .ok (.bipush 100, 2) := by decide +kernel
theorem dX3_firstAgeAt_5 : decode cX3_firstAgeAt 5 = .ok (.if_icmp .ge 18, 3) := by decide +kernel
theorem dX3_firstAgeAt_8 : decode cX3_firstAgeAt 8 = .ok (.aload_n 1, 1) := by decide +kernel
theorem dX3_firstAgeAt_9 : decode cX3_firstAgeAt 9 = .ok (.iload_n 3, 1) := by decide +kernel
theorem dX3_firstAgeAt_10 : decode cX3_firstAgeAt 10 = .ok (.iaload, 1) := by decide +kernel
theorem dX3_firstAgeAt_11 : decode cX3_firstAgeAt 11 = .ok (.iload_n 2, 1) := by decide +kernel
theorem dX3_firstAgeAt_12 : decode cX3_firstAgeAt 12 = .ok (.if_icmp .lt 5, 3) := by decide +kernel
theorem dX3_firstAgeAt_15 : decode cX3_firstAgeAt 15 = .ok (.iload_n 3, 1) := by decide +kernel
theorem dX3_firstAgeAt_16 : decode cX3_firstAgeAt 16 = .ok (.ireturn, 1) := by decide +kernel
theorem dX3_firstAgeAt_17 : decode cX3_firstAgeAt 17 = .ok (.iinc 3 1, 3) := by decide +kernel
theorem dX3_firstAgeAt_20 : decode cX3_firstAgeAt 20 = .ok (.goto (-18), 3) := by decide +kernel
theorem dX3_firstAgeAt_23 : decode cX3_firstAgeAt 23 = .ok (.bipush 100, 2) := by decide +kernel
theorem dX3_firstAgeAt_25 : decode cX3_firstAgeAt 25 = .ok (.ireturn, 1) := by decide +kernel
theorem dX3_first_0 : decode cX3_first 0 = .ok (.iconst 0, 1) := by decide +kernel
theorem dX3_first_1 : decode cX3_first 1 = .ok (.istore 4, 2) := by decide +kernel
theorem dX3_first_3 : decode cX3_first 3 = .ok (.iload 4, 2) := by decide +kernel
theorem dX3_first_5 : decode cX3_first 5 = .ok (.aload_n 0, 1) := by decide +kernel
theorem dX3_first_6 : decode cX3_first 6 = .ok (.getfield 15, 3) := by decide +kernel
theorem dX3_first_9 : decode cX3_first 9 = .ok (.if_icmp .ge 38, 3) := by decide +kernel
theorem dX3_first_12 : decode cX3_first 12 = .ok (.aload_n 0, 1) := by decide +kernel
theorem dX3_first_13 : decode cX3_first 13 = .ok (.getfield 18, 3) := by decide +kernel
theorem dX3_first_16 : decode cX3_first 16 = .ok (.iload 4, 2) := by decide +kernel
theorem dX3_first_18 : decode cX3_first 18 = .ok (.iaload, 1) := by decide +kernel
theorem dX3_first_19 : decode cX3_first 19 = .ok (.iload_n 1, 1) := by decide +kernel
theorem dX3_first_20 : decode cX3_first 20 = .ok (.if_icmp .ne 21, 3) := by decide +kernel
theorem dX3_first_23 : decode cX3_first 23 = .ok (.aload_n 0, 1) := by decide +kernel
theorem dX3_first_24 : decode cX3_first 24 = .ok (.iload 4, 2) := by decide +kernel
theorem dX3_first_26 : decode cX3_first 26 = .ok (.aload_n 2, 1) := by decide +kernel
theorem dX3_first_27 : decode cX3_first 27 = .ok (.invokevirtual 72, 3) := by decide +kernel
theorem dX3_first_30 : decode cX3_first 30 = .ok (.ifCond .eq 11, 3) := by decide +kernel
theorem dX3_first_33 : decode cX3_first 33 = .ok (.aload_n 0, 1) := by decide +kernel
theorem dX3_first_34 : decode cX3_first 34 = .ok (.getfield 22, 3) := by decide +kernel
theorem dX3_first_37 : decode cX3_first 37 = .ok (.iload 4, 2) := by decide +kernel
theorem dX3_first_39 : decode cX3_first 39 = .ok (.iaload, 1) := by decide +kernel
theorem dX3_first_40 : decode cX3_first 40 = .ok (.ireturn, 1) := by decide +kernel
theorem dX3_first_41 : decode cX3_first 41 = .ok (.iinc 4 1, 3) := by decide +kernel
theorem dX3_first_44 : decode cX3_first 44 = .ok (.goto (-41), 3) := by decide +kernel
theorem dX3_first_47 : decode cX3_first 47 = .ok (.iload_n 3, 1) := by decide +kernel
theorem dX3_first_48 : decode cX3_first 48 = .ok (.ireturn, 1) := by decide +kernel
theorem dX3_holds_0 : decode cX3_holds 0 = .ok (.lconst 1, 1) := by decide +kernel
theorem dX3_holds_1 : decode cX3_holds 1 = .ok (.lstore_n 3, 1) := by decide +kernel
theorem dX3_holds_2 : decode cX3_holds 2 = .ok (.aload_n 0, 1) := by decide +kernel
theorem dX3_holds_3 : decode cX3_holds 3 = .ok (.getfield 25, 3) := by decide +kernel
theorem dX3_holds_6 : decode cX3_holds 6 = .ok (.iload_n 1, 1) := by decide +kernel
theorem dX3_holds_7 : decode cX3_holds 7 = .ok (.iaload, 1) := by decide +kernel
theorem dX3_holds_8 : decode cX3_holds 8 = .ok (.istore 5, 2) := by decide +kernel
theorem dX3_holds_10 : decode cX3_holds 10 = .ok (.iload 5, 2) := by decide +kernel
theorem dX3_holds_12 : decode cX3_holds 12 = .ok (.aload_n 0, 1) := by decide +kernel
theorem dX3_holds_13 : decode cX3_holds 13 = .ok (.getfield 28, 3) := by decide +kernel
theorem dX3_holds_16 : decode cX3_holds 16 = .ok (.iload_n 1, 1) := by decide +kernel
theorem dX3_holds_17 : decode cX3_holds 17 = .ok (.iaload, 1) := by decide +kernel
theorem dX3_holds_18 : decode cX3_holds 18 = .ok (.if_icmp .ge 111, 3) := by decide +kernel
theorem dX3_holds_21 : decode cX3_holds 21 = .ok (.aload_n 0, 1) := by decide +kernel
theorem dX3_holds_22 : decode cX3_holds 22 = .ok (.getfield 31, 3) := by decide +kernel
theorem dX3_holds_25 : decode cX3_holds 25 = .ok (.iload 5, 2) := by decide +kernel
theorem dX3_holds_27 : decode cX3_holds 27 = .ok (.iaload, 1) := by decide +kernel
theorem dX3_holds_28 : decode cX3_holds 28 = .ok (.istore 6, 2) := by decide +kernel
theorem dX3_holds_30 : decode cX3_holds 30 = .ok (.iload 6, 2) := by decide +kernel
theorem dX3_holds_32 : decode cX3_holds 32 = .ok (.bipush 15, 2) := by decide +kernel
theorem dX3_holds_34 : decode cX3_holds 34 = .ok (.iand, 1) := by decide +kernel
theorem dX3_holds_35 : decode cX3_holds 35 = .ok (.istore 7, 2) := by decide +kernel
theorem dX3_holds_37 : decode cX3_holds 37 = .ok (.iload 7, 2) := by decide +kernel
theorem dX3_holds_39 : decode cX3_holds 39 = .ok (.iconst 3, 1) := by decide +kernel
theorem dX3_holds_40 : decode cX3_holds 40 = .ok (.if_icmp .ne 10, 3) := by decide +kernel
theorem dX3_holds_43 : decode cX3_holds 43 = .ok (.lload_n 3, 1) := by decide +kernel
theorem dX3_holds_44 : decode cX3_holds 44 = .ok (.lconst 1, 1) := by decide +kernel
theorem dX3_holds_45 : decode cX3_holds 45 = .ok (.lxor, 1) := by decide +kernel
theorem dX3_holds_46 : decode cX3_holds 46 = .ok (.lstore_n 3, 1) := by decide +kernel
theorem dX3_holds_47 : decode cX3_holds 47 = .ok (.goto 76, 3) := by decide +kernel
theorem dX3_holds_50 : decode cX3_holds 50 = .ok (.iload 7, 2) := by decide +kernel
theorem dX3_holds_52 : decode cX3_holds 52 = .ok (.iconst 4, 1) := by decide +kernel
theorem dX3_holds_53 : decode cX3_holds 53 = .ok (.if_icmp .ne 16, 3) := by decide +kernel
theorem dX3_holds_56 : decode cX3_holds 56 = .ok (.lload_n 3, 1) := by decide +kernel
theorem dX3_holds_57 : decode cX3_holds 57 = .ok (.iconst 1, 1) := by decide +kernel
theorem dX3_holds_58 : decode cX3_holds 58 = .ok (.lushr, 1) := by decide +kernel
theorem dX3_holds_59 : decode cX3_holds 59 = .ok (.lload_n 3, 1) := by decide +kernel
theorem dX3_holds_60 : decode cX3_holds 60 = .ok (.ldc2_w 76, 3) := by decide +kernel
theorem dX3_holds_63 : decode cX3_holds 63 = .ok (.lor, 1) := by decide +kernel
theorem dX3_holds_64 : decode cX3_holds 64 = .ok (.land, 1) := by decide +kernel
theorem dX3_holds_65 : decode cX3_holds 65 = .ok (.lstore_n 3, 1) := by decide +kernel
theorem dX3_holds_66 : decode cX3_holds 66 = .ok (.goto 57, 3) := by decide +kernel
theorem dX3_holds_69 : decode cX3_holds 69 = .ok (.iload 7, 2) := by decide +kernel
theorem dX3_holds_71 : decode cX3_holds 71 = .ok (.iconst 5, 1) := by decide +kernel
theorem dX3_holds_72 : decode cX3_holds 72 = .ok (.if_icmp .ne 14, 3) := by decide +kernel
theorem dX3_holds_75 : decode cX3_holds 75 = .ok (.lload_n 3, 1) := by decide +kernel
theorem dX3_holds_76 : decode cX3_holds 76 = .ok (.iconst 1, 1) := by decide +kernel
theorem dX3_holds_77 : decode cX3_holds 77 = .ok (.lushr, 1) := by decide +kernel
theorem dX3_holds_78 : decode cX3_holds 78 = .ok (.lload_n 3, 1) := by decide +kernel
theorem dX3_holds_79 : decode cX3_holds 79 = .ok (.lconst 1, 1) := by decide +kernel
theorem dX3_holds_80 : decode cX3_holds 80 = .ok (.land, 1) := by decide +kernel
theorem dX3_holds_81 : decode cX3_holds 81 = .ok (.lor, 1) := by decide +kernel
theorem dX3_holds_82 : decode cX3_holds 82 = .ok (.lstore_n 3, 1) := by decide +kernel
theorem dX3_holds_83 : decode cX3_holds 83 = .ok (.goto 40, 3) := by decide +kernel
theorem dX3_holds_86 : decode cX3_holds 86 = .ok (.aload_n 2, 1) := by decide +kernel
theorem dX3_holds_87 : decode cX3_holds 87 = .ok (.iload 6, 2) := by decide +kernel
theorem dX3_holds_89 : decode cX3_holds 89 = .ok (.iconst 4, 1) := by decide +kernel
theorem dX3_holds_90 : decode cX3_holds 90 = .ok (.ishr, 1) := by decide +kernel
theorem dX3_holds_91 : decode cX3_holds 91 = .ok (.bipush 7, 2) := by decide +kernel
theorem dX3_holds_93 : decode cX3_holds 93 = .ok (.iand, 1) := by decide +kernel
theorem dX3_holds_94 : decode cX3_holds 94 = .ok (.iaload, 1) := by decide +kernel
theorem dX3_holds_95 : decode cX3_holds 95 = .ok (.iload 7, 2) := by decide +kernel
theorem dX3_holds_97 : decode cX3_holds 97 = .ok (.iload 6, 2) := by decide +kernel
theorem dX3_holds_99 : decode cX3_holds 99 = .ok (.bipush 8, 2) := by decide +kernel
theorem dX3_holds_101 : decode cX3_holds 101 = .ok (.ishr, 1) := by decide +kernel
theorem dX3_holds_102 : decode cX3_holds 102 = .ok (.invokestatic 78, 3) := by decide +kernel
theorem dX3_holds_105 : decode cX3_holds 105 = .ok (.istore 8, 2) := by decide +kernel
theorem dX3_holds_107 : decode cX3_holds 107 = .ok (.lload_n 3, 1) := by decide +kernel
theorem dX3_holds_108 : decode cX3_holds 108 = .ok (.iconst 1, 1) := by decide +kernel
theorem dX3_holds_109 : decode cX3_holds 109 = .ok (.lshl, 1) := by decide +kernel
theorem dX3_holds_110 : decode cX3_holds 110 = .ok (.iload 8, 2) := by decide +kernel
theorem dX3_holds_112 : decode cX3_holds 112 = .ok (.ifCond .eq 7, 3) := by decide +kernel
theorem dX3_holds_115 : decode cX3_holds 115 = .ok (.iconst 1, 1) := by decide +kernel
theorem dX3_holds_116 : decode cX3_holds 116 = .ok (.goto 4, 3) := by decide +kernel
theorem dX3_holds_119 : decode cX3_holds 119 = .ok (.iconst 0, 1) := by decide +kernel
theorem dX3_holds_120 : decode cX3_holds 120 = .ok (.i2l, 1) := by decide +kernel
theorem dX3_holds_121 : decode cX3_holds 121 = .ok (.lor, 1) := by decide +kernel
theorem dX3_holds_122 : decode cX3_holds 122 = .ok (.lstore_n 3, 1) := by decide +kernel
theorem dX3_holds_123 : decode cX3_holds 123 = .ok (.iinc 5 1, 3) := by decide +kernel
theorem dX3_holds_126 : decode cX3_holds 126 = .ok (.goto (-116), 3) := by decide +kernel
theorem dX3_holds_129 : decode cX3_holds 129 = .ok (.lload_n 3, 1) := by decide +kernel
theorem dX3_holds_130 : decode cX3_holds 130 = .ok (.lconst 1, 1) := by decide +kernel
theorem dX3_holds_131 : decode cX3_holds 131 = .ok (.land, 1) := by decide +kernel
theorem dX3_holds_132 : decode cX3_holds 132 = .ok (.lconst 1, 1) := by decide +kernel
theorem dX3_holds_133 : decode cX3_holds 133 = .ok (.lcmp, 1) := by decide +kernel
theorem dX3_holds_134 : decode cX3_holds 134 = .ok (.ifCond .ne 7, 3) := by decide +kernel
theorem dX3_holds_137 : decode cX3_holds 137 = .ok (.iconst 1, 1) := by decide +kernel
theorem dX3_holds_138 : decode cX3_holds 138 = .ok (.goto 4, 3) := by decide +kernel
theorem dX3_holds_141 : decode cX3_holds 141 = .ok (.iconst 0, 1) := by decide +kernel
theorem dX3_holds_142 : decode cX3_holds 142 = .ok (.ireturn, 1) := by decide +kernel
theorem dX3_compares_0 : decode cX3_compares 0 = .ok (.iload_n 1, 1) := by decide +kernel
theorem dX3_compares_1 : decode cX3_compares 1 = .ok (.ifCond .ne 14, 3) := by decide +kernel
theorem dX3_compares_4 : decode cX3_compares 4 = .ok (.iload_n 0, 1) := by decide +kernel
theorem dX3_compares_5 : decode cX3_compares 5 = .ok (.iload_n 2, 1) := by decide +kernel
theorem dX3_compares_6 : decode cX3_compares 6 = .ok (.if_icmp .ge 7, 3) := by decide +kernel
theorem dX3_compares_9 : decode cX3_compares 9 = .ok (.iconst 1, 1) := by decide +kernel
theorem dX3_compares_10 : decode cX3_compares 10 = .ok (.goto 4, 3) := by decide +kernel
theorem dX3_compares_13 : decode cX3_compares 13 = .ok (.iconst 0, 1) := by decide +kernel
theorem dX3_compares_14 : decode cX3_compares 14 = .ok (.ireturn, 1) := by decide +kernel
theorem dX3_compares_15 : decode cX3_compares 15 = .ok (.iload_n 1, 1) := by decide +kernel
theorem dX3_compares_16 : decode cX3_compares 16 = .ok (.iconst 1, 1) := by decide +kernel
theorem dX3_compares_17 : decode cX3_compares 17 = .ok (.if_icmp .ne 16, 3) := by decide +kernel
theorem dX3_compares_20 : decode cX3_compares 20 = .ok (.iload_n 0, 1) := by decide +kernel
theorem dX3_compares_21 : decode cX3_compares 21 = .ok (.iload_n 2, 1) := by decide +kernel
theorem dX3_compares_22 : decode cX3_compares 22 = .ok (.if_icmp .le 7, 3) := by decide +kernel
theorem dX3_compares_25 : decode cX3_compares 25 = .ok (.iconst 1, 1) := by decide +kernel
theorem dX3_compares_26 : decode cX3_compares 26 = .ok (.goto 17, 3) := by decide +kernel
theorem dX3_compares_29 : decode cX3_compares 29 = .ok (.iconst 0, 1) := by decide +kernel
theorem dX3_compares_30 : decode cX3_compares 30 = .ok (.goto 13, 3) := by decide +kernel
theorem dX3_compares_33 : decode cX3_compares 33 = .ok (.iload_n 0, 1) := by decide +kernel
theorem dX3_compares_34 : decode cX3_compares 34 = .ok (.iload_n 2, 1) := by decide +kernel
theorem dX3_compares_35 : decode cX3_compares 35 = .ok (.if_icmp .ne 7, 3) := by decide +kernel
theorem dX3_compares_38 : decode cX3_compares 38 = .ok (.iconst 1, 1) := by decide +kernel
theorem dX3_compares_39 : decode cX3_compares 39 = .ok (.goto 4, 3) := by decide +kernel
theorem dX3_compares_42 : decode cX3_compares 42 = .ok (.iconst 0, 1) := by decide +kernel
theorem dX3_compares_43 : decode cX3_compares 43 = .ok (.ireturn, 1) := by decide +kernel
theorem dX4_init_0 : decode cX4_init 0 = .ok (.aload_n 0, 1) := by decide +kernel
theorem dX4_init_1 : decode cX4_init 1 = .ok (.invokespecial 3, 3) := by decide +kernel
theorem dX4_init_4 : decode cX4_init 4 = .ok (.aload_n 0, 1) := by decide +kernel
theorem dX4_init_5 : decode cX4_init 5 = .ok (.bipush 100, 2) := by decide +kernel
theorem dX4_init_7 : decode cX4_init 7 = .ok (.newarray .int, 2) := by decide +kernel
theorem dX4_init_9 : decode cX4_init 9 = .ok (.putfield 9, 3) := by decide +kernel
theorem dX4_init_12 : decode cX4_init 12 = .ok (.aload_n 0, 1) := by decide +kernel
theorem dX4_init_13 : decode cX4_init 13 = .ok (.sipush 25600, 3) := by decide +kernel
theorem dX4_init_16 : decode cX4_init 16 = .ok (.newarray .byte, 2) := by decide +kernel
theorem dX4_init_18 : decode cX4_init 18 = .ok (.putfield 15, 3) := by decide +kernel
theorem dX4_init_21 : decode cX4_init 21 = .ok (.aload_n 0, 1) := by decide +kernel
theorem dX4_init_22 : decode cX4_init 22 = .ok (.bipush 100, 2) := by decide +kernel
theorem dX4_init_24 : decode cX4_init 24 = .ok (.newarray .int, 2) := by decide +kernel
theorem dX4_init_26 : decode cX4_init 26 = .ok (.putfield 19, 3) := by decide +kernel
theorem dX4_init_29 : decode cX4_init 29 = .ok (.return_, 1) := by decide +kernel
theorem dX4_forget_0 : decode cX4_forget 0 = .ok (.aload_n 0, 1) := by decide +kernel
theorem dX4_forget_1 : decode cX4_forget 1 = .ok (.getfield 9, 3) := by decide +kernel
theorem dX4_forget_4 : decode cX4_forget 4 = .ok (.iconst (-1), 1) := by decide +kernel
theorem dX4_forget_5 : decode cX4_forget 5 = .ok (.invokestatic 22, 3) := by decide +kernel
theorem dX4_forget_8 : decode cX4_forget 8 = .ok (.return_, 1) := by decide +kernel
theorem dX4_workOut_0 : decode cX4_workOut 0 = .ok (.iconst 0, 1) := by decide +kernel
theorem dX4_workOut_1 : decode cX4_workOut 1 = .ok (.istore 4, 2) := by decide +kernel
theorem dX4_workOut_3 : decode cX4_workOut 3 = .ok (.iconst 0, 1) := by decide +kernel
theorem dX4_workOut_4 : decode cX4_workOut 4 = .ok (.istore 5, 2) := by decide +kernel
theorem dX4_workOut_6 : decode cX4_workOut 6 = .ok (.iload 5, 2) := by decide +kernel
theorem dX4_workOut_8 : decode cX4_workOut 8 = .ok (.sipush 256, 3) := by decide +kernel
theorem dX4_workOut_11 : decode cX4_workOut 11 = .ok (.if_icmp .ge 61, 3) := by decide +kernel
theorem dX4_workOut_14 : decode cX4_workOut 14 = .ok (.aload_n 3, 1) := by decide +kernel
theorem dX4_workOut_15 : decode cX4_workOut 15 = .ok (.getfield 28, 3) := by decide +kernel
theorem dX4_workOut_18 : decode cX4_workOut 18 = .ok (.iload 5, 2) := by decide +kernel
theorem dX4_workOut_20 : decode cX4_workOut 20 = .ok (.baload, 1) := by decide +kernel
theorem dX4_workOut_21 : decode cX4_workOut 21 = .ok (.ifCond .eq 19, 3) := by decide +kernel
theorem dX4_workOut_24 : decode cX4_workOut 24 = .ok (.aload_n 2, 1) := by decide +kernel
theorem dX4_workOut_25 : decode cX4_workOut 25 = .ok (.iconst 2, 1) := by decide +kernel
theorem dX4_workOut_26 : decode cX4_workOut 26 = .ok (.aload_n 3, 1) := by decide +kernel
theorem dX4_workOut_27 : decode cX4_workOut 27 = .ok (.iload 5, 2) := by decide +kernel
theorem dX4_workOut_29 : decode cX4_workOut 29 = .ok (.iload_n 1, 1) := by decide +kernel
theorem dX4_workOut_30 : decode cX4_workOut 30 = .ok (.invokevirtual 34, 3) := by decide +kernel
theorem dX4_workOut_33 : decode cX4_workOut 33 = .ok (.iconst 0, 1) := by decide +kernel
theorem dX4_workOut_34 : decode cX4_workOut 34 = .ok (.invokevirtual 38, 3) := by decide +kernel
theorem dX4_workOut_37 : decode cX4_workOut 37 = .ok (.goto 4, 3) := by decide +kernel
theorem dX4_workOut_40 : decode cX4_workOut 40 = .ok (.iconst 0, 1) := by decide +kernel
theorem dX4_workOut_41 : decode cX4_workOut 41 = .ok (.istore 6, 2) := by decide +kernel
theorem dX4_workOut_43 : decode cX4_workOut 43 = .ok (.aload_n 0, 1) := by decide +kernel
theorem dX4_workOut_44 : decode cX4_workOut 44 = .ok (.getfield 15, 3) := by decide +kernel
theorem dX4_workOut_47 : decode cX4_workOut 47 = .ok (.iload_n 1, 1) := by decide +kernel
theorem dX4_workOut_48 : decode cX4_workOut 48 = .ok (.sipush 256, 3) := by decide +kernel
theorem dX4_workOut_51 : decode cX4_workOut 51 = .ok (.imul, 1) := by decide +kernel
theorem dX4_workOut_52 : decode cX4_workOut 52 = .ok (.iload 5, 2) := by decide +kernel
theorem dX4_workOut_54 : decode cX4_workOut 54 = .ok (.iadd, 1) := by decide +kernel
theorem dX4_workOut_55 : decode cX4_workOut 55 = .ok (.iload 6, 2) := by decide +kernel
theorem dX4_workOut_57 : decode cX4_workOut 57 = .ok (.i2b, 1) := by decide +kernel
theorem dX4_workOut_58 : decode cX4_workOut 58 = .ok (.bastore, 1) := by decide +kernel
theorem dX4_workOut_59 : decode cX4_workOut 59 = .ok (.iload 4, 2) := by decide +kernel
theorem dX4_workOut_61 : decode cX4_workOut 61 = .ok (.iload 6, 2) := by decide +kernel
theorem dX4_workOut_63 : decode cX4_workOut 63 = .ok (.iadd, 1) := by decide +kernel
theorem dX4_workOut_64 : decode cX4_workOut 64 = .ok (.istore 4, 2) := by decide +kernel
theorem dX4_workOut_66 : decode cX4_workOut 66 = .ok (.iinc 5 1, 3) := by decide +kernel
theorem dX4_workOut_69 : decode cX4_workOut 69 = .ok (.goto (-63), 3) := by decide +kernel
theorem dX4_workOut_72 : decode cX4_workOut 72 = .ok (.aload_n 0, 1) := by decide +kernel
theorem dX4_workOut_73 : decode cX4_workOut 73 = .ok (.getfield 9, 3) := by decide +kernel
theorem dX4_workOut_76 : decode cX4_workOut 76 = .ok (.iload_n 1, 1) := by decide +kernel
theorem dX4_workOut_77 : decode cX4_workOut 77 = .ok (.iload 4, 2) := by decide +kernel
theorem dX4_workOut_79 : decode cX4_workOut 79 = .ok (.iastore, 1) := by decide +kernel
theorem dX4_workOut_80 : decode cX4_workOut 80 = .ok (.return_, 1) := by decide +kernel
theorem dX4_of_0 : decode cX4_of 0 = .ok (.aload_n 0, 1) := by decide +kernel
theorem dX4_of_1 : decode cX4_of 1 = .ok (.getfield 15, 3) := by decide +kernel
theorem dX4_of_4 : decode cX4_of 4 = .ok (.iload_n 1, 1) := by decide +kernel
theorem dX4_of_5 : decode cX4_of 5 = .ok (.sipush 256, 3) := by decide +kernel
theorem dX4_of_8 : decode cX4_of 8 = .ok (.imul, 1) := by decide +kernel
theorem dX4_of_9 : decode cX4_of 9 = .ok (.iload_n 2, 1) := by decide +kernel
theorem dX4_of_10 : decode cX4_of 10 = .ok (.iadd, 1) := by decide +kernel
theorem dX4_of_11 : decode cX4_of 11 = .ok (.baload, 1) := by decide +kernel
theorem dX4_of_12 : decode cX4_of 12 = .ok (.ireturn, 1) := by decide +kernel
theorem dX4_before_0 : decode cX4_before 0 = .ok (.iconst 0, 1) := by decide +kernel
theorem dX4_before_1 : decode cX4_before 1 = .ok (.istore_n 3, 1) := by decide +kernel
theorem dX4_before_2 : decode cX4_before 2 = .ok (.iconst 0, 1) := by decide +kernel
theorem dX4_before_3 : decode cX4_before 3 = .ok (.istore 4, 2) := by decide +kernel
theorem dX4_before_5 : decode cX4_before 5 = .ok (.iload 4, 2) := by decide +kernel
theorem dX4_before_7 : decode cX4_before 7 = .ok (.iload_n 2, 1) := by decide +kernel
theorem dX4_before_8 : decode cX4_before 8 = .ok (.if_icmp .ge 19, 3) := by decide +kernel
theorem dX4_before_11 : decode cX4_before 11 = .ok (.iload_n 3, 1) := by decide +kernel
theorem dX4_before_12 : decode cX4_before 12 = .ok (.aload_n 0, 1) := by decide +kernel
theorem dX4_before_13 : decode cX4_before 13 = .ok (.iload_n 1, 1) := by decide +kernel
theorem dX4_before_14 : decode cX4_before 14 = .ok (.iload 4, 2) := by decide +kernel
theorem dX4_before_16 : decode cX4_before 16 = .ok (.invokevirtual 44, 3) := by decide +kernel
theorem dX4_before_19 : decode cX4_before 19 = .ok (.iadd, 1) := by decide +kernel
theorem dX4_before_20 : decode cX4_before 20 = .ok (.istore_n 3, 1) := by decide +kernel
theorem dX4_before_21 : decode cX4_before 21 = .ok (.iinc 4 1, 3) := by decide +kernel
theorem dX4_before_24 : decode cX4_before 24 = .ok (.goto (-19), 3) := by decide +kernel
theorem dX4_before_27 : decode cX4_before 27 = .ok (.iload_n 3, 1) := by decide +kernel
theorem dX4_before_28 : decode cX4_before 28 = .ok (.ireturn, 1) := by decide +kernel
theorem dX4_ranked_0 : decode cX4_ranked 0 = .ok (.aload_n 0, 1) := by decide +kernel
theorem dX4_ranked_1 : decode cX4_ranked 1 = .ok (.getfield 19, 3) := by decide +kernel
theorem dX4_ranked_4 : decode cX4_ranked 4 = .ok (.iconst 0, 1) := by decide +kernel
theorem dX4_ranked_5 : decode cX4_ranked 5 = .ok (.invokestatic 22, 3) := by decide +kernel
theorem dX4_ranked_8 : decode cX4_ranked 8 = .ok (.iconst 0, 1) := by decide +kernel
theorem dX4_ranked_9 : decode cX4_ranked 9 = .ok (.istore_n 3, 1) := by decide +kernel
theorem dX4_ranked_10 : decode cX4_ranked 10 = .ok (.iload_n 3, 1) := by decide +kernel
theorem dX4_ranked_11 : decode cX4_ranked 11 = .ok (.sipush 256, 3) := by decide +kernel
theorem dX4_ranked_14 : decode cX4_ranked 14 = .ok (.if_icmp .ge 24, 3) := by decide +kernel
theorem dX4_ranked_17 : decode cX4_ranked 17 = .ok (.aload_n 0, 1) := by decide +kernel
theorem dX4_ranked_18 : decode cX4_ranked 18 = .ok (.getfield 19, 3) := by decide +kernel
theorem dX4_ranked_21 : decode cX4_ranked 21 = .ok (.aload_n 0, 1) := by decide +kernel
theorem dX4_ranked_22 : decode cX4_ranked 22 = .ok (.iload_n 1, 1) := by decide +kernel
theorem dX4_ranked_23 : decode cX4_ranked 23 = .ok (.iload_n 3, 1) := by decide +kernel
theorem dX4_ranked_24 : decode cX4_ranked 24 = .ok (.invokevirtual 44, 3) := by decide +kernel
theorem dX4_ranked_27 : decode cX4_ranked 27 = .ok (.dup2, 1) := by decide +kernel
theorem dX4_ranked_28 : decode cX4_ranked 28 = .ok (.iaload, 1) := by decide +kernel
theorem dX4_ranked_29 : decode cX4_ranked 29 = .ok (.iconst 1, 1) := by decide +kernel
theorem dX4_ranked_30 : decode cX4_ranked 30 = .ok (.iadd, 1) := by decide +kernel
theorem dX4_ranked_31 : decode cX4_ranked 31 = .ok (.iastore, 1) := by decide +kernel
theorem dX4_ranked_32 : decode cX4_ranked 32 = .ok (.iinc 3 1, 3) := by decide +kernel
theorem dX4_ranked_35 : decode cX4_ranked 35 = .ok (.goto (-25), 3) := by decide +kernel
theorem dX4_ranked_38 : decode cX4_ranked 38 = .ok (.bipush 99, 2) := by decide +kernel
theorem dX4_ranked_40 : decode cX4_ranked 40 = .ok (.istore_n 3, 1) := by decide +kernel
theorem dX4_ranked_41 : decode cX4_ranked 41 = .ok (.iload_n 2, 1) := by decide +kernel
theorem dX4_ranked_42 : decode cX4_ranked 42 = .ok (.istore 4, 2) := by decide +kernel
theorem dX4_ranked_44 : decode cX4_ranked 44 = .ok (.iload_n 3, 1) := by decide +kernel
theorem dX4_ranked_45 : decode cX4_ranked 45 = .ok (.ifCond .le 31, 3) := by decide +kernel
theorem dX4_ranked_48 : decode cX4_ranked 48 = .ok (.aload_n 0, 1) := by decide +kernel
theorem dX4_ranked_49 : decode cX4_ranked 49 = .ok (.getfield 19, 3) := by decide +kernel
theorem dX4_ranked_52 : decode cX4_ranked 52 = .ok (.iload_n 3, 1) := by decide +kernel
theorem dX4_ranked_53 : decode cX4_ranked 53 = .ok (.iaload, 1) := by decide +kernel
theorem dX4_ranked_54 : decode cX4_ranked 54 = .ok (.iload 4, 2) := by decide +kernel
theorem dX4_ranked_56 : decode cX4_ranked 56 = .ok (.if_icmp .gt 20, 3) := by decide +kernel
theorem dX4_ranked_59 : decode cX4_ranked 59 = .ok (.iload 4, 2) := by decide +kernel
theorem dX4_ranked_61 : decode cX4_ranked 61 = .ok (.aload_n 0, 1) := by decide +kernel
theorem dX4_ranked_62 : decode cX4_ranked 62 = .ok (.getfield 19, 3) := by decide +kernel
theorem dX4_ranked_65 : decode cX4_ranked 65 = .ok (.iload_n 3, 1) := by decide +kernel
theorem dX4_ranked_66 : decode cX4_ranked 66 = .ok (.iaload, 1) := by decide +kernel
theorem dX4_ranked_67 : decode cX4_ranked 67 = .ok (.isub, 1) := by decide +kernel
theorem dX4_ranked_68 : decode cX4_ranked 68 = .ok (.istore 4, 2) := by decide +kernel
theorem dX4_ranked_70 : decode cX4_ranked 70 = .ok (.iinc 3 (-1), 3) := by decide +kernel
theorem dX4_ranked_73 : decode cX4_ranked 73 = .ok (.goto (-29), 3) := by decide +kernel
theorem dX4_ranked_76 : decode cX4_ranked 76 = .ok (.iconst 0, 1) := by decide +kernel
theorem dX4_ranked_77 : decode cX4_ranked 77 = .ok (.istore 5, 2) := by decide +kernel
theorem dX4_ranked_79 : decode cX4_ranked 79 = .ok (.iload 5, 2) := by decide +kernel
theorem dX4_ranked_81 : decode cX4_ranked 81 = .ok (.sipush 256, 3) := by decide +kernel
theorem dX4_ranked_84 : decode cX4_ranked 84 = .ok (.if_icmp .ge 31, 3) := by decide +kernel
theorem dX4_ranked_87 : decode cX4_ranked 87 = .ok (.aload_n 0, 1) := by decide +kernel
theorem dX4_ranked_88 : decode cX4_ranked 88 = .ok (.iload_n 1, 1) := by decide +kernel
theorem dX4_ranked_89 : decode cX4_ranked 89 = .ok (.iload 5, 2) := by decide +kernel
theorem dX4_ranked_91 : decode cX4_ranked 91 = .ok (.invokevirtual 44, 3) := by decide +kernel
theorem dX4_ranked_94 : decode cX4_ranked 94 = .ok (.iload_n 3, 1) := by decide +kernel
theorem dX4_ranked_95 : decode cX4_ranked 95 = .ok (.if_icmp .ne 14, 3) := by decide +kernel
theorem dX4_ranked_98 : decode cX4_ranked 98 = .ok (.iload 4, 2) := by decide +kernel
theorem dX4_ranked_100 : decode cX4_ranked 100 = .ok (.ifCond .ne 6, 3) := by decide +kernel
theorem dX4_ranked_103 : decode cX4_ranked 103 = .ok (.iload 5, 2) := by decide +kernel
theorem dX4_ranked_105 : decode cX4_ranked 105 = .ok (.ireturn, 1) := by decide +kernel
theorem dX4_ranked_106 : decode cX4_ranked 106 = .ok (.iinc 4 (-1), 3) := by decide +kernel
theorem dX4_ranked_109 : decode cX4_ranked 109 = .ok (.iinc 5 1, 3) := by decide +kernel
theorem dX4_ranked_112 : decode cX4_ranked 112 = .ok (.goto (-33), 3) := by decide +kernel
theorem dX4_ranked_115 : decode cX4_ranked 115 = .ok (.iconst (-1), 1) := by decide +kernel
theorem dX4_ranked_116 : decode cX4_ranked 116 = .ok (.ireturn, 1) := by decide +kernel
theorem dX4_isNotBehind_0 : decode cX4_isNotBehind 0 = .ok (.iload_n 3, 1) := by decide +kernel
theorem dX4_isNotBehind_1 : decode cX4_isNotBehind 1 = .ok (.iconst (-1), 1) := by decide +kernel
theorem dX4_isNotBehind_2 : decode cX4_isNotBehind 2 = .ok (.if_icmp .ne 5, 3) := by decide +kernel
theorem dX4_isNotBehind_5 : decode cX4_isNotBehind 5 = .ok (.iconst 0, 1) := by decide +kernel
theorem dX4_isNotBehind_6 : decode cX4_isNotBehind 6 = .ok (.ireturn, 1) := by decide +kernel
theorem dX4_isNotBehind_7 : decode cX4_isNotBehind 7 = .ok (.aload_n 0, 1) := by decide +kernel
theorem dX4_isNotBehind_8 : decode cX4_isNotBehind 8 = .ok (.iload_n 1, 1) := by decide +kernel
theorem dX4_isNotBehind_9 : decode cX4_isNotBehind 9 = .ok (.iload_n 2, 1) := by decide +kernel
theorem dX4_isNotBehind_10 : decode cX4_isNotBehind 10 = .ok (.invokevirtual 44, 3) := by decide +kernel
theorem dX4_isNotBehind_13 : decode cX4_isNotBehind 13 = .ok (.istore 4, 2) := by decide +kernel
theorem dX4_isNotBehind_15 : decode cX4_isNotBehind 15 = .ok (.aload_n 0, 1) := by decide +kernel
theorem dX4_isNotBehind_16 : decode cX4_isNotBehind 16 = .ok (.iload_n 1, 1) := by decide +kernel
theorem dX4_isNotBehind_17 : decode cX4_isNotBehind 17 = .ok (.iload_n 3, 1) := by decide +kernel
theorem dX4_isNotBehind_18 : decode cX4_isNotBehind 18 = .ok (.invokevirtual 44, 3) := by decide +kernel
theorem dX4_isNotBehind_21 : decode cX4_isNotBehind 21 = .ok (.istore 5, 2) := by decide +kernel
theorem dX4_isNotBehind_23 : decode cX4_isNotBehind 23 = .ok (.iload 4, 2) := by decide +kernel
theorem dX4_isNotBehind_25 : decode cX4_isNotBehind 25 = .ok (.iload 5, 2) := by decide +kernel
theorem dX4_isNotBehind_27 : decode cX4_isNotBehind 27 = .ok (.if_icmp .gt 15, 3) := by decide +kernel
theorem dX4_isNotBehind_30 : decode cX4_isNotBehind 30 = .ok (.iload 4, 2) := by decide +kernel
theorem dX4_isNotBehind_32 : decode cX4_isNotBehind 32 = .ok (.iload 5, 2) := by decide +kernel
theorem dX4_isNotBehind_34 : decode cX4_isNotBehind 34 = .ok (.if_icmp .ne 12, 3) := by decide +kernel
theorem dX4_isNotBehind_37 : decode cX4_isNotBehind 37 = .ok (.iload_n 2, 1) := by decide +kernel
theorem dX4_isNotBehind_38 : decode cX4_isNotBehind 38 = .ok (.iload_n 3, 1) := by decide +kernel
theorem dX4_isNotBehind_39 : decode cX4_isNotBehind 39 = .ok (.if_icmp .gt 7, 3) := by decide +kernel
theorem dX4_isNotBehind_42 : decode cX4_isNotBehind 42 = .ok (.iconst 1, 1) := by decide +kernel
theorem dX4_isNotBehind_43 : decode cX4_isNotBehind 43 = .ok (.goto 4, 3) := by decide +kernel
theorem dX4_isNotBehind_46 : decode cX4_isNotBehind 46 = .ok (.iconst 0, 1) := by decide +kernel
theorem dX4_isNotBehind_47 : decode cX4_isNotBehind 47 = .ok (.ireturn, 1) := by decide +kernel
theorem dX5_init_0 : decode cX5_init 0 = .ok (.aload_n 0, 1) := by decide +kernel
theorem dX5_init_1 : decode cX5_init 1 = .ok (.invokespecial 1, 3) := by decide +kernel
theorem dX5_init_4 : decode cX5_init 4 = .ok (.aload_n 0, 1) := by decide +kernel
theorem dX5_init_5 : decode cX5_init 5 = .ok (.lconst 0, 1) := by decide +kernel
theorem dX5_init_6 : decode cX5_init 6 = .ok (.putfield 7, 3) := by decide +kernel
theorem dX5_init_9 : decode cX5_init 9 = .ok (.aload_n 0, 1) := by decide +kernel
theorem dX5_init_10 : decode cX5_init 10 = .ok (.lconst 1, 1) := by decide +kernel
theorem dX5_init_11 : decode cX5_init 11 = .ok (.putfield 13, 3) := by decide +kernel
theorem dX5_init_14 : decode cX5_init 14 = .ok (.return_, 1) := by decide +kernel
theorem dX5_put_0 : decode cX5_put 0 = .ok (.lload_n 1, 1) := by decide +kernel
theorem dX5_put_1 : decode cX5_put 1 = .ok (.lstore 5, 2) := by decide +kernel
theorem dX5_put_3 : decode cX5_put 3 = .ok (.lload_n 3, 1) := by decide +kernel
theorem dX5_put_4 : decode cX5_put 4 = .ok (.lstore 7, 2) := by decide +kernel
theorem dX5_put_6 : decode cX5_put 6 = .ok (.iconst 0, 1) := by decide +kernel
theorem dX5_put_7 : decode cX5_put 7 = .ok (.istore 9, 2) := by decide +kernel
theorem dX5_put_9 : decode cX5_put 9 = .ok (.iload 9, 2) := by decide +kernel
theorem dX5_put_11 : decode cX5_put 11 = .ok (.sipush 200, 3) := by decide +kernel
theorem dX5_put_14 : decode cX5_put 14 = .ok (.if_icmp .ge 31, 3) := by decide +kernel
theorem dX5_put_17 : decode cX5_put 17 = .ok (.lload 7, 2) := by decide +kernel
theorem dX5_put_19 : decode cX5_put 19 = .ok (.lconst 0, 1) := by decide +kernel
theorem dX5_put_20 : decode cX5_put 20 = .ok (.lcmp, 1) := by decide +kernel
theorem dX5_put_21 : decode cX5_put 21 = .ok (.ifCond .eq 24, 3) := by decide +kernel
theorem dX5_put_24 : decode cX5_put 24 = .ok (.lload 5, 2) := by decide +kernel
theorem dX5_put_26 : decode cX5_put 26 = .ok (.lload 7, 2) := by decide +kernel
theorem dX5_put_28 : decode cX5_put 28 = .ok (.lrem, 1) := by decide +kernel
theorem dX5_put_29 : decode cX5_put 29 = .ok (.lstore 10, 2) := by decide +kernel
theorem dX5_put_31 : decode cX5_put 31 = .ok (.lload 7, 2) := by decide +kernel
theorem dX5_put_33 : decode cX5_put 33 = .ok (.lstore 5, 2) := by decide +kernel
theorem dX5_put_35 : decode cX5_put 35 = .ok (.lload 10, 2) := by decide +kernel
theorem dX5_put_37 : decode cX5_put 37 = .ok (.lstore 7, 2) := by decide +kernel
theorem dX5_put_39 : decode cX5_put 39 = .ok (.iinc 9 1, 3) := by decide +kernel
theorem dX5_put_42 : decode cX5_put 42 = .ok (.goto (-33), 3) := by decide +kernel
theorem dX5_put_45 : decode cX5_put 45 = .ok (.lload 5, 2) := by decide +kernel
theorem dX5_put_47 : decode cX5_put 47 = .ok (.lconst 0, 1) := by decide +kernel
theorem dX5_put_48 : decode cX5_put 48 = .ok (.lcmp, 1) := by decide +kernel
theorem dX5_put_49 : decode cX5_put 49 = .ok (.ifCond .ne 7, 3) := by decide +kernel
theorem dX5_put_52 : decode cX5_put 52 = .ok (.lconst 1, 1) := by decide +kernel
theorem dX5_put_53 : decode cX5_put 53 = .ok (.goto 5, 3) := by decide +kernel
theorem dX5_put_56 : decode cX5_put 56 = .ok (.lload 5, 2) := by decide +kernel
theorem dX5_put_58 : decode cX5_put 58 = .ok (.lstore 9, 2) := by decide +kernel
theorem dX5_put_60 : decode cX5_put 60 = .ok (.aload_n 0, 1) := by decide +kernel
theorem dX5_put_61 : decode cX5_put 61 = .ok (.lload_n 1, 1) := by decide +kernel
theorem dX5_put_62 : decode cX5_put 62 = .ok (.lload 9, 2) := by decide +kernel
theorem dX5_put_64 : decode cX5_put 64 = .ok (.ldiv, 1) := by decide +kernel
theorem dX5_put_65 : decode cX5_put 65 = .ok (.putfield 7, 3) := by decide +kernel
theorem dX5_put_68 : decode cX5_put 68 = .ok (.aload_n 0, 1) := by decide +kernel
theorem dX5_put_69 : decode cX5_put 69 = .ok (.lload_n 3, 1) := by decide +kernel
theorem dX5_put_70 : decode cX5_put 70 = .ok (.lconst 0, 1) := by decide +kernel
theorem dX5_put_71 : decode cX5_put 71 = .ok (.lcmp, 1) := by decide +kernel
theorem dX5_put_72 : decode cX5_put 72 = .ok (.ifCond .ne 7, 3) := by decide +kernel
theorem dX5_put_75 : decode cX5_put 75 = .ok (.lconst 1, 1) := by decide +kernel
theorem dX5_put_76 : decode cX5_put 76 = .ok (.goto 7, 3) := by decide +kernel
theorem dX5_put_79 : decode cX5_put 79 = .ok (.lload_n 3, 1) := by decide +kernel
theorem dX5_put_80 : decode cX5_put 80 = .ok (.lload 9, 2) := by decide +kernel
theorem dX5_put_82 : decode cX5_put 82 = .ok (.ldiv, 1) := by decide +kernel
theorem dX5_put_83 : decode cX5_put 83 = .ok (.putfield 13, 3) := by decide +kernel
theorem dX5_put_86 : decode cX5_put 86 = .ok (.return_, 1) := by decide +kernel
theorem dX5_part_0 : decode cX5_part 0 = .ok (.iload_n 1, 1) := by decide +kernel
theorem dX5_part_1 : decode cX5_part 1 = .ok (.ifCond .ne 10, 3) := by decide +kernel
theorem dX5_part_4 : decode cX5_part 4 = .ok (.aload_n 0, 1) := by decide +kernel
theorem dX5_part_5 : decode cX5_part 5 = .ok (.getfield 7, 3) := by decide +kernel
theorem dX5_part_8 : decode cX5_part 8 = .ok (.goto 7, 3) := by decide +kernel
theorem dX5_part_11 : decode cX5_part 11 = .ok (.aload_n 0, 1) := by decide +kernel
theorem dX5_part_12 : decode cX5_part 12 = .ok (.getfield 13, 3) := by decide +kernel
theorem dX5_part_15 : decode cX5_part 15 = .ok (.lreturn, 1) := by decide +kernel
theorem dX5_cutTo_0 : decode cX5_cutTo 0 = .ok (.aload_n 0, 1) := by decide +kernel
theorem dX5_cutTo_1 : decode cX5_cutTo 1 = .ok (.getfield 13, 3) := by decide +kernel
theorem dX5_cutTo_4 : decode cX5_cutTo 4 = .ok (.lconst 0, 1) := by decide +kernel
theorem dX5_cutTo_5 : decode cX5_cutTo 5 = .ok (.lcmp, 1) := by decide +kernel
theorem dX5_cutTo_6 : decode cX5_cutTo 6 = .ok (.ifCond .ne 7, 3) := by decide +kernel
theorem dX5_cutTo_9 : decode cX5_cutTo 9 = .ok (.lconst 0, 1) := by decide +kernel
theorem dX5_cutTo_10 : decode cX5_cutTo 10 = .ok (.goto 14, 3) := by decide +kernel
theorem dX5_cutTo_13 : decode cX5_cutTo 13 = .ok (.lload_n 1, 1) := by decide +kernel
theorem dX5_cutTo_14 : decode cX5_cutTo 14 = .ok (.aload_n 0, 1) := by decide +kernel
theorem dX5_cutTo_15 : decode cX5_cutTo 15 = .ok (.getfield 7, 3) := by decide +kernel
theorem dX5_cutTo_18 : decode cX5_cutTo 18 = .ok (.lmul, 1) := by decide +kernel
theorem dX5_cutTo_19 : decode cX5_cutTo 19 = .ok (.aload_n 0, 1) := by decide +kernel
theorem dX5_cutTo_20 : decode cX5_cutTo 20 = .ok (.getfield 13, 3) := by decide +kernel
theorem dX5_cutTo_23 : decode cX5_cutTo 23 = .ok (.ldiv, 1) := by decide +kernel
theorem dX5_cutTo_24 : decode cX5_cutTo 24 = .ok (.lreturn, 1) := by decide +kernel
theorem dX5_compare_0 : decode cX5_compare 0 = .ok (.lload_n 0, 1) := by decide +kernel
theorem dX5_compare_1 : decode cX5_compare 1 = .ok (.lstore 8, 2) := by decide +kernel
theorem dX5_compare_3 : decode cX5_compare 3 = .ok (.lload_n 2, 1) := by decide +kernel
theorem dX5_compare_4 : decode cX5_compare 4 = .ok (.lstore 10, 2) := by decide +kernel
theorem dX5_compare_6 : decode cX5_compare 6 = .ok (.lload 4, 2) := by decide +kernel
theorem dX5_compare_8 : decode cX5_compare 8 = .ok (.lstore 12, 2) := by decide +kernel
theorem dX5_compare_10 : decode cX5_compare 10 = .ok (.lload 6, 2) := by decide +kernel
theorem dX5_compare_12 : decode cX5_compare 12 = .ok (.lstore 14, 2) := by decide +kernel
theorem dX5_compare_14 : decode cX5_compare 14 = .ok (.iconst 0, 1) := by decide +kernel
theorem dX5_compare_15 : decode cX5_compare 15 = .ok (.istore 16, 2) := by decide +kernel
theorem dX5_compare_17 : decode cX5_compare 17 = .ok (.iload 16, 2) := by decide +kernel
theorem dX5_compare_19 : decode cX5_compare 19 = .ok (.sipush 200, 3) := by decide +kernel
theorem dX5_compare_22 : decode cX5_compare 22 = .ok (.if_icmp .ge 98, 3) := by decide +kernel
theorem dX5_compare_25 : decode cX5_compare 25 = .ok (.lload 10, 2) := by decide +kernel
theorem dX5_compare_27 : decode cX5_compare 27 = .ok (.lconst 0, 1) := by decide +kernel
theorem dX5_compare_28 : decode cX5_compare 28 = .ok (.lcmp, 1) := by decide +kernel
theorem dX5_compare_29 : decode cX5_compare 29 = .ok (.ifCond .eq 91, 3) := by decide +kernel
theorem dX5_compare_32 : decode cX5_compare 32 = .ok (.lload 14, 2) := by decide +kernel
theorem dX5_compare_34 : decode cX5_compare 34 = .ok (.lconst 0, 1) := by decide +kernel
theorem dX5_compare_35 : decode cX5_compare 35 = .ok (.lcmp, 1) := by decide +kernel
theorem dX5_compare_36 : decode cX5_compare 36 = .ok (.ifCond .eq 84, 3) := by decide +kernel
theorem dX5_compare_39 : decode cX5_compare 39 = .ok (.lload 8, 2) := by decide +kernel
theorem dX5_compare_41 : decode cX5_compare 41 = .ok (.lload 10, 2) := by decide +kernel
theorem dX5_compare_43 : decode cX5_compare 43 = .ok (.ldiv, 1) := by decide +kernel
theorem dX5_compare_44 : decode cX5_compare 44 = .ok (.lload 12, 2) := by decide +kernel
theorem dX5_compare_46 : decode cX5_compare 46 = .ok (.lload 14, 2) := by decide +kernel
theorem dX5_compare_48 : decode cX5_compare 48 = .ok (.ldiv, 1) := by decide +kernel
theorem dX5_compare_49 : decode cX5_compare 49 = .ok (.invokestatic 16, 3) := by decide +kernel
theorem dX5_compare_52 : decode cX5_compare 52 = .ok (.istore 17, 2) := by decide +kernel
theorem dX5_compare_54 : decode cX5_compare 54 = .ok (.iload 17, 2) := by decide +kernel
theorem dX5_compare_56 : decode cX5_compare 56 = .ok (.ifCond .eq 6, 3) := by decide +kernel
theorem dX5_compare_59 : decode cX5_compare 59 = .ok (.iload 17, 2) := by decide +kernel
theorem dX5_compare_61 : decode cX5_compare 61 = .ok (.ireturn, 1) := by decide +kernel
theorem dX5_compare_62 : decode cX5_compare 62 = .ok (.lload 8, 2) := by decide +kernel
theorem dX5_compare_64 : decode cX5_compare 64 = .ok (.lload 10, 2) := by decide +kernel
theorem dX5_compare_66 : decode cX5_compare 66 = .ok (.lrem, 1) := by decide +kernel
theorem dX5_compare_67 : decode cX5_compare 67 = .ok (.lstore 18, 2) := by decide +kernel
theorem dX5_compare_69 : decode cX5_compare 69 = .ok (.lload 12, 2) := by decide +kernel
theorem dX5_compare_71 : decode cX5_compare 71 = .ok (.lload 14, 2) := by decide +kernel
theorem dX5_compare_73 : decode cX5_compare 73 = .ok (.lrem, 1) := by decide +kernel
theorem dX5_compare_74 : decode cX5_compare 74 = .ok (.lstore 20, 2) := by decide +kernel
theorem dX5_compare_76 : decode cX5_compare 76 = .ok (.lload 18, 2) := by decide +kernel
theorem dX5_compare_78 : decode cX5_compare 78 = .ok (.lconst 0, 1) := by decide +kernel
theorem dX5_compare_79 : decode cX5_compare 79 = .ok (.lcmp, 1) := by decide +kernel
theorem dX5_compare_80 : decode cX5_compare 80 = .ok (.ifCond .eq 10, 3) := by decide +kernel
theorem dX5_compare_83 : decode cX5_compare 83 = .ok (.lload 20, 2) := by decide +kernel
theorem dX5_compare_85 : decode cX5_compare 85 = .ok (.lconst 0, 1) := by decide +kernel
theorem dX5_compare_86 : decode cX5_compare 86 = .ok (.lcmp, 1) := by decide +kernel
theorem dX5_compare_87 : decode cX5_compare 87 = .ok (.ifCond .ne 11, 3) := by decide +kernel
theorem dX5_compare_90 : decode cX5_compare 90 = .ok (.lload 18, 2) := by decide +kernel
theorem dX5_compare_92 : decode cX5_compare 92 = .ok (.lload 20, 2) := by decide +kernel
theorem dX5_compare_94 : decode cX5_compare 94 = .ok (.invokestatic 16, 3) := by decide +kernel
theorem dX5_compare_97 : decode cX5_compare 97 = .ok (.ireturn, 1) := by decide +kernel
theorem dX5_compare_98 : decode cX5_compare 98 = .ok (.lload 14, 2) := by decide +kernel
theorem dX5_compare_100 : decode cX5_compare 100 = .ok (.lstore 8, 2) := by decide +kernel
theorem dX5_compare_102 : decode cX5_compare 102 = .ok (.lload 18, 2) := by decide +kernel
theorem dX5_compare_104 : decode cX5_compare 104 = .ok (.lstore 14, 2) := by decide +kernel
theorem dX5_compare_106 : decode cX5_compare 106 = .ok (.lload 10, 2) := by decide +kernel
theorem dX5_compare_108 : decode cX5_compare 108 = .ok (.lstore 12, 2) := by decide +kernel
theorem dX5_compare_110 : decode cX5_compare 110 = .ok (.lload 20, 2) := by decide +kernel
theorem dX5_compare_112 : decode cX5_compare 112 = .ok (.lstore 10, 2) := by decide +kernel
theorem dX5_compare_114 : decode cX5_compare 114 = .ok (.iinc 16 1, 3) := by decide +kernel
theorem dX5_compare_117 : decode cX5_compare 117 = .ok (.goto (-100), 3) := by decide +kernel
theorem dX5_compare_120 : decode cX5_compare 120 = .ok (.iconst 0, 1) := by decide +kernel
theorem dX5_compare_121 : decode cX5_compare 121 = .ok (.ireturn, 1) := by decide +kernel
theorem dX6_init_0 : decode cX6_init 0 = .ok (.aload_n 0, 1) := by decide +kernel
theorem dX6_init_1 : decode cX6_init 1 = .ok (.invokespecial 3, 3) := by decide +kernel
theorem dX6_init_4 : decode cX6_init 4 = .ok (.aload_n 0, 1) := by decide +kernel
theorem dX6_init_5 : decode cX6_init 5 = .ok (.sipush 700, 3) := by decide +kernel
theorem dX6_init_8 : decode cX6_init 8 = .ok (.newarray .int, 2) := by decide +kernel
theorem dX6_init_10 : decode cX6_init 10 = .ok (.putfield 9, 3) := by decide +kernel
theorem dX6_init_13 : decode cX6_init 13 = .ok (.aload_n 0, 1) := by decide +kernel
theorem dX6_init_14 : decode cX6_init 14 = .ok (.iconst 0, 1) := by decide +kernel
theorem dX6_init_15 : decode cX6_init 15 = .ok (.putfield 15, 3) := by decide +kernel
theorem dX6_init_18 : decode cX6_init 18 = .ok (.aload_n 0, 1) := by decide +kernel
theorem dX6_init_19 : decode cX6_init 19 = .ok (.iconst 0, 1) := by decide +kernel
theorem dX6_init_20 : decode cX6_init 20 = .ok (.putfield 19, 3) := by decide +kernel
theorem dX6_init_23 : decode cX6_init 23 = .ok (.aload_n 0, 1) := by decide +kernel
theorem dX6_init_24 : decode cX6_init 24 = .ok (.iconst 0, 1) := by decide +kernel
theorem dX6_init_25 : decode cX6_init 25 = .ok (.putfield 22, 3) := by decide +kernel
theorem dX6_init_28 : decode cX6_init 28 = .ok (.aload_n 0, 1) := by decide +kernel
theorem dX6_init_29 : decode cX6_init 29 = .ok (.iconst 0, 1) := by decide +kernel
theorem dX6_init_30 : decode cX6_init 30 = .ok (.putfield 25, 3) := by decide +kernel
theorem dX6_init_33 : decode cX6_init 33 = .ok (.aload_n 0, 1) := by decide +kernel
theorem dX6_init_34 : decode cX6_init 34 = .ok (.iconst 0, 1) := by decide +kernel
theorem dX6_init_35 : decode cX6_init 35 = .ok (.putfield 28, 3) := by decide +kernel
theorem dX6_init_38 : decode cX6_init 38 = .ok (.aload_n 0, 1) := by decide +kernel
theorem dX6_init_39 : decode cX6_init 39 = .ok (.iconst 0, 1) := by decide +kernel
theorem dX6_init_40 : decode cX6_init 40 = .ok (.putfield 31, 3) := by decide +kernel
theorem dX6_init_43 : decode cX6_init 43 = .ok (.aload_n 0, 1) := by decide +kernel
theorem dX6_init_44 : decode cX6_init 44 = .ok (.iconst 0, 1) := by decide +kernel
theorem dX6_init_45 : decode cX6_init 45 = .ok (.putfield 34, 3) := by decide +kernel
theorem dX6_init_48 : decode cX6_init 48 = .ok (.return_, 1) := by decide +kernel
theorem dX6_put_0 : decode cX6_put 0 = .ok (.bipush 24, 2) := by decide +kernel
theorem dX6_put_2 : decode cX6_put 2 = .ok (.istore_n 2, 1) := by decide +kernel
theorem dX6_put_3 : decode cX6_put 3 = .ok (.iload_n 2, 1) := by decide +kernel
theorem dX6_put_4 : decode cX6_put 4 = .ok (.ifCond .lt 45, 3) := by decide +kernel
theorem dX6_put_7 : decode cX6_put 7 = .ok (.aload_n 0, 1) := by decide +kernel
theorem dX6_put_8 : decode cX6_put 8 = .ok (.getfield 15, 3) := by decide +kernel
theorem dX6_put_11 : decode cX6_put 11 = .ok (.sipush 700, 3) := by decide +kernel
theorem dX6_put_14 : decode cX6_put 14 = .ok (.if_icmp .ge 29, 3) := by decide +kernel
theorem dX6_put_17 : decode cX6_put 17 = .ok (.aload_n 0, 1) := by decide +kernel
theorem dX6_put_18 : decode cX6_put 18 = .ok (.getfield 9, 3) := by decide +kernel
theorem dX6_put_21 : decode cX6_put 21 = .ok (.aload_n 0, 1) := by decide +kernel
theorem dX6_put_22 : decode cX6_put 22 = .ok (.getfield 15, 3) := by decide +kernel
theorem dX6_put_25 : decode cX6_put 25 = .ok (.iload_n 1, 1) := by decide +kernel
theorem dX6_put_26 : decode cX6_put 26 = .ok (.iload_n 2, 1) := by decide +kernel
theorem dX6_put_27 : decode cX6_put 27 = .ok (.iushr, 1) := by decide +kernel
theorem dX6_put_28 : decode cX6_put 28 = .ok (.sipush 255, 3) := by decide +kernel
theorem dX6_put_31 : decode cX6_put 31 = .ok (.iand, 1) := by decide +kernel
theorem dX6_put_32 : decode cX6_put 32 = .ok (.iastore, 1) := by decide +kernel
theorem dX6_put_33 : decode cX6_put 33 = .ok (.aload_n 0, 1) := by decide +kernel
theorem dX6_put_34 : decode cX6_put 34 = .ok (.dup, 1) := by decide +kernel
theorem dX6_put_35 : decode cX6_put 35 = .ok (.getfield 15, 3) := by decide +kernel
theorem dX6_put_38 : decode cX6_put 38 = .ok (.iconst 1, 1) := by decide +kernel
theorem dX6_put_39 : decode cX6_put 39 = .ok (.iadd, 1) := by decide +kernel
theorem dX6_put_40 : decode cX6_put 40 = .ok (.putfield 15, 3) := by decide +kernel
theorem dX6_put_43 : decode cX6_put 43 = .ok (.iinc 2 (-8), 3) := by decide +kernel
theorem dX6_put_46 : decode cX6_put 46 = .ok (.goto (-43), 3) := by decide +kernel
theorem dX6_put_49 : decode cX6_put 49 = .ok (.return_, 1) := by decide +kernel
theorem dX6_read_0 : decode cX6_read 0 = .ok (.aload_n 2, 1) := by decide +kernel
theorem dX6_read_1 : decode cX6_read 1 = .ok (.invokevirtual 37, 3) := by decide +kernel
theorem dX6_read_4 : decode cX6_read 4 = .ok (.aload_n 0, 1) := by decide +kernel
theorem dX6_read_5 : decode cX6_read 5 = .ok (.iload_n 1, 1) := by decide +kernel
theorem dX6_read_6 : decode cX6_read 6 = .ok (.putfield 19, 3) := by decide +kernel
theorem dX6_read_9 : decode cX6_read 9 = .ok (.aload_n 0, 1) := by decide +kernel
theorem dX6_read_10 : decode cX6_read 10 = .ok (.iconst 0, 1) := by decide +kernel
theorem dX6_read_11 : decode cX6_read 11 = .ok (.putfield 25, 3) := by decide +kernel
theorem dX6_read_14 : decode cX6_read 14 = .ok (.aload_n 0, 1) := by decide +kernel
theorem dX6_read_15 : decode cX6_read 15 = .ok (.invokevirtual 42, 3) := by decide +kernel
theorem dX6_read_18 : decode cX6_read 18 = .ok (.iconst 0, 1) := by decide +kernel
theorem dX6_read_19 : decode cX6_read 19 = .ok (.istore_n 3, 1) := by decide +kernel
theorem dX6_read_20 : decode cX6_read 20 = .ok (.iload_n 3, 1) := by decide +kernel
theorem dX6_read_21 : decode cX6_read 21 = .ok (.bipush 40, 2) := by decide +kernel
theorem dX6_read_23 : decode cX6_read 23 = .ok (.if_icmp .ge 123, 3) := by decide +kernel
theorem dX6_read_26 : decode cX6_read 26 = .ok (.aload_n 0, 1) := by decide +kernel
theorem dX6_read_27 : decode cX6_read 27 = .ok (.getfield 28, 3) := by decide +kernel
theorem dX6_read_30 : decode cX6_read 30 = .ok (.ifCond .eq 116, 3) := by decide +kernel
theorem dX6_read_33 : decode cX6_read 33 = .ok (.aload_n 0, 1) := by decide +kernel
theorem dX6_read_34 : decode cX6_read 34 = .ok (.invokevirtual 45, 3) := by decide +kernel
theorem dX6_read_37 : decode cX6_read 37 = .ok (.istore 4, 2) := by decide +kernel
theorem dX6_read_39 : decode cX6_read 39 = .ok (.iload 4, 2) := by decide +kernel
theorem dX6_read_41 : decode cX6_read 41 = .ok (.iconst (-1), 1) := by decide +kernel
theorem dX6_read_42 : decode cX6_read 42 = .ok (.if_icmp .ne 8, 3) := by decide +kernel
theorem dX6_read_45 : decode cX6_read 45 = .ok (.aload_n 0, 1) := by decide +kernel
theorem dX6_read_46 : decode cX6_read 46 = .ok (.getfield 22, 3) := by decide +kernel
theorem dX6_read_49 : decode cX6_read 49 = .ok (.ireturn, 1) := by decide +kernel
theorem dX6_read_50 : decode cX6_read 50 = .ok (.aload_n 0, 1) := by decide +kernel
theorem dX6_read_51 : decode cX6_read 51 = .ok (.invokevirtual 42, 3) := by decide +kernel
theorem dX6_read_54 : decode cX6_read 54 = .ok (.iload 4, 2) := by decide +kernel
theorem dX6_read_56 : decode cX6_read 56 = .ok (.ifCond .ne 13, 3) := by decide +kernel
theorem dX6_read_59 : decode cX6_read 59 = .ok (.aload_n 0, 1) := by decide +kernel
theorem dX6_read_60 : decode cX6_read 60 = .ok (.aload_n 2, 1) := by decide +kernel
theorem dX6_read_61 : decode cX6_read 61 = .ok (.invokevirtual 49, 3) := by decide +kernel
theorem dX6_read_64 : decode cX6_read 64 = .ok (.istore 5, 2) := by decide +kernel
theorem dX6_read_66 : decode cX6_read 66 = .ok (.goto 45, 3) := by decide +kernel
theorem dX6_read_69 : decode cX6_read 69 = .ok (.iload 4, 2) := by decide +kernel
theorem dX6_read_71 : decode cX6_read 71 = .ok (.iconst 5, 1) := by decide +kernel
theorem dX6_read_72 : decode cX6_read 72 = .ok (.if_icmp .ne 13, 3) := by decide +kernel
theorem dX6_read_75 : decode cX6_read 75 = .ok (.aload_n 0, 1) := by decide +kernel
theorem dX6_read_76 : decode cX6_read 76 = .ok (.aload_n 2, 1) := by decide +kernel
theorem dX6_read_77 : decode cX6_read 77 = .ok (.invokevirtual 53, 3) := by decide +kernel
theorem dX6_read_80 : decode cX6_read 80 = .ok (.istore 5, 2) := by decide +kernel
theorem dX6_read_82 : decode cX6_read 82 = .ok (.goto 29, 3) := by decide +kernel
theorem dX6_read_85 : decode cX6_read 85 = .ok (.iload 4, 2) := by decide +kernel
theorem dX6_read_87 : decode cX6_read 87 = .ok (.bipush 6, 2) := by decide +kernel
theorem dX6_read_89 : decode cX6_read 89 = .ok (.if_icmp .ne 13, 3) := by decide +kernel
theorem dX6_read_92 : decode cX6_read 92 = .ok (.aload_n 0, 1) := by decide +kernel
theorem dX6_read_93 : decode cX6_read 93 = .ok (.aload_n 2, 1) := by decide +kernel
theorem dX6_read_94 : decode cX6_read 94 = .ok (.invokevirtual 56, 3) := by decide +kernel
theorem dX6_read_97 : decode cX6_read 97 = .ok (.istore 5, 2) := by decide +kernel
theorem dX6_read_99 : decode cX6_read 99 = .ok (.goto 12, 3) := by decide +kernel
theorem dX6_read_102 : decode cX6_read 102 = .ok (.aload_n 0, 1) := by decide +kernel
theorem dX6_read_103 : decode cX6_read 103 = .ok (.iload 4, 2) := by decide +kernel
theorem dX6_read_105 : decode cX6_read 105 = .ok (.aload_n 2, 1) := by decide +kernel
theorem dX6_read_106 : decode cX6_read 106 = .ok (.invokevirtual 59, 3) := by decide +kernel
theorem dX6_read_109 : decode cX6_read 109 = .ok (.istore 5, 2) := by decide +kernel
theorem dX6_read_111 : decode cX6_read 111 = .ok (.iload 5, 2) := by decide +kernel
theorem dX6_read_113 : decode cX6_read 113 = .ok (.ifCond .eq 12, 3) := by decide +kernel
theorem dX6_read_116 : decode cX6_read 116 = .ok (.aload_n 0, 1) := by decide +kernel
theorem dX6_read_117 : decode cX6_read 117 = .ok (.bipush 59, 2) := by decide +kernel
theorem dX6_read_119 : decode cX6_read 119 = .ok (.invokevirtual 63, 3) := by decide +kernel
theorem dX6_read_122 : decode cX6_read 122 = .ok (.ifCond .ne 8, 3) := by decide +kernel
theorem dX6_read_125 : decode cX6_read 125 = .ok (.aload_n 0, 1) := by decide +kernel
theorem dX6_read_126 : decode cX6_read 126 = .ok (.getfield 22, 3) := by decide +kernel
theorem dX6_read_129 : decode cX6_read 129 = .ok (.ireturn, 1) := by decide +kernel
theorem dX6_read_130 : decode cX6_read 130 = .ok (.aload_n 2, 1) := by decide +kernel
theorem dX6_read_131 : decode cX6_read 131 = .ok (.dup, 1) := by decide +kernel
theorem dX6_read_132 : decode cX6_read 132 = .ok (.getfield 67, 3) := by decide +kernel
theorem dX6_read_135 : decode cX6_read 135 = .ok (.iconst 1, 1) := by decide +kernel
theorem dX6_read_136 : decode cX6_read 136 = .ok (.iadd, 1) := by decide +kernel
theorem dX6_read_137 : decode cX6_read 137 = .ok (.putfield 67, 3) := by decide +kernel
theorem dX6_read_140 : decode cX6_read 140 = .ok (.iinc 3 1, 3) := by decide +kernel
theorem dX6_read_143 : decode cX6_read 143 = .ok (.goto (-123), 3) := by decide +kernel
theorem dX6_read_146 : decode cX6_read 146 = .ok (.aload_n 0, 1) := by decide +kernel
theorem dX6_read_147 : decode cX6_read 147 = .ok (.getfield 28, 3) := by decide +kernel
theorem dX6_read_150 : decode cX6_read 150 = .ok (.ifCond .eq 8, 3) := by decide +kernel
theorem dX6_read_153 : decode cX6_read 153 = .ok (.aload_n 0, 1) := by decide +kernel
theorem dX6_read_154 : decode cX6_read 154 = .ok (.getfield 22, 3) := by decide +kernel
theorem dX6_read_157 : decode cX6_read 157 = .ok (.ireturn, 1) := by decide +kernel
theorem dX6_read_158 : decode cX6_read 158 = .ok (.aload_n 2, 1) := by decide +kernel
theorem dX6_read_159 : decode cX6_read 159 = .ok (.invokevirtual 70, 3) := by decide +kernel
theorem dX6_read_162 : decode cX6_read 162 = .ok (.iconst (-1), 1) := by decide +kernel
theorem dX6_read_163 : decode cX6_read 163 = .ok (.ireturn, 1) := by decide +kernel
theorem dX6_readSea_0 : decode cX6_readSea 0 = .ok (.aload_n 0, 1) := by decide +kernel
theorem dX6_readSea_1 : decode cX6_readSea 1 = .ok (.iconst 0, 1) := by decide +kernel
theorem dX6_readSea_2 : decode cX6_readSea 2 = .ok (.bipush 99, 2) := by decide +kernel
theorem dX6_readSea_4 : decode cX6_readSea 4 = .ok (.invokevirtual 73, 3) := by decide +kernel
theorem dX6_readSea_7 : decode cX6_readSea 7 = .ok (.ifCond .ne 5, 3) := by decide +kernel
theorem dX6_readSea_10 : decode cX6_readSea 10 = .ok (.iconst 0, 1) := by decide +kernel
theorem dX6_readSea_11 : decode cX6_readSea 11 = .ok (.ireturn, 1) := by decide +kernel
theorem dX6_readSea_12 : decode cX6_readSea 12 = .ok (.aload_n 0, 1) := by decide +kernel
theorem dX6_readSea_13 : decode cX6_readSea 13 = .ok (.getfield 34, 3) := by decide +kernel
theorem dX6_readSea_16 : decode cX6_readSea 16 = .ok (.istore_n 2, 1) := by decide +kernel
theorem dX6_readSea_17 : decode cX6_readSea 17 = .ok (.aload_n 0, 1) := by decide +kernel
theorem dX6_readSea_18 : decode cX6_readSea 18 = .ok (.iconst 0, 1) := by decide +kernel
theorem dX6_readSea_19 : decode cX6_readSea 19 = .ok (.bipush 99, 2) := by decide +kernel
theorem dX6_readSea_21 : decode cX6_readSea 21 = .ok (.invokevirtual 73, 3) := by decide +kernel
theorem dX6_readSea_24 : decode cX6_readSea 24 = .ok (.ifCond .ne 5, 3) := by decide +kernel
theorem dX6_readSea_27 : decode cX6_readSea 27 = .ok (.iconst 0, 1) := by decide +kernel
theorem dX6_readSea_28 : decode cX6_readSea 28 = .ok (.ireturn, 1) := by decide +kernel
theorem dX6_readSea_29 : decode cX6_readSea 29 = .ok (.aload_n 0, 1) := by decide +kernel
theorem dX6_readSea_30 : decode cX6_readSea 30 = .ok (.getfield 34, 3) := by decide +kernel
theorem dX6_readSea_33 : decode cX6_readSea 33 = .ok (.istore_n 3, 1) := by decide +kernel
theorem dX6_readSea_34 : decode cX6_readSea 34 = .ok (.aload_n 0, 1) := by decide +kernel
theorem dX6_readSea_35 : decode cX6_readSea 35 = .ok (.ldc 77, 2) := by decide +kernel
theorem dX6_readSea_37 : decode cX6_readSea 37 = .ok (.invokevirtual 79, 3) := by decide +kernel
theorem dX6_readSea_40 : decode cX6_readSea 40 = .ok (.ifCond .eq 19, 3) := by decide +kernel
theorem dX6_readSea_43 : decode cX6_readSea 43 = .ok (.aload_n 0, 1) := by decide +kernel
theorem dX6_readSea_44 : decode cX6_readSea 44 = .ok (.invokevirtual 42, 3) := by decide +kernel
theorem dX6_readSea_47 : decode cX6_readSea 47 = .ok (.aload_n 0, 1) := by decide +kernel
theorem dX6_readSea_48 : decode cX6_readSea 48 = .ok (.iload_n 3, 1) := by decide +kernel
theorem dX6_readSea_49 : decode cX6_readSea 49 = .ok (.bipush 99, 2) := by decide +kernel
theorem dX6_readSea_51 : decode cX6_readSea 51 = .ok (.invokevirtual 73, 3) := by decide +kernel
theorem dX6_readSea_54 : decode cX6_readSea 54 = .ok (.ifCond .ne 5, 3) := by decide +kernel
theorem dX6_readSea_57 : decode cX6_readSea 57 = .ok (.iconst 0, 1) := by decide +kernel
theorem dX6_readSea_58 : decode cX6_readSea 58 = .ok (.ireturn, 1) := by decide +kernel
theorem dX6_readSea_59 : decode cX6_readSea 59 = .ok (.aload_n 1, 1) := by decide +kernel
theorem dX6_readSea_60 : decode cX6_readSea 60 = .ok (.iload_n 2, 1) := by decide +kernel
theorem dX6_readSea_61 : decode cX6_readSea 61 = .ok (.iload_n 3, 1) := by decide +kernel
theorem dX6_readSea_62 : decode cX6_readSea 62 = .ok (.aload_n 0, 1) := by decide +kernel
theorem dX6_readSea_63 : decode cX6_readSea 63 = .ok (.getfield 34, 3) := by decide +kernel
theorem dX6_readSea_66 : decode cX6_readSea 66 = .ok (.invokevirtual 83, 3) := by decide +kernel
theorem dX6_readSea_69 : decode cX6_readSea 69 = .ok (.iconst 1, 1) := by decide +kernel
theorem dX6_readSea_70 : decode cX6_readSea 70 = .ok (.ireturn, 1) := by decide +kernel
theorem dX6_readCarry_0 : decode cX6_readCarry 0 = .ok (.aload_n 0, 1) := by decide +kernel
theorem dX6_readCarry_1 : decode cX6_readCarry 1 = .ok (.invokevirtual 87, 3) := by decide +kernel
theorem dX6_readCarry_4 : decode cX6_readCarry 4 = .ok (.istore_n 2, 1) := by decide +kernel
theorem dX6_readCarry_5 : decode cX6_readCarry 5 = .ok (.iload_n 2, 1) := by decide +kernel
theorem dX6_readCarry_6 : decode cX6_readCarry 6 = .ok (.iconst (-1), 1) := by decide +kernel
theorem dX6_readCarry_7 : decode cX6_readCarry 7 = .ok (.if_icmp .ne 5, 3) := by decide +kernel
theorem dX6_readCarry_10 : decode cX6_readCarry 10 = .ok (.iconst 0, 1) := by decide +kernel
theorem dX6_readCarry_11 : decode cX6_readCarry 11 = .ok (.ireturn, 1) := by decide +kernel
theorem dX6_readCarry_12 : decode cX6_readCarry 12 = .ok (.aload_n 0, 1) := by decide +kernel
theorem dX6_readCarry_13 : decode cX6_readCarry 13 = .ok (.invokevirtual 42, 3) := by decide +kernel
theorem dX6_readCarry_16 : decode cX6_readCarry 16 = .ok (.aload_n 0, 1) := by decide +kernel
theorem dX6_readCarry_17 : decode cX6_readCarry 17 = .ok (.iconst 0, 1) := by decide +kernel
theorem dX6_readCarry_18 : decode cX6_readCarry 18 = .ok (.bipush 100, 2) := by decide +kernel
theorem dX6_readCarry_20 : decode cX6_readCarry 20 = .ok (.invokevirtual 73, 3) := by decide +kernel
theorem dX6_readCarry_23 : decode cX6_readCarry 23 = .ok (.ifCond .ne 5, 3) := by decide +kernel
theorem dX6_readCarry_26 : decode cX6_readCarry 26 = .ok (.iconst 0, 1) := by decide +kernel
theorem dX6_readCarry_27 : decode cX6_readCarry 27 = .ok (.ireturn, 1) := by decide +kernel
theorem dX6_readCarry_28 : decode cX6_readCarry 28 = .ok (.aload_n 1, 1) := by decide +kernel
theorem dX6_readCarry_29 : decode cX6_readCarry 29 = .ok (.getfield 90, 3) := by decide +kernel
theorem dX6_readCarry_32 : decode cX6_readCarry 32 = .ok (.iload_n 2, 1) := by decide +kernel
theorem dX6_readCarry_33 : decode cX6_readCarry 33 = .ok (.aload_n 0, 1) := by decide +kernel
theorem dX6_readCarry_34 : decode cX6_readCarry 34 = .ok (.getfield 34, 3) := by decide +kernel
theorem dX6_readCarry_37 : decode cX6_readCarry 37 = .ok (.iastore, 1) := by decide +kernel
theorem dX6_readCarry_38 : decode cX6_readCarry 38 = .ok (.iconst 1, 1) := by decide +kernel
theorem dX6_readCarry_39 : decode cX6_readCarry 39 = .ok (.ireturn, 1) := by decide +kernel
theorem dX6_readCatch_0 : decode cX6_readCatch 0 = .ok (.aload_n 0, 1) := by decide +kernel
theorem dX6_readCatch_1 : decode cX6_readCatch 1 = .ok (.iconst 0, 1) := by decide +kernel
theorem dX6_readCatch_2 : decode cX6_readCatch 2 = .ok (.bipush 10, 2) := by decide +kernel
theorem dX6_readCatch_4 : decode cX6_readCatch 4 = .ok (.invokevirtual 73, 3) := by decide +kernel
theorem dX6_readCatch_7 : decode cX6_readCatch 7 = .ok (.ifCond .ne 5, 3) := by decide +kernel
theorem dX6_readCatch_10 : decode cX6_readCatch 10 = .ok (.iconst 0, 1) := by decide +kernel
theorem dX6_readCatch_11 : decode cX6_readCatch 11 = .ok (.ireturn, 1) := by decide +kernel
theorem dX6_readCatch_12 : decode cX6_readCatch 12 = .ok (.aload_n 1, 1) := by decide +kernel
theorem dX6_readCatch_13 : decode cX6_readCatch 13 = .ok (.aload_n 0, 1) := by decide +kernel
theorem dX6_readCatch_14 : decode cX6_readCatch 14 = .ok (.getfield 34, 3) := by decide +kernel
theorem dX6_readCatch_17 : decode cX6_readCatch 17 = .ok (.putfield 93, 3) := by decide +kernel
theorem dX6_readCatch_20 : decode cX6_readCatch 20 = .ok (.iconst 1, 1) := by decide +kernel
theorem dX6_readCatch_21 : decode cX6_readCatch 21 = .ok (.ireturn, 1) := by decide +kernel
theorem dX6_readAsking_0 : decode cX6_readAsking 0 = .ok (.aload_n 0, 1) := by decide +kernel
theorem dX6_readAsking_1 : decode cX6_readAsking 1 = .ok (.iconst 0, 1) := by decide +kernel
theorem dX6_readAsking_2 : decode cX6_readAsking 2 = .ok (.iload_n 1, 1) := by decide +kernel
theorem dX6_readAsking_3 : decode cX6_readAsking 3 = .ok (.iconst 4, 1) := by decide +kernel
theorem dX6_readAsking_4 : decode cX6_readAsking 4 = .ok (.if_icmp .ne 8, 3) := by decide +kernel
theorem dX6_readAsking_7 : decode cX6_readAsking 7 = .ok (.bipush 100, 2) := by decide +kernel
theorem dX6_readAsking_9 : decode cX6_readAsking 9 = .ok (.goto 5, 3) := by decide +kernel
theorem dX6_readAsking_12 : decode cX6_readAsking 12 = .ok (.bipush 99, 2) := by decide +kernel
theorem dX6_readAsking_14 : decode cX6_readAsking 14 = .ok (.invokevirtual 73, 3) := by decide +kernel
theorem dX6_readAsking_17 : decode cX6_readAsking 17 = .ok (.ifCond .ne 5, 3) := by decide +kernel
theorem dX6_readAsking_20 : decode cX6_readAsking 20 = .ok (.iconst 0, 1) := by decide +kernel
theorem dX6_readAsking_21 : decode cX6_readAsking 21 = .ok (.ireturn, 1) := by decide +kernel
theorem dX6_readAsking_22 : decode cX6_readAsking 22 = .ok (.aload_n 0, 1) := by decide +kernel
theorem dX6_readAsking_23 : decode cX6_readAsking 23 = .ok (.getfield 34, 3) := by decide +kernel
theorem dX6_readAsking_26 : decode cX6_readAsking 26 = .ok (.istore_n 3, 1) := by decide +kernel
theorem dX6_readAsking_27 : decode cX6_readAsking 27 = .ok (.aload_n 2, 1) := by decide +kernel
theorem dX6_readAsking_28 : decode cX6_readAsking 28 = .ok (.getfield 96, 3) := by decide +kernel
theorem dX6_readAsking_31 : decode cX6_readAsking 31 = .ok (.istore 4, 2) := by decide +kernel
theorem dX6_readAsking_33 : decode cX6_readAsking 33 = .ok (.aload_n 0, 1) := by decide +kernel
theorem dX6_readAsking_34 : decode cX6_readAsking 34 = .ok (.ldc 99, 2) := by decide +kernel
theorem dX6_readAsking_36 : decode cX6_readAsking 36 = .ok (.invokevirtual 79, 3) := by decide +kernel
theorem dX6_readAsking_39 : decode cX6_readAsking 39 = .ok (.ifCond .eq 18, 3) := by decide +kernel
theorem dX6_readAsking_42 : decode cX6_readAsking 42 = .ok (.aload_n 0, 1) := by decide +kernel
theorem dX6_readAsking_43 : decode cX6_readAsking 43 = .ok (.invokevirtual 42, 3) := by decide +kernel
theorem dX6_readAsking_46 : decode cX6_readAsking 46 = .ok (.aload_n 0, 1) := by decide +kernel
theorem dX6_readAsking_47 : decode cX6_readAsking 47 = .ok (.iconst 0, 1) := by decide +kernel
theorem dX6_readAsking_48 : decode cX6_readAsking 48 = .ok (.aload_n 2, 1) := by decide +kernel
theorem dX6_readAsking_49 : decode cX6_readAsking 49 = .ok (.invokevirtual 101, 3) := by decide +kernel
theorem dX6_readAsking_52 : decode cX6_readAsking 52 = .ok (.ifCond .ne 5, 3) := by decide +kernel
theorem dX6_readAsking_55 : decode cX6_readAsking 55 = .ok (.iconst 0, 1) := by decide +kernel
theorem dX6_readAsking_56 : decode cX6_readAsking 56 = .ok (.ireturn, 1) := by decide +kernel
theorem dX6_readAsking_57 : decode cX6_readAsking 57 = .ok (.aload_n 2, 1) := by decide +kernel
theorem dX6_readAsking_58 : decode cX6_readAsking 58 = .ok (.iload_n 1, 1) := by decide +kernel
theorem dX6_readAsking_59 : decode cX6_readAsking 59 = .ok (.iload_n 3, 1) := by decide +kernel
theorem dX6_readAsking_60 : decode cX6_readAsking 60 = .ok (.iload 4, 2) := by decide +kernel
theorem dX6_readAsking_62 : decode cX6_readAsking 62 = .ok (.invokevirtual 104, 3) := by decide +kernel
theorem dX6_readAsking_65 : decode cX6_readAsking 65 = .ok (.iconst 1, 1) := by decide +kernel
theorem dX6_readAsking_66 : decode cX6_readAsking 66 = .ok (.ireturn, 1) := by decide +kernel
theorem dX6_readAny_0 : decode cX6_readAny 0 = .ok (.aload_n 0, 1) := by decide +kernel
theorem dX6_readAny_1 : decode cX6_readAny 1 = .ok (.iload_n 1, 1) := by decide +kernel
theorem dX6_readAny_2 : decode cX6_readAny 2 = .ok (.aload_n 2, 1) := by decide +kernel
theorem dX6_readAny_3 : decode cX6_readAny 3 = .ok (.invokevirtual 107, 3) := by decide +kernel
theorem dX6_readAny_6 : decode cX6_readAny 6 = .ok (.ifCond .ne 5, 3) := by decide +kernel
theorem dX6_readAny_9 : decode cX6_readAny 9 = .ok (.iconst 0, 1) := by decide +kernel
theorem dX6_readAny_10 : decode cX6_readAny 10 = .ok (.ireturn, 1) := by decide +kernel
theorem dX6_readAny_11 : decode cX6_readAny 11 = .ok (.iconst 0, 1) := by decide +kernel
theorem dX6_readAny_12 : decode cX6_readAny 12 = .ok (.istore_n 3, 1) := by decide +kernel
theorem dX6_readAny_13 : decode cX6_readAny 13 = .ok (.iload_n 3, 1) := by decide +kernel
theorem dX6_readAny_14 : decode cX6_readAny 14 = .ok (.sipush 700, 3) := by decide +kernel
theorem dX6_readAny_17 : decode cX6_readAny 17 = .ok (.if_icmp .ge 38, 3) := by decide +kernel
theorem dX6_readAny_20 : decode cX6_readAny 20 = .ok (.aload_n 0, 1) := by decide +kernel
theorem dX6_readAny_21 : decode cX6_readAny 21 = .ok (.ldc 110, 2) := by decide +kernel
theorem dX6_readAny_23 : decode cX6_readAny 23 = .ok (.invokevirtual 79, 3) := by decide +kernel
theorem dX6_readAny_26 : decode cX6_readAny 26 = .ok (.ifCond .eq 29, 3) := by decide +kernel
theorem dX6_readAny_29 : decode cX6_readAny 29 = .ok (.aload_n 0, 1) := by decide +kernel
theorem dX6_readAny_30 : decode cX6_readAny 30 = .ok (.invokevirtual 42, 3) := by decide +kernel
theorem dX6_readAny_33 : decode cX6_readAny 33 = .ok (.aload_n 0, 1) := by decide +kernel
theorem dX6_readAny_34 : decode cX6_readAny 34 = .ok (.iload_n 1, 1) := by decide +kernel
theorem dX6_readAny_35 : decode cX6_readAny 35 = .ok (.aload_n 2, 1) := by decide +kernel
theorem dX6_readAny_36 : decode cX6_readAny 36 = .ok (.invokevirtual 107, 3) := by decide +kernel
theorem dX6_readAny_39 : decode cX6_readAny 39 = .ok (.ifCond .ne 5, 3) := by decide +kernel
theorem dX6_readAny_42 : decode cX6_readAny 42 = .ok (.iconst 0, 1) := by decide +kernel
theorem dX6_readAny_43 : decode cX6_readAny 43 = .ok (.ireturn, 1) := by decide +kernel
theorem dX6_readAny_44 : decode cX6_readAny 44 = .ok (.aload_n 2, 1) := by decide +kernel
theorem dX6_readAny_45 : decode cX6_readAny 45 = .ok (.iconst 5, 1) := by decide +kernel
theorem dX6_readAny_46 : decode cX6_readAny 46 = .ok (.invokevirtual 112, 3) := by decide +kernel
theorem dX6_readAny_49 : decode cX6_readAny 49 = .ok (.iinc 3 1, 3) := by decide +kernel
theorem dX6_readAny_52 : decode cX6_readAny 52 = .ok (.goto (-39), 3) := by decide +kernel
theorem dX6_readAny_55 : decode cX6_readAny 55 = .ok (.iconst 1, 1) := by decide +kernel
theorem dX6_readAny_56 : decode cX6_readAny 56 = .ok (.ireturn, 1) := by decide +kernel
theorem dX6_readAll_0 : decode cX6_readAll 0 = .ok (.aload_n 0, 1) := by decide +kernel
theorem dX6_readAll_1 : decode cX6_readAll 1 = .ok (.iload_n 1, 1) := by decide +kernel
theorem dX6_readAll_2 : decode cX6_readAll 2 = .ok (.aload_n 2, 1) := by decide +kernel
theorem dX6_readAll_3 : decode cX6_readAll 3 = .ok (.invokevirtual 116, 3) := by decide +kernel
theorem dX6_readAll_6 : decode cX6_readAll 6 = .ok (.ifCond .ne 5, 3) := by decide +kernel
theorem dX6_readAll_9 : decode cX6_readAll 9 = .ok (.iconst 0, 1) := by decide +kernel
theorem dX6_readAll_10 : decode cX6_readAll 10 = .ok (.ireturn, 1) := by decide +kernel
theorem dX6_readAll_11 : decode cX6_readAll 11 = .ok (.iconst 0, 1) := by decide +kernel
theorem dX6_readAll_12 : decode cX6_readAll 12 = .ok (.istore_n 3, 1) := by decide +kernel
theorem dX6_readAll_13 : decode cX6_readAll 13 = .ok (.iload_n 3, 1) := by decide +kernel
theorem dX6_readAll_14 : decode cX6_readAll 14 = .ok (.sipush 700, 3) := by decide +kernel
theorem dX6_readAll_17 : decode cX6_readAll 17 = .ok (.if_icmp .ge 38, 3) := by decide +kernel
theorem dX6_readAll_20 : decode cX6_readAll 20 = .ok (.aload_n 0, 1) := by decide +kernel
theorem dX6_readAll_21 : decode cX6_readAll 21 = .ok (.ldc 119, 2) := by decide +kernel
theorem dX6_readAll_23 : decode cX6_readAll 23 = .ok (.invokevirtual 79, 3) := by decide +kernel
theorem dX6_readAll_26 : decode cX6_readAll 26 = .ok (.ifCond .eq 29, 3) := by decide +kernel
theorem dX6_readAll_29 : decode cX6_readAll 29 = .ok (.aload_n 0, 1) := by decide +kernel
theorem dX6_readAll_30 : decode cX6_readAll 30 = .ok (.invokevirtual 42, 3) := by decide +kernel
theorem dX6_readAll_33 : decode cX6_readAll 33 = .ok (.aload_n 0, 1) := by decide +kernel
theorem dX6_readAll_34 : decode cX6_readAll 34 = .ok (.iload_n 1, 1) := by decide +kernel
theorem dX6_readAll_35 : decode cX6_readAll 35 = .ok (.aload_n 2, 1) := by decide +kernel
theorem dX6_readAll_36 : decode cX6_readAll 36 = .ok (.invokevirtual 116, 3) := by decide +kernel
theorem dX6_readAll_39 : decode cX6_readAll 39 = .ok (.ifCond .ne 5, 3) := by decide +kernel
theorem dX6_readAll_42 : decode cX6_readAll 42 = .ok (.iconst 0, 1) := by decide +kernel
theorem dX6_readAll_43 : decode cX6_readAll 43 = .ok (.ireturn, 1) := by decide +kernel
theorem dX6_readAll_44 : decode cX6_readAll 44 = .ok (.aload_n 2, 1) := by decide +kernel
theorem dX6_readAll_45 : decode cX6_readAll 45 = .ok (.iconst 4, 1) := by decide +kernel
theorem dX6_readAll_46 : decode cX6_readAll 46 = .ok (.invokevirtual 112, 3) := by decide +kernel
theorem dX6_readAll_49 : decode cX6_readAll 49 = .ok (.iinc 3 1, 3) := by decide +kernel
theorem dX6_readAll_52 : decode cX6_readAll 52 = .ok (.goto (-39), 3) := by decide +kernel
theorem dX6_readAll_55 : decode cX6_readAll 55 = .ok (.iconst 1, 1) := by decide +kernel
theorem dX6_readAll_56 : decode cX6_readAll 56 = .ok (.ireturn, 1) := by decide +kernel
theorem dX6_readOne_0 : decode cX6_readOne 0 = .ok (.aload_n 0, 1) := by decide +kernel
theorem dX6_readOne_1 : decode cX6_readOne 1 = .ok (.ldc 121, 2) := by decide +kernel
theorem dX6_readOne_3 : decode cX6_readOne 3 = .ok (.invokevirtual 79, 3) := by decide +kernel
theorem dX6_readOne_6 : decode cX6_readOne 6 = .ok (.istore_n 3, 1) := by decide +kernel
theorem dX6_readOne_7 : decode cX6_readOne 7 = .ok (.iload_n 3, 1) := by decide +kernel
theorem dX6_readOne_8 : decode cX6_readOne 8 = .ok (.ifCond .ne 12, 3) := by decide +kernel
theorem dX6_readOne_11 : decode cX6_readOne 11 = .ok (.aload_n 0, 1) := by decide +kernel
theorem dX6_readOne_12 : decode cX6_readOne 12 = .ok (.bipush 40, 2) := by decide +kernel
theorem dX6_readOne_14 : decode cX6_readOne 14 = .ok (.invokevirtual 123, 3) := by decide +kernel
theorem dX6_readOne_17 : decode cX6_readOne 17 = .ok (.ifCond .eq 63, 3) := by decide +kernel
theorem dX6_readOne_20 : decode cX6_readOne 20 = .ok (.iload_n 1, 1) := by decide +kernel
theorem dX6_readOne_21 : decode cX6_readOne 21 = .ok (.bipush 9, 2) := by decide +kernel
theorem dX6_readOne_23 : decode cX6_readOne 23 = .ok (.if_icmp .lt 5, 3) := by decide +kernel
theorem dX6_readOne_26 : decode cX6_readOne 26 = .ok (.iconst 0, 1) := by decide +kernel
theorem dX6_readOne_27 : decode cX6_readOne 27 = .ok (.ireturn, 1) := by decide +kernel
theorem dX6_readOne_28 : decode cX6_readOne 28 = .ok (.aload_n 0, 1) := by decide +kernel
theorem dX6_readOne_29 : decode cX6_readOne 29 = .ok (.invokevirtual 42, 3) := by decide +kernel
theorem dX6_readOne_32 : decode cX6_readOne 32 = .ok (.iload_n 3, 1) := by decide +kernel
theorem dX6_readOne_33 : decode cX6_readOne 33 = .ok (.ifCond .ne 29, 3) := by decide +kernel
theorem dX6_readOne_36 : decode cX6_readOne 36 = .ok (.aload_n 0, 1) := by decide +kernel
theorem dX6_readOne_37 : decode cX6_readOne 37 = .ok (.iload_n 1, 1) := by decide +kernel
theorem dX6_readOne_38 : decode cX6_readOne 38 = .ok (.iconst 1, 1) := by decide +kernel
theorem dX6_readOne_39 : decode cX6_readOne 39 = .ok (.iadd, 1) := by decide +kernel
theorem dX6_readOne_40 : decode cX6_readOne 40 = .ok (.aload_n 2, 1) := by decide +kernel
theorem dX6_readOne_41 : decode cX6_readOne 41 = .ok (.invokevirtual 101, 3) := by decide +kernel
theorem dX6_readOne_44 : decode cX6_readOne 44 = .ok (.ifCond .eq 16, 3) := by decide +kernel
theorem dX6_readOne_47 : decode cX6_readOne 47 = .ok (.aload_n 0, 1) := by decide +kernel
theorem dX6_readOne_48 : decode cX6_readOne 48 = .ok (.bipush 41, 2) := by decide +kernel
theorem dX6_readOne_50 : decode cX6_readOne 50 = .ok (.invokevirtual 63, 3) := by decide +kernel
theorem dX6_readOne_53 : decode cX6_readOne 53 = .ok (.ifCond .eq 7, 3) := by decide +kernel
theorem dX6_readOne_56 : decode cX6_readOne 56 = .ok (.iconst 1, 1) := by decide +kernel
theorem dX6_readOne_57 : decode cX6_readOne 57 = .ok (.goto 4, 3) := by decide +kernel
theorem dX6_readOne_60 : decode cX6_readOne 60 = .ok (.iconst 0, 1) := by decide +kernel
theorem dX6_readOne_61 : decode cX6_readOne 61 = .ok (.ireturn, 1) := by decide +kernel
theorem dX6_readOne_62 : decode cX6_readOne 62 = .ok (.aload_n 0, 1) := by decide +kernel
theorem dX6_readOne_63 : decode cX6_readOne 63 = .ok (.iload_n 1, 1) := by decide +kernel
theorem dX6_readOne_64 : decode cX6_readOne 64 = .ok (.iconst 1, 1) := by decide +kernel
theorem dX6_readOne_65 : decode cX6_readOne 65 = .ok (.iadd, 1) := by decide +kernel
theorem dX6_readOne_66 : decode cX6_readOne 66 = .ok (.aload_n 2, 1) := by decide +kernel
theorem dX6_readOne_67 : decode cX6_readOne 67 = .ok (.invokevirtual 116, 3) := by decide +kernel
theorem dX6_readOne_70 : decode cX6_readOne 70 = .ok (.istore 4, 2) := by decide +kernel
theorem dX6_readOne_72 : decode cX6_readOne 72 = .ok (.aload_n 2, 1) := by decide +kernel
theorem dX6_readOne_73 : decode cX6_readOne 73 = .ok (.iconst 3, 1) := by decide +kernel
theorem dX6_readOne_74 : decode cX6_readOne 74 = .ok (.invokevirtual 112, 3) := by decide +kernel
theorem dX6_readOne_77 : decode cX6_readOne 77 = .ok (.iload 4, 2) := by decide +kernel
theorem dX6_readOne_79 : decode cX6_readOne 79 = .ok (.ireturn, 1) := by decide +kernel
theorem dX6_readOne_80 : decode cX6_readOne 80 = .ok (.aload_n 0, 1) := by decide +kernel
theorem dX6_readOne_81 : decode cX6_readOne 81 = .ok (.invokevirtual 126, 3) := by decide +kernel
theorem dX6_readOne_84 : decode cX6_readOne 84 = .ok (.istore 4, 2) := by decide +kernel
theorem dX6_readOne_86 : decode cX6_readOne 86 = .ok (.iload 4, 2) := by decide +kernel
theorem dX6_readOne_88 : decode cX6_readOne 88 = .ok (.iconst (-1), 1) := by decide +kernel
theorem dX6_readOne_89 : decode cX6_readOne 89 = .ok (.if_icmp .ne 5, 3) := by decide +kernel
theorem dX6_readOne_92 : decode cX6_readOne 92 = .ok (.iconst 0, 1) := by decide +kernel
theorem dX6_readOne_93 : decode cX6_readOne 93 = .ok (.ireturn, 1) := by decide +kernel
theorem dX6_readOne_94 : decode cX6_readOne 94 = .ok (.aload_n 0, 1) := by decide +kernel
theorem dX6_readOne_95 : decode cX6_readOne 95 = .ok (.invokevirtual 42, 3) := by decide +kernel
theorem dX6_readOne_98 : decode cX6_readOne 98 = .ok (.aload_n 0, 1) := by decide +kernel
theorem dX6_readOne_99 : decode cX6_readOne 99 = .ok (.invokevirtual 129, 3) := by decide +kernel
theorem dX6_readOne_102 : decode cX6_readOne 102 = .ok (.istore 5, 2) := by decide +kernel
theorem dX6_readOne_104 : decode cX6_readOne 104 = .ok (.iload 5, 2) := by decide +kernel
theorem dX6_readOne_106 : decode cX6_readOne 106 = .ok (.iconst (-1), 1) := by decide +kernel
theorem dX6_readOne_107 : decode cX6_readOne 107 = .ok (.if_icmp .ne 5, 3) := by decide +kernel
theorem dX6_readOne_110 : decode cX6_readOne 110 = .ok (.iconst 0, 1) := by decide +kernel
theorem dX6_readOne_111 : decode cX6_readOne 111 = .ok (.ireturn, 1) := by decide +kernel
theorem dX6_readOne_112 : decode cX6_readOne 112 = .ok (.aload_n 0, 1) := by decide +kernel
theorem dX6_readOne_113 : decode cX6_readOne 113 = .ok (.invokevirtual 42, 3) := by decide +kernel
theorem dX6_readOne_116 : decode cX6_readOne 116 = .ok (.aload_n 0, 1) := by decide +kernel
theorem dX6_readOne_117 : decode cX6_readOne 117 = .ok (.iconst 0, 1) := by decide +kernel
theorem dX6_readOne_118 : decode cX6_readOne 118 = .ok (.sipush 9999, 3) := by decide +kernel
theorem dX6_readOne_121 : decode cX6_readOne 121 = .ok (.invokevirtual 73, 3) := by decide +kernel
theorem dX6_readOne_124 : decode cX6_readOne 124 = .ok (.ifCond .ne 5, 3) := by decide +kernel
theorem dX6_readOne_127 : decode cX6_readOne 127 = .ok (.iconst 0, 1) := by decide +kernel
theorem dX6_readOne_128 : decode cX6_readOne 128 = .ok (.ireturn, 1) := by decide +kernel
theorem dX6_readOne_129 : decode cX6_readOne 129 = .ok (.aload_n 2, 1) := by decide +kernel
theorem dX6_readOne_130 : decode cX6_readOne 130 = .ok (.iload 4, 2) := by decide +kernel
theorem dX6_readOne_132 : decode cX6_readOne 132 = .ok (.iload 5, 2) := by decide +kernel
theorem dX6_readOne_134 : decode cX6_readOne 134 = .ok (.aload_n 0, 1) := by decide +kernel
theorem dX6_readOne_135 : decode cX6_readOne 135 = .ok (.getfield 34, 3) := by decide +kernel
theorem dX6_readOne_138 : decode cX6_readOne 138 = .ok (.invokevirtual 132, 3) := by decide +kernel
theorem dX6_readOne_141 : decode cX6_readOne 141 = .ok (.iconst 1, 1) := by decide +kernel
theorem dX6_readOne_142 : decode cX6_readOne 142 = .ok (.ireturn, 1) := by decide +kernel
theorem dX6_takeNumber_0 : decode cX6_takeNumber 0 = .ok (.aload_n 0, 1) := by decide +kernel
theorem dX6_takeNumber_1 : decode cX6_takeNumber 1 = .ok (.getfield 28, 3) := by decide +kernel
theorem dX6_takeNumber_4 : decode cX6_takeNumber 4 = .ok (.iconst 2, 1) := by decide +kernel
theorem dX6_takeNumber_5 : decode cX6_takeNumber 5 = .ok (.if_icmp .ne 19, 3) := by decide +kernel
theorem dX6_takeNumber_8 : decode cX6_takeNumber 8 = .ok (.aload_n 0, 1) := by decide +kernel
theorem dX6_takeNumber_9 : decode cX6_takeNumber 9 = .ok (.getfield 31, 3) := by decide +kernel
theorem dX6_takeNumber_12 : decode cX6_takeNumber 12 = .ok (.iload_n 1, 1) := by decide +kernel
theorem dX6_takeNumber_13 : decode cX6_takeNumber 13 = .ok (.if_icmp .lt 11, 3) := by decide +kernel
theorem dX6_takeNumber_16 : decode cX6_takeNumber 16 = .ok (.aload_n 0, 1) := by decide +kernel
theorem dX6_takeNumber_17 : decode cX6_takeNumber 17 = .ok (.getfield 31, 3) := by decide +kernel
theorem dX6_takeNumber_20 : decode cX6_takeNumber 20 = .ok (.iload_n 2, 1) := by decide +kernel
theorem dX6_takeNumber_21 : decode cX6_takeNumber 21 = .ok (.if_icmp .le 5, 3) := by decide +kernel
theorem dX6_takeNumber_24 : decode cX6_takeNumber 24 = .ok (.iconst 0, 1) := by decide +kernel
theorem dX6_takeNumber_25 : decode cX6_takeNumber 25 = .ok (.ireturn, 1) := by decide +kernel
theorem dX6_takeNumber_26 : decode cX6_takeNumber 26 = .ok (.aload_n 0, 1) := by decide +kernel
theorem dX6_takeNumber_27 : decode cX6_takeNumber 27 = .ok (.aload_n 0, 1) := by decide +kernel
theorem dX6_takeNumber_28 : decode cX6_takeNumber 28 = .ok (.getfield 31, 3) := by decide +kernel
theorem dX6_takeNumber_31 : decode cX6_takeNumber 31 = .ok (.putfield 34, 3) := by decide +kernel
theorem dX6_takeNumber_34 : decode cX6_takeNumber 34 = .ok (.aload_n 0, 1) := by decide +kernel
theorem dX6_takeNumber_35 : decode cX6_takeNumber 35 = .ok (.invokevirtual 42, 3) := by decide +kernel
theorem dX6_takeNumber_38 : decode cX6_takeNumber 38 = .ok (.iconst 1, 1) := by decide +kernel
theorem dX6_takeNumber_39 : decode cX6_takeNumber 39 = .ok (.ireturn, 1) := by decide +kernel
theorem dX6_takeSign_0 : decode cX6_takeSign 0 = .ok (.aload_n 0, 1) := by decide +kernel
theorem dX6_takeSign_1 : decode cX6_takeSign 1 = .ok (.iload_n 1, 1) := by decide +kernel
theorem dX6_takeSign_2 : decode cX6_takeSign 2 = .ok (.invokevirtual 123, 3) := by decide +kernel
theorem dX6_takeSign_5 : decode cX6_takeSign 5 = .ok (.ifCond .ne 5, 3) := by decide +kernel
theorem dX6_takeSign_8 : decode cX6_takeSign 8 = .ok (.iconst 0, 1) := by decide +kernel
theorem dX6_takeSign_9 : decode cX6_takeSign 9 = .ok (.ireturn, 1) := by decide +kernel
theorem dX6_takeSign_10 : decode cX6_takeSign 10 = .ok (.aload_n 0, 1) := by decide +kernel
theorem dX6_takeSign_11 : decode cX6_takeSign 11 = .ok (.invokevirtual 42, 3) := by decide +kernel
theorem dX6_takeSign_14 : decode cX6_takeSign 14 = .ok (.iconst 1, 1) := by decide +kernel
theorem dX6_takeSign_15 : decode cX6_takeSign 15 = .ok (.ireturn, 1) := by decide +kernel
theorem dX6_isSign_0 : decode cX6_isSign 0 = .ok (.aload_n 0, 1) := by decide +kernel
theorem dX6_isSign_1 : decode cX6_isSign 1 = .ok (.getfield 28, 3) := by decide +kernel
theorem dX6_isSign_4 : decode cX6_isSign 4 = .ok (.iconst 3, 1) := by decide +kernel
theorem dX6_isSign_5 : decode cX6_isSign 5 = .ok (.if_icmp .ne 15, 3) := by decide +kernel
theorem dX6_isSign_8 : decode cX6_isSign 8 = .ok (.aload_n 0, 1) := by decide +kernel
theorem dX6_isSign_9 : decode cX6_isSign 9 = .ok (.getfield 31, 3) := by decide +kernel
theorem dX6_isSign_12 : decode cX6_isSign 12 = .ok (.iload_n 1, 1) := by decide +kernel
theorem dX6_isSign_13 : decode cX6_isSign 13 = .ok (.if_icmp .ne 7, 3) := by decide +kernel
theorem dX6_isSign_16 : decode cX6_isSign 16 = .ok (.iconst 1, 1) := by decide +kernel
theorem dX6_isSign_17 : decode cX6_isSign 17 = .ok (.goto 4, 3) := by decide +kernel
theorem dX6_isSign_20 : decode cX6_isSign 20 = .ok (.iconst 0, 1) := by decide +kernel
theorem dX6_isSign_21 : decode cX6_isSign 21 = .ok (.ireturn, 1) := by decide +kernel
theorem dX6_isWord_0 : decode cX6_isWord 0 = .ok (.aload_n 0, 1) := by decide +kernel
theorem dX6_isWord_1 : decode cX6_isWord 1 = .ok (.getfield 28, 3) := by decide +kernel
theorem dX6_isWord_4 : decode cX6_isWord 4 = .ok (.iconst 1, 1) := by decide +kernel
theorem dX6_isWord_5 : decode cX6_isWord 5 = .ok (.if_icmp .ne 19, 3) := by decide +kernel
theorem dX6_isWord_8 : decode cX6_isWord 8 = .ok (.aload_n 0, 1) := by decide +kernel
theorem dX6_isWord_9 : decode cX6_isWord 9 = .ok (.getfield 25, 3) := by decide +kernel
theorem dX6_isWord_12 : decode cX6_isWord 12 = .ok (.aload_n 0, 1) := by decide +kernel
theorem dX6_isWord_13 : decode cX6_isWord 13 = .ok (.getfield 22, 3) := by decide +kernel
theorem dX6_isWord_16 : decode cX6_isWord 16 = .ok (.isub, 1) := by decide +kernel
theorem dX6_isWord_17 : decode cX6_isWord 17 = .ok (.aload_n 1, 1) := by decide +kernel
theorem dX6_isWord_18 : decode cX6_isWord 18 = .ok (.invokevirtual 135, 3) := by decide +kernel
theorem dX6_isWord_21 : decode cX6_isWord 21 = .ok (.if_icmp .eq 5, 3) := by decide +kernel
theorem dX6_isWord_24 : decode cX6_isWord 24 = .ok (.iconst 0, 1) := by decide +kernel
theorem dX6_isWord_25 : decode cX6_isWord 25 = .ok (.ireturn, 1) := by decide +kernel
theorem dX6_isWord_26 : decode cX6_isWord 26 = .ok (.iconst 0, 1) := by decide +kernel
theorem dX6_isWord_27 : decode cX6_isWord 27 = .ok (.istore_n 2, 1) := by decide +kernel
theorem dX6_isWord_28 : decode cX6_isWord 28 = .ok (.iload_n 2, 1) := by decide +kernel
theorem dX6_isWord_29 : decode cX6_isWord 29 = .ok (.aload_n 1, 1) := by decide +kernel
theorem dX6_isWord_30 : decode cX6_isWord 30 = .ok (.invokevirtual 135, 3) := by decide +kernel
theorem dX6_isWord_33 : decode cX6_isWord 33 = .ok (.if_icmp .ge 30, 3) := by decide +kernel
theorem dX6_isWord_36 : decode cX6_isWord 36 = .ok (.aload_n 0, 1) := by decide +kernel
theorem dX6_isWord_37 : decode cX6_isWord 37 = .ok (.getfield 9, 3) := by decide +kernel
theorem dX6_isWord_40 : decode cX6_isWord 40 = .ok (.aload_n 0, 1) := by decide +kernel
theorem dX6_isWord_41 : decode cX6_isWord 41 = .ok (.getfield 22, 3) := by decide +kernel
theorem dX6_isWord_44 : decode cX6_isWord 44 = .ok (.iload_n 2, 1) := by decide +kernel
theorem dX6_isWord_45 : decode cX6_isWord 45 = .ok (.iadd, 1) := by decide +kernel
theorem dX6_isWord_46 : decode cX6_isWord 46 = .ok (.iaload, 1) := by decide +kernel
theorem dX6_isWord_47 : decode cX6_isWord 47 = .ok (.aload_n 1, 1) := by decide +kernel
theorem dX6_isWord_48 : decode cX6_isWord 48 = .ok (.iload_n 2, 1) := by decide +kernel
theorem dX6_isWord_49 : decode cX6_isWord 49 = .ok (.invokevirtual 139, 3) := by decide +kernel
theorem dX6_isWord_52 : decode cX6_isWord 52 = .ok (.if_icmp .eq 5, 3) := by decide +kernel
theorem dX6_isWord_55 : decode cX6_isWord 55 = .ok (.iconst 0, 1) := by decide +kernel
theorem dX6_isWord_56 : decode cX6_isWord 56 = .ok (.ireturn, 1) := by decide +kernel
theorem dX6_isWord_57 : decode cX6_isWord 57 = .ok (.iinc 2 1, 3) := by decide +kernel
theorem dX6_isWord_60 : decode cX6_isWord 60 = .ok (.goto (-32), 3) := by decide +kernel
theorem dX6_isWord_63 : decode cX6_isWord 63 = .ok (.iconst 1, 1) := by decide +kernel
theorem dX6_isWord_64 : decode cX6_isWord 64 = .ok (.ireturn, 1) := by decide +kernel
theorem dX6_ruleWord_0 : decode cX6_ruleWord 0 = .ok (.aload_n 0, 1) := by decide +kernel
theorem dX6_ruleWord_1 : decode cX6_ruleWord 1 = .ok (.ldc 143, 2) := by decide +kernel
theorem dX6_ruleWord_3 : decode cX6_ruleWord 3 = .ok (.invokevirtual 79, 3) := by decide +kernel
theorem dX6_ruleWord_6 : decode cX6_ruleWord 6 = .ok (.ifCond .eq 5, 3) := by decide +kernel
theorem dX6_ruleWord_9 : decode cX6_ruleWord 9 = .ok (.iconst 0, 1) := by decide +kernel
theorem dX6_ruleWord_10 : decode cX6_ruleWord 10 = .ok (.ireturn, 1) := by decide +kernel
theorem dX6_ruleWord_11 : decode cX6_ruleWord 11 = .ok (.aload_n 0, 1) := by decide +kernel
theorem dX6_ruleWord_12 : decode cX6_ruleWord 12 = .ok (.ldc 145, 2) := by decide +kernel
theorem dX6_ruleWord_14 : decode cX6_ruleWord 14 = .ok (.invokevirtual 79, 3) := by decide +kernel
theorem dX6_ruleWord_17 : decode cX6_ruleWord 17 = .ok (.ifCond .eq 5, 3) := by decide +kernel
theorem dX6_ruleWord_20 : decode cX6_ruleWord 20 = .ok (.iconst 1, 1) := by decide +kernel
theorem dX6_ruleWord_21 : decode cX6_ruleWord 21 = .ok (.ireturn, 1) := by decide +kernel
theorem dX6_ruleWord_22 : decode cX6_ruleWord 22 = .ok (.aload_n 0, 1) := by decide +kernel
theorem dX6_ruleWord_23 : decode cX6_ruleWord 23 = .ok (.ldc 147, 2) := by decide +kernel
theorem dX6_ruleWord_25 : decode cX6_ruleWord 25 = .ok (.invokevirtual 79, 3) := by decide +kernel
theorem dX6_ruleWord_28 : decode cX6_ruleWord 28 = .ok (.ifCond .eq 5, 3) := by decide +kernel
theorem dX6_ruleWord_31 : decode cX6_ruleWord 31 = .ok (.iconst 2, 1) := by decide +kernel
theorem dX6_ruleWord_32 : decode cX6_ruleWord 32 = .ok (.ireturn, 1) := by decide +kernel
theorem dX6_ruleWord_33 : decode cX6_ruleWord 33 = .ok (.aload_n 0, 1) := by decide +kernel
theorem dX6_ruleWord_34 : decode cX6_ruleWord 34 = .ok (.ldc 149, 2) := by decide +kernel
theorem dX6_ruleWord_36 : decode cX6_ruleWord 36 = .ok (.invokevirtual 79, 3) := by decide +kernel
theorem dX6_ruleWord_39 : decode cX6_ruleWord 39 = .ok (.ifCond .eq 5, 3) := by decide +kernel
theorem dX6_ruleWord_42 : decode cX6_ruleWord 42 = .ok (.iconst 3, 1) := by decide +kernel
theorem dX6_ruleWord_43 : decode cX6_ruleWord 43 = .ok (.ireturn, 1) := by decide +kernel
theorem dX6_ruleWord_44 : decode cX6_ruleWord 44 = .ok (.aload_n 0, 1) := by decide +kernel
theorem dX6_ruleWord_45 : decode cX6_ruleWord 45 = .ok (.ldc 151, 2) := by decide +kernel
theorem dX6_ruleWord_47 : decode cX6_ruleWord 47 = .ok (.invokevirtual 79, 3) := by decide +kernel
theorem dX6_ruleWord_50 : decode cX6_ruleWord 50 = .ok (.ifCond .eq 5, 3) := by decide +kernel
theorem dX6_ruleWord_53 : decode cX6_ruleWord 53 = .ok (.iconst 4, 1) := by decide +kernel
theorem dX6_ruleWord_54 : decode cX6_ruleWord 54 = .ok (.ireturn, 1) := by decide +kernel
theorem dX6_ruleWord_55 : decode cX6_ruleWord 55 = .ok (.aload_n 0, 1) := by decide +kernel
theorem dX6_ruleWord_56 : decode cX6_ruleWord 56 = .ok (.ldc 153, 2) := by decide +kernel
theorem dX6_ruleWord_58 : decode cX6_ruleWord 58 = .ok (.invokevirtual 79, 3) := by decide +kernel
theorem dX6_ruleWord_61 : decode cX6_ruleWord 61 = .ok (.ifCond .eq 5, 3) := by decide +kernel
theorem dX6_ruleWord_64 : decode cX6_ruleWord 64 = .ok (.iconst 5, 1) := by decide +kernel
theorem dX6_ruleWord_65 : decode cX6_ruleWord 65 = .ok (.ireturn, 1) := by decide +kernel
theorem dX6_ruleWord_66 : decode cX6_ruleWord 66 = .ok (.aload_n 0, 1) := by decide +kernel
theorem dX6_ruleWord_67 : decode cX6_ruleWord 67 = .ok (.ldc 155, 2) := by decide +kernel
theorem dX6_ruleWord_69 : decode cX6_ruleWord 69 = .ok (.invokevirtual 79, 3) := by decide +kernel
theorem dX6_ruleWord_72 : decode cX6_ruleWord 72 = .ok (.ifCond .eq 8, 3) := by decide +kernel
theorem dX6_ruleWord_75 : decode cX6_ruleWord 75 = .ok (.bipush 6, 2) := by decide +kernel
theorem dX6_ruleWord_77 : decode cX6_ruleWord 77 = .ok (.goto 4, 3) := by decide +kernel
theorem dX6_ruleWord_80 : decode cX6_ruleWord 80 = .ok (.iconst (-1), 1) := by decide +kernel
theorem dX6_ruleWord_81 : decode cX6_ruleWord 81 = .ok (.ireturn, 1) := by decide +kernel
theorem dX6_howWord_0 : decode cX6_howWord 0 = .ok (.aload_n 0, 1) := by decide +kernel
theorem dX6_howWord_1 : decode cX6_howWord 1 = .ok (.ldc 157, 2) := by decide +kernel
theorem dX6_howWord_3 : decode cX6_howWord 3 = .ok (.invokevirtual 79, 3) := by decide +kernel
theorem dX6_howWord_6 : decode cX6_howWord 6 = .ok (.ifCond .eq 5, 3) := by decide +kernel
theorem dX6_howWord_9 : decode cX6_howWord 9 = .ok (.iconst 0, 1) := by decide +kernel
theorem dX6_howWord_10 : decode cX6_howWord 10 = .ok (.ireturn, 1) := by decide +kernel
theorem dX6_howWord_11 : decode cX6_howWord 11 = .ok (.aload_n 0, 1) := by decide +kernel
theorem dX6_howWord_12 : decode cX6_howWord 12 = .ok (.ldc 159, 2) := by decide +kernel
theorem dX6_howWord_14 : decode cX6_howWord 14 = .ok (.invokevirtual 79, 3) := by decide +kernel
theorem dX6_howWord_17 : decode cX6_howWord 17 = .ok (.ifCond .eq 5, 3) := by decide +kernel
theorem dX6_howWord_20 : decode cX6_howWord 20 = .ok (.iconst 1, 1) := by decide +kernel
theorem dX6_howWord_21 : decode cX6_howWord 21 = .ok (.ireturn, 1) := by decide +kernel
theorem dX6_howWord_22 : decode cX6_howWord 22 = .ok (.aload_n 0, 1) := by decide +kernel
theorem dX6_howWord_23 : decode cX6_howWord 23 = .ok (.ldc 161, 2) := by decide +kernel
theorem dX6_howWord_25 : decode cX6_howWord 25 = .ok (.invokevirtual 79, 3) := by decide +kernel
theorem dX6_howWord_28 : decode cX6_howWord 28 = .ok (.ifCond .eq 7, 3) := by decide +kernel
theorem dX6_howWord_31 : decode cX6_howWord 31 = .ok (.iconst 2, 1) := by decide +kernel
theorem dX6_howWord_32 : decode cX6_howWord 32 = .ok (.goto 4, 3) := by decide +kernel
theorem dX6_howWord_35 : decode cX6_howWord 35 = .ok (.iconst (-1), 1) := by decide +kernel
theorem dX6_howWord_36 : decode cX6_howWord 36 = .ok (.ireturn, 1) := by decide +kernel
theorem dX6_askedWord_0 : decode cX6_askedWord 0 = .ok (.aload_n 0, 1) := by decide +kernel
theorem dX6_askedWord_1 : decode cX6_askedWord 1 = .ok (.ldc 163, 2) := by decide +kernel
theorem dX6_askedWord_3 : decode cX6_askedWord 3 = .ok (.invokevirtual 79, 3) := by decide +kernel
theorem dX6_askedWord_6 : decode cX6_askedWord 6 = .ok (.ifCond .eq 5, 3) := by decide +kernel
theorem dX6_askedWord_9 : decode cX6_askedWord 9 = .ok (.iconst 0, 1) := by decide +kernel
theorem dX6_askedWord_10 : decode cX6_askedWord 10 = .ok (.ireturn, 1) := by decide +kernel
theorem dX6_askedWord_11 : decode cX6_askedWord 11 = .ok (.aload_n 0, 1) := by decide +kernel
theorem dX6_askedWord_12 : decode cX6_askedWord 12 = .ok (.ldc 165, 2) := by decide +kernel
theorem dX6_askedWord_14 : decode cX6_askedWord 14 = .ok (.invokevirtual 79, 3) := by decide +kernel
theorem dX6_askedWord_17 : decode cX6_askedWord 17 = .ok (.ifCond .eq 5, 3) := by decide +kernel
theorem dX6_askedWord_20 : decode cX6_askedWord 20 = .ok (.iconst 1, 1) := by decide +kernel
theorem dX6_askedWord_21 : decode cX6_askedWord 21 = .ok (.ireturn, 1) := by decide +kernel
theorem dX6_askedWord_22 : decode cX6_askedWord 22 = .ok (.aload_n 0, 1) := by decide +kernel
theorem dX6_askedWord_23 : decode cX6_askedWord 23 = .ok (.ldc 167, 2) := by decide +kernel
theorem dX6_askedWord_25 : decode cX6_askedWord 25 = .ok (.invokevirtual 79, 3) := by decide +kernel
theorem dX6_askedWord_28 : decode cX6_askedWord 28 = .ok (.ifCond .eq 5, 3) := by decide +kernel
theorem dX6_askedWord_31 : decode cX6_askedWord 31 = .ok (.iconst 2, 1) := by decide +kernel
theorem dX6_askedWord_32 : decode cX6_askedWord 32 = .ok (.ireturn, 1) := by decide +kernel
theorem dX6_askedWord_33 : decode cX6_askedWord 33 = .ok (.aload_n 0, 1) := by decide +kernel
theorem dX6_askedWord_34 : decode cX6_askedWord 34 = .ok (.ldc 169, 2) := by decide +kernel
theorem dX6_askedWord_36 : decode cX6_askedWord 36 = .ok (.invokevirtual 79, 3) := by decide +kernel
theorem dX6_askedWord_39 : decode cX6_askedWord 39 = .ok (.ifCond .eq 5, 3) := by decide +kernel
theorem dX6_askedWord_42 : decode cX6_askedWord 42 = .ok (.iconst 3, 1) := by decide +kernel
theorem dX6_askedWord_43 : decode cX6_askedWord 43 = .ok (.ireturn, 1) := by decide +kernel
theorem dX6_askedWord_44 : decode cX6_askedWord 44 = .ok (.aload_n 0, 1) := by decide +kernel
theorem dX6_askedWord_45 : decode cX6_askedWord 45 = .ok (.ldc 171, 2) := by decide +kernel
theorem dX6_askedWord_47 : decode cX6_askedWord 47 = .ok (.invokevirtual 79, 3) := by decide +kernel
theorem dX6_askedWord_50 : decode cX6_askedWord 50 = .ok (.ifCond .eq 5, 3) := by decide +kernel
theorem dX6_askedWord_53 : decode cX6_askedWord 53 = .ok (.iconst 4, 1) := by decide +kernel
theorem dX6_askedWord_54 : decode cX6_askedWord 54 = .ok (.ireturn, 1) := by decide +kernel
theorem dX6_askedWord_55 : decode cX6_askedWord 55 = .ok (.aload_n 0, 1) := by decide +kernel
theorem dX6_askedWord_56 : decode cX6_askedWord 56 = .ok (.ldc 173, 2) := by decide +kernel
theorem dX6_askedWord_58 : decode cX6_askedWord 58 = .ok (.invokevirtual 79, 3) := by decide +kernel
theorem dX6_askedWord_61 : decode cX6_askedWord 61 = .ok (.ifCond .eq 5, 3) := by decide +kernel
theorem dX6_askedWord_64 : decode cX6_askedWord 64 = .ok (.iconst 5, 1) := by decide +kernel
theorem dX6_askedWord_65 : decode cX6_askedWord 65 = .ok (.ireturn, 1) := by decide +kernel
theorem dX6_askedWord_66 : decode cX6_askedWord 66 = .ok (.aload_n 0, 1) := by decide +kernel
theorem dX6_askedWord_67 : decode cX6_askedWord 67 = .ok (.ldc 175, 2) := by decide +kernel
theorem dX6_askedWord_69 : decode cX6_askedWord 69 = .ok (.invokevirtual 79, 3) := by decide +kernel
theorem dX6_askedWord_72 : decode cX6_askedWord 72 = .ok (.ifCond .eq 8, 3) := by decide +kernel
theorem dX6_askedWord_75 : decode cX6_askedWord 75 = .ok (.bipush 6, 2) := by decide +kernel
theorem dX6_askedWord_77 : decode cX6_askedWord 77 = .ok (.goto 4, 3) := by decide +kernel
theorem dX6_askedWord_80 : decode cX6_askedWord 80 = .ok (.iconst (-1), 1) := by decide +kernel
theorem dX6_askedWord_81 : decode cX6_askedWord 81 = .ok (.ireturn, 1) := by decide +kernel
theorem dX6_comparingSign_0 : decode cX6_comparingSign 0 = .ok (.aload_n 0, 1) := by decide +kernel
theorem dX6_comparingSign_1 : decode cX6_comparingSign 1 = .ok (.bipush 60, 2) := by decide +kernel
theorem dX6_comparingSign_3 : decode cX6_comparingSign 3 = .ok (.invokevirtual 123, 3) := by decide +kernel
theorem dX6_comparingSign_6 : decode cX6_comparingSign 6 = .ok (.ifCond .eq 5, 3) := by decide +kernel
theorem dX6_comparingSign_9 : decode cX6_comparingSign 9 = .ok (.iconst 0, 1) := by decide +kernel
theorem dX6_comparingSign_10 : decode cX6_comparingSign 10 = .ok (.ireturn, 1) := by decide +kernel
theorem dX6_comparingSign_11 : decode cX6_comparingSign 11 = .ok (.aload_n 0, 1) := by decide +kernel
theorem dX6_comparingSign_12 : decode cX6_comparingSign 12 = .ok (.bipush 62, 2) := by decide +kernel
theorem dX6_comparingSign_14 : decode cX6_comparingSign 14 = .ok (.invokevirtual 123, 3) := by decide +kernel
theorem dX6_comparingSign_17 : decode cX6_comparingSign 17 = .ok (.ifCond .eq 5, 3) := by decide +kernel
theorem dX6_comparingSign_20 : decode cX6_comparingSign 20 = .ok (.iconst 1, 1) := by decide +kernel
theorem dX6_comparingSign_21 : decode cX6_comparingSign 21 = .ok (.ireturn, 1) := by decide +kernel
theorem dX6_comparingSign_22 : decode cX6_comparingSign 22 = .ok (.aload_n 0, 1) := by decide +kernel
theorem dX6_comparingSign_23 : decode cX6_comparingSign 23 = .ok (.bipush 61, 2) := by decide +kernel
theorem dX6_comparingSign_25 : decode cX6_comparingSign 25 = .ok (.invokevirtual 123, 3) := by decide +kernel
theorem dX6_comparingSign_28 : decode cX6_comparingSign 28 = .ok (.ifCond .eq 7, 3) := by decide +kernel
theorem dX6_comparingSign_31 : decode cX6_comparingSign 31 = .ok (.iconst 2, 1) := by decide +kernel
theorem dX6_comparingSign_32 : decode cX6_comparingSign 32 = .ok (.goto 4, 3) := by decide +kernel
theorem dX6_comparingSign_35 : decode cX6_comparingSign 35 = .ok (.iconst (-1), 1) := by decide +kernel
theorem dX6_comparingSign_36 : decode cX6_comparingSign 36 = .ok (.ireturn, 1) := by decide +kernel
theorem dX6_step_0 : decode cX6_step 0 = .ok (.aload_n 0, 1) := by decide +kernel
theorem dX6_step_1 : decode cX6_step 1 = .ok (.getfield 25, 3) := by decide +kernel
theorem dX6_step_4 : decode cX6_step 4 = .ok (.aload_n 0, 1) := by decide +kernel
theorem dX6_step_5 : decode cX6_step 5 = .ok (.getfield 19, 3) := by decide +kernel
theorem dX6_step_8 : decode cX6_step 8 = .ok (.if_icmp .ge 44, 3) := by decide +kernel
theorem dX6_step_11 : decode cX6_step 11 = .ok (.aload_n 0, 1) := by decide +kernel
theorem dX6_step_12 : decode cX6_step 12 = .ok (.getfield 9, 3) := by decide +kernel
theorem dX6_step_15 : decode cX6_step 15 = .ok (.aload_n 0, 1) := by decide +kernel
theorem dX6_step_16 : decode cX6_step 16 = .ok (.getfield 25, 3) := by decide +kernel
theorem dX6_step_19 : decode cX6_step 19 = .ok (.iaload, 1) := by decide +kernel
theorem dX6_step_20 : decode cX6_step 20 = .ok (.bipush 32, 2) := by decide +kernel
theorem dX6_step_22 : decode cX6_step 22 = .ok (.if_icmp .eq 17, 3) := by decide +kernel
theorem dX6_step_25 : decode cX6_step 25 = .ok (.aload_n 0, 1) := by decide +kernel
theorem dX6_step_26 : decode cX6_step 26 = .ok (.getfield 9, 3) := by decide +kernel
theorem dX6_step_29 : decode cX6_step 29 = .ok (.aload_n 0, 1) := by decide +kernel
theorem dX6_step_30 : decode cX6_step 30 = .ok (.getfield 25, 3) := by decide +kernel
theorem dX6_step_33 : decode cX6_step 33 = .ok (.iaload, 1) := by decide +kernel
theorem dX6_step_34 : decode cX6_step 34 = .ok (.bipush 10, 2) := by decide +kernel
theorem dX6_step_36 : decode cX6_step 36 = .ok (.if_icmp .ne 16, 3) := by decide +kernel
theorem dX6_step_39 : decode cX6_step 39 = .ok (.aload_n 0, 1) := by decide +kernel
theorem dX6_step_40 : decode cX6_step 40 = .ok (.dup, 1) := by decide +kernel
theorem dX6_step_41 : decode cX6_step 41 = .ok (.getfield 25, 3) := by decide +kernel
theorem dX6_step_44 : decode cX6_step 44 = .ok (.iconst 1, 1) := by decide +kernel
theorem dX6_step_45 : decode cX6_step 45 = .ok (.iadd, 1) := by decide +kernel
theorem dX6_step_46 : decode cX6_step 46 = .ok (.putfield 25, 3) := by decide +kernel
theorem dX6_step_49 : decode cX6_step 49 = .ok (.goto (-49), 3) := by decide +kernel
theorem dX6_step_52 : decode cX6_step 52 = .ok (.aload_n 0, 1) := by decide +kernel
theorem dX6_step_53 : decode cX6_step 53 = .ok (.aload_n 0, 1) := by decide +kernel
theorem dX6_step_54 : decode cX6_step 54 = .ok (.getfield 25, 3) := by decide +kernel
theorem dX6_step_57 : decode cX6_step 57 = .ok (.putfield 22, 3) := by decide +kernel
theorem dX6_step_60 : decode cX6_step 60 = .ok (.aload_n 0, 1) := by decide +kernel
theorem dX6_step_61 : decode cX6_step 61 = .ok (.iconst 0, 1) := by decide +kernel
theorem dX6_step_62 : decode cX6_step 62 = .ok (.putfield 31, 3) := by decide +kernel
theorem dX6_step_65 : decode cX6_step 65 = .ok (.aload_n 0, 1) := by decide +kernel
theorem dX6_step_66 : decode cX6_step 66 = .ok (.getfield 22, 3) := by decide +kernel
theorem dX6_step_69 : decode cX6_step 69 = .ok (.aload_n 0, 1) := by decide +kernel
theorem dX6_step_70 : decode cX6_step 70 = .ok (.getfield 19, 3) := by decide +kernel
theorem dX6_step_73 : decode cX6_step 73 = .ok (.if_icmp .lt 11, 3) := by decide +kernel
theorem dX6_step_76 : decode cX6_step 76 = .ok (.aload_n 0, 1) := by decide +kernel
theorem dX6_step_77 : decode cX6_step 77 = .ok (.iconst 0, 1) := by decide +kernel
theorem dX6_step_78 : decode cX6_step 78 = .ok (.putfield 28, 3) := by decide +kernel
theorem dX6_step_81 : decode cX6_step 81 = .ok (.goto 244, 3) := by decide +kernel
theorem dX6_step_84 : decode cX6_step 84 = .ok (.aload_n 0, 1) := by decide +kernel
theorem dX6_step_85 : decode cX6_step 85 = .ok (.getfield 9, 3) := by decide +kernel
theorem dX6_step_88 : decode cX6_step 88 = .ok (.aload_n 0, 1) := by decide +kernel
theorem dX6_step_89 : decode cX6_step 89 = .ok (.getfield 22, 3) := by decide +kernel
theorem dX6_step_92 : decode cX6_step 92 = .ok (.iaload, 1) := by decide +kernel
theorem dX6_step_93 : decode cX6_step 93 = .ok (.bipush 97, 2) := by decide +kernel
theorem dX6_step_95 : decode cX6_step 95 = .ok (.if_icmp .lt 74, 3) := by decide +kernel
theorem dX6_step_98 : decode cX6_step 98 = .ok (.aload_n 0, 1) := by decide +kernel
theorem dX6_step_99 : decode cX6_step 99 = .ok (.getfield 9, 3) := by decide +kernel
theorem dX6_step_102 : decode cX6_step 102 = .ok (.aload_n 0, 1) := by decide +kernel
theorem dX6_step_103 : decode cX6_step 103 = .ok (.getfield 22, 3) := by decide +kernel
theorem dX6_step_106 : decode cX6_step 106 = .ok (.iaload, 1) := by decide +kernel
theorem dX6_step_107 : decode cX6_step 107 = .ok (.bipush 122, 2) := by decide +kernel
theorem dX6_step_109 : decode cX6_step 109 = .ok (.if_icmp .gt 60, 3) := by decide +kernel
theorem dX6_step_112 : decode cX6_step 112 = .ok (.aload_n 0, 1) := by decide +kernel
theorem dX6_step_113 : decode cX6_step 113 = .ok (.iconst 1, 1) := by decide +kernel
theorem dX6_step_114 : decode cX6_step 114 = .ok (.putfield 28, 3) := by decide +kernel
theorem dX6_step_117 : decode cX6_step 117 = .ok (.aload_n 0, 1) := by decide +kernel
theorem dX6_step_118 : decode cX6_step 118 = .ok (.getfield 25, 3) := by decide +kernel
theorem dX6_step_121 : decode cX6_step 121 = .ok (.aload_n 0, 1) := by decide +kernel
theorem dX6_step_122 : decode cX6_step 122 = .ok (.getfield 19, 3) := by decide +kernel
theorem dX6_step_125 : decode cX6_step 125 = .ok (.if_icmp .ge 200, 3) := by decide +kernel
theorem dX6_step_128 : decode cX6_step 128 = .ok (.aload_n 0, 1) := by decide +kernel
theorem dX6_step_129 : decode cX6_step 129 = .ok (.getfield 9, 3) := by decide +kernel
theorem dX6_step_132 : decode cX6_step 132 = .ok (.aload_n 0, 1) := by decide +kernel
theorem dX6_step_133 : decode cX6_step 133 = .ok (.getfield 25, 3) := by decide +kernel
theorem dX6_step_136 : decode cX6_step 136 = .ok (.iaload, 1) := by decide +kernel
theorem dX6_step_137 : decode cX6_step 137 = .ok (.bipush 97, 2) := by decide +kernel
theorem dX6_step_139 : decode cX6_step 139 = .ok (.if_icmp .lt 186, 3) := by decide +kernel
theorem dX6_step_142 : decode cX6_step 142 = .ok (.aload_n 0, 1) := by decide +kernel
theorem dX6_step_143 : decode cX6_step 143 = .ok (.getfield 9, 3) := by decide +kernel
theorem dX6_step_146 : decode cX6_step 146 = .ok (.aload_n 0, 1) := by decide +kernel
theorem dX6_step_147 : decode cX6_step 147 = .ok (.getfield 25, 3) := by decide +kernel
theorem dX6_step_150 : decode cX6_step 150 = .ok (.iaload, 1) := by decide +kernel
theorem dX6_step_151 : decode cX6_step 151 = .ok (.bipush 122, 2) := by decide +kernel
theorem dX6_step_153 : decode cX6_step 153 = .ok (.if_icmp .gt 172, 3) := by decide +kernel
theorem dX6_step_156 : decode cX6_step 156 = .ok (.aload_n 0, 1) := by decide +kernel
theorem dX6_step_157 : decode cX6_step 157 = .ok (.dup, 1) := by decide +kernel
theorem dX6_step_158 : decode cX6_step 158 = .ok (.getfield 25, 3) := by decide +kernel
theorem dX6_step_161 : decode cX6_step 161 = .ok (.iconst 1, 1) := by decide +kernel
theorem dX6_step_162 : decode cX6_step 162 = .ok (.iadd, 1) := by decide +kernel
theorem dX6_step_163 : decode cX6_step 163 = .ok (.putfield 25, 3) := by decide +kernel
theorem dX6_step_166 : decode cX6_step 166 = .ok (.goto (-49), 3) := by decide +kernel
theorem dX6_step_169 : decode cX6_step 169 = .ok (.aload_n 0, 1) := by decide +kernel
theorem dX6_step_170 : decode cX6_step 170 = .ok (.getfield 9, 3) := by decide +kernel
theorem dX6_step_173 : decode cX6_step 173 = .ok (.aload_n 0, 1) := by decide +kernel
theorem dX6_step_174 : decode cX6_step 174 = .ok (.getfield 22, 3) := by decide +kernel
theorem dX6_step_177 : decode cX6_step 177 = .ok (.iaload, 1) := by decide +kernel
theorem dX6_step_178 : decode cX6_step 178 = .ok (.bipush 48, 2) := by decide +kernel
theorem dX6_step_180 : decode cX6_step 180 = .ok (.if_icmp .lt 117, 3) := by decide +kernel
theorem dX6_step_183 : decode cX6_step 183 = .ok (.aload_n 0, 1) := by decide +kernel
theorem dX6_step_184 : decode cX6_step 184 = .ok (.getfield 9, 3) := by decide +kernel
theorem dX6_step_187 : decode cX6_step 187 = .ok (.aload_n 0, 1) := by decide +kernel
theorem dX6_step_188 : decode cX6_step 188 = .ok (.getfield 22, 3) := by decide +kernel
theorem dX6_step_191 : decode cX6_step 191 = .ok (.iaload, 1) := by decide +kernel
theorem dX6_step_192 : decode cX6_step 192 = .ok (.bipush 57, 2) := by decide +kernel
theorem dX6_step_194 : decode cX6_step 194 = .ok (.if_icmp .gt 103, 3) := by decide +kernel
theorem dX6_step_197 : decode cX6_step 197 = .ok (.aload_n 0, 1) := by decide +kernel
theorem dX6_step_198 : decode cX6_step 198 = .ok (.iconst 2, 1) := by decide +kernel
theorem dX6_step_199 : decode cX6_step 199 = .ok (.putfield 28, 3) := by decide +kernel
theorem dX6_step_202 : decode cX6_step 202 = .ok (.aload_n 0, 1) := by decide +kernel
theorem dX6_step_203 : decode cX6_step 203 = .ok (.getfield 25, 3) := by decide +kernel
theorem dX6_step_206 : decode cX6_step 206 = .ok (.aload_n 0, 1) := by decide +kernel
theorem dX6_step_207 : decode cX6_step 207 = .ok (.getfield 19, 3) := by decide +kernel
theorem dX6_step_210 : decode cX6_step 210 = .ok (.if_icmp .ge 115, 3) := by decide +kernel
theorem dX6_step_213 : decode cX6_step 213 = .ok (.aload_n 0, 1) := by decide +kernel
theorem dX6_step_214 : decode cX6_step 214 = .ok (.getfield 9, 3) := by decide +kernel
theorem dX6_step_217 : decode cX6_step 217 = .ok (.aload_n 0, 1) := by decide +kernel
theorem dX6_step_218 : decode cX6_step 218 = .ok (.getfield 25, 3) := by decide +kernel
theorem dX6_step_221 : decode cX6_step 221 = .ok (.iaload, 1) := by decide +kernel
theorem dX6_step_222 : decode cX6_step 222 = .ok (.bipush 48, 2) := by decide +kernel
theorem dX6_step_224 : decode cX6_step 224 = .ok (.if_icmp .lt 101, 3) := by decide +kernel
theorem dX6_step_227 : decode cX6_step 227 = .ok (.aload_n 0, 1) := by decide +kernel
theorem dX6_step_228 : decode cX6_step 228 = .ok (.getfield 9, 3) := by decide +kernel
theorem dX6_step_231 : decode cX6_step 231 = .ok (.aload_n 0, 1) := by decide +kernel
theorem dX6_step_232 : decode cX6_step 232 = .ok (.getfield 25, 3) := by decide +kernel
theorem dX6_step_235 : decode cX6_step 235 = .ok (.iaload, 1) := by decide +kernel
theorem dX6_step_236 : decode cX6_step 236 = .ok (.bipush 57, 2) := by decide +kernel
theorem dX6_step_238 : decode cX6_step 238 = .ok (.if_icmp .gt 87, 3) := by decide +kernel
theorem dX6_step_241 : decode cX6_step 241 = .ok (.aload_n 0, 1) := by decide +kernel
theorem dX6_step_242 : decode cX6_step 242 = .ok (.aload_n 0, 1) := by decide +kernel
theorem dX6_step_243 : decode cX6_step 243 = .ok (.getfield 25, 3) := by decide +kernel
theorem dX6_step_246 : decode cX6_step 246 = .ok (.aload_n 0, 1) := by decide +kernel
theorem dX6_step_247 : decode cX6_step 247 = .ok (.getfield 22, 3) := by decide +kernel
theorem dX6_step_250 : decode cX6_step 250 = .ok (.isub, 1) := by decide +kernel
theorem dX6_step_251 : decode cX6_step 251 = .ok (.iconst 4, 1) := by decide +kernel
theorem dX6_step_252 : decode cX6_step 252 = .ok (.if_icmp .ge 26, 3) := by decide +kernel
theorem dX6_step_255 : decode cX6_step 255 = .ok (.aload_n 0, 1) := by decide +kernel
theorem dX6_step_256 : decode cX6_step 256 = .ok (.getfield 31, 3) := by decide +kernel
theorem dX6_step_259 : decode cX6_step 259 = .ok (.bipush 10, 2) := by decide +kernel
theorem dX6_step_261 : decode cX6_step 261 = .ok (.imul, 1) := by decide +kernel
theorem dX6_step_262 : decode cX6_step 262 = .ok (.aload_n 0, 1) := by decide +kernel
theorem dX6_step_263 : decode cX6_step 263 = .ok (.getfield 9, 3) := by decide +kernel
theorem dX6_step_266 : decode cX6_step 266 = .ok (.aload_n 0, 1) := by decide +kernel
theorem dX6_step_267 : decode cX6_step 267 = .ok (.getfield 25, 3) := by decide +kernel
theorem dX6_step_270 : decode cX6_step 270 = .ok (.iaload, 1) := by decide +kernel
theorem dX6_step_271 : decode cX6_step 271 = .ok (.iadd, 1) := by decide +kernel
theorem dX6_step_272 : decode cX6_step 272 = .ok (.bipush 48, 2) := by decide +kernel
theorem dX6_step_274 : decode cX6_step 274 = .ok (.isub, 1) := by decide +kernel
theorem dX6_step_275 : decode cX6_step 275 = .ok (.goto 6, 3) := by decide +kernel
theorem dX6_step_278 : decode cX6_step 278 = .ok (.sipush 10000, 3) := by decide +kernel
theorem dX6_step_281 : decode cX6_step 281 = .ok (.putfield 31, 3) := by decide +kernel
theorem dX6_step_284 : decode cX6_step 284 = .ok (.aload_n 0, 1) := by decide +kernel
theorem dX6_step_285 : decode cX6_step 285 = .ok (.dup, 1) := by decide +kernel
theorem dX6_step_286 : decode cX6_step 286 = .ok (.getfield 25, 3) := by decide +kernel
theorem dX6_step_289 : decode cX6_step 289 = .ok (.iconst 1, 1) := by decide +kernel
theorem dX6_step_290 : decode cX6_step 290 = .ok (.iadd, 1) := by decide +kernel
theorem dX6_step_291 : decode cX6_step 291 = .ok (.putfield 25, 3) := by decide +kernel
theorem dX6_step_294 : decode cX6_step 294 = .ok (.goto (-92), 3) := by decide +kernel
theorem dX6_step_297 : decode cX6_step 297 = .ok (.aload_n 0, 1) := by decide +kernel
theorem dX6_step_298 : decode cX6_step 298 = .ok (.iconst 3, 1) := by decide +kernel
theorem dX6_step_299 : decode cX6_step 299 = .ok (.putfield 28, 3) := by decide +kernel
theorem dX6_step_302 : decode cX6_step 302 = .ok (.aload_n 0, 1) := by decide +kernel
theorem dX6_step_303 : decode cX6_step 303 = .ok (.aload_n 0, 1) := by decide +kernel
theorem dX6_step_304 : decode cX6_step 304 = .ok (.getfield 9, 3) := by decide +kernel
theorem dX6_step_307 : decode cX6_step 307 = .ok (.aload_n 0, 1) := by decide +kernel
theorem dX6_step_308 : decode cX6_step 308 = .ok (.getfield 22, 3) := by decide +kernel
theorem dX6_step_311 : decode cX6_step 311 = .ok (.iaload, 1) := by decide +kernel
theorem dX6_step_312 : decode cX6_step 312 = .ok (.putfield 31, 3) := by decide +kernel
theorem dX6_step_315 : decode cX6_step 315 = .ok (.aload_n 0, 1) := by decide +kernel
theorem dX6_step_316 : decode cX6_step 316 = .ok (.dup, 1) := by decide +kernel
theorem dX6_step_317 : decode cX6_step 317 = .ok (.getfield 25, 3) := by decide +kernel
theorem dX6_step_320 : decode cX6_step 320 = .ok (.iconst 1, 1) := by decide +kernel
theorem dX6_step_321 : decode cX6_step 321 = .ok (.iadd, 1) := by decide +kernel
theorem dX6_step_322 : decode cX6_step 322 = .ok (.putfield 25, 3) := by decide +kernel
theorem dX6_step_325 : decode cX6_step 325 = .ok (.return_, 1) := by decide +kernel
theorem dX7_init_0 : decode cX7_init 0 = .ok (.aload_n 0, 1) := by decide +kernel
theorem dX7_init_1 : decode cX7_init 1 = .ok (.invokespecial 3, 3) := by decide +kernel
theorem dX7_init_4 : decode cX7_init 4 = .ok (.aload_n 0, 1) := by decide +kernel
theorem dX7_init_5 : decode cX7_init 5 = .ok (.sipush 256, 3) := by decide +kernel
theorem dX7_init_8 : decode cX7_init 8 = .ok (.newarray .int, 2) := by decide +kernel
theorem dX7_init_10 : decode cX7_init 10 = .ok (.putfield 9, 3) := by decide +kernel
theorem dX7_init_13 : decode cX7_init 13 = .ok (.aload_n 0, 1) := by decide +kernel
theorem dX7_init_14 : decode cX7_init 14 = .ok (.sipush 256, 3) := by decide +kernel
theorem dX7_init_17 : decode cX7_init 17 = .ok (.newarray .int, 2) := by decide +kernel
theorem dX7_init_19 : decode cX7_init 19 = .ok (.putfield 15, 3) := by decide +kernel
theorem dX7_init_22 : decode cX7_init 22 = .ok (.aload_n 0, 1) := by decide +kernel
theorem dX7_init_23 : decode cX7_init 23 = .ok (.sipush 256, 3) := by decide +kernel
theorem dX7_init_26 : decode cX7_init 26 = .ok (.newarray .int, 2) := by decide +kernel
theorem dX7_init_28 : decode cX7_init 28 = .ok (.putfield 18, 3) := by decide +kernel
theorem dX7_init_31 : decode cX7_init 31 = .ok (.aload_n 0, 1) := by decide +kernel
theorem dX7_init_32 : decode cX7_init 32 = .ok (.sipush 256, 3) := by decide +kernel
theorem dX7_init_35 : decode cX7_init 35 = .ok (.newarray .int, 2) := by decide +kernel
theorem dX7_init_37 : decode cX7_init 37 = .ok (.putfield 21, 3) := by decide +kernel
theorem dX7_init_40 : decode cX7_init 40 = .ok (.aload_n 0, 1) := by decide +kernel
theorem dX7_init_41 : decode cX7_init 41 = .ok (.bipush 16, 2) := by decide +kernel
theorem dX7_init_43 : decode cX7_init 43 = .ok (.newarray .int, 2) := by decide +kernel
theorem dX7_init_45 : decode cX7_init 45 = .ok (.putfield 24, 3) := by decide +kernel
theorem dX7_init_48 : decode cX7_init 48 = .ok (.aload_n 0, 1) := by decide +kernel
theorem dX7_init_49 : decode cX7_init 49 = .ok (.bipush 16, 2) := by decide +kernel
theorem dX7_init_51 : decode cX7_init 51 = .ok (.newarray .int, 2) := by decide +kernel
theorem dX7_init_53 : decode cX7_init 53 = .ok (.putfield 27, 3) := by decide +kernel
theorem dX7_init_56 : decode cX7_init 56 = .ok (.aload_n 0, 1) := by decide +kernel
theorem dX7_init_57 : decode cX7_init 57 = .ok (.bipush 60, 2) := by decide +kernel
theorem dX7_init_59 : decode cX7_init 59 = .ok (.newarray .int, 2) := by decide +kernel
theorem dX7_init_61 : decode cX7_init 61 = .ok (.putfield 30, 3) := by decide +kernel
theorem dX7_init_64 : decode cX7_init 64 = .ok (.aload_n 0, 1) := by decide +kernel
theorem dX7_init_65 : decode cX7_init 65 = .ok (.bipush 60, 2) := by decide +kernel
theorem dX7_init_67 : decode cX7_init 67 = .ok (.newarray .int, 2) := by decide +kernel
theorem dX7_init_69 : decode cX7_init 69 = .ok (.putfield 33, 3) := by decide +kernel
theorem dX7_init_72 : decode cX7_init 72 = .ok (.aload_n 0, 1) := by decide +kernel
theorem dX7_init_73 : decode cX7_init 73 = .ok (.bipush 60, 2) := by decide +kernel
theorem dX7_init_75 : decode cX7_init 75 = .ok (.newarray .int, 2) := by decide +kernel
theorem dX7_init_77 : decode cX7_init 77 = .ok (.putfield 36, 3) := by decide +kernel
theorem dX7_init_80 : decode cX7_init 80 = .ok (.aload_n 0, 1) := by decide +kernel
theorem dX7_init_81 : decode cX7_init 81 = .ok (.bipush 60, 2) := by decide +kernel
theorem dX7_init_83 : decode cX7_init 83 = .ok (.newarray .int, 2) := by decide +kernel
theorem dX7_init_85 : decode cX7_init 85 = .ok (.putfield 39, 3) := by decide +kernel
theorem dX7_init_88 : decode cX7_init 88 = .ok (.aload_n 0, 1) := by decide +kernel
theorem dX7_init_89 : decode cX7_init 89 = .ok (.bipush 10, 2) := by decide +kernel
theorem dX7_init_91 : decode cX7_init 91 = .ok (.newarray .int, 2) := by decide +kernel
theorem dX7_init_93 : decode cX7_init 93 = .ok (.putfield 42, 3) := by decide +kernel
theorem dX7_init_96 : decode cX7_init 96 = .ok (.aload_n 0, 1) := by decide +kernel
theorem dX7_init_97 : decode cX7_init 97 = .ok (.bipush 40, 2) := by decide +kernel
theorem dX7_init_99 : decode cX7_init 99 = .ok (.newarray .int, 2) := by decide +kernel
theorem dX7_init_101 : decode cX7_init 101 = .ok (.putfield 45, 3) := by decide +kernel
theorem dX7_init_104 : decode cX7_init 104 = .ok (.aload_n 0, 1) := by decide +kernel
theorem dX7_init_105 : decode cX7_init 105 = .ok (.bipush 40, 2) := by decide +kernel
theorem dX7_init_107 : decode cX7_init 107 = .ok (.newarray .int, 2) := by decide +kernel
theorem dX7_init_109 : decode cX7_init 109 = .ok (.putfield 48, 3) := by decide +kernel
theorem dX7_init_112 : decode cX7_init 112 = .ok (.aload_n 0, 1) := by decide +kernel
theorem dX7_init_113 : decode cX7_init 113 = .ok (.bipush 40, 2) := by decide +kernel
theorem dX7_init_115 : decode cX7_init 115 = .ok (.newarray .int, 2) := by decide +kernel
theorem dX7_init_117 : decode cX7_init 117 = .ok (.putfield 51, 3) := by decide +kernel
theorem dX7_init_120 : decode cX7_init 120 = .ok (.aload_n 0, 1) := by decide +kernel
theorem dX7_init_121 : decode cX7_init 121 = .ok (.bipush 40, 2) := by decide +kernel
theorem dX7_init_123 : decode cX7_init 123 = .ok (.newarray .int, 2) := by decide +kernel
theorem dX7_init_125 : decode cX7_init 125 = .ok (.putfield 54, 3) := by decide +kernel
theorem dX7_init_128 : decode cX7_init 128 = .ok (.aload_n 0, 1) := by decide +kernel
theorem dX7_init_129 : decode cX7_init 129 = .ok (.iconst 0, 1) := by decide +kernel
theorem dX7_init_130 : decode cX7_init 130 = .ok (.putfield 57, 3) := by decide +kernel
theorem dX7_init_133 : decode cX7_init 133 = .ok (.aload_n 0, 1) := by decide +kernel
theorem dX7_init_134 : decode cX7_init 134 = .ok (.iconst 0, 1) := by decide +kernel
theorem dX7_init_135 : decode cX7_init 135 = .ok (.putfield 61, 3) := by decide +kernel
theorem dX7_init_138 : decode cX7_init 138 = .ok (.aload_n 0, 1) := by decide +kernel
theorem dX7_init_139 : decode cX7_init 139 = .ok (.iconst 0, 1) := by decide +kernel
theorem dX7_init_140 : decode cX7_init 140 = .ok (.putfield 64, 3) := by decide +kernel
theorem dX7_init_143 : decode cX7_init 143 = .ok (.aload_n 0, 1) := by decide +kernel
theorem dX7_init_144 : decode cX7_init 144 = .ok (.iconst 0, 1) := by decide +kernel
theorem dX7_init_145 : decode cX7_init 145 = .ok (.putfield 67, 3) := by decide +kernel
theorem dX7_init_148 : decode cX7_init 148 = .ok (.aload_n 0, 1) := by decide +kernel
theorem dX7_init_149 : decode cX7_init 149 = .ok (.iconst 0, 1) := by decide +kernel
theorem dX7_init_150 : decode cX7_init 150 = .ok (.putfield 70, 3) := by decide +kernel
theorem dX7_init_153 : decode cX7_init 153 = .ok (.aload_n 0, 1) := by decide +kernel
theorem dX7_init_154 : decode cX7_init 154 = .ok (.getfield 15, 3) := by decide +kernel
theorem dX7_init_157 : decode cX7_init 157 = .ok (.bipush 99, 2) := by decide +kernel
theorem dX7_init_159 : decode cX7_init 159 = .ok (.invokestatic 73, 3) := by decide +kernel
theorem dX7_init_162 : decode cX7_init 162 = .ok (.aload_n 0, 1) := by decide +kernel
theorem dX7_init_163 : decode cX7_init 163 = .ok (.getfield 21, 3) := by decide +kernel
theorem dX7_init_166 : decode cX7_init 166 = .ok (.iconst (-1), 1) := by decide +kernel
theorem dX7_init_167 : decode cX7_init 167 = .ok (.invokestatic 73, 3) := by decide +kernel
theorem dX7_init_170 : decode cX7_init 170 = .ok (.return_, 1) := by decide +kernel
theorem dX7_take_0 : decode cX7_take 0 = .ok (.aload_n 1, 1) := by decide +kernel
theorem dX7_take_1 : decode cX7_take 1 = .ok (.getfield 9, 3) := by decide +kernel
theorem dX7_take_4 : decode cX7_take 4 = .ok (.iconst 0, 1) := by decide +kernel
theorem dX7_take_5 : decode cX7_take 5 = .ok (.aload_n 0, 1) := by decide +kernel
theorem dX7_take_6 : decode cX7_take 6 = .ok (.getfield 9, 3) := by decide +kernel
theorem dX7_take_9 : decode cX7_take 9 = .ok (.iconst 0, 1) := by decide +kernel
theorem dX7_take_10 : decode cX7_take 10 = .ok (.sipush 256, 3) := by decide +kernel
theorem dX7_take_13 : decode cX7_take 13 = .ok (.invokestatic 79, 3) := by decide +kernel
theorem dX7_take_16 : decode cX7_take 16 = .ok (.aload_n 1, 1) := by decide +kernel
theorem dX7_take_17 : decode cX7_take 17 = .ok (.getfield 15, 3) := by decide +kernel
theorem dX7_take_20 : decode cX7_take 20 = .ok (.iconst 0, 1) := by decide +kernel
theorem dX7_take_21 : decode cX7_take 21 = .ok (.aload_n 0, 1) := by decide +kernel
theorem dX7_take_22 : decode cX7_take 22 = .ok (.getfield 15, 3) := by decide +kernel
theorem dX7_take_25 : decode cX7_take 25 = .ok (.iconst 0, 1) := by decide +kernel
theorem dX7_take_26 : decode cX7_take 26 = .ok (.sipush 256, 3) := by decide +kernel
theorem dX7_take_29 : decode cX7_take 29 = .ok (.invokestatic 79, 3) := by decide +kernel
theorem dX7_take_32 : decode cX7_take 32 = .ok (.aload_n 1, 1) := by decide +kernel
theorem dX7_take_33 : decode cX7_take 33 = .ok (.getfield 18, 3) := by decide +kernel
theorem dX7_take_36 : decode cX7_take 36 = .ok (.iconst 0, 1) := by decide +kernel
theorem dX7_take_37 : decode cX7_take 37 = .ok (.aload_n 0, 1) := by decide +kernel
theorem dX7_take_38 : decode cX7_take 38 = .ok (.getfield 18, 3) := by decide +kernel
theorem dX7_take_41 : decode cX7_take 41 = .ok (.iconst 0, 1) := by decide +kernel
theorem dX7_take_42 : decode cX7_take 42 = .ok (.sipush 256, 3) := by decide +kernel
theorem dX7_take_45 : decode cX7_take 45 = .ok (.invokestatic 79, 3) := by decide +kernel
theorem dX7_take_48 : decode cX7_take 48 = .ok (.aload_n 1, 1) := by decide +kernel
theorem dX7_take_49 : decode cX7_take 49 = .ok (.getfield 21, 3) := by decide +kernel
theorem dX7_take_52 : decode cX7_take 52 = .ok (.iconst 0, 1) := by decide +kernel
theorem dX7_take_53 : decode cX7_take 53 = .ok (.aload_n 0, 1) := by decide +kernel
theorem dX7_take_54 : decode cX7_take 54 = .ok (.getfield 21, 3) := by decide +kernel
theorem dX7_take_57 : decode cX7_take 57 = .ok (.iconst 0, 1) := by decide +kernel
theorem dX7_take_58 : decode cX7_take 58 = .ok (.sipush 256, 3) := by decide +kernel
theorem dX7_take_61 : decode cX7_take 61 = .ok (.invokestatic 79, 3) := by decide +kernel
theorem dX7_take_64 : decode cX7_take 64 = .ok (.aload_n 1, 1) := by decide +kernel
theorem dX7_take_65 : decode cX7_take 65 = .ok (.getfield 24, 3) := by decide +kernel
theorem dX7_take_68 : decode cX7_take 68 = .ok (.iconst 0, 1) := by decide +kernel
theorem dX7_take_69 : decode cX7_take 69 = .ok (.aload_n 0, 1) := by decide +kernel
theorem dX7_take_70 : decode cX7_take 70 = .ok (.getfield 24, 3) := by decide +kernel
theorem dX7_take_73 : decode cX7_take 73 = .ok (.iconst 0, 1) := by decide +kernel
theorem dX7_take_74 : decode cX7_take 74 = .ok (.bipush 16, 2) := by decide +kernel
theorem dX7_take_76 : decode cX7_take 76 = .ok (.invokestatic 79, 3) := by decide +kernel
theorem dX7_take_79 : decode cX7_take 79 = .ok (.aload_n 1, 1) := by decide +kernel
theorem dX7_take_80 : decode cX7_take 80 = .ok (.getfield 27, 3) := by decide +kernel
theorem dX7_take_83 : decode cX7_take 83 = .ok (.iconst 0, 1) := by decide +kernel
theorem dX7_take_84 : decode cX7_take 84 = .ok (.aload_n 0, 1) := by decide +kernel
theorem dX7_take_85 : decode cX7_take 85 = .ok (.getfield 27, 3) := by decide +kernel
theorem dX7_take_88 : decode cX7_take 88 = .ok (.iconst 0, 1) := by decide +kernel
theorem dX7_take_89 : decode cX7_take 89 = .ok (.bipush 16, 2) := by decide +kernel
theorem dX7_take_91 : decode cX7_take 91 = .ok (.invokestatic 79, 3) := by decide +kernel
theorem dX7_take_94 : decode cX7_take 94 = .ok (.aload_n 1, 1) := by decide +kernel
theorem dX7_take_95 : decode cX7_take 95 = .ok (.getfield 30, 3) := by decide +kernel
theorem dX7_take_98 : decode cX7_take 98 = .ok (.iconst 0, 1) := by decide +kernel
theorem dX7_take_99 : decode cX7_take 99 = .ok (.aload_n 0, 1) := by decide +kernel
theorem dX7_take_100 : decode cX7_take 100 = .ok (.getfield 30, 3) := by decide +kernel
theorem dX7_take_103 : decode cX7_take 103 = .ok (.iconst 0, 1) := by decide +kernel
theorem dX7_take_104 : decode cX7_take 104 = .ok (.bipush 60, 2) := by decide +kernel
theorem dX7_take_106 : decode cX7_take 106 = .ok (.invokestatic 79, 3) := by decide +kernel
theorem dX7_take_109 : decode cX7_take 109 = .ok (.aload_n 1, 1) := by decide +kernel
theorem dX7_take_110 : decode cX7_take 110 = .ok (.getfield 33, 3) := by decide +kernel
theorem dX7_take_113 : decode cX7_take 113 = .ok (.iconst 0, 1) := by decide +kernel
theorem dX7_take_114 : decode cX7_take 114 = .ok (.aload_n 0, 1) := by decide +kernel
theorem dX7_take_115 : decode cX7_take 115 = .ok (.getfield 33, 3) := by decide +kernel
theorem dX7_take_118 : decode cX7_take 118 = .ok (.iconst 0, 1) := by decide +kernel
theorem dX7_take_119 : decode cX7_take 119 = .ok (.bipush 60, 2) := by decide +kernel
theorem dX7_take_121 : decode cX7_take 121 = .ok (.invokestatic 79, 3) := by decide +kernel
theorem dX7_take_124 : decode cX7_take 124 = .ok (.aload_n 1, 1) := by decide +kernel
theorem dX7_take_125 : decode cX7_take 125 = .ok (.getfield 36, 3) := by decide +kernel
theorem dX7_take_128 : decode cX7_take 128 = .ok (.iconst 0, 1) := by decide +kernel
theorem dX7_take_129 : decode cX7_take 129 = .ok (.aload_n 0, 1) := by decide +kernel
theorem dX7_take_130 : decode cX7_take 130 = .ok (.getfield 36, 3) := by decide +kernel
theorem dX7_take_133 : decode cX7_take 133 = .ok (.iconst 0, 1) := by decide +kernel
theorem dX7_take_134 : decode cX7_take 134 = .ok (.bipush 60, 2) := by decide +kernel
theorem dX7_take_136 : decode cX7_take 136 = .ok (.invokestatic 79, 3) := by decide +kernel
theorem dX7_take_139 : decode cX7_take 139 = .ok (.aload_n 1, 1) := by decide +kernel
theorem dX7_take_140 : decode cX7_take 140 = .ok (.getfield 39, 3) := by decide +kernel
theorem dX7_take_143 : decode cX7_take 143 = .ok (.iconst 0, 1) := by decide +kernel
theorem dX7_take_144 : decode cX7_take 144 = .ok (.aload_n 0, 1) := by decide +kernel
theorem dX7_take_145 : decode cX7_take 145 = .ok (.getfield 39, 3) := by decide +kernel
theorem dX7_take_148 : decode cX7_take 148 = .ok (.iconst 0, 1) := by decide +kernel
theorem dX7_take_149 : decode cX7_take 149 = .ok (.bipush 60, 2) := by decide +kernel
theorem dX7_take_151 : decode cX7_take 151 = .ok (.invokestatic 79, 3) := by decide +kernel
theorem dX7_take_154 : decode cX7_take 154 = .ok (.aload_n 1, 1) := by decide +kernel
theorem dX7_take_155 : decode cX7_take 155 = .ok (.getfield 42, 3) := by decide +kernel
theorem dX7_take_158 : decode cX7_take 158 = .ok (.iconst 0, 1) := by decide +kernel
theorem dX7_take_159 : decode cX7_take 159 = .ok (.aload_n 0, 1) := by decide +kernel
theorem dX7_take_160 : decode cX7_take 160 = .ok (.getfield 42, 3) := by decide +kernel
theorem dX7_take_163 : decode cX7_take 163 = .ok (.iconst 0, 1) := by decide +kernel
theorem dX7_take_164 : decode cX7_take 164 = .ok (.bipush 10, 2) := by decide +kernel
theorem dX7_take_166 : decode cX7_take 166 = .ok (.invokestatic 79, 3) := by decide +kernel
theorem dX7_take_169 : decode cX7_take 169 = .ok (.aload_n 1, 1) := by decide +kernel
theorem dX7_take_170 : decode cX7_take 170 = .ok (.getfield 45, 3) := by decide +kernel
theorem dX7_take_173 : decode cX7_take 173 = .ok (.iconst 0, 1) := by decide +kernel
theorem dX7_take_174 : decode cX7_take 174 = .ok (.aload_n 0, 1) := by decide +kernel
theorem dX7_take_175 : decode cX7_take 175 = .ok (.getfield 45, 3) := by decide +kernel
theorem dX7_take_178 : decode cX7_take 178 = .ok (.iconst 0, 1) := by decide +kernel
theorem dX7_take_179 : decode cX7_take 179 = .ok (.bipush 40, 2) := by decide +kernel
theorem dX7_take_181 : decode cX7_take 181 = .ok (.invokestatic 79, 3) := by decide +kernel
theorem dX7_take_184 : decode cX7_take 184 = .ok (.aload_n 1, 1) := by decide +kernel
theorem dX7_take_185 : decode cX7_take 185 = .ok (.getfield 48, 3) := by decide +kernel
theorem dX7_take_188 : decode cX7_take 188 = .ok (.iconst 0, 1) := by decide +kernel
theorem dX7_take_189 : decode cX7_take 189 = .ok (.aload_n 0, 1) := by decide +kernel
theorem dX7_take_190 : decode cX7_take 190 = .ok (.getfield 48, 3) := by decide +kernel
theorem dX7_take_193 : decode cX7_take 193 = .ok (.iconst 0, 1) := by decide +kernel
theorem dX7_take_194 : decode cX7_take 194 = .ok (.bipush 40, 2) := by decide +kernel
theorem dX7_take_196 : decode cX7_take 196 = .ok (.invokestatic 79, 3) := by decide +kernel
theorem dX7_take_199 : decode cX7_take 199 = .ok (.aload_n 1, 1) := by decide +kernel
theorem dX7_take_200 : decode cX7_take 200 = .ok (.getfield 51, 3) := by decide +kernel
theorem dX7_take_203 : decode cX7_take 203 = .ok (.iconst 0, 1) := by decide +kernel
theorem dX7_take_204 : decode cX7_take 204 = .ok (.aload_n 0, 1) := by decide +kernel
theorem dX7_take_205 : decode cX7_take 205 = .ok (.getfield 51, 3) := by decide +kernel
theorem dX7_take_208 : decode cX7_take 208 = .ok (.iconst 0, 1) := by decide +kernel
theorem dX7_take_209 : decode cX7_take 209 = .ok (.bipush 40, 2) := by decide +kernel
theorem dX7_take_211 : decode cX7_take 211 = .ok (.invokestatic 79, 3) := by decide +kernel
theorem dX7_take_214 : decode cX7_take 214 = .ok (.aload_n 1, 1) := by decide +kernel
theorem dX7_take_215 : decode cX7_take 215 = .ok (.getfield 54, 3) := by decide +kernel
theorem dX7_take_218 : decode cX7_take 218 = .ok (.iconst 0, 1) := by decide +kernel
theorem dX7_take_219 : decode cX7_take 219 = .ok (.aload_n 0, 1) := by decide +kernel
theorem dX7_take_220 : decode cX7_take 220 = .ok (.getfield 54, 3) := by decide +kernel
theorem dX7_take_223 : decode cX7_take 223 = .ok (.iconst 0, 1) := by decide +kernel
theorem dX7_take_224 : decode cX7_take 224 = .ok (.bipush 40, 2) := by decide +kernel
theorem dX7_take_226 : decode cX7_take 226 = .ok (.invokestatic 79, 3) := by decide +kernel
theorem dX7_take_229 : decode cX7_take 229 = .ok (.aload_n 0, 1) := by decide +kernel
theorem dX7_take_230 : decode cX7_take 230 = .ok (.aload_n 1, 1) := by decide +kernel
theorem dX7_take_231 : decode cX7_take 231 = .ok (.getfield 57, 3) := by decide +kernel
theorem dX7_take_234 : decode cX7_take 234 = .ok (.putfield 57, 3) := by decide +kernel
theorem dX7_take_237 : decode cX7_take 237 = .ok (.aload_n 0, 1) := by decide +kernel
theorem dX7_take_238 : decode cX7_take 238 = .ok (.aload_n 1, 1) := by decide +kernel
theorem dX7_take_239 : decode cX7_take 239 = .ok (.getfield 61, 3) := by decide +kernel
theorem dX7_take_242 : decode cX7_take 242 = .ok (.putfield 61, 3) := by decide +kernel
theorem dX7_take_245 : decode cX7_take 245 = .ok (.aload_n 0, 1) := by decide +kernel
theorem dX7_take_246 : decode cX7_take 246 = .ok (.aload_n 1, 1) := by decide +kernel
theorem dX7_take_247 : decode cX7_take 247 = .ok (.getfield 64, 3) := by decide +kernel
theorem dX7_take_250 : decode cX7_take 250 = .ok (.putfield 64, 3) := by decide +kernel
theorem dX7_take_253 : decode cX7_take 253 = .ok (.aload_n 0, 1) := by decide +kernel
theorem dX7_take_254 : decode cX7_take 254 = .ok (.aload_n 1, 1) := by decide +kernel
theorem dX7_take_255 : decode cX7_take 255 = .ok (.getfield 67, 3) := by decide +kernel
theorem dX7_take_258 : decode cX7_take 258 = .ok (.putfield 67, 3) := by decide +kernel
theorem dX7_take_261 : decode cX7_take 261 = .ok (.aload_n 0, 1) := by decide +kernel
theorem dX7_take_262 : decode cX7_take 262 = .ok (.aload_n 1, 1) := by decide +kernel
theorem dX7_take_263 : decode cX7_take 263 = .ok (.getfield 70, 3) := by decide +kernel
theorem dX7_take_266 : decode cX7_take 266 = .ok (.putfield 70, 3) := by decide +kernel
theorem dX7_take_269 : decode cX7_take 269 = .ok (.return_, 1) := by decide +kernel
theorem dX7_isPlace_0 : decode cX7_isPlace 0 = .ok (.iconst 0, 1) := by decide +kernel
theorem dX7_isPlace_1 : decode cX7_isPlace 1 = .ok (.istore_n 2, 1) := by decide +kernel
theorem dX7_isPlace_2 : decode cX7_isPlace 2 = .ok (.iload_n 2, 1) := by decide +kernel
theorem dX7_isPlace_3 : decode cX7_isPlace 3 = .ok (.aload_n 0, 1) := by decide +kernel
theorem dX7_isPlace_4 : decode cX7_isPlace 4 = .ok (.getfield 67, 3) := by decide +kernel
theorem dX7_isPlace_7 : decode cX7_isPlace 7 = .ok (.if_icmp .ge 21, 3) := by decide +kernel
theorem dX7_isPlace_10 : decode cX7_isPlace 10 = .ok (.aload_n 0, 1) := by decide +kernel
theorem dX7_isPlace_11 : decode cX7_isPlace 11 = .ok (.getfield 42, 3) := by decide +kernel
theorem dX7_isPlace_14 : decode cX7_isPlace 14 = .ok (.iload_n 2, 1) := by decide +kernel
theorem dX7_isPlace_15 : decode cX7_isPlace 15 = .ok (.iaload, 1) := by decide +kernel
theorem dX7_isPlace_16 : decode cX7_isPlace 16 = .ok (.iload_n 1, 1) := by decide +kernel
theorem dX7_isPlace_17 : decode cX7_isPlace 17 = .ok (.if_icmp .ne 5, 3) := by decide +kernel
theorem dX7_isPlace_20 : decode cX7_isPlace 20 = .ok (.iconst 1, 1) := by decide +kernel
theorem dX7_isPlace_21 : decode cX7_isPlace 21 = .ok (.ireturn, 1) := by decide +kernel
theorem dX7_isPlace_22 : decode cX7_isPlace 22 = .ok (.iinc 2 1, 3) := by decide +kernel
theorem dX7_isPlace_25 : decode cX7_isPlace 25 = .ok (.goto (-23), 3) := by decide +kernel
theorem dX7_isPlace_28 : decode cX7_isPlace 28 = .ok (.iconst 0, 1) := by decide +kernel
theorem dX7_isPlace_29 : decode cX7_isPlace 29 = .ok (.ireturn, 1) := by decide +kernel
theorem dX7_countBuckets_0 : decode cX7_countBuckets 0 = .ok (.iconst 0, 1) := by decide +kernel
theorem dX7_countBuckets_1 : decode cX7_countBuckets 1 = .ok (.istore_n 1, 1) := by decide +kernel
theorem dX7_countBuckets_2 : decode cX7_countBuckets 2 = .ok (.iconst 0, 1) := by decide +kernel
theorem dX7_countBuckets_3 : decode cX7_countBuckets 3 = .ok (.istore_n 2, 1) := by decide +kernel
theorem dX7_countBuckets_4 : decode cX7_countBuckets 4 = .ok (.iload_n 2, 1) := by decide +kernel
theorem dX7_countBuckets_5 : decode cX7_countBuckets 5 = .ok (.sipush 256, 3) := by decide +kernel
theorem dX7_countBuckets_8 : decode cX7_countBuckets 8 = .ok (.if_icmp .ge 18, 3) := by decide +kernel
theorem dX7_countBuckets_11 : decode cX7_countBuckets 11 = .ok (.iload_n 1, 1) := by decide +kernel
theorem dX7_countBuckets_12 : decode cX7_countBuckets 12 = .ok (.aload_n 0, 1) := by decide +kernel
theorem dX7_countBuckets_13 : decode cX7_countBuckets 13 = .ok (.getfield 18, 3) := by decide +kernel
theorem dX7_countBuckets_16 : decode cX7_countBuckets 16 = .ok (.iload_n 2, 1) := by decide +kernel
theorem dX7_countBuckets_17 : decode cX7_countBuckets 17 = .ok (.iaload, 1) := by decide +kernel
theorem dX7_countBuckets_18 : decode cX7_countBuckets 18 = .ok (.iadd, 1) := by decide +kernel
theorem dX7_countBuckets_19 : decode cX7_countBuckets 19 = .ok (.istore_n 1, 1) := by decide +kernel
theorem dX7_countBuckets_20 : decode cX7_countBuckets 20 = .ok (.iinc 2 1, 3) := by decide +kernel
theorem dX7_countBuckets_23 : decode cX7_countBuckets 23 = .ok (.goto (-19), 3) := by decide +kernel
theorem dX7_countBuckets_26 : decode cX7_countBuckets 26 = .ok (.iload_n 1, 1) := by decide +kernel
theorem dX7_countBuckets_27 : decode cX7_countBuckets 27 = .ok (.ireturn, 1) := by decide +kernel
theorem dX8_init_0 : decode cX8_init 0 = .ok (.aload_n 0, 1) := by decide +kernel
theorem dX8_init_1 : decode cX8_init 1 = .ok (.invokespecial 3, 3) := by decide +kernel
theorem dX8_init_4 : decode cX8_init 4 = .ok (.aload_n 0, 1) := by decide +kernel
theorem dX8_init_5 : decode cX8_init 5 = .ok (.sipush 256, 3) := by decide +kernel
theorem dX8_init_8 : decode cX8_init 8 = .ok (.newarray .boolean, 2) := by decide +kernel
theorem dX8_init_10 : decode cX8_init 10 = .ok (.putfield 9, 3) := by decide +kernel
theorem dX8_init_13 : decode cX8_init 13 = .ok (.aload_n 0, 1) := by decide +kernel
theorem dX8_init_14 : decode cX8_init 14 = .ok (.sipush 256, 3) := by decide +kernel
theorem dX8_init_17 : decode cX8_init 17 = .ok (.newarray .int, 2) := by decide +kernel
theorem dX8_init_19 : decode cX8_init 19 = .ok (.putfield 15, 3) := by decide +kernel
theorem dX8_init_22 : decode cX8_init 22 = .ok (.aload_n 0, 1) := by decide +kernel
theorem dX8_init_23 : decode cX8_init 23 = .ok (.new 19, 3) := by decide +kernel
theorem dX8_init_26 : decode cX8_init 26 = .ok (.dup, 1) := by decide +kernel
theorem dX8_init_27 : decode cX8_init 27 = .ok (.invokespecial 21, 3) := by decide +kernel
theorem dX8_init_30 : decode cX8_init 30 = .ok (.putfield 22, 3) := by decide +kernel
theorem dX8_init_33 : decode cX8_init 33 = .ok (.aload_n 0, 1) := by decide +kernel
theorem dX8_init_34 : decode cX8_init 34 = .ok (.sipush 256, 3) := by decide +kernel
theorem dX8_init_37 : decode cX8_init 37 = .ok (.newarray .int, 2) := by decide +kernel
theorem dX8_init_39 : decode cX8_init 39 = .ok (.putfield 26, 3) := by decide +kernel
theorem dX8_init_42 : decode cX8_init 42 = .ok (.aload_n 0, 1) := by decide +kernel
theorem dX8_init_43 : decode cX8_init 43 = .ok (.bipush 8, 2) := by decide +kernel
theorem dX8_init_45 : decode cX8_init 45 = .ok (.newarray .int, 2) := by decide +kernel
theorem dX8_init_47 : decode cX8_init 47 = .ok (.putfield 29, 3) := by decide +kernel
theorem dX8_init_50 : decode cX8_init 50 = .ok (.aload_n 0, 1) := by decide +kernel
theorem dX8_init_51 : decode cX8_init 51 = .ok (.bipush 16, 2) := by decide +kernel
theorem dX8_init_53 : decode cX8_init 53 = .ok (.newarray .int, 2) := by decide +kernel
theorem dX8_init_55 : decode cX8_init 55 = .ok (.putfield 32, 3) := by decide +kernel
theorem dX8_init_58 : decode cX8_init 58 = .ok (.aload_n 0, 1) := by decide +kernel
theorem dX8_init_59 : decode cX8_init 59 = .ok (.iconst (-1), 1) := by decide +kernel
theorem dX8_init_60 : decode cX8_init 60 = .ok (.putfield 35, 3) := by decide +kernel
theorem dX8_init_63 : decode cX8_init 63 = .ok (.return_, 1) := by decide +kernel
theorem dX8_forget_0 : decode cX8_forget 0 = .ok (.aload_n 0, 1) := by decide +kernel
theorem dX8_forget_1 : decode cX8_forget 1 = .ok (.iconst (-1), 1) := by decide +kernel
theorem dX8_forget_2 : decode cX8_forget 2 = .ok (.putfield 35, 3) := by decide +kernel
theorem dX8_forget_5 : decode cX8_forget 5 = .ok (.return_, 1) := by decide +kernel
theorem dX8_turnTo_0 : decode cX8_turnTo 0 = .ok (.iload_n 1, 1) := by decide +kernel
theorem dX8_turnTo_1 : decode cX8_turnTo 1 = .ok (.aload_n 0, 1) := by decide +kernel
theorem dX8_turnTo_2 : decode cX8_turnTo 2 = .ok (.getfield 35, 3) := by decide +kernel
theorem dX8_turnTo_5 : decode cX8_turnTo 5 = .ok (.if_icmp .ne 4, 3) := by decide +kernel
theorem dX8_turnTo_8 : decode cX8_turnTo 8 = .ok (.return_, 1) := by decide +kernel
theorem dX8_turnTo_9 : decode cX8_turnTo 9 = .ok (.aload_n 0, 1) := by decide +kernel
theorem dX8_turnTo_10 : decode cX8_turnTo 10 = .ok (.iload_n 1, 1) := by decide +kernel
theorem dX8_turnTo_11 : decode cX8_turnTo 11 = .ok (.putfield 35, 3) := by decide +kernel
theorem dX8_turnTo_14 : decode cX8_turnTo 14 = .ok (.iconst 0, 1) := by decide +kernel
theorem dX8_turnTo_15 : decode cX8_turnTo 15 = .ok (.istore_n 2, 1) := by decide +kernel
theorem dX8_turnTo_16 : decode cX8_turnTo 16 = .ok (.iconst 0, 1) := by decide +kernel
theorem dX8_turnTo_17 : decode cX8_turnTo 17 = .ok (.istore_n 3, 1) := by decide +kernel
theorem dX8_turnTo_18 : decode cX8_turnTo 18 = .ok (.iload_n 3, 1) := by decide +kernel
theorem dX8_turnTo_19 : decode cX8_turnTo 19 = .ok (.sipush 256, 3) := by decide +kernel
theorem dX8_turnTo_22 : decode cX8_turnTo 22 = .ok (.if_icmp .ge 70, 3) := by decide +kernel
theorem dX8_turnTo_25 : decode cX8_turnTo 25 = .ok (.aload_n 0, 1) := by decide +kernel
theorem dX8_turnTo_26 : decode cX8_turnTo 26 = .ok (.getfield 9, 3) := by decide +kernel
theorem dX8_turnTo_29 : decode cX8_turnTo 29 = .ok (.iload_n 3, 1) := by decide +kernel
theorem dX8_turnTo_30 : decode cX8_turnTo 30 = .ok (.aload_n 0, 1) := by decide +kernel
theorem dX8_turnTo_31 : decode cX8_turnTo 31 = .ok (.getfield 22, 3) := by decide +kernel
theorem dX8_turnTo_34 : decode cX8_turnTo 34 = .ok (.getfield 39, 3) := by decide +kernel
theorem dX8_turnTo_37 : decode cX8_turnTo 37 = .ok (.iload_n 3, 1) := by decide +kernel
theorem dX8_turnTo_38 : decode cX8_turnTo 38 = .ok (.iaload, 1) := by decide +kernel
theorem dX8_turnTo_39 : decode cX8_turnTo 39 = .ok (.aload_n 0, 1) := by decide +kernel
theorem dX8_turnTo_40 : decode cX8_turnTo 40 = .ok (.getfield 35, 3) := by decide +kernel
theorem dX8_turnTo_43 : decode cX8_turnTo 43 = .ok (.if_icmp .le 7, 3) := by decide +kernel
theorem dX8_turnTo_46 : decode cX8_turnTo 46 = .ok (.iconst 1, 1) := by decide +kernel
theorem dX8_turnTo_47 : decode cX8_turnTo 47 = .ok (.goto 4, 3) := by decide +kernel
theorem dX8_turnTo_50 : decode cX8_turnTo 50 = .ok (.iconst 0, 1) := by decide +kernel
theorem dX8_turnTo_51 : decode cX8_turnTo 51 = .ok (.bastore, 1) := by decide +kernel
theorem dX8_turnTo_52 : decode cX8_turnTo 52 = .ok (.aload_n 0, 1) := by decide +kernel
theorem dX8_turnTo_53 : decode cX8_turnTo 53 = .ok (.getfield 15, 3) := by decide +kernel
theorem dX8_turnTo_56 : decode cX8_turnTo 56 = .ok (.iload_n 3, 1) := by decide +kernel
theorem dX8_turnTo_57 : decode cX8_turnTo 57 = .ok (.bipush 99, 2) := by decide +kernel
theorem dX8_turnTo_59 : decode cX8_turnTo 59 = .ok (.iastore, 1) := by decide +kernel
theorem dX8_turnTo_60 : decode cX8_turnTo 60 = .ok (.aload_n 0, 1) := by decide +kernel
theorem dX8_turnTo_61 : decode cX8_turnTo 61 = .ok (.getfield 9, 3) := by decide +kernel
theorem dX8_turnTo_64 : decode cX8_turnTo 64 = .ok (.iload_n 3, 1) := by decide +kernel
theorem dX8_turnTo_65 : decode cX8_turnTo 65 = .ok (.baload, 1) := by decide +kernel
theorem dX8_turnTo_66 : decode cX8_turnTo 66 = .ok (.ifCond .ne 20, 3) := by decide +kernel
theorem dX8_turnTo_69 : decode cX8_turnTo 69 = .ok (.aload_n 0, 1) := by decide +kernel
theorem dX8_turnTo_70 : decode cX8_turnTo 70 = .ok (.getfield 15, 3) := by decide +kernel
theorem dX8_turnTo_73 : decode cX8_turnTo 73 = .ok (.iload_n 3, 1) := by decide +kernel
theorem dX8_turnTo_74 : decode cX8_turnTo 74 = .ok (.iconst 0, 1) := by decide +kernel
theorem dX8_turnTo_75 : decode cX8_turnTo 75 = .ok (.iastore, 1) := by decide +kernel
theorem dX8_turnTo_76 : decode cX8_turnTo 76 = .ok (.aload_n 0, 1) := by decide +kernel
theorem dX8_turnTo_77 : decode cX8_turnTo 77 = .ok (.getfield 26, 3) := by decide +kernel
theorem dX8_turnTo_80 : decode cX8_turnTo 80 = .ok (.iload_n 2, 1) := by decide +kernel
theorem dX8_turnTo_81 : decode cX8_turnTo 81 = .ok (.iload_n 3, 1) := by decide +kernel
theorem dX8_turnTo_82 : decode cX8_turnTo 82 = .ok (.iastore, 1) := by decide +kernel
theorem dX8_turnTo_83 : decode cX8_turnTo 83 = .ok (.iinc 2 1, 3) := by decide +kernel
theorem dX8_turnTo_86 : decode cX8_turnTo 86 = .ok (.iinc 3 1, 3) := by decide +kernel
theorem dX8_turnTo_89 : decode cX8_turnTo 89 = .ok (.goto (-71), 3) := by decide +kernel
theorem dX8_turnTo_92 : decode cX8_turnTo 92 = .ok (.aload_n 0, 1) := by decide +kernel
theorem dX8_turnTo_93 : decode cX8_turnTo 93 = .ok (.iload_n 2, 1) := by decide +kernel
theorem dX8_turnTo_94 : decode cX8_turnTo 94 = .ok (.invokevirtual 42, 3) := by decide +kernel
theorem dX8_turnTo_97 : decode cX8_turnTo 97 = .ok (.return_, 1) := by decide +kernel
theorem dX8_stepInland_0 : decode cX8_stepInland 0 = .ok (.iload_n 1, 1) := by decide +kernel
theorem dX8_stepInland_1 : decode cX8_stepInland 1 = .ok (.istore_n 2, 1) := by decide +kernel
theorem dX8_stepInland_2 : decode cX8_stepInland 2 = .ok (.iconst 0, 1) := by decide +kernel
theorem dX8_stepInland_3 : decode cX8_stepInland 3 = .ok (.istore_n 3, 1) := by decide +kernel
theorem dX8_stepInland_4 : decode cX8_stepInland 4 = .ok (.iload_n 3, 1) := by decide +kernel
theorem dX8_stepInland_5 : decode cX8_stepInland 5 = .ok (.iload_n 2, 1) := by decide +kernel
theorem dX8_stepInland_6 : decode cX8_stepInland 6 = .ok (.if_icmp .ge 100, 3) := by decide +kernel
theorem dX8_stepInland_9 : decode cX8_stepInland 9 = .ok (.iload_n 3, 1) := by decide +kernel
theorem dX8_stepInland_10 : decode cX8_stepInland 10 = .ok (.sipush 256, 3) := by decide +kernel
theorem dX8_stepInland_13 : decode cX8_stepInland 13 = .ok (.if_icmp .ge 93, 3) := by decide +kernel
theorem dX8_stepInland_16 : decode cX8_stepInland 16 = .ok (.aload_n 0, 1) := by decide +kernel
theorem dX8_stepInland_17 : decode cX8_stepInland 17 = .ok (.getfield 26, 3) := by decide +kernel
theorem dX8_stepInland_20 : decode cX8_stepInland 20 = .ok (.iload_n 3, 1) := by decide +kernel
theorem dX8_stepInland_21 : decode cX8_stepInland 21 = .ok (.iaload, 1) := by decide +kernel
theorem dX8_stepInland_22 : decode cX8_stepInland 22 = .ok (.istore 4, 2) := by decide +kernel
theorem dX8_stepInland_24 : decode cX8_stepInland 24 = .ok (.iconst 0, 1) := by decide +kernel
theorem dX8_stepInland_25 : decode cX8_stepInland 25 = .ok (.istore 5, 2) := by decide +kernel
theorem dX8_stepInland_27 : decode cX8_stepInland 27 = .ok (.iload 5, 2) := by decide +kernel
theorem dX8_stepInland_29 : decode cX8_stepInland 29 = .ok (.iconst 4, 1) := by decide +kernel
theorem dX8_stepInland_30 : decode cX8_stepInland 30 = .ok (.if_icmp .ge 70, 3) := by decide +kernel
theorem dX8_stepInland_33 : decode cX8_stepInland 33 = .ok (.iload 4, 2) := by decide +kernel
theorem dX8_stepInland_35 : decode cX8_stepInland 35 = .ok (.iload 5, 2) := by decide +kernel
theorem dX8_stepInland_37 : decode cX8_stepInland 37 = .ok (.invokestatic 46, 3) := by decide +kernel
theorem dX8_stepInland_40 : decode cX8_stepInland 40 = .ok (.istore 6, 2) := by decide +kernel
theorem dX8_stepInland_42 : decode cX8_stepInland 42 = .ok (.iload 6, 2) := by decide +kernel
theorem dX8_stepInland_44 : decode cX8_stepInland 44 = .ok (.iconst (-1), 1) := by decide +kernel
theorem dX8_stepInland_45 : decode cX8_stepInland 45 = .ok (.if_icmp .eq 49, 3) := by decide +kernel
theorem dX8_stepInland_48 : decode cX8_stepInland 48 = .ok (.aload_n 0, 1) := by decide +kernel
theorem dX8_stepInland_49 : decode cX8_stepInland 49 = .ok (.getfield 15, 3) := by decide +kernel
theorem dX8_stepInland_52 : decode cX8_stepInland 52 = .ok (.iload 6, 2) := by decide +kernel
theorem dX8_stepInland_54 : decode cX8_stepInland 54 = .ok (.iaload, 1) := by decide +kernel
theorem dX8_stepInland_55 : decode cX8_stepInland 55 = .ok (.bipush 99, 2) := by decide +kernel
theorem dX8_stepInland_57 : decode cX8_stepInland 57 = .ok (.if_icmp .ne 37, 3) := by decide +kernel
theorem dX8_stepInland_60 : decode cX8_stepInland 60 = .ok (.iload_n 2, 1) := by decide +kernel
theorem dX8_stepInland_61 : decode cX8_stepInland 61 = .ok (.sipush 256, 3) := by decide +kernel
theorem dX8_stepInland_64 : decode cX8_stepInland 64 = .ok (.if_icmp .ge 30, 3) := by decide +kernel
theorem dX8_stepInland_67 : decode cX8_stepInland 67 = .ok (.aload_n 0, 1) := by decide +kernel
theorem dX8_stepInland_68 : decode cX8_stepInland 68 = .ok (.getfield 15, 3) := by decide +kernel
theorem dX8_stepInland_71 : decode cX8_stepInland 71 = .ok (.iload 6, 2) := by decide +kernel
theorem dX8_stepInland_73 : decode cX8_stepInland 73 = .ok (.aload_n 0, 1) := by decide +kernel
theorem dX8_stepInland_74 : decode cX8_stepInland 74 = .ok (.getfield 15, 3) := by decide +kernel
theorem dX8_stepInland_77 : decode cX8_stepInland 77 = .ok (.iload 4, 2) := by decide +kernel
theorem dX8_stepInland_79 : decode cX8_stepInland 79 = .ok (.iaload, 1) := by decide +kernel
theorem dX8_stepInland_80 : decode cX8_stepInland 80 = .ok (.iconst 1, 1) := by decide +kernel
theorem dX8_stepInland_81 : decode cX8_stepInland 81 = .ok (.iadd, 1) := by decide +kernel
theorem dX8_stepInland_82 : decode cX8_stepInland 82 = .ok (.iastore, 1) := by decide +kernel
theorem dX8_stepInland_83 : decode cX8_stepInland 83 = .ok (.aload_n 0, 1) := by decide +kernel
theorem dX8_stepInland_84 : decode cX8_stepInland 84 = .ok (.getfield 26, 3) := by decide +kernel
theorem dX8_stepInland_87 : decode cX8_stepInland 87 = .ok (.iload_n 2, 1) := by decide +kernel
theorem dX8_stepInland_88 : decode cX8_stepInland 88 = .ok (.iload 6, 2) := by decide +kernel
theorem dX8_stepInland_90 : decode cX8_stepInland 90 = .ok (.iastore, 1) := by decide +kernel
theorem dX8_stepInland_91 : decode cX8_stepInland 91 = .ok (.iinc 2 1, 3) := by decide +kernel
theorem dX8_stepInland_94 : decode cX8_stepInland 94 = .ok (.iinc 5 1, 3) := by decide +kernel
theorem dX8_stepInland_97 : decode cX8_stepInland 97 = .ok (.goto (-70), 3) := by decide +kernel
theorem dX8_stepInland_100 : decode cX8_stepInland 100 = .ok (.iinc 3 1, 3) := by decide +kernel
theorem dX8_stepInland_103 : decode cX8_stepInland 103 = .ok (.goto (-99), 3) := by decide +kernel
theorem dX8_stepInland_106 : decode cX8_stepInland 106 = .ok (.return_, 1) := by decide +kernel
theorem dX8_heightOf_0 : decode cX8_heightOf 0 = .ok (.aload_n 0, 1) := by decide +kernel
theorem dX8_heightOf_1 : decode cX8_heightOf 1 = .ok (.getfield 9, 3) := by decide +kernel
theorem dX8_heightOf_4 : decode cX8_heightOf 4 = .ok (.iload_n 1, 1) := by decide +kernel
theorem dX8_heightOf_5 : decode cX8_heightOf 5 = .ok (.baload, 1) := by decide +kernel
theorem dX8_heightOf_6 : decode cX8_heightOf 6 = .ok (.ifCond .eq 22, 3) := by decide +kernel
theorem dX8_heightOf_9 : decode cX8_heightOf 9 = .ok (.aload_n 0, 1) := by decide +kernel
theorem dX8_heightOf_10 : decode cX8_heightOf 10 = .ok (.getfield 22, 3) := by decide +kernel
theorem dX8_heightOf_13 : decode cX8_heightOf 13 = .ok (.getfield 39, 3) := by decide +kernel
theorem dX8_heightOf_16 : decode cX8_heightOf 16 = .ok (.iload_n 1, 1) := by decide +kernel
theorem dX8_heightOf_17 : decode cX8_heightOf 17 = .ok (.iaload, 1) := by decide +kernel
theorem dX8_heightOf_18 : decode cX8_heightOf 18 = .ok (.aload_n 0, 1) := by decide +kernel
theorem dX8_heightOf_19 : decode cX8_heightOf 19 = .ok (.getfield 35, 3) := by decide +kernel
theorem dX8_heightOf_22 : decode cX8_heightOf 22 = .ok (.isub, 1) := by decide +kernel
theorem dX8_heightOf_23 : decode cX8_heightOf 23 = .ok (.iconst 2, 1) := by decide +kernel
theorem dX8_heightOf_24 : decode cX8_heightOf 24 = .ok (.idiv, 1) := by decide +kernel
theorem dX8_heightOf_25 : decode cX8_heightOf 25 = .ok (.goto 4, 3) := by decide +kernel
theorem dX8_heightOf_28 : decode cX8_heightOf 28 = .ok (.iconst 0, 1) := by decide +kernel
theorem dX8_heightOf_29 : decode cX8_heightOf 29 = .ok (.ireturn, 1) := by decide +kernel
theorem dX8_standsTo_0 : decode cX8_standsTo 0 = .ok (.aload_n 0, 1) := by decide +kernel
theorem dX8_standsTo_1 : decode cX8_standsTo 1 = .ok (.iload_n 1, 1) := by decide +kernel
theorem dX8_standsTo_2 : decode cX8_standsTo 2 = .ok (.invokevirtual 50, 3) := by decide +kernel
theorem dX8_standsTo_5 : decode cX8_standsTo 5 = .ok (.iload_n 2, 1) := by decide +kernel
theorem dX8_standsTo_6 : decode cX8_standsTo 6 = .ok (.aload_n 0, 1) := by decide +kernel
theorem dX8_standsTo_7 : decode cX8_standsTo 7 = .ok (.getfield 15, 3) := by decide +kernel
theorem dX8_standsTo_10 : decode cX8_standsTo 10 = .ok (.iload_n 1, 1) := by decide +kernel
theorem dX8_standsTo_11 : decode cX8_standsTo 11 = .ok (.iaload, 1) := by decide +kernel
theorem dX8_standsTo_12 : decode cX8_standsTo 12 = .ok (.imul, 1) := by decide +kernel
theorem dX8_standsTo_13 : decode cX8_standsTo 13 = .ok (.iadd, 1) := by decide +kernel
theorem dX8_standsTo_14 : decode cX8_standsTo 14 = .ok (.ireturn, 1) := by decide +kernel
theorem dX8_wordsOf_0 : decode cX8_wordsOf 0 = .ok (.aload_n 0, 1) := by decide +kernel
theorem dX8_wordsOf_1 : decode cX8_wordsOf 1 = .ok (.getfield 29, 3) := by decide +kernel
theorem dX8_wordsOf_4 : decode cX8_wordsOf 4 = .ok (.iconst 0, 1) := by decide +kernel
theorem dX8_wordsOf_5 : decode cX8_wordsOf 5 = .ok (.iload_n 1, 1) := by decide +kernel
theorem dX8_wordsOf_6 : decode cX8_wordsOf 6 = .ok (.bipush 16, 2) := by decide +kernel
theorem dX8_wordsOf_8 : decode cX8_wordsOf 8 = .ok (.irem, 1) := by decide +kernel
theorem dX8_wordsOf_9 : decode cX8_wordsOf 9 = .ok (.iastore, 1) := by decide +kernel
theorem dX8_wordsOf_10 : decode cX8_wordsOf 10 = .ok (.aload_n 0, 1) := by decide +kernel
theorem dX8_wordsOf_11 : decode cX8_wordsOf 11 = .ok (.getfield 29, 3) := by decide +kernel
theorem dX8_wordsOf_14 : decode cX8_wordsOf 14 = .ok (.iconst 1, 1) := by decide +kernel
theorem dX8_wordsOf_15 : decode cX8_wordsOf 15 = .ok (.iload_n 1, 1) := by decide +kernel
theorem dX8_wordsOf_16 : decode cX8_wordsOf 16 = .ok (.bipush 16, 2) := by decide +kernel
theorem dX8_wordsOf_18 : decode cX8_wordsOf 18 = .ok (.idiv, 1) := by decide +kernel
theorem dX8_wordsOf_19 : decode cX8_wordsOf 19 = .ok (.iastore, 1) := by decide +kernel
theorem dX8_wordsOf_20 : decode cX8_wordsOf 20 = .ok (.aload_n 0, 1) := by decide +kernel
theorem dX8_wordsOf_21 : decode cX8_wordsOf 21 = .ok (.getfield 29, 3) := by decide +kernel
theorem dX8_wordsOf_24 : decode cX8_wordsOf 24 = .ok (.iconst 2, 1) := by decide +kernel
theorem dX8_wordsOf_25 : decode cX8_wordsOf 25 = .ok (.iload_n 2, 1) := by decide +kernel
theorem dX8_wordsOf_26 : decode cX8_wordsOf 26 = .ok (.iastore, 1) := by decide +kernel
theorem dX8_wordsOf_27 : decode cX8_wordsOf 27 = .ok (.aload_n 0, 1) := by decide +kernel
theorem dX8_wordsOf_28 : decode cX8_wordsOf 28 = .ok (.getfield 29, 3) := by decide +kernel
theorem dX8_wordsOf_31 : decode cX8_wordsOf 31 = .ok (.iconst 3, 1) := by decide +kernel
theorem dX8_wordsOf_32 : decode cX8_wordsOf 32 = .ok (.aload_n 0, 1) := by decide +kernel
theorem dX8_wordsOf_33 : decode cX8_wordsOf 33 = .ok (.iload_n 1, 1) := by decide +kernel
theorem dX8_wordsOf_34 : decode cX8_wordsOf 34 = .ok (.invokevirtual 50, 3) := by decide +kernel
theorem dX8_wordsOf_37 : decode cX8_wordsOf 37 = .ok (.iastore, 1) := by decide +kernel
theorem dX8_wordsOf_38 : decode cX8_wordsOf 38 = .ok (.aload_n 0, 1) := by decide +kernel
theorem dX8_wordsOf_39 : decode cX8_wordsOf 39 = .ok (.getfield 29, 3) := by decide +kernel
theorem dX8_wordsOf_42 : decode cX8_wordsOf 42 = .ok (.iconst 4, 1) := by decide +kernel
theorem dX8_wordsOf_43 : decode cX8_wordsOf 43 = .ok (.aload_n 0, 1) := by decide +kernel
theorem dX8_wordsOf_44 : decode cX8_wordsOf 44 = .ok (.getfield 22, 3) := by decide +kernel
theorem dX8_wordsOf_47 : decode cX8_wordsOf 47 = .ok (.getfield 54, 3) := by decide +kernel
theorem dX8_wordsOf_50 : decode cX8_wordsOf 50 = .ok (.iload_n 1, 1) := by decide +kernel
theorem dX8_wordsOf_51 : decode cX8_wordsOf 51 = .ok (.iaload, 1) := by decide +kernel
theorem dX8_wordsOf_52 : decode cX8_wordsOf 52 = .ok (.iastore, 1) := by decide +kernel
theorem dX8_wordsOf_53 : decode cX8_wordsOf 53 = .ok (.aload_n 0, 1) := by decide +kernel
theorem dX8_wordsOf_54 : decode cX8_wordsOf 54 = .ok (.getfield 29, 3) := by decide +kernel
theorem dX8_wordsOf_57 : decode cX8_wordsOf 57 = .ok (.iconst 5, 1) := by decide +kernel
theorem dX8_wordsOf_58 : decode cX8_wordsOf 58 = .ok (.aload_n 0, 1) := by decide +kernel
theorem dX8_wordsOf_59 : decode cX8_wordsOf 59 = .ok (.getfield 15, 3) := by decide +kernel
theorem dX8_wordsOf_62 : decode cX8_wordsOf 62 = .ok (.iload_n 1, 1) := by decide +kernel
theorem dX8_wordsOf_63 : decode cX8_wordsOf 63 = .ok (.iaload, 1) := by decide +kernel
theorem dX8_wordsOf_64 : decode cX8_wordsOf 64 = .ok (.iastore, 1) := by decide +kernel
theorem dX8_wordsOf_65 : decode cX8_wordsOf 65 = .ok (.aload_n 0, 1) := by decide +kernel
theorem dX8_wordsOf_66 : decode cX8_wordsOf 66 = .ok (.getfield 29, 3) := by decide +kernel
theorem dX8_wordsOf_69 : decode cX8_wordsOf 69 = .ok (.bipush 6, 2) := by decide +kernel
theorem dX8_wordsOf_71 : decode cX8_wordsOf 71 = .ok (.aload_n 0, 1) := by decide +kernel
theorem dX8_wordsOf_72 : decode cX8_wordsOf 72 = .ok (.getfield 22, 3) := by decide +kernel
theorem dX8_wordsOf_75 : decode cX8_wordsOf 75 = .ok (.getfield 57, 3) := by decide +kernel
theorem dX8_wordsOf_78 : decode cX8_wordsOf 78 = .ok (.iload_n 1, 1) := by decide +kernel
theorem dX8_wordsOf_79 : decode cX8_wordsOf 79 = .ok (.iaload, 1) := by decide +kernel
theorem dX8_wordsOf_80 : decode cX8_wordsOf 80 = .ok (.iastore, 1) := by decide +kernel
theorem dX8_wordsOf_81 : decode cX8_wordsOf 81 = .ok (.aload_n 0, 1) := by decide +kernel
theorem dX8_wordsOf_82 : decode cX8_wordsOf 82 = .ok (.getfield 29, 3) := by decide +kernel
theorem dX8_wordsOf_85 : decode cX8_wordsOf 85 = .ok (.areturn, 1) := by decide +kernel
theorem dX8_kindOf_0 : decode cX8_kindOf 0 = .ok (.aload_n 0, 1) := by decide +kernel
theorem dX8_kindOf_1 : decode cX8_kindOf 1 = .ok (.getfield 22, 3) := by decide +kernel
theorem dX8_kindOf_4 : decode cX8_kindOf 4 = .ok (.getfield 54, 3) := by decide +kernel
theorem dX8_kindOf_7 : decode cX8_kindOf 7 = .ok (.iload_n 1, 1) := by decide +kernel
theorem dX8_kindOf_8 : decode cX8_kindOf 8 = .ok (.iaload, 1) := by decide +kernel
theorem dX8_kindOf_9 : decode cX8_kindOf 9 = .ok (.bipush 9, 2) := by decide +kernel
