theorem dX8_kindOf_11 : decode cX8_kindOf 11 = .ok (.if_icmp .le 7, 3) := by decide +kernel
theorem dX8_kindOf_14 : decode cX8_kindOf 14 = .ok (.iconst 1, 1) := by decide +kernel
theorem dX8_kindOf_15 : decode cX8_kindOf 15 = .ok (.goto 4, 3) := by decide +kernel
theorem dX8_kindOf_18 : decode cX8_kindOf 18 = .ok (.iconst 0, 1) := by decide +kernel
theorem dX8_kindOf_19 : decode cX8_kindOf 19 = .ok (.istore_n 2, 1) := by decide +kernel
theorem dX8_kindOf_20 : decode cX8_kindOf 20 = .ok (.iload_n 2, 1) := by decide +kernel
theorem dX8_kindOf_21 : decode cX8_kindOf 21 = .ok (.aload_n 0, 1) := by decide +kernel
theorem dX8_kindOf_22 : decode cX8_kindOf 22 = .ok (.getfield 15, 3) := by decide +kernel
theorem dX8_kindOf_25 : decode cX8_kindOf 25 = .ok (.iload_n 1, 1) := by decide +kernel
theorem dX8_kindOf_26 : decode cX8_kindOf 26 = .ok (.iaload, 1) := by decide +kernel
theorem dX8_kindOf_27 : decode cX8_kindOf 27 = .ok (.iconst 3, 1) := by decide +kernel
theorem dX8_kindOf_28 : decode cX8_kindOf 28 = .ok (.if_icmp .ge 7, 3) := by decide +kernel
theorem dX8_kindOf_31 : decode cX8_kindOf 31 = .ok (.iconst 2, 1) := by decide +kernel
theorem dX8_kindOf_32 : decode cX8_kindOf 32 = .ok (.goto 4, 3) := by decide +kernel
theorem dX8_kindOf_35 : decode cX8_kindOf 35 = .ok (.iconst 0, 1) := by decide +kernel
theorem dX8_kindOf_36 : decode cX8_kindOf 36 = .ok (.iadd, 1) := by decide +kernel
theorem dX8_kindOf_37 : decode cX8_kindOf 37 = .ok (.istore_n 2, 1) := by decide +kernel
theorem dX8_kindOf_38 : decode cX8_kindOf 38 = .ok (.iload_n 2, 1) := by decide +kernel
theorem dX8_kindOf_39 : decode cX8_kindOf 39 = .ok (.aload_n 0, 1) := by decide +kernel
theorem dX8_kindOf_40 : decode cX8_kindOf 40 = .ok (.getfield 22, 3) := by decide +kernel
theorem dX8_kindOf_43 : decode cX8_kindOf 43 = .ok (.getfield 57, 3) := by decide +kernel
theorem dX8_kindOf_46 : decode cX8_kindOf 46 = .ok (.iload_n 1, 1) := by decide +kernel
theorem dX8_kindOf_47 : decode cX8_kindOf 47 = .ok (.iaload, 1) := by decide +kernel
theorem dX8_kindOf_48 : decode cX8_kindOf 48 = .ok (.iconst 3, 1) := by decide +kernel
theorem dX8_kindOf_49 : decode cX8_kindOf 49 = .ok (.if_icmp .le 7, 3) := by decide +kernel
theorem dX8_kindOf_52 : decode cX8_kindOf 52 = .ok (.iconst 4, 1) := by decide +kernel
theorem dX8_kindOf_53 : decode cX8_kindOf 53 = .ok (.goto 4, 3) := by decide +kernel
theorem dX8_kindOf_56 : decode cX8_kindOf 56 = .ok (.iconst 0, 1) := by decide +kernel
theorem dX8_kindOf_57 : decode cX8_kindOf 57 = .ok (.iadd, 1) := by decide +kernel
theorem dX8_kindOf_58 : decode cX8_kindOf 58 = .ok (.istore_n 2, 1) := by decide +kernel
theorem dX8_kindOf_59 : decode cX8_kindOf 59 = .ok (.iload_n 2, 1) := by decide +kernel
theorem dX8_kindOf_60 : decode cX8_kindOf 60 = .ok (.aload_n 0, 1) := by decide +kernel
theorem dX8_kindOf_61 : decode cX8_kindOf 61 = .ok (.iload_n 1, 1) := by decide +kernel
theorem dX8_kindOf_62 : decode cX8_kindOf 62 = .ok (.invokevirtual 50, 3) := by decide +kernel
theorem dX8_kindOf_65 : decode cX8_kindOf 65 = .ok (.bipush 20, 2) := by decide +kernel
theorem dX8_kindOf_67 : decode cX8_kindOf 67 = .ok (.if_icmp .ge 8, 3) := by decide +kernel
theorem dX8_kindOf_70 : decode cX8_kindOf 70 = .ok (.bipush 8, 2) := by decide +kernel
theorem dX8_kindOf_72 : decode cX8_kindOf 72 = .ok (.goto 4, 3) := by decide +kernel
theorem dX8_kindOf_75 : decode cX8_kindOf 75 = .ok (.iconst 0, 1) := by decide +kernel
theorem dX8_kindOf_76 : decode cX8_kindOf 76 = .ok (.iadd, 1) := by decide +kernel
theorem dX8_kindOf_77 : decode cX8_kindOf 77 = .ok (.istore_n 2, 1) := by decide +kernel
theorem dX8_kindOf_78 : decode cX8_kindOf 78 = .ok (.iload_n 2, 1) := by decide +kernel
theorem dX8_kindOf_79 : decode cX8_kindOf 79 = .ok (.ireturn, 1) := by decide +kernel
theorem dX8_countKinds_0 : decode cX8_countKinds 0 = .ok (.aload_n 0, 1) := by decide +kernel
theorem dX8_countKinds_1 : decode cX8_countKinds 1 = .ok (.getfield 32, 3) := by decide +kernel
theorem dX8_countKinds_4 : decode cX8_countKinds 4 = .ok (.iconst 0, 1) := by decide +kernel
theorem dX8_countKinds_5 : decode cX8_countKinds 5 = .ok (.invokestatic 60, 3) := by decide +kernel
theorem dX8_countKinds_8 : decode cX8_countKinds 8 = .ok (.iconst 0, 1) := by decide +kernel
theorem dX8_countKinds_9 : decode cX8_countKinds 9 = .ok (.istore_n 1, 1) := by decide +kernel
theorem dX8_countKinds_10 : decode cX8_countKinds 10 = .ok (.iload_n 1, 1) := by decide +kernel
theorem dX8_countKinds_11 : decode cX8_countKinds 11 = .ok (.sipush 256, 3) := by decide +kernel
theorem dX8_countKinds_14 : decode cX8_countKinds 14 = .ok (.if_icmp .ge 32, 3) := by decide +kernel
theorem dX8_countKinds_17 : decode cX8_countKinds 17 = .ok (.aload_n 0, 1) := by decide +kernel
theorem dX8_countKinds_18 : decode cX8_countKinds 18 = .ok (.getfield 9, 3) := by decide +kernel
theorem dX8_countKinds_21 : decode cX8_countKinds 21 = .ok (.iload_n 1, 1) := by decide +kernel
theorem dX8_countKinds_22 : decode cX8_countKinds 22 = .ok (.baload, 1) := by decide +kernel
theorem dX8_countKinds_23 : decode cX8_countKinds 23 = .ok (.ifCond .eq 17, 3) := by decide +kernel
theorem dX8_countKinds_26 : decode cX8_countKinds 26 = .ok (.aload_n 0, 1) := by decide +kernel
theorem dX8_countKinds_27 : decode cX8_countKinds 27 = .ok (.getfield 32, 3) := by decide +kernel
theorem dX8_countKinds_30 : decode cX8_countKinds 30 = .ok (.aload_n 0, 1) := by decide +kernel
theorem dX8_countKinds_31 : decode cX8_countKinds 31 = .ok (.iload_n 1, 1) := by decide +kernel
theorem dX8_countKinds_32 : decode cX8_countKinds 32 = .ok (.invokevirtual 66, 3) := by decide +kernel
theorem dX8_countKinds_35 : decode cX8_countKinds 35 = .ok (.dup2, 1) := by decide +kernel
theorem dX8_countKinds_36 : decode cX8_countKinds 36 = .ok (.iaload, 1) := by decide +kernel
theorem dX8_countKinds_37 : decode cX8_countKinds 37 = .ok (.iconst 1, 1) := by decide +kernel
theorem dX8_countKinds_38 : decode cX8_countKinds 38 = .ok (.iadd, 1) := by decide +kernel
theorem dX8_countKinds_39 : decode cX8_countKinds 39 = .ok (.iastore, 1) := by decide +kernel
theorem dX8_countKinds_40 : decode cX8_countKinds 40 = .ok (.iinc 1 1, 3) := by decide +kernel
theorem dX8_countKinds_43 : decode cX8_countKinds 43 = .ok (.goto (-33), 3) := by decide +kernel
theorem dX8_countKinds_46 : decode cX8_countKinds 46 = .ok (.aload_n 0, 1) := by decide +kernel
theorem dX8_countKinds_47 : decode cX8_countKinds 47 = .ok (.getfield 32, 3) := by decide +kernel
theorem dX8_countKinds_50 : decode cX8_countKinds 50 = .ok (.areturn, 1) := by decide +kernel
theorem dX8_isFord_0 : decode cX8_isFord 0 = .ok (.aload_n 0, 1) := by decide +kernel
theorem dX8_isFord_1 : decode cX8_isFord 1 = .ok (.getfield 9, 3) := by decide +kernel
theorem dX8_isFord_4 : decode cX8_isFord 4 = .ok (.iload_n 1, 1) := by decide +kernel
theorem dX8_isFord_5 : decode cX8_isFord 5 = .ok (.baload, 1) := by decide +kernel
theorem dX8_isFord_6 : decode cX8_isFord 6 = .ok (.ifCond .eq 16, 3) := by decide +kernel
theorem dX8_isFord_9 : decode cX8_isFord 9 = .ok (.aload_n 0, 1) := by decide +kernel
theorem dX8_isFord_10 : decode cX8_isFord 10 = .ok (.getfield 22, 3) := by decide +kernel
theorem dX8_isFord_13 : decode cX8_isFord 13 = .ok (.getfield 54, 3) := by decide +kernel
theorem dX8_isFord_16 : decode cX8_isFord 16 = .ok (.iload_n 1, 1) := by decide +kernel
theorem dX8_isFord_17 : decode cX8_isFord 17 = .ok (.iaload, 1) := by decide +kernel
theorem dX8_isFord_18 : decode cX8_isFord 18 = .ok (.iload_n 2, 1) := by decide +kernel
theorem dX8_isFord_19 : decode cX8_isFord 19 = .ok (.if_icmp .ge 5, 3) := by decide +kernel
theorem dX8_isFord_22 : decode cX8_isFord 22 = .ok (.iconst 0, 1) := by decide +kernel
theorem dX8_isFord_23 : decode cX8_isFord 23 = .ok (.ireturn, 1) := by decide +kernel
theorem dX8_isFord_24 : decode cX8_isFord 24 = .ok (.aload_n 0, 1) := by decide +kernel
theorem dX8_isFord_25 : decode cX8_isFord 25 = .ok (.iload_n 1, 1) := by decide +kernel
theorem dX8_isFord_26 : decode cX8_isFord 26 = .ok (.iconst 1, 1) := by decide +kernel
theorem dX8_isFord_27 : decode cX8_isFord 27 = .ok (.invokestatic 46, 3) := by decide +kernel
theorem dX8_isFord_30 : decode cX8_isFord 30 = .ok (.iload_n 2, 1) := by decide +kernel
theorem dX8_isFord_31 : decode cX8_isFord 31 = .ok (.invokevirtual 69, 3) := by decide +kernel
theorem dX8_isFord_34 : decode cX8_isFord 34 = .ok (.ifCond .eq 20, 3) := by decide +kernel
theorem dX8_isFord_37 : decode cX8_isFord 37 = .ok (.aload_n 0, 1) := by decide +kernel
theorem dX8_isFord_38 : decode cX8_isFord 38 = .ok (.iload_n 1, 1) := by decide +kernel
theorem dX8_isFord_39 : decode cX8_isFord 39 = .ok (.iconst 2, 1) := by decide +kernel
theorem dX8_isFord_40 : decode cX8_isFord 40 = .ok (.invokestatic 46, 3) := by decide +kernel
theorem dX8_isFord_43 : decode cX8_isFord 43 = .ok (.iload_n 2, 1) := by decide +kernel
theorem dX8_isFord_44 : decode cX8_isFord 44 = .ok (.invokevirtual 69, 3) := by decide +kernel
theorem dX8_isFord_47 : decode cX8_isFord 47 = .ok (.ifCond .eq 7, 3) := by decide +kernel
theorem dX8_isFord_50 : decode cX8_isFord 50 = .ok (.iconst 1, 1) := by decide +kernel
theorem dX8_isFord_51 : decode cX8_isFord 51 = .ok (.goto 4, 3) := by decide +kernel
theorem dX8_isFord_54 : decode cX8_isFord 54 = .ok (.iconst 0, 1) := by decide +kernel
theorem dX8_isFord_55 : decode cX8_isFord 55 = .ok (.istore_n 3, 1) := by decide +kernel
theorem dX8_isFord_56 : decode cX8_isFord 56 = .ok (.iload_n 3, 1) := by decide +kernel
theorem dX8_isFord_57 : decode cX8_isFord 57 = .ok (.ifCond .ne 29, 3) := by decide +kernel
theorem dX8_isFord_60 : decode cX8_isFord 60 = .ok (.aload_n 0, 1) := by decide +kernel
theorem dX8_isFord_61 : decode cX8_isFord 61 = .ok (.iload_n 1, 1) := by decide +kernel
theorem dX8_isFord_62 : decode cX8_isFord 62 = .ok (.iconst 0, 1) := by decide +kernel
theorem dX8_isFord_63 : decode cX8_isFord 63 = .ok (.invokestatic 46, 3) := by decide +kernel
theorem dX8_isFord_66 : decode cX8_isFord 66 = .ok (.iload_n 2, 1) := by decide +kernel
theorem dX8_isFord_67 : decode cX8_isFord 67 = .ok (.invokevirtual 69, 3) := by decide +kernel
theorem dX8_isFord_70 : decode cX8_isFord 70 = .ok (.ifCond .eq 20, 3) := by decide +kernel
theorem dX8_isFord_73 : decode cX8_isFord 73 = .ok (.aload_n 0, 1) := by decide +kernel
theorem dX8_isFord_74 : decode cX8_isFord 74 = .ok (.iload_n 1, 1) := by decide +kernel
theorem dX8_isFord_75 : decode cX8_isFord 75 = .ok (.iconst 3, 1) := by decide +kernel
theorem dX8_isFord_76 : decode cX8_isFord 76 = .ok (.invokestatic 46, 3) := by decide +kernel
theorem dX8_isFord_79 : decode cX8_isFord 79 = .ok (.iload_n 2, 1) := by decide +kernel
theorem dX8_isFord_80 : decode cX8_isFord 80 = .ok (.invokevirtual 69, 3) := by decide +kernel
theorem dX8_isFord_83 : decode cX8_isFord 83 = .ok (.ifCond .eq 7, 3) := by decide +kernel
theorem dX8_isFord_86 : decode cX8_isFord 86 = .ok (.iconst 1, 1) := by decide +kernel
theorem dX8_isFord_87 : decode cX8_isFord 87 = .ok (.goto 4, 3) := by decide +kernel
theorem dX8_isFord_90 : decode cX8_isFord 90 = .ok (.iconst 0, 1) := by decide +kernel
theorem dX8_isFord_91 : decode cX8_isFord 91 = .ok (.ireturn, 1) := by decide +kernel
theorem dX8_isBank_0 : decode cX8_isBank 0 = .ok (.iload_n 1, 1) := by decide +kernel
theorem dX8_isBank_1 : decode cX8_isBank 1 = .ok (.iconst (-1), 1) := by decide +kernel
theorem dX8_isBank_2 : decode cX8_isBank 2 = .ok (.if_icmp .eq 29, 3) := by decide +kernel
theorem dX8_isBank_5 : decode cX8_isBank 5 = .ok (.aload_n 0, 1) := by decide +kernel
theorem dX8_isBank_6 : decode cX8_isBank 6 = .ok (.getfield 9, 3) := by decide +kernel
theorem dX8_isBank_9 : decode cX8_isBank 9 = .ok (.iload_n 1, 1) := by decide +kernel
theorem dX8_isBank_10 : decode cX8_isBank 10 = .ok (.baload, 1) := by decide +kernel
theorem dX8_isBank_11 : decode cX8_isBank 11 = .ok (.ifCond .eq 20, 3) := by decide +kernel
theorem dX8_isBank_14 : decode cX8_isBank 14 = .ok (.aload_n 0, 1) := by decide +kernel
theorem dX8_isBank_15 : decode cX8_isBank 15 = .ok (.getfield 22, 3) := by decide +kernel
theorem dX8_isBank_18 : decode cX8_isBank 18 = .ok (.getfield 54, 3) := by decide +kernel
theorem dX8_isBank_21 : decode cX8_isBank 21 = .ok (.iload_n 1, 1) := by decide +kernel
theorem dX8_isBank_22 : decode cX8_isBank 22 = .ok (.iaload, 1) := by decide +kernel
theorem dX8_isBank_23 : decode cX8_isBank 23 = .ok (.iload_n 2, 1) := by decide +kernel
theorem dX8_isBank_24 : decode cX8_isBank 24 = .ok (.if_icmp .ge 7, 3) := by decide +kernel
theorem dX8_isBank_27 : decode cX8_isBank 27 = .ok (.iconst 1, 1) := by decide +kernel
theorem dX8_isBank_28 : decode cX8_isBank 28 = .ok (.goto 4, 3) := by decide +kernel
theorem dX8_isBank_31 : decode cX8_isBank 31 = .ok (.iconst 0, 1) := by decide +kernel
theorem dX8_isBank_32 : decode cX8_isBank 32 = .ok (.ireturn, 1) := by decide +kernel
theorem dX9_init_0 : decode cX9_init 0 = .ok (.aload_n 0, 1) := by decide +kernel
theorem dX9_init_1 : decode cX9_init 1 = .ok (.invokespecial 3, 3) := by decide +kernel
theorem dX9_init_4 : decode cX9_init 4 = .ok (.aload_n 0, 1) := by decide +kernel
theorem dX9_init_5 : decode cX9_init 5 = .ok (.bipush 10, 2) := by decide +kernel
theorem dX9_init_7 : decode cX9_init 7 = .ok (.newarray .int, 2) := by decide +kernel
theorem dX9_init_9 : decode cX9_init 9 = .ok (.putfield 9, 3) := by decide +kernel
theorem dX9_init_12 : decode cX9_init 12 = .ok (.aload_n 0, 1) := by decide +kernel
theorem dX9_init_13 : decode cX9_init 13 = .ok (.ldc2_w 15, 3) := by decide +kernel
theorem dX9_init_16 : decode cX9_init 16 = .ok (.putfield 17, 3) := by decide +kernel
theorem dX9_init_19 : decode cX9_init 19 = .ok (.aload_n 0, 1) := by decide +kernel
theorem dX9_init_20 : decode cX9_init 20 = .ok (.bipush 10, 2) := by decide +kernel
theorem dX9_init_22 : decode cX9_init 22 = .ok (.newarray .int, 2) := by decide +kernel
theorem dX9_init_24 : decode cX9_init 24 = .ok (.putfield 21, 3) := by decide +kernel
theorem dX9_init_27 : decode cX9_init 27 = .ok (.aload_n 0, 1) := by decide +kernel
theorem dX9_init_28 : decode cX9_init 28 = .ok (.bipush 70, 2) := by decide +kernel
theorem dX9_init_30 : decode cX9_init 30 = .ok (.newarray .long, 2) := by decide +kernel
theorem dX9_init_32 : decode cX9_init 32 = .ok (.putfield 24, 3) := by decide +kernel
theorem dX9_init_35 : decode cX9_init 35 = .ok (.aload_n 0, 1) := by decide +kernel
theorem dX9_init_36 : decode cX9_init 36 = .ok (.iconst 0, 1) := by decide +kernel
theorem dX9_init_37 : decode cX9_init 37 = .ok (.putfield 28, 3) := by decide +kernel
theorem dX9_init_40 : decode cX9_init 40 = .ok (.aload_n 0, 1) := by decide +kernel
theorem dX9_init_41 : decode cX9_init 41 = .ok (.iconst 0, 1) := by decide +kernel
theorem dX9_init_42 : decode cX9_init 42 = .ok (.putfield 32, 3) := by decide +kernel
theorem dX9_init_45 : decode cX9_init 45 = .ok (.aload_n 0, 1) := by decide +kernel
theorem dX9_init_46 : decode cX9_init 46 = .ok (.iconst (-1), 1) := by decide +kernel
theorem dX9_init_47 : decode cX9_init 47 = .ok (.putfield 35, 3) := by decide +kernel
theorem dX9_init_50 : decode cX9_init 50 = .ok (.return_, 1) := by decide +kernel
theorem dX9_forget_0 : decode cX9_forget 0 = .ok (.aload_n 0, 1) := by decide +kernel
theorem dX9_forget_1 : decode cX9_forget 1 = .ok (.iconst (-1), 1) := by decide +kernel
theorem dX9_forget_2 : decode cX9_forget 2 = .ok (.putfield 35, 3) := by decide +kernel
theorem dX9_forget_5 : decode cX9_forget 5 = .ok (.return_, 1) := by decide +kernel
theorem dX9_isOf_0 : decode cX9_isOf 0 = .ok (.aload_n 0, 1) := by decide +kernel
theorem dX9_isOf_1 : decode cX9_isOf 1 = .ok (.getfield 35, 3) := by decide +kernel
theorem dX9_isOf_4 : decode cX9_isOf 4 = .ok (.iload_n 2, 1) := by decide +kernel
theorem dX9_isOf_5 : decode cX9_isOf 5 = .ok (.if_icmp .ne 15, 3) := by decide +kernel
theorem dX9_isOf_8 : decode cX9_isOf 8 = .ok (.aload_n 0, 1) := by decide +kernel
theorem dX9_isOf_9 : decode cX9_isOf 9 = .ok (.getfield 32, 3) := by decide +kernel
theorem dX9_isOf_12 : decode cX9_isOf 12 = .ok (.iload_n 1, 1) := by decide +kernel
theorem dX9_isOf_13 : decode cX9_isOf 13 = .ok (.if_icmp .ne 7, 3) := by decide +kernel
theorem dX9_isOf_16 : decode cX9_isOf 16 = .ok (.iconst 1, 1) := by decide +kernel
theorem dX9_isOf_17 : decode cX9_isOf 17 = .ok (.goto 4, 3) := by decide +kernel
theorem dX9_isOf_20 : decode cX9_isOf 20 = .ok (.iconst 0, 1) := by decide +kernel
theorem dX9_isOf_21 : decode cX9_isOf 21 = .ok (.ireturn, 1) := by decide +kernel
theorem dX9_weigh_0 : decode cX9_weigh 0 = .ok (.lconst 1, 1) := by decide +kernel
theorem dX9_weigh_1 : decode cX9_weigh 1 = .ok (.lstore 5, 2) := by decide +kernel
theorem dX9_weigh_3 : decode cX9_weigh 3 = .ok (.lconst 1, 1) := by decide +kernel
theorem dX9_weigh_4 : decode cX9_weigh 4 = .ok (.lstore 7, 2) := by decide +kernel
theorem dX9_weigh_6 : decode cX9_weigh 6 = .ok (.iconst 0, 1) := by decide +kernel
theorem dX9_weigh_7 : decode cX9_weigh 7 = .ok (.istore 9, 2) := by decide +kernel
theorem dX9_weigh_9 : decode cX9_weigh 9 = .ok (.iload 9, 2) := by decide +kernel
theorem dX9_weigh_11 : decode cX9_weigh 11 = .ok (.bipush 7, 2) := by decide +kernel
theorem dX9_weigh_13 : decode cX9_weigh 13 = .ok (.if_icmp .ge 53, 3) := by decide +kernel
theorem dX9_weigh_16 : decode cX9_weigh 16 = .ok (.aload_n 0, 1) := by decide +kernel
theorem dX9_weigh_17 : decode cX9_weigh 17 = .ok (.getfield 24, 3) := by decide +kernel
theorem dX9_weigh_20 : decode cX9_weigh 20 = .ok (.iload_n 1, 1) := by decide +kernel
theorem dX9_weigh_21 : decode cX9_weigh 21 = .ok (.bipush 7, 2) := by decide +kernel
theorem dX9_weigh_23 : decode cX9_weigh 23 = .ok (.imul, 1) := by decide +kernel
theorem dX9_weigh_24 : decode cX9_weigh 24 = .ok (.iload 9, 2) := by decide +kernel
theorem dX9_weigh_26 : decode cX9_weigh 26 = .ok (.iadd, 1) := by decide +kernel
theorem dX9_weigh_27 : decode cX9_weigh 27 = .ok (.ldc2_w 15, 3) := by decide +kernel
theorem dX9_weigh_30 : decode cX9_weigh 30 = .ok (.lload_n 2, 1) := by decide +kernel
theorem dX9_weigh_31 : decode cX9_weigh 31 = .ok (.lsub, 1) := by decide +kernel
theorem dX9_weigh_32 : decode cX9_weigh 32 = .ok (.lload_n 2, 1) := by decide +kernel
theorem dX9_weigh_33 : decode cX9_weigh 33 = .ok (.lload 5, 2) := by decide +kernel
theorem dX9_weigh_35 : decode cX9_weigh 35 = .ok (.lmul, 1) := by decide +kernel
theorem dX9_weigh_36 : decode cX9_weigh 36 = .ok (.lload 7, 2) := by decide +kernel
theorem dX9_weigh_38 : decode cX9_weigh 38 = .ok (.ldiv, 1) := by decide +kernel
theorem dX9_weigh_39 : decode cX9_weigh 39 = .ok (.ladd, 1) := by decide +kernel
theorem dX9_weigh_40 : decode cX9_weigh 40 = .ok (.lastore, 1) := by decide +kernel
theorem dX9_weigh_41 : decode cX9_weigh 41 = .ok (.lload 5, 2) := by decide +kernel
theorem dX9_weigh_43 : decode cX9_weigh 43 = .ok (.bipush 10, 2) := by decide +kernel
theorem dX9_weigh_45 : decode cX9_weigh 45 = .ok (.iload 4, 2) := by decide +kernel
theorem dX9_weigh_47 : decode cX9_weigh 47 = .ok (.isub, 1) := by decide +kernel
theorem dX9_weigh_48 : decode cX9_weigh 48 = .ok (.i2l, 1) := by decide +kernel
theorem dX9_weigh_49 : decode cX9_weigh 49 = .ok (.lmul, 1) := by decide +kernel
theorem dX9_weigh_50 : decode cX9_weigh 50 = .ok (.lstore 5, 2) := by decide +kernel
theorem dX9_weigh_52 : decode cX9_weigh 52 = .ok (.lload 7, 2) := by decide +kernel
theorem dX9_weigh_54 : decode cX9_weigh 54 = .ok (.ldc2_w 38, 3) := by decide +kernel
theorem dX9_weigh_57 : decode cX9_weigh 57 = .ok (.lmul, 1) := by decide +kernel
theorem dX9_weigh_58 : decode cX9_weigh 58 = .ok (.lstore 7, 2) := by decide +kernel
theorem dX9_weigh_60 : decode cX9_weigh 60 = .ok (.iinc 9 1, 3) := by decide +kernel
theorem dX9_weigh_63 : decode cX9_weigh 63 = .ok (.goto (-54), 3) := by decide +kernel
theorem dX9_weigh_66 : decode cX9_weigh 66 = .ok (.return_, 1) := by decide +kernel
theorem dX9_choose_0 : decode cX9_choose 0 = .ok (.aload_n 0, 1) := by decide +kernel
theorem dX9_choose_1 : decode cX9_choose 1 = .ok (.iload_n 1, 1) := by decide +kernel
theorem dX9_choose_2 : decode cX9_choose 2 = .ok (.putfield 32, 3) := by decide +kernel
theorem dX9_choose_5 : decode cX9_choose 5 = .ok (.aload_n 0, 1) := by decide +kernel
theorem dX9_choose_6 : decode cX9_choose 6 = .ok (.iload_n 2, 1) := by decide +kernel
theorem dX9_choose_7 : decode cX9_choose 7 = .ok (.putfield 35, 3) := by decide +kernel
theorem dX9_choose_10 : decode cX9_choose 10 = .ok (.aload_n 0, 1) := by decide +kernel
theorem dX9_choose_11 : decode cX9_choose 11 = .ok (.iload_n 3, 1) := by decide +kernel
theorem dX9_choose_12 : decode cX9_choose 12 = .ok (.putfield 28, 3) := by decide +kernel
theorem dX9_choose_15 : decode cX9_choose 15 = .ok (.aload_n 0, 1) := by decide +kernel
theorem dX9_choose_16 : decode cX9_choose 16 = .ok (.ldc2_w 40, 3) := by decide +kernel
theorem dX9_choose_19 : decode cX9_choose 19 = .ok (.putfield 17, 3) := by decide +kernel
theorem dX9_choose_22 : decode cX9_choose 22 = .ok (.aload_n 0, 1) := by decide +kernel
theorem dX9_choose_23 : decode cX9_choose 23 = .ok (.iconst 0, 1) := by decide +kernel
theorem dX9_choose_24 : decode cX9_choose 24 = .ok (.iload_n 1, 1) := by decide +kernel
theorem dX9_choose_25 : decode cX9_choose 25 = .ok (.ldc2_w 15, 3) := by decide +kernel
theorem dX9_choose_28 : decode cX9_choose 28 = .ok (.invokevirtual 42, 3) := by decide +kernel
theorem dX9_choose_31 : decode cX9_choose 31 = .ok (.return_, 1) := by decide +kernel
theorem dX9_lay_0 : decode cX9_lay 0 = .ok (.iload_n 1, 1) := by decide +kernel
theorem dX9_lay_1 : decode cX9_lay 1 = .ok (.bipush 10, 2) := by decide +kernel
theorem dX9_lay_3 : decode cX9_lay 3 = .ok (.if_icmp .lt 4, 3) := by decide +kernel
theorem dX9_lay_6 : decode cX9_lay 6 = .ok (.return_, 1) := by decide +kernel
theorem dX9_lay_7 : decode cX9_lay 7 = .ok (.iload_n 1, 1) := by decide +kernel
theorem dX9_lay_8 : decode cX9_lay 8 = .ok (.aload_n 0, 1) := by decide +kernel
theorem dX9_lay_9 : decode cX9_lay 9 = .ok (.getfield 28, 3) := by decide +kernel
theorem dX9_lay_12 : decode cX9_lay 12 = .ok (.iconst 1, 1) := by decide +kernel
theorem dX9_lay_13 : decode cX9_lay 13 = .ok (.isub, 1) := by decide +kernel
theorem dX9_lay_14 : decode cX9_lay 14 = .ok (.if_icmp .lt 7, 3) := by decide +kernel
theorem dX9_lay_17 : decode cX9_lay 17 = .ok (.iconst 1, 1) := by decide +kernel
theorem dX9_lay_18 : decode cX9_lay 18 = .ok (.goto 4, 3) := by decide +kernel
theorem dX9_lay_21 : decode cX9_lay 21 = .ok (.iconst 0, 1) := by decide +kernel
theorem dX9_lay_22 : decode cX9_lay 22 = .ok (.istore 5, 2) := by decide +kernel
theorem dX9_lay_24 : decode cX9_lay 24 = .ok (.iload_n 2, 1) := by decide +kernel
theorem dX9_lay_25 : decode cX9_lay 25 = .ok (.istore 6, 2) := by decide +kernel
theorem dX9_lay_27 : decode cX9_lay 27 = .ok (.iload 6, 2) := by decide +kernel
theorem dX9_lay_29 : decode cX9_lay 29 = .ok (.iload 5, 2) := by decide +kernel
theorem dX9_lay_31 : decode cX9_lay 31 = .ok (.ifCond .eq 7, 3) := by decide +kernel
theorem dX9_lay_34 : decode cX9_lay 34 = .ok (.iload_n 2, 1) := by decide +kernel
theorem dX9_lay_35 : decode cX9_lay 35 = .ok (.goto 4, 3) := by decide +kernel
theorem dX9_lay_38 : decode cX9_lay 38 = .ok (.iconst 0, 1) := by decide +kernel
theorem dX9_lay_39 : decode cX9_lay 39 = .ok (.if_icmp .lt 89, 3) := by decide +kernel
theorem dX9_lay_42 : decode cX9_lay 42 = .ok (.aload_n 0, 1) := by decide +kernel
theorem dX9_lay_43 : decode cX9_lay 43 = .ok (.getfield 21, 3) := by decide +kernel
theorem dX9_lay_46 : decode cX9_lay 46 = .ok (.iload_n 1, 1) := by decide +kernel
theorem dX9_lay_47 : decode cX9_lay 47 = .ok (.iload 6, 2) := by decide +kernel
theorem dX9_lay_49 : decode cX9_lay 49 = .ok (.iastore, 1) := by decide +kernel
theorem dX9_lay_50 : decode cX9_lay 50 = .ok (.lload_n 3, 1) := by decide +kernel
theorem dX9_lay_51 : decode cX9_lay 51 = .ok (.aload_n 0, 1) := by decide +kernel
theorem dX9_lay_52 : decode cX9_lay 52 = .ok (.getfield 24, 3) := by decide +kernel
theorem dX9_lay_55 : decode cX9_lay 55 = .ok (.iload_n 1, 1) := by decide +kernel
theorem dX9_lay_56 : decode cX9_lay 56 = .ok (.bipush 7, 2) := by decide +kernel
theorem dX9_lay_58 : decode cX9_lay 58 = .ok (.imul, 1) := by decide +kernel
theorem dX9_lay_59 : decode cX9_lay 59 = .ok (.iload 6, 2) := by decide +kernel
theorem dX9_lay_61 : decode cX9_lay 61 = .ok (.iadd, 1) := by decide +kernel
theorem dX9_lay_62 : decode cX9_lay 62 = .ok (.laload, 1) := by decide +kernel
theorem dX9_lay_63 : decode cX9_lay 63 = .ok (.lmul, 1) := by decide +kernel
theorem dX9_lay_64 : decode cX9_lay 64 = .ok (.ldc2_w 15, 3) := by decide +kernel
theorem dX9_lay_67 : decode cX9_lay 67 = .ok (.ldiv, 1) := by decide +kernel
theorem dX9_lay_68 : decode cX9_lay 68 = .ok (.lstore 7, 2) := by decide +kernel
theorem dX9_lay_70 : decode cX9_lay 70 = .ok (.iload 5, 2) := by decide +kernel
theorem dX9_lay_72 : decode cX9_lay 72 = .ok (.ifCond .ne 19, 3) := by decide +kernel
theorem dX9_lay_75 : decode cX9_lay 75 = .ok (.aload_n 0, 1) := by decide +kernel
theorem dX9_lay_76 : decode cX9_lay 76 = .ok (.iload_n 1, 1) := by decide +kernel
theorem dX9_lay_77 : decode cX9_lay 77 = .ok (.iconst 1, 1) := by decide +kernel
theorem dX9_lay_78 : decode cX9_lay 78 = .ok (.iadd, 1) := by decide +kernel
theorem dX9_lay_79 : decode cX9_lay 79 = .ok (.iload_n 2, 1) := by decide +kernel
theorem dX9_lay_80 : decode cX9_lay 80 = .ok (.iload 6, 2) := by decide +kernel
theorem dX9_lay_82 : decode cX9_lay 82 = .ok (.isub, 1) := by decide +kernel
theorem dX9_lay_83 : decode cX9_lay 83 = .ok (.lload 7, 2) := by decide +kernel
theorem dX9_lay_85 : decode cX9_lay 85 = .ok (.invokevirtual 42, 3) := by decide +kernel
theorem dX9_lay_88 : decode cX9_lay 88 = .ok (.goto 34, 3) := by decide +kernel
theorem dX9_lay_91 : decode cX9_lay 91 = .ok (.lload 7, 2) := by decide +kernel
theorem dX9_lay_93 : decode cX9_lay 93 = .ok (.aload_n 0, 1) := by decide +kernel
theorem dX9_lay_94 : decode cX9_lay 94 = .ok (.getfield 17, 3) := by decide +kernel
theorem dX9_lay_97 : decode cX9_lay 97 = .ok (.lcmp, 1) := by decide +kernel
theorem dX9_lay_98 : decode cX9_lay 98 = .ok (.ifCond .ge 24, 3) := by decide +kernel
theorem dX9_lay_101 : decode cX9_lay 101 = .ok (.aload_n 0, 1) := by decide +kernel
theorem dX9_lay_102 : decode cX9_lay 102 = .ok (.lload 7, 2) := by decide +kernel
theorem dX9_lay_104 : decode cX9_lay 104 = .ok (.putfield 17, 3) := by decide +kernel
theorem dX9_lay_107 : decode cX9_lay 107 = .ok (.aload_n 0, 1) := by decide +kernel
theorem dX9_lay_108 : decode cX9_lay 108 = .ok (.getfield 21, 3) := by decide +kernel
theorem dX9_lay_111 : decode cX9_lay 111 = .ok (.iconst 0, 1) := by decide +kernel
theorem dX9_lay_112 : decode cX9_lay 112 = .ok (.aload_n 0, 1) := by decide +kernel
theorem dX9_lay_113 : decode cX9_lay 113 = .ok (.getfield 9, 3) := by decide +kernel
theorem dX9_lay_116 : decode cX9_lay 116 = .ok (.iconst 0, 1) := by decide +kernel
theorem dX9_lay_117 : decode cX9_lay 117 = .ok (.bipush 10, 2) := by decide +kernel
theorem dX9_lay_119 : decode cX9_lay 119 = .ok (.invokestatic 46, 3) := by decide +kernel
theorem dX9_lay_122 : decode cX9_lay 122 = .ok (.iinc 6 (-1), 3) := by decide +kernel
theorem dX9_lay_125 : decode cX9_lay 125 = .ok (.goto (-98), 3) := by decide +kernel
theorem dX9_lay_128 : decode cX9_lay 128 = .ok (.return_, 1) := by decide +kernel
theorem dX10_init_0 : decode cX10_init 0 = .ok (.aload_n 0, 1) := by decide +kernel
theorem dX10_init_1 : decode cX10_init 1 = .ok (.invokespecial 1, 3) := by decide +kernel
theorem dX10_init_4 : decode cX10_init 4 = .ok (.aload_n 0, 1) := by decide +kernel
theorem dX10_init_5 : decode cX10_init 5 = .ok (.new 7, 3) := by decide +kernel
theorem dX10_init_8 : decode cX10_init 8 = .ok (.dup, 1) := by decide +kernel
theorem dX10_init_9 : decode cX10_init 9 = .ok (.invokespecial 9, 3) := by decide +kernel
theorem dX10_init_12 : decode cX10_init 12 = .ok (.putfield 10, 3) := by decide +kernel
theorem dX10_init_15 : decode cX10_init 15 = .ok (.aload_n 0, 1) := by decide +kernel
theorem dX10_init_16 : decode cX10_init 16 = .ok (.new 16, 3) := by decide +kernel
theorem dX10_init_19 : decode cX10_init 19 = .ok (.dup, 1) := by decide +kernel
theorem dX10_init_20 : decode cX10_init 20 = .ok (.invokespecial 18, 3) := by decide +kernel
theorem dX10_init_23 : decode cX10_init 23 = .ok (.putfield 19, 3) := by decide +kernel
theorem dX10_init_26 : decode cX10_init 26 = .ok (.aload_n 0, 1) := by decide +kernel
theorem dX10_init_27 : decode cX10_init 27 = .ok (.iconst 3, 1) := by decide +kernel
theorem dX10_init_28 : decode cX10_init 28 = .ok (.anewarray 16, 3) := by decide +kernel
theorem dX10_init_31 : decode cX10_init 31 = .ok (.putfield 23, 3) := by decide +kernel
theorem dX10_init_34 : decode cX10_init 34 = .ok (.aload_n 0, 1) := by decide +kernel
theorem dX10_init_35 : decode cX10_init 35 = .ok (.new 27, 3) := by decide +kernel
theorem dX10_init_38 : decode cX10_init 38 = .ok (.dup, 1) := by decide +kernel
theorem dX10_init_39 : decode cX10_init 39 = .ok (.invokespecial 29, 3) := by decide +kernel
theorem dX10_init_42 : decode cX10_init 42 = .ok (.putfield 30, 3) := by decide +kernel
theorem dX10_init_45 : decode cX10_init 45 = .ok (.aload_n 0, 1) := by decide +kernel
theorem dX10_init_46 : decode cX10_init 46 = .ok (.aload_n 0, 1) := by decide +kernel
theorem dX10_init_47 : decode cX10_init 47 = .ok (.getfield 30, 3) := by decide +kernel
theorem dX10_init_50 : decode cX10_init 50 = .ok (.getfield 34, 3) := by decide +kernel
theorem dX10_init_53 : decode cX10_init 53 = .ok (.putfield 38, 3) := by decide +kernel
theorem dX10_init_56 : decode cX10_init 56 = .ok (.aload_n 0, 1) := by decide +kernel
theorem dX10_init_57 : decode cX10_init 57 = .ok (.new 39, 3) := by decide +kernel
theorem dX10_init_60 : decode cX10_init 60 = .ok (.dup, 1) := by decide +kernel
theorem dX10_init_61 : decode cX10_init 61 = .ok (.invokespecial 41, 3) := by decide +kernel
theorem dX10_init_64 : decode cX10_init 64 = .ok (.putfield 42, 3) := by decide +kernel
theorem dX10_init_67 : decode cX10_init 67 = .ok (.aload_n 0, 1) := by decide +kernel
theorem dX10_init_68 : decode cX10_init 68 = .ok (.new 46, 3) := by decide +kernel
theorem dX10_init_71 : decode cX10_init 71 = .ok (.dup, 1) := by decide +kernel
theorem dX10_init_72 : decode cX10_init 72 = .ok (.invokespecial 48, 3) := by decide +kernel
theorem dX10_init_75 : decode cX10_init 75 = .ok (.putfield 49, 3) := by decide +kernel
theorem dX10_init_78 : decode cX10_init 78 = .ok (.aload_n 0, 1) := by decide +kernel
theorem dX10_init_79 : decode cX10_init 79 = .ok (.new 53, 3) := by decide +kernel
theorem dX10_init_82 : decode cX10_init 82 = .ok (.dup, 1) := by decide +kernel
theorem dX10_init_83 : decode cX10_init 83 = .ok (.invokespecial 55, 3) := by decide +kernel
theorem dX10_init_86 : decode cX10_init 86 = .ok (.putfield 56, 3) := by decide +kernel
theorem dX10_init_89 : decode cX10_init 89 = .ok (.aload_n 0, 1) := by decide +kernel
theorem dX10_init_90 : decode cX10_init 90 = .ok (.new 60, 3) := by decide +kernel
theorem dX10_init_93 : decode cX10_init 93 = .ok (.dup, 1) := by decide +kernel
theorem dX10_init_94 : decode cX10_init 94 = .ok (.invokespecial 62, 3) := by decide +kernel
theorem dX10_init_97 : decode cX10_init 97 = .ok (.putfield 63, 3) := by decide +kernel
theorem dX10_init_100 : decode cX10_init 100 = .ok (.aload_n 0, 1) := by decide +kernel
theorem dX10_init_101 : decode cX10_init 101 = .ok (.iconst 3, 1) := by decide +kernel
theorem dX10_init_102 : decode cX10_init 102 = .ok (.newarray .int, 2) := by decide +kernel
theorem dX10_init_104 : decode cX10_init 104 = .ok (.putfield 67, 3) := by decide +kernel
theorem dX10_init_107 : decode cX10_init 107 = .ok (.aload_n 0, 1) := by decide +kernel
theorem dX10_init_108 : decode cX10_init 108 = .ok (.new 71, 3) := by decide +kernel
theorem dX10_init_111 : decode cX10_init 111 = .ok (.dup, 1) := by decide +kernel
theorem dX10_init_112 : decode cX10_init 112 = .ok (.invokespecial 73, 3) := by decide +kernel
theorem dX10_init_115 : decode cX10_init 115 = .ok (.putfield 74, 3) := by decide +kernel
theorem dX10_init_118 : decode cX10_init 118 = .ok (.aload_n 0, 1) := by decide +kernel
theorem dX10_init_119 : decode cX10_init 119 = .ok (.new 71, 3) := by decide +kernel
theorem dX10_init_122 : decode cX10_init 122 = .ok (.dup, 1) := by decide +kernel
theorem dX10_init_123 : decode cX10_init 123 = .ok (.invokespecial 73, 3) := by decide +kernel
theorem dX10_init_126 : decode cX10_init 126 = .ok (.putfield 78, 3) := by decide +kernel
theorem dX10_init_129 : decode cX10_init 129 = .ok (.aload_n 0, 1) := by decide +kernel
theorem dX10_init_130 : decode cX10_init 130 = .ok (.iconst (-1), 1) := by decide +kernel
theorem dX10_init_131 : decode cX10_init 131 = .ok (.putfield 81, 3) := by decide +kernel
theorem dX10_init_134 : decode cX10_init 134 = .ok (.aload_n 0, 1) := by decide +kernel
theorem dX10_init_135 : decode cX10_init 135 = .ok (.iconst 0, 1) := by decide +kernel
theorem dX10_init_136 : decode cX10_init 136 = .ok (.putfield 85, 3) := by decide +kernel
theorem dX10_init_139 : decode cX10_init 139 = .ok (.aload_n 0, 1) := by decide +kernel
theorem dX10_init_140 : decode cX10_init 140 = .ok (.iconst 1, 1) := by decide +kernel
theorem dX10_init_141 : decode cX10_init 141 = .ok (.putfield 88, 3) := by decide +kernel
theorem dX10_init_144 : decode cX10_init 144 = .ok (.return_, 1) := by decide +kernel
theorem dX10_sound_0 : decode cX10_sound 0 = .ok (.iload_n 1, 1) := by decide +kernel
theorem dX10_sound_1 : decode cX10_sound 1 = .ok (.invokestatic 92, 3) := by decide +kernel
theorem dX10_sound_4 : decode cX10_sound 4 = .ok (.ifCond .eq 22, 3) := by decide +kernel
theorem dX10_sound_7 : decode cX10_sound 7 = .ok (.iload_n 2, 1) := by decide +kernel
theorem dX10_sound_8 : decode cX10_sound 8 = .ok (.invokestatic 96, 3) := by decide +kernel
theorem dX10_sound_11 : decode cX10_sound 11 = .ok (.ifCond .eq 15, 3) := by decide +kernel
theorem dX10_sound_14 : decode cX10_sound 14 = .ok (.iload_n 3, 1) := by decide +kernel
theorem dX10_sound_15 : decode cX10_sound 15 = .ok (.invokestatic 96, 3) := by decide +kernel
theorem dX10_sound_18 : decode cX10_sound 18 = .ok (.ifCond .eq 8, 3) := by decide +kernel
theorem dX10_sound_21 : decode cX10_sound 21 = .ok (.iload_n 3, 1) := by decide +kernel
theorem dX10_sound_22 : decode cX10_sound 22 = .ok (.iload_n 2, 1) := by decide +kernel
theorem dX10_sound_23 : decode cX10_sound 23 = .ok (.if_icmp .ge 11, 3) := by decide +kernel
theorem dX10_sound_26 : decode cX10_sound 26 = .ok (.aload_n 0, 1) := by decide +kernel
theorem dX10_sound_27 : decode cX10_sound 27 = .ok (.iconst 0, 1) := by decide +kernel
theorem dX10_sound_28 : decode cX10_sound 28 = .ok (.invokevirtual 99, 3) := by decide +kernel
theorem dX10_sound_31 : decode cX10_sound 31 = .ok (.pop, 1) := by decide +kernel
theorem dX10_sound_32 : decode cX10_sound 32 = .ok (.iconst 0, 1) := by decide +kernel
theorem dX10_sound_33 : decode cX10_sound 33 = .ok (.ireturn, 1) := by decide +kernel
theorem dX10_sound_34 : decode cX10_sound 34 = .ok (.aload_n 0, 1) := by decide +kernel
theorem dX10_sound_35 : decode cX10_sound 35 = .ok (.getfield 19, 3) := by decide +kernel
theorem dX10_sound_38 : decode cX10_sound 38 = .ok (.getfield 103, 3) := by decide +kernel
theorem dX10_sound_41 : decode cX10_sound 41 = .ok (.iload_n 1, 1) := by decide +kernel
theorem dX10_sound_42 : decode cX10_sound 42 = .ok (.iload_n 2, 1) := by decide +kernel
theorem dX10_sound_43 : decode cX10_sound 43 = .ok (.iastore, 1) := by decide +kernel
theorem dX10_sound_44 : decode cX10_sound 44 = .ok (.aload_n 0, 1) := by decide +kernel
theorem dX10_sound_45 : decode cX10_sound 45 = .ok (.getfield 19, 3) := by decide +kernel
theorem dX10_sound_48 : decode cX10_sound 48 = .ok (.getfield 106, 3) := by decide +kernel
theorem dX10_sound_51 : decode cX10_sound 51 = .ok (.iload_n 1, 1) := by decide +kernel
theorem dX10_sound_52 : decode cX10_sound 52 = .ok (.iload_n 3, 1) := by decide +kernel
theorem dX10_sound_53 : decode cX10_sound 53 = .ok (.iastore, 1) := by decide +kernel
theorem dX10_sound_54 : decode cX10_sound 54 = .ok (.aload_n 0, 1) := by decide +kernel
theorem dX10_sound_55 : decode cX10_sound 55 = .ok (.invokevirtual 109, 3) := by decide +kernel
theorem dX10_sound_58 : decode cX10_sound 58 = .ok (.iconst 1, 1) := by decide +kernel
theorem dX10_sound_59 : decode cX10_sound 59 = .ok (.ireturn, 1) := by decide +kernel
theorem dX10_feed_0 : decode cX10_feed 0 = .ok (.aload_n 0, 1) := by decide +kernel
theorem dX10_feed_1 : decode cX10_feed 1 = .ok (.getfield 10, 3) := by decide +kernel
theorem dX10_feed_4 : decode cX10_feed 4 = .ok (.getfield 112, 3) := by decide +kernel
theorem dX10_feed_7 : decode cX10_feed 7 = .ok (.bipush 20, 2) := by decide +kernel
theorem dX10_feed_9 : decode cX10_feed 9 = .ok (.iadd, 1) := by decide +kernel
theorem dX10_feed_10 : decode cX10_feed 10 = .ok (.sipush 700, 3) := by decide +kernel
theorem dX10_feed_13 : decode cX10_feed 13 = .ok (.if_icmp .le 5, 3) := by decide +kernel
theorem dX10_feed_16 : decode cX10_feed 16 = .ok (.iconst (-1), 1) := by decide +kernel
theorem dX10_feed_17 : decode cX10_feed 17 = .ok (.ireturn, 1) := by decide +kernel
theorem dX10_feed_18 : decode cX10_feed 18 = .ok (.aload_n 0, 1) := by decide +kernel
theorem dX10_feed_19 : decode cX10_feed 19 = .ok (.getfield 10, 3) := by decide +kernel
theorem dX10_feed_22 : decode cX10_feed 22 = .ok (.iload_n 1, 1) := by decide +kernel
theorem dX10_feed_23 : decode cX10_feed 23 = .ok (.invokevirtual 115, 3) := by decide +kernel
theorem dX10_feed_26 : decode cX10_feed 26 = .ok (.aload_n 0, 1) := by decide +kernel
theorem dX10_feed_27 : decode cX10_feed 27 = .ok (.getfield 10, 3) := by decide +kernel
theorem dX10_feed_30 : decode cX10_feed 30 = .ok (.iload_n 2, 1) := by decide +kernel
theorem dX10_feed_31 : decode cX10_feed 31 = .ok (.invokevirtual 115, 3) := by decide +kernel
theorem dX10_feed_34 : decode cX10_feed 34 = .ok (.aload_n 0, 1) := by decide +kernel
theorem dX10_feed_35 : decode cX10_feed 35 = .ok (.getfield 10, 3) := by decide +kernel
theorem dX10_feed_38 : decode cX10_feed 38 = .ok (.iload_n 3, 1) := by decide +kernel
theorem dX10_feed_39 : decode cX10_feed 39 = .ok (.invokevirtual 115, 3) := by decide +kernel
theorem dX10_feed_42 : decode cX10_feed 42 = .ok (.aload_n 0, 1) := by decide +kernel
theorem dX10_feed_43 : decode cX10_feed 43 = .ok (.getfield 10, 3) := by decide +kernel
theorem dX10_feed_46 : decode cX10_feed 46 = .ok (.iload 4, 2) := by decide +kernel
theorem dX10_feed_48 : decode cX10_feed 48 = .ok (.invokevirtual 115, 3) := by decide +kernel
theorem dX10_feed_51 : decode cX10_feed 51 = .ok (.aload_n 0, 1) := by decide +kernel
theorem dX10_feed_52 : decode cX10_feed 52 = .ok (.getfield 10, 3) := by decide +kernel
theorem dX10_feed_55 : decode cX10_feed 55 = .ok (.iload 5, 2) := by decide +kernel
theorem dX10_feed_57 : decode cX10_feed 57 = .ok (.invokevirtual 115, 3) := by decide +kernel
theorem dX10_feed_60 : decode cX10_feed 60 = .ok (.aload_n 0, 1) := by decide +kernel
theorem dX10_feed_61 : decode cX10_feed 61 = .ok (.getfield 10, 3) := by decide +kernel
theorem dX10_feed_64 : decode cX10_feed 64 = .ok (.getfield 112, 3) := by decide +kernel
theorem dX10_feed_67 : decode cX10_feed 67 = .ok (.ireturn, 1) := by decide +kernel
theorem dX10_law_0 : decode cX10_law 0 = .ok (.iload_n 1, 1) := by decide +kernel
theorem dX10_law_1 : decode cX10_law 1 = .ok (.ifCond .lt 14, 3) := by decide +kernel
theorem dX10_law_4 : decode cX10_law 4 = .ok (.iload_n 1, 1) := by decide +kernel
theorem dX10_law_5 : decode cX10_law 5 = .ok (.aload_n 0, 1) := by decide +kernel
theorem dX10_law_6 : decode cX10_law 6 = .ok (.getfield 10, 3) := by decide +kernel
theorem dX10_law_9 : decode cX10_law 9 = .ok (.getfield 112, 3) := by decide +kernel
theorem dX10_law_12 : decode cX10_law 12 = .ok (.if_icmp .le 12, 3) := by decide +kernel
theorem dX10_law_15 : decode cX10_law 15 = .ok (.aload_n 0, 1) := by decide +kernel
theorem dX10_law_16 : decode cX10_law 16 = .ok (.iconst 0, 1) := by decide +kernel
theorem dX10_law_17 : decode cX10_law 17 = .ok (.invokevirtual 99, 3) := by decide +kernel
theorem dX10_law_20 : decode cX10_law 20 = .ok (.pop, 1) := by decide +kernel
theorem dX10_law_21 : decode cX10_law 21 = .ok (.bipush (-2), 2) := by decide +kernel
theorem dX10_law_23 : decode cX10_law 23 = .ok (.ireturn, 1) := by decide +kernel
theorem dX10_law_24 : decode cX10_law 24 = .ok (.aload_n 0, 1) := by decide +kernel
theorem dX10_law_25 : decode cX10_law 25 = .ok (.aload_n 0, 1) := by decide +kernel
theorem dX10_law_26 : decode cX10_law 26 = .ok (.getfield 10, 3) := by decide +kernel
theorem dX10_law_29 : decode cX10_law 29 = .ok (.iload_n 1, 1) := by decide +kernel
theorem dX10_law_30 : decode cX10_law 30 = .ok (.aload_n 0, 1) := by decide +kernel
theorem dX10_law_31 : decode cX10_law 31 = .ok (.getfield 78, 3) := by decide +kernel
theorem dX10_law_34 : decode cX10_law 34 = .ok (.invokevirtual 119, 3) := by decide +kernel
theorem dX10_law_37 : decode cX10_law 37 = .ok (.putfield 81, 3) := by decide +kernel
theorem dX10_law_40 : decode cX10_law 40 = .ok (.aload_n 0, 1) := by decide +kernel
theorem dX10_law_41 : decode cX10_law 41 = .ok (.getfield 10, 3) := by decide +kernel
theorem dX10_law_44 : decode cX10_law 44 = .ok (.iconst 0, 1) := by decide +kernel
theorem dX10_law_45 : decode cX10_law 45 = .ok (.putfield 112, 3) := by decide +kernel
theorem dX10_law_48 : decode cX10_law 48 = .ok (.aload_n 0, 1) := by decide +kernel
theorem dX10_law_49 : decode cX10_law 49 = .ok (.getfield 81, 3) := by decide +kernel
theorem dX10_law_52 : decode cX10_law 52 = .ok (.iconst (-1), 1) := by decide +kernel
theorem dX10_law_53 : decode cX10_law 53 = .ok (.if_icmp .eq 11, 3) := by decide +kernel
theorem dX10_law_56 : decode cX10_law 56 = .ok (.aload_n 0, 1) := by decide +kernel
theorem dX10_law_57 : decode cX10_law 57 = .ok (.iconst 2, 1) := by decide +kernel
theorem dX10_law_58 : decode cX10_law 58 = .ok (.invokevirtual 99, 3) := by decide +kernel
theorem dX10_law_61 : decode cX10_law 61 = .ok (.pop, 1) := by decide +kernel
theorem dX10_law_62 : decode cX10_law 62 = .ok (.iconst (-1), 1) := by decide +kernel
theorem dX10_law_63 : decode cX10_law 63 = .ok (.ireturn, 1) := by decide +kernel
theorem dX10_law_64 : decode cX10_law 64 = .ok (.aload_n 0, 1) := by decide +kernel
theorem dX10_law_65 : decode cX10_law 65 = .ok (.getfield 74, 3) := by decide +kernel
theorem dX10_law_68 : decode cX10_law 68 = .ok (.astore_n 2, 1) := by decide +kernel
theorem dX10_law_69 : decode cX10_law 69 = .ok (.aload_n 0, 1) := by decide +kernel
theorem dX10_law_70 : decode cX10_law 70 = .ok (.aload_n 0, 1) := by decide +kernel
theorem dX10_law_71 : decode cX10_law 71 = .ok (.getfield 78, 3) := by decide +kernel
theorem dX10_law_74 : decode cX10_law 74 = .ok (.putfield 74, 3) := by decide +kernel
theorem dX10_law_77 : decode cX10_law 77 = .ok (.aload_n 0, 1) := by decide +kernel
theorem dX10_law_78 : decode cX10_law 78 = .ok (.aload_n 2, 1) := by decide +kernel
theorem dX10_law_79 : decode cX10_law 79 = .ok (.putfield 78, 3) := by decide +kernel
theorem dX10_law_82 : decode cX10_law 82 = .ok (.aload_n 0, 1) := by decide +kernel
theorem dX10_law_83 : decode cX10_law 83 = .ok (.invokevirtual 109, 3) := by decide +kernel
theorem dX10_law_86 : decode cX10_law 86 = .ok (.aload_n 0, 1) := by decide +kernel
theorem dX10_law_87 : decode cX10_law 87 = .ok (.getfield 74, 3) := by decide +kernel
theorem dX10_law_90 : decode cX10_law 90 = .ok (.getfield 123, 3) := by decide +kernel
theorem dX10_law_93 : decode cX10_law 93 = .ok (.ireturn, 1) := by decide +kernel
theorem dX10_fault_0 : decode cX10_fault 0 = .ok (.aload_n 0, 1) := by decide +kernel
theorem dX10_fault_1 : decode cX10_fault 1 = .ok (.getfield 81, 3) := by decide +kernel
theorem dX10_fault_4 : decode cX10_fault 4 = .ok (.ireturn, 1) := by decide +kernel
theorem dX10_dry_0 : decode cX10_dry 0 = .ok (.iload_n 1, 1) := by decide +kernel
theorem dX10_dry_1 : decode cX10_dry 1 = .ok (.invokestatic 126, 3) := by decide +kernel
theorem dX10_dry_4 : decode cX10_dry 4 = .ok (.ifCond .ne 9, 3) := by decide +kernel
theorem dX10_dry_7 : decode cX10_dry 7 = .ok (.aload_n 0, 1) := by decide +kernel
theorem dX10_dry_8 : decode cX10_dry 8 = .ok (.iconst 0, 1) := by decide +kernel
theorem dX10_dry_9 : decode cX10_dry 9 = .ok (.invokevirtual 99, 3) := by decide +kernel
theorem dX10_dry_12 : decode cX10_dry 12 = .ok (.ireturn, 1) := by decide +kernel
theorem dX10_dry_13 : decode cX10_dry 13 = .ok (.aload_n 0, 1) := by decide +kernel
theorem dX10_dry_14 : decode cX10_dry 14 = .ok (.getfield 19, 3) := by decide +kernel
theorem dX10_dry_17 : decode cX10_dry 17 = .ok (.getfield 129, 3) := by decide +kernel
theorem dX10_dry_20 : decode cX10_dry 20 = .ok (.bipush 80, 2) := by decide +kernel
theorem dX10_dry_22 : decode cX10_dry 22 = .ok (.if_icmp .lt 9, 3) := by decide +kernel
theorem dX10_dry_25 : decode cX10_dry 25 = .ok (.aload_n 0, 1) := by decide +kernel
theorem dX10_dry_26 : decode cX10_dry 26 = .ok (.iconst 1, 1) := by decide +kernel
theorem dX10_dry_27 : decode cX10_dry 27 = .ok (.invokevirtual 99, 3) := by decide +kernel
theorem dX10_dry_30 : decode cX10_dry 30 = .ok (.ireturn, 1) := by decide +kernel
theorem dX10_dry_31 : decode cX10_dry 31 = .ok (.aload_n 0, 1) := by decide +kernel
theorem dX10_dry_32 : decode cX10_dry 32 = .ok (.getfield 19, 3) := by decide +kernel
theorem dX10_dry_35 : decode cX10_dry 35 = .ok (.getfield 132, 3) := by decide +kernel
theorem dX10_dry_38 : decode cX10_dry 38 = .ok (.iload_n 1, 1) := by decide +kernel
theorem dX10_dry_39 : decode cX10_dry 39 = .ok (.dup2, 1) := by decide +kernel
theorem dX10_dry_40 : decode cX10_dry 40 = .ok (.iaload, 1) := by decide +kernel
theorem dX10_dry_41 : decode cX10_dry 41 = .ok (.iconst 1, 1) := by decide +kernel
theorem dX10_dry_42 : decode cX10_dry 42 = .ok (.iadd, 1) := by decide +kernel
theorem dX10_dry_43 : decode cX10_dry 43 = .ok (.iastore, 1) := by decide +kernel
theorem dX10_dry_44 : decode cX10_dry 44 = .ok (.iload_n 2, 1) := by decide +kernel
theorem dX10_dry_45 : decode cX10_dry 45 = .ok (.ifCond .eq 16, 3) := by decide +kernel
theorem dX10_dry_48 : decode cX10_dry 48 = .ok (.aload_n 0, 1) := by decide +kernel
theorem dX10_dry_49 : decode cX10_dry 49 = .ok (.getfield 19, 3) := by decide +kernel
theorem dX10_dry_52 : decode cX10_dry 52 = .ok (.getfield 135, 3) := by decide +kernel
theorem dX10_dry_55 : decode cX10_dry 55 = .ok (.iload_n 1, 1) := by decide +kernel
theorem dX10_dry_56 : decode cX10_dry 56 = .ok (.dup2, 1) := by decide +kernel
theorem dX10_dry_57 : decode cX10_dry 57 = .ok (.iaload, 1) := by decide +kernel
theorem dX10_dry_58 : decode cX10_dry 58 = .ok (.iconst 1, 1) := by decide +kernel
theorem dX10_dry_59 : decode cX10_dry 59 = .ok (.iadd, 1) := by decide +kernel
theorem dX10_dry_60 : decode cX10_dry 60 = .ok (.iastore, 1) := by decide +kernel
theorem dX10_dry_61 : decode cX10_dry 61 = .ok (.aload_n 0, 1) := by decide +kernel
theorem dX10_dry_62 : decode cX10_dry 62 = .ok (.getfield 19, 3) := by decide +kernel
theorem dX10_dry_65 : decode cX10_dry 65 = .ok (.dup, 1) := by decide +kernel
theorem dX10_dry_66 : decode cX10_dry 66 = .ok (.getfield 129, 3) := by decide +kernel
theorem dX10_dry_69 : decode cX10_dry 69 = .ok (.iconst 1, 1) := by decide +kernel
theorem dX10_dry_70 : decode cX10_dry 70 = .ok (.iadd, 1) := by decide +kernel
theorem dX10_dry_71 : decode cX10_dry 71 = .ok (.putfield 129, 3) := by decide +kernel
theorem dX10_dry_74 : decode cX10_dry 74 = .ok (.aload_n 0, 1) := by decide +kernel
theorem dX10_dry_75 : decode cX10_dry 75 = .ok (.getfield 56, 3) := by decide +kernel
theorem dX10_dry_78 : decode cX10_dry 78 = .ok (.invokevirtual 138, 3) := by decide +kernel
theorem dX10_dry_81 : decode cX10_dry 81 = .ok (.aload_n 0, 1) := by decide +kernel
theorem dX10_dry_82 : decode cX10_dry 82 = .ok (.getfield 19, 3) := by decide +kernel
theorem dX10_dry_85 : decode cX10_dry 85 = .ok (.getfield 129, 3) := by decide +kernel
theorem dX10_dry_88 : decode cX10_dry 88 = .ok (.ireturn, 1) := by decide +kernel
theorem dX10_bucket_0 : decode cX10_bucket 0 = .ok (.iload_n 1, 1) := by decide +kernel
theorem dX10_bucket_1 : decode cX10_bucket 1 = .ok (.invokestatic 92, 3) := by decide +kernel
theorem dX10_bucket_4 : decode cX10_bucket 4 = .ok (.ifCond .eq 14, 3) := by decide +kernel
theorem dX10_bucket_7 : decode cX10_bucket 7 = .ok (.iload_n 2, 1) := by decide +kernel
theorem dX10_bucket_8 : decode cX10_bucket 8 = .ok (.iconst 1, 1) := by decide +kernel
theorem dX10_bucket_9 : decode cX10_bucket 9 = .ok (.if_icmp .lt 9, 3) := by decide +kernel
theorem dX10_bucket_12 : decode cX10_bucket 12 = .ok (.iload_n 2, 1) := by decide +kernel
theorem dX10_bucket_13 : decode cX10_bucket 13 = .ok (.bipush 8, 2) := by decide +kernel
theorem dX10_bucket_15 : decode cX10_bucket 15 = .ok (.if_icmp .le 9, 3) := by decide +kernel
theorem dX10_bucket_18 : decode cX10_bucket 18 = .ok (.aload_n 0, 1) := by decide +kernel
theorem dX10_bucket_19 : decode cX10_bucket 19 = .ok (.iconst 0, 1) := by decide +kernel
theorem dX10_bucket_20 : decode cX10_bucket 20 = .ok (.invokevirtual 99, 3) := by decide +kernel
theorem dX10_bucket_23 : decode cX10_bucket 23 = .ok (.ireturn, 1) := by decide +kernel
theorem dX10_bucket_24 : decode cX10_bucket 24 = .ok (.aload_n 0, 1) := by decide +kernel
theorem dX10_bucket_25 : decode cX10_bucket 25 = .ok (.getfield 19, 3) := by decide +kernel
theorem dX10_bucket_28 : decode cX10_bucket 28 = .ok (.getfield 141, 3) := by decide +kernel
theorem dX10_bucket_31 : decode cX10_bucket 31 = .ok (.iload_n 1, 1) := by decide +kernel
theorem dX10_bucket_32 : decode cX10_bucket 32 = .ok (.iaload, 1) := by decide +kernel
theorem dX10_bucket_33 : decode cX10_bucket 33 = .ok (.iload_n 2, 1) := by decide +kernel
theorem dX10_bucket_34 : decode cX10_bucket 34 = .ok (.iadd, 1) := by decide +kernel
theorem dX10_bucket_35 : decode cX10_bucket 35 = .ok (.bipush 8, 2) := by decide +kernel
theorem dX10_bucket_37 : decode cX10_bucket 37 = .ok (.if_icmp .le 9, 3) := by decide +kernel
theorem dX10_bucket_40 : decode cX10_bucket 40 = .ok (.aload_n 0, 1) := by decide +kernel
theorem dX10_bucket_41 : decode cX10_bucket 41 = .ok (.iconst 1, 1) := by decide +kernel
theorem dX10_bucket_42 : decode cX10_bucket 42 = .ok (.invokevirtual 99, 3) := by decide +kernel
theorem dX10_bucket_45 : decode cX10_bucket 45 = .ok (.ireturn, 1) := by decide +kernel
theorem dX10_bucket_46 : decode cX10_bucket 46 = .ok (.aload_n 0, 1) := by decide +kernel
theorem dX10_bucket_47 : decode cX10_bucket 47 = .ok (.getfield 19, 3) := by decide +kernel
theorem dX10_bucket_50 : decode cX10_bucket 50 = .ok (.getfield 141, 3) := by decide +kernel
theorem dX10_bucket_53 : decode cX10_bucket 53 = .ok (.iload_n 1, 1) := by decide +kernel
theorem dX10_bucket_54 : decode cX10_bucket 54 = .ok (.dup2, 1) := by decide +kernel
theorem dX10_bucket_55 : decode cX10_bucket 55 = .ok (.iaload, 1) := by decide +kernel
theorem dX10_bucket_56 : decode cX10_bucket 56 = .ok (.iload_n 2, 1) := by decide +kernel
theorem dX10_bucket_57 : decode cX10_bucket 57 = .ok (.iadd, 1) := by decide +kernel
theorem dX10_bucket_58 : decode cX10_bucket 58 = .ok (.iastore, 1) := by decide +kernel
theorem dX10_bucket_59 : decode cX10_bucket 59 = .ok (.aload_n 0, 1) := by decide +kernel
theorem dX10_bucket_60 : decode cX10_bucket 60 = .ok (.getfield 56, 3) := by decide +kernel
theorem dX10_bucket_63 : decode cX10_bucket 63 = .ok (.invokevirtual 138, 3) := by decide +kernel
theorem dX10_bucket_66 : decode cX10_bucket 66 = .ok (.aload_n 0, 1) := by decide +kernel
theorem dX10_bucket_67 : decode cX10_bucket 67 = .ok (.getfield 19, 3) := by decide +kernel
theorem dX10_bucket_70 : decode cX10_bucket 70 = .ok (.getfield 141, 3) := by decide +kernel
theorem dX10_bucket_73 : decode cX10_bucket 73 = .ok (.iload_n 1, 1) := by decide +kernel
theorem dX10_bucket_74 : decode cX10_bucket 74 = .ok (.iaload, 1) := by decide +kernel
theorem dX10_bucket_75 : decode cX10_bucket 75 = .ok (.ireturn, 1) := by decide +kernel
theorem dX10_find_0 : decode cX10_find 0 = .ok (.iload_n 1, 1) := by decide +kernel
theorem dX10_find_1 : decode cX10_find 1 = .ok (.invokestatic 92, 3) := by decide +kernel
theorem dX10_find_4 : decode cX10_find 4 = .ok (.ifCond .eq 21, 3) := by decide +kernel
theorem dX10_find_7 : decode cX10_find 7 = .ok (.iload_n 2, 1) := by decide +kernel
theorem dX10_find_8 : decode cX10_find 8 = .ok (.ifCond .lt 17, 3) := by decide +kernel
theorem dX10_find_11 : decode cX10_find 11 = .ok (.iload_n 2, 1) := by decide +kernel
theorem dX10_find_12 : decode cX10_find 12 = .ok (.iconst 3, 1) := by decide +kernel
theorem dX10_find_13 : decode cX10_find 13 = .ok (.if_icmp .ge 12, 3) := by decide +kernel
theorem dX10_find_16 : decode cX10_find 16 = .ok (.iload_n 3, 1) := by decide +kernel
theorem dX10_find_17 : decode cX10_find 17 = .ok (.iload 4, 2) := by decide +kernel
theorem dX10_find_19 : decode cX10_find 19 = .ok (.invokestatic 144, 3) := by decide +kernel
theorem dX10_find_22 : decode cX10_find 22 = .ok (.ifCond .ne 9, 3) := by decide +kernel
theorem dX10_find_25 : decode cX10_find 25 = .ok (.aload_n 0, 1) := by decide +kernel
theorem dX10_find_26 : decode cX10_find 26 = .ok (.iconst 0, 1) := by decide +kernel
theorem dX10_find_27 : decode cX10_find 27 = .ok (.invokevirtual 99, 3) := by decide +kernel
theorem dX10_find_30 : decode cX10_find 30 = .ok (.ireturn, 1) := by decide +kernel
theorem dX10_find_31 : decode cX10_find 31 = .ok (.aload_n 0, 1) := by decide +kernel
theorem dX10_find_32 : decode cX10_find 32 = .ok (.getfield 19, 3) := by decide +kernel
theorem dX10_find_35 : decode cX10_find 35 = .ok (.getfield 148, 3) := by decide +kernel
theorem dX10_find_38 : decode cX10_find 38 = .ok (.bipush 60, 2) := by decide +kernel
theorem dX10_find_40 : decode cX10_find 40 = .ok (.if_icmp .lt 9, 3) := by decide +kernel
theorem dX10_find_43 : decode cX10_find 43 = .ok (.aload_n 0, 1) := by decide +kernel
theorem dX10_find_44 : decode cX10_find 44 = .ok (.iconst 1, 1) := by decide +kernel
theorem dX10_find_45 : decode cX10_find 45 = .ok (.invokevirtual 99, 3) := by decide +kernel
theorem dX10_find_48 : decode cX10_find 48 = .ok (.ireturn, 1) := by decide +kernel
theorem dX10_find_49 : decode cX10_find 49 = .ok (.aload_n 0, 1) := by decide +kernel
theorem dX10_find_50 : decode cX10_find 50 = .ok (.getfield 19, 3) := by decide +kernel
theorem dX10_find_53 : decode cX10_find 53 = .ok (.getfield 148, 3) := by decide +kernel
theorem dX10_find_56 : decode cX10_find 56 = .ok (.istore 5, 2) := by decide +kernel
theorem dX10_find_58 : decode cX10_find 58 = .ok (.aload_n 0, 1) := by decide +kernel
theorem dX10_find_59 : decode cX10_find 59 = .ok (.getfield 19, 3) := by decide +kernel
theorem dX10_find_62 : decode cX10_find 62 = .ok (.getfield 151, 3) := by decide +kernel
theorem dX10_find_65 : decode cX10_find 65 = .ok (.iload 5, 2) := by decide +kernel
theorem dX10_find_67 : decode cX10_find 67 = .ok (.iload_n 1, 1) := by decide +kernel
theorem dX10_find_68 : decode cX10_find 68 = .ok (.iastore, 1) := by decide +kernel
theorem dX10_find_69 : decode cX10_find 69 = .ok (.aload_n 0, 1) := by decide +kernel
theorem dX10_find_70 : decode cX10_find 70 = .ok (.getfield 19, 3) := by decide +kernel
theorem dX10_find_73 : decode cX10_find 73 = .ok (.getfield 154, 3) := by decide +kernel
theorem dX10_find_76 : decode cX10_find 76 = .ok (.iload 5, 2) := by decide +kernel
theorem dX10_find_78 : decode cX10_find 78 = .ok (.iload_n 2, 1) := by decide +kernel
theorem dX10_find_79 : decode cX10_find 79 = .ok (.iastore, 1) := by decide +kernel
theorem dX10_find_80 : decode cX10_find 80 = .ok (.aload_n 0, 1) := by decide +kernel
theorem dX10_find_81 : decode cX10_find 81 = .ok (.getfield 19, 3) := by decide +kernel
theorem dX10_find_84 : decode cX10_find 84 = .ok (.getfield 157, 3) := by decide +kernel
theorem dX10_find_87 : decode cX10_find 87 = .ok (.iload 5, 2) := by decide +kernel
theorem dX10_find_89 : decode cX10_find 89 = .ok (.iload_n 3, 1) := by decide +kernel
theorem dX10_find_90 : decode cX10_find 90 = .ok (.iastore, 1) := by decide +kernel
theorem dX10_find_91 : decode cX10_find 91 = .ok (.aload_n 0, 1) := by decide +kernel
theorem dX10_find_92 : decode cX10_find 92 = .ok (.getfield 19, 3) := by decide +kernel
theorem dX10_find_95 : decode cX10_find 95 = .ok (.getfield 160, 3) := by decide +kernel
theorem dX10_find_98 : decode cX10_find 98 = .ok (.iload 5, 2) := by decide +kernel
theorem dX10_find_100 : decode cX10_find 100 = .ok (.iload 4, 2) := by decide +kernel
theorem dX10_find_102 : decode cX10_find 102 = .ok (.iastore, 1) := by decide +kernel
theorem dX10_find_103 : decode cX10_find 103 = .ok (.aload_n 0, 1) := by decide +kernel
theorem dX10_find_104 : decode cX10_find 104 = .ok (.getfield 19, 3) := by decide +kernel
theorem dX10_find_107 : decode cX10_find 107 = .ok (.dup, 1) := by decide +kernel
theorem dX10_find_108 : decode cX10_find 108 = .ok (.getfield 148, 3) := by decide +kernel
theorem dX10_find_111 : decode cX10_find 111 = .ok (.iconst 1, 1) := by decide +kernel
theorem dX10_find_112 : decode cX10_find 112 = .ok (.iadd, 1) := by decide +kernel
theorem dX10_find_113 : decode cX10_find 113 = .ok (.putfield 148, 3) := by decide +kernel
theorem dX10_find_116 : decode cX10_find 116 = .ok (.iload 5, 2) := by decide +kernel
theorem dX10_find_118 : decode cX10_find 118 = .ok (.ireturn, 1) := by decide +kernel
theorem dX10_mud_0 : decode cX10_mud 0 = .ok (.iload_n 1, 1) := by decide +kernel
theorem dX10_mud_1 : decode cX10_mud 1 = .ok (.invokestatic 92, 3) := by decide +kernel
theorem dX10_mud_4 : decode cX10_mud 4 = .ok (.ifCond .ne 9, 3) := by decide +kernel
theorem dX10_mud_7 : decode cX10_mud 7 = .ok (.aload_n 0, 1) := by decide +kernel
theorem dX10_mud_8 : decode cX10_mud 8 = .ok (.iconst 0, 1) := by decide +kernel
theorem dX10_mud_9 : decode cX10_mud 9 = .ok (.invokevirtual 99, 3) := by decide +kernel
theorem dX10_mud_12 : decode cX10_mud 12 = .ok (.ireturn, 1) := by decide +kernel
theorem dX10_mud_13 : decode cX10_mud 13 = .ok (.aload_n 0, 1) := by decide +kernel
theorem dX10_mud_14 : decode cX10_mud 14 = .ok (.getfield 19, 3) := by decide +kernel
theorem dX10_mud_17 : decode cX10_mud 17 = .ok (.getfield 163, 3) := by decide +kernel
theorem dX10_mud_20 : decode cX10_mud 20 = .ok (.iload_n 1, 1) := by decide +kernel
theorem dX10_mud_21 : decode cX10_mud 21 = .ok (.iaload, 1) := by decide +kernel
theorem dX10_mud_22 : decode cX10_mud 22 = .ok (.iconst (-1), 1) := by decide +kernel
theorem dX10_mud_23 : decode cX10_mud 23 = .ok (.if_icmp .ne 34, 3) := by decide +kernel
theorem dX10_mud_26 : decode cX10_mud 26 = .ok (.aload_n 0, 1) := by decide +kernel
theorem dX10_mud_27 : decode cX10_mud 27 = .ok (.getfield 19, 3) := by decide +kernel
theorem dX10_mud_30 : decode cX10_mud 30 = .ok (.getfield 166, 3) := by decide +kernel
theorem dX10_mud_33 : decode cX10_mud 33 = .ok (.bipush 40, 2) := by decide +kernel
theorem dX10_mud_35 : decode cX10_mud 35 = .ok (.if_icmp .lt 9, 3) := by decide +kernel
theorem dX10_mud_38 : decode cX10_mud 38 = .ok (.aload_n 0, 1) := by decide +kernel
theorem dX10_mud_39 : decode cX10_mud 39 = .ok (.iconst 1, 1) := by decide +kernel
theorem dX10_mud_40 : decode cX10_mud 40 = .ok (.invokevirtual 99, 3) := by decide +kernel
theorem dX10_mud_43 : decode cX10_mud 43 = .ok (.ireturn, 1) := by decide +kernel
theorem dX10_mud_44 : decode cX10_mud 44 = .ok (.aload_n 0, 1) := by decide +kernel
theorem dX10_mud_45 : decode cX10_mud 45 = .ok (.getfield 19, 3) := by decide +kernel
theorem dX10_mud_48 : decode cX10_mud 48 = .ok (.dup, 1) := by decide +kernel
theorem dX10_mud_49 : decode cX10_mud 49 = .ok (.getfield 166, 3) := by decide +kernel
theorem dX10_mud_52 : decode cX10_mud 52 = .ok (.iconst 1, 1) := by decide +kernel
theorem dX10_mud_53 : decode cX10_mud 53 = .ok (.iadd, 1) := by decide +kernel
theorem dX10_mud_54 : decode cX10_mud 54 = .ok (.putfield 166, 3) := by decide +kernel
theorem dX10_mud_57 : decode cX10_mud 57 = .ok (.aload_n 0, 1) := by decide +kernel
theorem dX10_mud_58 : decode cX10_mud 58 = .ok (.getfield 19, 3) := by decide +kernel
theorem dX10_mud_61 : decode cX10_mud 61 = .ok (.getfield 163, 3) := by decide +kernel
theorem dX10_mud_64 : decode cX10_mud 64 = .ok (.iload_n 1, 1) := by decide +kernel
theorem dX10_mud_65 : decode cX10_mud 65 = .ok (.iload_n 2, 1) := by decide +kernel
theorem dX10_mud_66 : decode cX10_mud 66 = .ok (.ifCond .eq 7, 3) := by decide +kernel
theorem dX10_mud_69 : decode cX10_mud 69 = .ok (.iconst 1, 1) := by decide +kernel
theorem dX10_mud_70 : decode cX10_mud 70 = .ok (.goto 4, 3) := by decide +kernel
theorem dX10_mud_73 : decode cX10_mud 73 = .ok (.iconst 0, 1) := by decide +kernel
theorem dX10_mud_74 : decode cX10_mud 74 = .ok (.iastore, 1) := by decide +kernel
theorem dX10_mud_75 : decode cX10_mud 75 = .ok (.aload_n 0, 1) := by decide +kernel
theorem dX10_mud_76 : decode cX10_mud 76 = .ok (.getfield 19, 3) := by decide +kernel
theorem dX10_mud_79 : decode cX10_mud 79 = .ok (.getfield 166, 3) := by decide +kernel
theorem dX10_mud_82 : decode cX10_mud 82 = .ok (.ireturn, 1) := by decide +kernel
theorem dX10_place_0 : decode cX10_place 0 = .ok (.iload_n 1, 1) := by decide +kernel
theorem dX10_place_1 : decode cX10_place 1 = .ok (.invokestatic 92, 3) := by decide +kernel
theorem dX10_place_4 : decode cX10_place 4 = .ok (.ifCond .eq 14, 3) := by decide +kernel
theorem dX10_place_7 : decode cX10_place 7 = .ok (.aload_n 0, 1) := by decide +kernel
theorem dX10_place_8 : decode cX10_place 8 = .ok (.getfield 19, 3) := by decide +kernel
theorem dX10_place_11 : decode cX10_place 11 = .ok (.iload_n 1, 1) := by decide +kernel
theorem dX10_place_12 : decode cX10_place 12 = .ok (.invokevirtual 169, 3) := by decide +kernel
theorem dX10_place_15 : decode cX10_place 15 = .ok (.ifCond .eq 9, 3) := by decide +kernel
theorem dX10_place_18 : decode cX10_place 18 = .ok (.aload_n 0, 1) := by decide +kernel
theorem dX10_place_19 : decode cX10_place 19 = .ok (.iconst 0, 1) := by decide +kernel
theorem dX10_place_20 : decode cX10_place 20 = .ok (.invokevirtual 99, 3) := by decide +kernel
theorem dX10_place_23 : decode cX10_place 23 = .ok (.ireturn, 1) := by decide +kernel
theorem dX10_place_24 : decode cX10_place 24 = .ok (.aload_n 0, 1) := by decide +kernel
theorem dX10_place_25 : decode cX10_place 25 = .ok (.getfield 19, 3) := by decide +kernel
theorem dX10_place_28 : decode cX10_place 28 = .ok (.getfield 172, 3) := by decide +kernel
theorem dX10_place_31 : decode cX10_place 31 = .ok (.bipush 10, 2) := by decide +kernel
theorem dX10_place_33 : decode cX10_place 33 = .ok (.if_icmp .lt 9, 3) := by decide +kernel
theorem dX10_place_36 : decode cX10_place 36 = .ok (.aload_n 0, 1) := by decide +kernel
theorem dX10_place_37 : decode cX10_place 37 = .ok (.iconst 1, 1) := by decide +kernel
theorem dX10_place_38 : decode cX10_place 38 = .ok (.invokevirtual 99, 3) := by decide +kernel
theorem dX10_place_41 : decode cX10_place 41 = .ok (.ireturn, 1) := by decide +kernel
theorem dX10_place_42 : decode cX10_place 42 = .ok (.aload_n 0, 1) := by decide +kernel
theorem dX10_place_43 : decode cX10_place 43 = .ok (.getfield 19, 3) := by decide +kernel
theorem dX10_place_46 : decode cX10_place 46 = .ok (.getfield 172, 3) := by decide +kernel
theorem dX10_place_49 : decode cX10_place 49 = .ok (.istore_n 2, 1) := by decide +kernel
theorem dX10_place_50 : decode cX10_place 50 = .ok (.aload_n 0, 1) := by decide +kernel
theorem dX10_place_51 : decode cX10_place 51 = .ok (.getfield 19, 3) := by decide +kernel
theorem dX10_place_54 : decode cX10_place 54 = .ok (.getfield 175, 3) := by decide +kernel
theorem dX10_place_57 : decode cX10_place 57 = .ok (.iload_n 2, 1) := by decide +kernel
theorem dX10_place_58 : decode cX10_place 58 = .ok (.iload_n 1, 1) := by decide +kernel
theorem dX10_place_59 : decode cX10_place 59 = .ok (.iastore, 1) := by decide +kernel
theorem dX10_place_60 : decode cX10_place 60 = .ok (.aload_n 0, 1) := by decide +kernel
theorem dX10_place_61 : decode cX10_place 61 = .ok (.getfield 19, 3) := by decide +kernel
theorem dX10_place_64 : decode cX10_place 64 = .ok (.dup, 1) := by decide +kernel
theorem dX10_place_65 : decode cX10_place 65 = .ok (.getfield 172, 3) := by decide +kernel
theorem dX10_place_68 : decode cX10_place 68 = .ok (.iconst 1, 1) := by decide +kernel
theorem dX10_place_69 : decode cX10_place 69 = .ok (.iadd, 1) := by decide +kernel
theorem dX10_place_70 : decode cX10_place 70 = .ok (.putfield 172, 3) := by decide +kernel
theorem dX10_place_73 : decode cX10_place 73 = .ok (.aload_n 0, 1) := by decide +kernel
theorem dX10_place_74 : decode cX10_place 74 = .ok (.getfield 56, 3) := by decide +kernel
theorem dX10_place_77 : decode cX10_place 77 = .ok (.invokevirtual 138, 3) := by decide +kernel
theorem dX10_place_80 : decode cX10_place 80 = .ok (.iload_n 2, 1) := by decide +kernel
theorem dX10_place_81 : decode cX10_place 81 = .ok (.ireturn, 1) := by decide +kernel
theorem dX10_letter_0 : decode cX10_letter 0 = .ok (.iload_n 2, 1) := by decide +kernel
theorem dX10_letter_1 : decode cX10_letter 1 = .ok (.invokestatic 96, 3) := by decide +kernel
theorem dX10_letter_4 : decode cX10_letter 4 = .ok (.ifCond .eq 12, 3) := by decide +kernel
theorem dX10_letter_7 : decode cX10_letter 7 = .ok (.iload_n 3, 1) := by decide +kernel
theorem dX10_letter_8 : decode cX10_letter 8 = .ok (.iload 4, 2) := by decide +kernel
theorem dX10_letter_10 : decode cX10_letter 10 = .ok (.invokestatic 144, 3) := by decide +kernel
theorem dX10_letter_13 : decode cX10_letter 13 = .ok (.ifCond .ne 9, 3) := by decide +kernel
theorem dX10_letter_16 : decode cX10_letter 16 = .ok (.aload_n 0, 1) := by decide +kernel
theorem dX10_letter_17 : decode cX10_letter 17 = .ok (.iconst 0, 1) := by decide +kernel
theorem dX10_letter_18 : decode cX10_letter 18 = .ok (.invokevirtual 99, 3) := by decide +kernel
theorem dX10_letter_21 : decode cX10_letter 21 = .ok (.ireturn, 1) := by decide +kernel
theorem dX10_letter_22 : decode cX10_letter 22 = .ok (.aload_n 0, 1) := by decide +kernel
theorem dX10_letter_23 : decode cX10_letter 23 = .ok (.getfield 19, 3) := by decide +kernel
theorem dX10_letter_26 : decode cX10_letter 26 = .ok (.getfield 178, 3) := by decide +kernel
theorem dX10_letter_29 : decode cX10_letter 29 = .ok (.bipush 40, 2) := by decide +kernel
theorem dX10_letter_31 : decode cX10_letter 31 = .ok (.if_icmp .lt 9, 3) := by decide +kernel
theorem dX10_letter_34 : decode cX10_letter 34 = .ok (.aload_n 0, 1) := by decide +kernel
theorem dX10_letter_35 : decode cX10_letter 35 = .ok (.iconst 1, 1) := by decide +kernel
theorem dX10_letter_36 : decode cX10_letter 36 = .ok (.invokevirtual 99, 3) := by decide +kernel
theorem dX10_letter_39 : decode cX10_letter 39 = .ok (.ireturn, 1) := by decide +kernel
theorem dX10_letter_40 : decode cX10_letter 40 = .ok (.aload_n 0, 1) := by decide +kernel
theorem dX10_letter_41 : decode cX10_letter 41 = .ok (.getfield 19, 3) := by decide +kernel
theorem dX10_letter_44 : decode cX10_letter 44 = .ok (.getfield 178, 3) := by decide +kernel
theorem dX10_letter_47 : decode cX10_letter 47 = .ok (.istore 5, 2) := by decide +kernel
theorem dX10_letter_49 : decode cX10_letter 49 = .ok (.aload_n 0, 1) := by decide +kernel
theorem dX10_letter_50 : decode cX10_letter 50 = .ok (.getfield 19, 3) := by decide +kernel
theorem dX10_letter_53 : decode cX10_letter 53 = .ok (.getfield 181, 3) := by decide +kernel
theorem dX10_letter_56 : decode cX10_letter 56 = .ok (.iload 5, 2) := by decide +kernel
theorem dX10_letter_58 : decode cX10_letter 58 = .ok (.iload_n 1, 1) := by decide +kernel
theorem dX10_letter_59 : decode cX10_letter 59 = .ok (.ifCond .eq 7, 3) := by decide +kernel
theorem dX10_letter_62 : decode cX10_letter 62 = .ok (.iconst 1, 1) := by decide +kernel
theorem dX10_letter_63 : decode cX10_letter 63 = .ok (.goto 4, 3) := by decide +kernel
theorem dX10_letter_66 : decode cX10_letter 66 = .ok (.iconst 0, 1) := by decide +kernel
theorem dX10_letter_67 : decode cX10_letter 67 = .ok (.iastore, 1) := by decide +kernel
theorem dX10_letter_68 : decode cX10_letter 68 = .ok (.aload_n 0, 1) := by decide +kernel
theorem dX10_letter_69 : decode cX10_letter 69 = .ok (.getfield 19, 3) := by decide +kernel
theorem dX10_letter_72 : decode cX10_letter 72 = .ok (.getfield 184, 3) := by decide +kernel
theorem dX10_letter_75 : decode cX10_letter 75 = .ok (.iload 5, 2) := by decide +kernel
theorem dX10_letter_77 : decode cX10_letter 77 = .ok (.iload_n 2, 1) := by decide +kernel
theorem dX10_letter_78 : decode cX10_letter 78 = .ok (.iastore, 1) := by decide +kernel
theorem dX10_letter_79 : decode cX10_letter 79 = .ok (.aload_n 0, 1) := by decide +kernel
theorem dX10_letter_80 : decode cX10_letter 80 = .ok (.getfield 19, 3) := by decide +kernel
theorem dX10_letter_83 : decode cX10_letter 83 = .ok (.getfield 187, 3) := by decide +kernel
theorem dX10_letter_86 : decode cX10_letter 86 = .ok (.iload 5, 2) := by decide +kernel
theorem dX10_letter_88 : decode cX10_letter 88 = .ok (.iload_n 3, 1) := by decide +kernel
theorem dX10_letter_89 : decode cX10_letter 89 = .ok (.iastore, 1) := by decide +kernel
theorem dX10_letter_90 : decode cX10_letter 90 = .ok (.aload_n 0, 1) := by decide +kernel
theorem dX10_letter_91 : decode cX10_letter 91 = .ok (.getfield 19, 3) := by decide +kernel
theorem dX10_letter_94 : decode cX10_letter 94 = .ok (.getfield 190, 3) := by decide +kernel
theorem dX10_letter_97 : decode cX10_letter 97 = .ok (.iload 5, 2) := by decide +kernel
theorem dX10_letter_99 : decode cX10_letter 99 = .ok (.iload 4, 2) := by decide +kernel
theorem dX10_letter_101 : decode cX10_letter 101 = .ok (.iastore, 1) := by decide +kernel
theorem dX10_letter_102 : decode cX10_letter 102 = .ok (.aload_n 0, 1) := by decide +kernel
theorem dX10_letter_103 : decode cX10_letter 103 = .ok (.getfield 19, 3) := by decide +kernel
theorem dX10_letter_106 : decode cX10_letter 106 = .ok (.dup, 1) := by decide +kernel
theorem dX10_letter_107 : decode cX10_letter 107 = .ok (.getfield 178, 3) := by decide +kernel
theorem dX10_letter_110 : decode cX10_letter 110 = .ok (.iconst 1, 1) := by decide +kernel
theorem dX10_letter_111 : decode cX10_letter 111 = .ok (.iadd, 1) := by decide +kernel
theorem dX10_letter_112 : decode cX10_letter 112 = .ok (.putfield 178, 3) := by decide +kernel
theorem dX10_letter_115 : decode cX10_letter 115 = .ok (.aload_n 0, 1) := by decide +kernel
theorem dX10_letter_116 : decode cX10_letter 116 = .ok (.getfield 19, 3) := by decide +kernel
theorem dX10_letter_119 : decode cX10_letter 119 = .ok (.getfield 178, 3) := by decide +kernel
theorem dX10_letter_122 : decode cX10_letter 122 = .ok (.ireturn, 1) := by decide +kernel
theorem dX10_image_0 : decode cX10_image 0 = .ok (.aload_n 0, 1) := by decide +kernel
theorem dX10_image_1 : decode cX10_image 1 = .ok (.getfield 85, 3) := by decide +kernel
theorem dX10_image_4 : decode cX10_image 4 = .ok (.iconst 3, 1) := by decide +kernel
theorem dX10_image_5 : decode cX10_image 5 = .ok (.if_icmp .lt 9, 3) := by decide +kernel
theorem dX10_image_8 : decode cX10_image 8 = .ok (.aload_n 0, 1) := by decide +kernel
theorem dX10_image_9 : decode cX10_image 9 = .ok (.iconst 1, 1) := by decide +kernel
theorem dX10_image_10 : decode cX10_image 10 = .ok (.invokevirtual 99, 3) := by decide +kernel
theorem dX10_image_13 : decode cX10_image 13 = .ok (.ireturn, 1) := by decide +kernel
theorem dX10_image_14 : decode cX10_image 14 = .ok (.aload_n 0, 1) := by decide +kernel
theorem dX10_image_15 : decode cX10_image 15 = .ok (.getfield 85, 3) := by decide +kernel
theorem dX10_image_18 : decode cX10_image 18 = .ok (.istore_n 1, 1) := by decide +kernel
theorem dX10_image_19 : decode cX10_image 19 = .ok (.new 16, 3) := by decide +kernel
theorem dX10_image_22 : decode cX10_image 22 = .ok (.dup, 1) := by decide +kernel
theorem dX10_image_23 : decode cX10_image 23 = .ok (.invokespecial 18, 3) := by decide +kernel
theorem dX10_image_26 : decode cX10_image 26 = .ok (.astore_n 2, 1) := by decide +kernel
theorem dX10_image_27 : decode cX10_image 27 = .ok (.aload_n 2, 1) := by decide +kernel
theorem dX10_image_28 : decode cX10_image 28 = .ok (.aload_n 0, 1) := by decide +kernel
theorem dX10_image_29 : decode cX10_image 29 = .ok (.getfield 19, 3) := by decide +kernel
theorem dX10_image_32 : decode cX10_image 32 = .ok (.invokevirtual 193, 3) := by decide +kernel
theorem dX10_image_35 : decode cX10_image 35 = .ok (.aload_n 0, 1) := by decide +kernel
theorem dX10_image_36 : decode cX10_image 36 = .ok (.getfield 23, 3) := by decide +kernel
theorem dX10_image_39 : decode cX10_image 39 = .ok (.iload_n 1, 1) := by decide +kernel
theorem dX10_image_40 : decode cX10_image 40 = .ok (.aload_n 2, 1) := by decide +kernel
theorem dX10_image_41 : decode cX10_image 41 = .ok (.aastore, 1) := by decide +kernel
theorem dX10_image_42 : decode cX10_image 42 = .ok (.aload_n 0, 1) := by decide +kernel
theorem dX10_image_43 : decode cX10_image 43 = .ok (.dup, 1) := by decide +kernel
theorem dX10_image_44 : decode cX10_image 44 = .ok (.getfield 85, 3) := by decide +kernel
theorem dX10_image_47 : decode cX10_image 47 = .ok (.iconst 1, 1) := by decide +kernel
theorem dX10_image_48 : decode cX10_image 48 = .ok (.iadd, 1) := by decide +kernel
theorem dX10_image_49 : decode cX10_image 49 = .ok (.putfield 85, 3) := by decide +kernel
theorem dX10_image_52 : decode cX10_image 52 = .ok (.iload_n 1, 1) := by decide +kernel
theorem dX10_image_53 : decode cX10_image 53 = .ok (.ireturn, 1) := by decide +kernel
theorem dX10_restore_0 : decode cX10_restore 0 = .ok (.iload_n 1, 1) := by decide +kernel
theorem dX10_restore_1 : decode cX10_restore 1 = .ok (.ifCond .lt 25, 3) := by decide +kernel
theorem dX10_restore_4 : decode cX10_restore 4 = .ok (.iload_n 1, 1) := by decide +kernel
theorem dX10_restore_5 : decode cX10_restore 5 = .ok (.aload_n 0, 1) := by decide +kernel
theorem dX10_restore_6 : decode cX10_restore 6 = .ok (.getfield 85, 3) := by decide +kernel
theorem dX10_restore_9 : decode cX10_restore 9 = .ok (.if_icmp .ge 17, 3) := by decide +kernel
theorem dX10_restore_12 : decode cX10_restore 12 = .ok (.iload_n 1, 1) := by decide +kernel
theorem dX10_restore_13 : decode cX10_restore 13 = .ok (.iconst 3, 1) := by decide +kernel
theorem dX10_restore_14 : decode cX10_restore 14 = .ok (.if_icmp .ge 12, 3) := by decide +kernel
theorem dX10_restore_17 : decode cX10_restore 17 = .ok (.aload_n 0, 1) := by decide +kernel
theorem dX10_restore_18 : decode cX10_restore 18 = .ok (.getfield 23, 3) := by decide +kernel
theorem dX10_restore_21 : decode cX10_restore 21 = .ok (.iload_n 1, 1) := by decide +kernel
theorem dX10_restore_22 : decode cX10_restore 22 = .ok (.aaload, 1) := by decide +kernel
theorem dX10_restore_23 : decode cX10_restore 23 = .ok (.ifnonnull 11, 3) := by decide +kernel
theorem dX10_restore_26 : decode cX10_restore 26 = .ok (.aload_n 0, 1) := by decide +kernel
theorem dX10_restore_27 : decode cX10_restore 27 = .ok (.iconst 0, 1) := by decide +kernel
theorem dX10_restore_28 : decode cX10_restore 28 = .ok (.invokevirtual 99, 3) := by decide +kernel
theorem dX10_restore_31 : decode cX10_restore 31 = .ok (.pop, 1) := by decide +kernel
theorem dX10_restore_32 : decode cX10_restore 32 = .ok (.iconst 0, 1) := by decide +kernel
theorem dX10_restore_33 : decode cX10_restore 33 = .ok (.ireturn, 1) := by decide +kernel
theorem dX10_restore_34 : decode cX10_restore 34 = .ok (.aload_n 0, 1) := by decide +kernel
theorem dX10_restore_35 : decode cX10_restore 35 = .ok (.getfield 19, 3) := by decide +kernel
theorem dX10_restore_38 : decode cX10_restore 38 = .ok (.aload_n 0, 1) := by decide +kernel
theorem dX10_restore_39 : decode cX10_restore 39 = .ok (.getfield 23, 3) := by decide +kernel
theorem dX10_restore_42 : decode cX10_restore 42 = .ok (.iload_n 1, 1) := by decide +kernel
theorem dX10_restore_43 : decode cX10_restore 43 = .ok (.aaload, 1) := by decide +kernel
theorem dX10_restore_44 : decode cX10_restore 44 = .ok (.invokevirtual 193, 3) := by decide +kernel
theorem dX10_restore_47 : decode cX10_restore 47 = .ok (.aload_n 0, 1) := by decide +kernel
theorem dX10_restore_48 : decode cX10_restore 48 = .ok (.invokevirtual 109, 3) := by decide +kernel
theorem dX10_restore_51 : decode cX10_restore 51 = .ok (.iconst 1, 1) := by decide +kernel
theorem dX10_restore_52 : decode cX10_restore 52 = .ok (.ireturn, 1) := by decide +kernel
theorem dX10_sea_0 : decode cX10_sea 0 = .ok (.iload_n 1, 1) := by decide +kernel
theorem dX10_sea_1 : decode cX10_sea 1 = .ok (.invokestatic 197, 3) := by decide +kernel
theorem dX10_sea_4 : decode cX10_sea 4 = .ok (.ifCond .eq 10, 3) := by decide +kernel
theorem dX10_sea_7 : decode cX10_sea 7 = .ok (.iload_n 2, 1) := by decide +kernel
theorem dX10_sea_8 : decode cX10_sea 8 = .ok (.invokestatic 200, 3) := by decide +kernel
theorem dX10_sea_11 : decode cX10_sea 11 = .ok (.ifCond .ne 5, 3) := by decide +kernel
theorem dX10_sea_14 : decode cX10_sea 14 = .ok (.iconst (-1), 1) := by decide +kernel
theorem dX10_sea_15 : decode cX10_sea 15 = .ok (.ireturn, 1) := by decide +kernel
theorem dX10_sea_16 : decode cX10_sea 16 = .ok (.iload_n 2, 1) := by decide +kernel
theorem dX10_sea_17 : decode cX10_sea 17 = .ok (.ifCond .ne 15, 3) := by decide +kernel
theorem dX10_sea_20 : decode cX10_sea 20 = .ok (.aload_n 0, 1) := by decide +kernel
theorem dX10_sea_21 : decode cX10_sea 21 = .ok (.getfield 74, 3) := by decide +kernel
theorem dX10_sea_24 : decode cX10_sea 24 = .ok (.getfield 203, 3) := by decide +kernel
theorem dX10_sea_27 : decode cX10_sea 27 = .ok (.iload_n 1, 1) := by decide +kernel
theorem dX10_sea_28 : decode cX10_sea 28 = .ok (.iaload, 1) := by decide +kernel
theorem dX10_sea_29 : decode cX10_sea 29 = .ok (.goto 12, 3) := by decide +kernel
theorem dX10_sea_32 : decode cX10_sea 32 = .ok (.aload_n 0, 1) := by decide +kernel
theorem dX10_sea_33 : decode cX10_sea 33 = .ok (.getfield 74, 3) := by decide +kernel
theorem dX10_sea_36 : decode cX10_sea 36 = .ok (.getfield 206, 3) := by decide +kernel
theorem dX10_sea_39 : decode cX10_sea 39 = .ok (.iload_n 1, 1) := by decide +kernel
theorem dX10_sea_40 : decode cX10_sea 40 = .ok (.iaload, 1) := by decide +kernel
theorem dX10_sea_41 : decode cX10_sea 41 = .ok (.ireturn, 1) := by decide +kernel
theorem dX10_cell_0 : decode cX10_cell 0 = .ok (.iload_n 1, 1) := by decide +kernel
theorem dX10_cell_1 : decode cX10_cell 1 = .ok (.invokestatic 92, 3) := by decide +kernel
theorem dX10_cell_4 : decode cX10_cell 4 = .ok (.ifCond .ne 5, 3) := by decide +kernel
theorem dX10_cell_7 : decode cX10_cell 7 = .ok (.iconst (-1), 1) := by decide +kernel
theorem dX10_cell_8 : decode cX10_cell 8 = .ok (.ireturn, 1) := by decide +kernel
theorem dX10_cell_9 : decode cX10_cell 9 = .ok (.iload_n 2, 1) := by decide +kernel
theorem dX10_cell_10 : decode cX10_cell 10 = .ok (.tableswitch 63 8 10 #[26, 36, 53], 26) := by decide +kernel
theorem dX10_cell_36 : decode cX10_cell 36 = .ok (.aload_n 0, 1) := by decide +kernel
theorem dX10_cell_37 : decode cX10_cell 37 = .ok (.getfield 19, 3) := by decide +kernel
theorem dX10_cell_40 : decode cX10_cell 40 = .ok (.getfield 141, 3) := by decide +kernel
theorem dX10_cell_43 : decode cX10_cell 43 = .ok (.iload_n 1, 1) := by decide +kernel
theorem dX10_cell_44 : decode cX10_cell 44 = .ok (.iaload, 1) := by decide +kernel
theorem dX10_cell_45 : decode cX10_cell 45 = .ok (.ireturn, 1) := by decide +kernel
theorem dX10_cell_46 : decode cX10_cell 46 = .ok (.aload_n 0, 1) := by decide +kernel
theorem dX10_cell_47 : decode cX10_cell 47 = .ok (.getfield 19, 3) := by decide +kernel
theorem dX10_cell_50 : decode cX10_cell 50 = .ok (.iload_n 1, 1) := by decide +kernel
theorem dX10_cell_51 : decode cX10_cell 51 = .ok (.invokevirtual 169, 3) := by decide +kernel
theorem dX10_cell_54 : decode cX10_cell 54 = .ok (.ifCond .eq 7, 3) := by decide +kernel
theorem dX10_cell_57 : decode cX10_cell 57 = .ok (.iconst 1, 1) := by decide +kernel
theorem dX10_cell_58 : decode cX10_cell 58 = .ok (.goto 4, 3) := by decide +kernel
theorem dX10_cell_61 : decode cX10_cell 61 = .ok (.iconst 0, 1) := by decide +kernel
theorem dX10_cell_62 : decode cX10_cell 62 = .ok (.ireturn, 1) := by decide +kernel
theorem dX10_cell_63 : decode cX10_cell 63 = .ok (.aload_n 0, 1) := by decide +kernel
theorem dX10_cell_64 : decode cX10_cell 64 = .ok (.getfield 19, 3) := by decide +kernel
theorem dX10_cell_67 : decode cX10_cell 67 = .ok (.getfield 163, 3) := by decide +kernel
theorem dX10_cell_70 : decode cX10_cell 70 = .ok (.iload_n 1, 1) := by decide +kernel
theorem dX10_cell_71 : decode cX10_cell 71 = .ok (.iaload, 1) := by decide +kernel
theorem dX10_cell_72 : decode cX10_cell 72 = .ok (.ireturn, 1) := by decide +kernel
theorem dX10_cell_73 : decode cX10_cell 73 = .ok (.aload_n 0, 1) := by decide +kernel
theorem dX10_cell_74 : decode cX10_cell 74 = .ok (.iload_n 1, 1) := by decide +kernel
theorem dX10_cell_75 : decode cX10_cell 75 = .ok (.iload_n 2, 1) := by decide +kernel
theorem dX10_cell_76 : decode cX10_cell 76 = .ok (.invokevirtual 209, 3) := by decide +kernel
theorem dX10_cell_79 : decode cX10_cell 79 = .ok (.ireturn, 1) := by decide +kernel
theorem dX10_groundOf_0 : decode cX10_groundOf 0 = .ok (.aload_n 0, 1) := by decide +kernel
theorem dX10_groundOf_1 : decode cX10_groundOf 1 = .ok (.invokevirtual 213, 3) := by decide +kernel
theorem dX10_groundOf_4 : decode cX10_groundOf 4 = .ok (.iload_n 2, 1) := by decide +kernel
theorem dX10_groundOf_5 : decode cX10_groundOf 5 = .ok (.tableswitch 162 0 7 #[47, 57, 67, 77, 87, 97, 114, 138], 47) := by decide +kernel
theorem dX10_groundOf_52 : decode cX10_groundOf 52 = .ok (.aload_n 0, 1) := by decide +kernel
theorem dX10_groundOf_53 : decode cX10_groundOf 53 = .ok (.getfield 38, 3) := by decide +kernel
theorem dX10_groundOf_56 : decode cX10_groundOf 56 = .ok (.getfield 216, 3) := by decide +kernel
theorem dX10_groundOf_59 : decode cX10_groundOf 59 = .ok (.iload_n 1, 1) := by decide +kernel
theorem dX10_groundOf_60 : decode cX10_groundOf 60 = .ok (.iaload, 1) := by decide +kernel
theorem dX10_groundOf_61 : decode cX10_groundOf 61 = .ok (.ireturn, 1) := by decide +kernel
theorem dX10_groundOf_62 : decode cX10_groundOf 62 = .ok (.aload_n 0, 1) := by decide +kernel
theorem dX10_groundOf_63 : decode cX10_groundOf 63 = .ok (.getfield 38, 3) := by decide +kernel
theorem dX10_groundOf_66 : decode cX10_groundOf 66 = .ok (.getfield 219, 3) := by decide +kernel
theorem dX10_groundOf_69 : decode cX10_groundOf 69 = .ok (.iload_n 1, 1) := by decide +kernel
theorem dX10_groundOf_70 : decode cX10_groundOf 70 = .ok (.iaload, 1) := by decide +kernel
theorem dX10_groundOf_71 : decode cX10_groundOf 71 = .ok (.ireturn, 1) := by decide +kernel
theorem dX10_groundOf_72 : decode cX10_groundOf 72 = .ok (.aload_n 0, 1) := by decide +kernel
theorem dX10_groundOf_73 : decode cX10_groundOf 73 = .ok (.getfield 38, 3) := by decide +kernel
theorem dX10_groundOf_76 : decode cX10_groundOf 76 = .ok (.getfield 220, 3) := by decide +kernel
theorem dX10_groundOf_79 : decode cX10_groundOf 79 = .ok (.iload_n 1, 1) := by decide +kernel
theorem dX10_groundOf_80 : decode cX10_groundOf 80 = .ok (.iaload, 1) := by decide +kernel
theorem dX10_groundOf_81 : decode cX10_groundOf 81 = .ok (.ireturn, 1) := by decide +kernel
theorem dX10_groundOf_82 : decode cX10_groundOf 82 = .ok (.aload_n 0, 1) := by decide +kernel
theorem dX10_groundOf_83 : decode cX10_groundOf 83 = .ok (.getfield 38, 3) := by decide +kernel
theorem dX10_groundOf_86 : decode cX10_groundOf 86 = .ok (.getfield 223, 3) := by decide +kernel
theorem dX10_groundOf_89 : decode cX10_groundOf 89 = .ok (.iload_n 1, 1) := by decide +kernel
theorem dX10_groundOf_90 : decode cX10_groundOf 90 = .ok (.iaload, 1) := by decide +kernel
theorem dX10_groundOf_91 : decode cX10_groundOf 91 = .ok (.ireturn, 1) := by decide +kernel
theorem dX10_groundOf_92 : decode cX10_groundOf 92 = .ok (.aload_n 0, 1) := by decide +kernel
theorem dX10_groundOf_93 : decode cX10_groundOf 93 = .ok (.getfield 38, 3) := by decide +kernel
theorem dX10_groundOf_96 : decode cX10_groundOf 96 = .ok (.getfield 226, 3) := by decide +kernel
theorem dX10_groundOf_99 : decode cX10_groundOf 99 = .ok (.iload_n 1, 1) := by decide +kernel
theorem dX10_groundOf_100 : decode cX10_groundOf 100 = .ok (.iaload, 1) := by decide +kernel
theorem dX10_groundOf_101 : decode cX10_groundOf 101 = .ok (.ireturn, 1) := by decide +kernel
theorem dX10_groundOf_102 : decode cX10_groundOf 102 = .ok (.aload_n 0, 1) := by decide +kernel
theorem dX10_groundOf_103 : decode cX10_groundOf 103 = .ok (.getfield 38, 3) := by decide +kernel
theorem dX10_groundOf_106 : decode cX10_groundOf 106 = .ok (.iload_n 1, 1) := by decide +kernel
theorem dX10_groundOf_107 : decode cX10_groundOf 107 = .ok (.invokevirtual 229, 3) := by decide +kernel
theorem dX10_groundOf_110 : decode cX10_groundOf 110 = .ok (.ifCond .eq 7, 3) := by decide +kernel
theorem dX10_groundOf_113 : decode cX10_groundOf 113 = .ok (.iconst 1, 1) := by decide +kernel
theorem dX10_groundOf_114 : decode cX10_groundOf 114 = .ok (.goto 4, 3) := by decide +kernel
theorem dX10_groundOf_117 : decode cX10_groundOf 117 = .ok (.iconst 0, 1) := by decide +kernel
theorem dX10_groundOf_118 : decode cX10_groundOf 118 = .ok (.ireturn, 1) := by decide +kernel
theorem dX10_groundOf_119 : decode cX10_groundOf 119 = .ok (.aload_n 0, 1) := by decide +kernel
theorem dX10_groundOf_120 : decode cX10_groundOf 120 = .ok (.getfield 74, 3) := by decide +kernel
theorem dX10_groundOf_123 : decode cX10_groundOf 123 = .ok (.aload_n 0, 1) := by decide +kernel
theorem dX10_groundOf_124 : decode cX10_groundOf 124 = .ok (.getfield 74, 3) := by decide +kernel
theorem dX10_groundOf_127 : decode cX10_groundOf 127 = .ok (.getfield 206, 3) := by decide +kernel
theorem dX10_groundOf_130 : decode cX10_groundOf 130 = .ok (.aload_n 0, 1) := by decide +kernel
theorem dX10_groundOf_131 : decode cX10_groundOf 131 = .ok (.getfield 38, 3) := by decide +kernel
theorem dX10_groundOf_134 : decode cX10_groundOf 134 = .ok (.getfield 216, 3) := by decide +kernel
theorem dX10_groundOf_137 : decode cX10_groundOf 137 = .ok (.iload_n 1, 1) := by decide +kernel
theorem dX10_groundOf_138 : decode cX10_groundOf 138 = .ok (.iaload, 1) := by decide +kernel
theorem dX10_groundOf_139 : decode cX10_groundOf 139 = .ok (.invokevirtual 232, 3) := by decide +kernel
theorem dX10_groundOf_142 : decode cX10_groundOf 142 = .ok (.ireturn, 1) := by decide +kernel
theorem dX10_groundOf_143 : decode cX10_groundOf 143 = .ok (.aload_n 0, 1) := by decide +kernel
theorem dX10_groundOf_144 : decode cX10_groundOf 144 = .ok (.getfield 74, 3) := by decide +kernel
theorem dX10_groundOf_147 : decode cX10_groundOf 147 = .ok (.aload_n 0, 1) := by decide +kernel
theorem dX10_groundOf_148 : decode cX10_groundOf 148 = .ok (.getfield 74, 3) := by decide +kernel
theorem dX10_groundOf_151 : decode cX10_groundOf 151 = .ok (.getfield 203, 3) := by decide +kernel
theorem dX10_groundOf_154 : decode cX10_groundOf 154 = .ok (.aload_n 0, 1) := by decide +kernel
theorem dX10_groundOf_155 : decode cX10_groundOf 155 = .ok (.getfield 38, 3) := by decide +kernel
theorem dX10_groundOf_158 : decode cX10_groundOf 158 = .ok (.getfield 219, 3) := by decide +kernel
theorem dX10_groundOf_161 : decode cX10_groundOf 161 = .ok (.iload_n 1, 1) := by decide +kernel
theorem dX10_groundOf_162 : decode cX10_groundOf 162 = .ok (.iaload, 1) := by decide +kernel
theorem dX10_groundOf_163 : decode cX10_groundOf 163 = .ok (.invokevirtual 232, 3) := by decide +kernel
theorem dX10_groundOf_166 : decode cX10_groundOf 166 = .ok (.ireturn, 1) := by decide +kernel
theorem dX10_groundOf_167 : decode cX10_groundOf 167 = .ok (.iconst (-1), 1) := by decide +kernel
theorem dX10_groundOf_168 : decode cX10_groundOf 168 = .ok (.ireturn, 1) := by decide +kernel
theorem dX10_asked_0 : decode cX10_asked 0 = .ok (.iload_n 1, 1) := by decide +kernel
theorem dX10_asked_1 : decode cX10_asked 1 = .ok (.invokestatic 92, 3) := by decide +kernel
theorem dX10_asked_4 : decode cX10_asked 4 = .ok (.ifCond .eq 10, 3) := by decide +kernel
theorem dX10_asked_7 : decode cX10_asked 7 = .ok (.iload_n 2, 1) := by decide +kernel
theorem dX10_asked_8 : decode cX10_asked 8 = .ok (.invokestatic 197, 3) := by decide +kernel
theorem dX10_asked_11 : decode cX10_asked 11 = .ok (.ifCond .ne 5, 3) := by decide +kernel
theorem dX10_asked_14 : decode cX10_asked 14 = .ok (.iconst (-1), 1) := by decide +kernel
theorem dX10_asked_15 : decode cX10_asked 15 = .ok (.ireturn, 1) := by decide +kernel
theorem dX10_asked_16 : decode cX10_asked 16 = .ok (.aload_n 0, 1) := by decide +kernel
theorem dX10_asked_17 : decode cX10_asked 17 = .ok (.iload_n 2, 1) := by decide +kernel
theorem dX10_asked_18 : decode cX10_asked 18 = .ok (.invokevirtual 236, 3) := by decide +kernel
theorem dX10_asked_21 : decode cX10_asked 21 = .ok (.astore 4, 2) := by decide +kernel
theorem dX10_asked_23 : decode cX10_asked 23 = .ok (.iload_n 3, 1) := by decide +kernel
theorem dX10_asked_24 : decode cX10_asked 24 = .ok (.tableswitch 180 0 8 #[52, 68, 75, 83, 93, 107, 138, 155, 173], 52) := by decide +kernel
theorem dX10_asked_76 : decode cX10_asked 76 = .ok (.aload 4, 2) := by decide +kernel
theorem dX10_asked_78 : decode cX10_asked 78 = .ok (.getfield 240, 3) := by decide +kernel
theorem dX10_asked_81 : decode cX10_asked 81 = .ok (.iload_n 1, 1) := by decide +kernel
theorem dX10_asked_82 : decode cX10_asked 82 = .ok (.baload, 1) := by decide +kernel
theorem dX10_asked_83 : decode cX10_asked 83 = .ok (.ifCond .eq 7, 3) := by decide +kernel
theorem dX10_asked_86 : decode cX10_asked 86 = .ok (.iconst 1, 1) := by decide +kernel
theorem dX10_asked_87 : decode cX10_asked 87 = .ok (.goto 4, 3) := by decide +kernel
theorem dX10_asked_90 : decode cX10_asked 90 = .ok (.iconst 0, 1) := by decide +kernel
theorem dX10_asked_91 : decode cX10_asked 91 = .ok (.ireturn, 1) := by decide +kernel
theorem dX10_asked_92 : decode cX10_asked 92 = .ok (.aload 4, 2) := by decide +kernel
theorem dX10_asked_94 : decode cX10_asked 94 = .ok (.iload_n 1, 1) := by decide +kernel
theorem dX10_asked_95 : decode cX10_asked 95 = .ok (.invokevirtual 244, 3) := by decide +kernel
theorem dX10_asked_98 : decode cX10_asked 98 = .ok (.ireturn, 1) := by decide +kernel
theorem dX10_asked_99 : decode cX10_asked 99 = .ok (.aload 4, 2) := by decide +kernel
theorem dX10_asked_101 : decode cX10_asked 101 = .ok (.getfield 247, 3) := by decide +kernel
theorem dX10_asked_104 : decode cX10_asked 104 = .ok (.iload_n 1, 1) := by decide +kernel
theorem dX10_asked_105 : decode cX10_asked 105 = .ok (.iaload, 1) := by decide +kernel
theorem dX10_asked_106 : decode cX10_asked 106 = .ok (.ireturn, 1) := by decide +kernel
theorem dX10_asked_107 : decode cX10_asked 107 = .ok (.aload_n 0, 1) := by decide +kernel
theorem dX10_asked_108 : decode cX10_asked 108 = .ok (.getfield 38, 3) := by decide +kernel
theorem dX10_asked_111 : decode cX10_asked 111 = .ok (.getfield 250, 3) := by decide +kernel
theorem dX10_asked_114 : decode cX10_asked 114 = .ok (.iload_n 1, 1) := by decide +kernel
theorem dX10_asked_115 : decode cX10_asked 115 = .ok (.iaload, 1) := by decide +kernel
theorem dX10_asked_116 : decode cX10_asked 116 = .ok (.ireturn, 1) := by decide +kernel
theorem dX10_asked_117 : decode cX10_asked 117 = .ok (.aload_n 0, 1) := by decide +kernel
theorem dX10_asked_118 : decode cX10_asked 118 = .ok (.iload_n 1, 1) := by decide +kernel
theorem dX10_asked_119 : decode cX10_asked 119 = .ok (.aload_n 0, 1) := by decide +kernel
theorem dX10_asked_120 : decode cX10_asked 120 = .ok (.getfield 74, 3) := by decide +kernel
theorem dX10_asked_123 : decode cX10_asked 123 = .ok (.iload_n 2, 1) := by decide +kernel
theorem dX10_asked_124 : decode cX10_asked 124 = .ok (.invokevirtual 253, 3) := by decide +kernel
theorem dX10_asked_127 : decode cX10_asked 127 = .ok (.invokevirtual 256, 3) := by decide +kernel
theorem dX10_asked_130 : decode cX10_asked 130 = .ok (.ireturn, 1) := by decide +kernel
theorem dX10_asked_131 : decode cX10_asked 131 = .ok (.aload 4, 2) := by decide +kernel
theorem dX10_asked_133 : decode cX10_asked 133 = .ok (.getfield 240, 3) := by decide +kernel
theorem dX10_asked_136 : decode cX10_asked 136 = .ok (.iload_n 1, 1) := by decide +kernel
theorem dX10_asked_137 : decode cX10_asked 137 = .ok (.baload, 1) := by decide +kernel
theorem dX10_asked_138 : decode cX10_asked 138 = .ok (.ifCond .eq 22, 3) := by decide +kernel
theorem dX10_asked_141 : decode cX10_asked 141 = .ok (.aload_n 0, 1) := by decide +kernel
theorem dX10_asked_142 : decode cX10_asked 142 = .ok (.getfield 74, 3) := by decide +kernel
theorem dX10_asked_145 : decode cX10_asked 145 = .ok (.iconst 2, 1) := by decide +kernel
theorem dX10_asked_146 : decode cX10_asked 146 = .ok (.aload 4, 2) := by decide +kernel
theorem dX10_asked_148 : decode cX10_asked 148 = .ok (.iload_n 1, 1) := by decide +kernel
theorem dX10_asked_149 : decode cX10_asked 149 = .ok (.iload_n 2, 1) := by decide +kernel
theorem dX10_asked_150 : decode cX10_asked 150 = .ok (.invokevirtual 259, 3) := by decide +kernel
theorem dX10_asked_153 : decode cX10_asked 153 = .ok (.iconst 0, 1) := by decide +kernel
theorem dX10_asked_154 : decode cX10_asked 154 = .ok (.invokevirtual 263, 3) := by decide +kernel
theorem dX10_asked_157 : decode cX10_asked 157 = .ok (.goto 4, 3) := by decide +kernel
theorem dX10_asked_160 : decode cX10_asked 160 = .ok (.iconst 0, 1) := by decide +kernel
theorem dX10_asked_161 : decode cX10_asked 161 = .ok (.ireturn, 1) := by decide +kernel
theorem dX10_asked_162 : decode cX10_asked 162 = .ok (.aload_n 0, 1) := by decide +kernel
theorem dX10_asked_163 : decode cX10_asked 163 = .ok (.getfield 74, 3) := by decide +kernel
theorem dX10_asked_166 : decode cX10_asked 166 = .ok (.iconst 3, 1) := by decide +kernel
theorem dX10_asked_167 : decode cX10_asked 167 = .ok (.aload 4, 2) := by decide +kernel
theorem dX10_asked_169 : decode cX10_asked 169 = .ok (.iload_n 1, 1) := by decide +kernel
theorem dX10_asked_170 : decode cX10_asked 170 = .ok (.iload_n 2, 1) := by decide +kernel
theorem dX10_asked_171 : decode cX10_asked 171 = .ok (.invokevirtual 259, 3) := by decide +kernel
theorem dX10_asked_174 : decode cX10_asked 174 = .ok (.iconst 0, 1) := by decide +kernel
theorem dX10_asked_175 : decode cX10_asked 175 = .ok (.invokevirtual 263, 3) := by decide +kernel
theorem dX10_asked_178 : decode cX10_asked 178 = .ok (.ireturn, 1) := by decide +kernel
theorem dX10_asked_179 : decode cX10_asked 179 = .ok (.aload_n 0, 1) := by decide +kernel
theorem dX10_asked_180 : decode cX10_asked 180 = .ok (.getfield 74, 3) := by decide +kernel
theorem dX10_asked_183 : decode cX10_asked 183 = .ok (.iconst 4, 1) := by decide +kernel
theorem dX10_asked_184 : decode cX10_asked 184 = .ok (.aload 4, 2) := by decide +kernel
theorem dX10_asked_186 : decode cX10_asked 186 = .ok (.iload_n 1, 1) := by decide +kernel
theorem dX10_asked_187 : decode cX10_asked 187 = .ok (.iload_n 2, 1) := by decide +kernel
theorem dX10_asked_188 : decode cX10_asked 188 = .ok (.invokevirtual 259, 3) := by decide +kernel
theorem dX10_asked_191 : decode cX10_asked 191 = .ok (.bipush 100, 2) := by decide +kernel
theorem dX10_asked_193 : decode cX10_asked 193 = .ok (.invokevirtual 263, 3) := by decide +kernel
theorem dX10_asked_196 : decode cX10_asked 196 = .ok (.ireturn, 1) := by decide +kernel
theorem dX10_asked_197 : decode cX10_asked 197 = .ok (.aload 4, 2) := by decide +kernel
theorem dX10_asked_199 : decode cX10_asked 199 = .ok (.iload_n 1, 1) := by decide +kernel
theorem dX10_asked_200 : decode cX10_asked 200 = .ok (.invokevirtual 267, 3) := by decide +kernel
theorem dX10_asked_203 : decode cX10_asked 203 = .ok (.ireturn, 1) := by decide +kernel
theorem dX10_asked_204 : decode cX10_asked 204 = .ok (.iconst (-1), 1) := by decide +kernel
theorem dX10_asked_205 : decode cX10_asked 205 = .ok (.ireturn, 1) := by decide +kernel
theorem dX10_shore_0 : decode cX10_shore 0 = .ok (.iload_n 1, 1) := by decide +kernel
theorem dX10_shore_1 : decode cX10_shore 1 = .ok (.invokestatic 197, 3) := by decide +kernel
theorem dX10_shore_4 : decode cX10_shore 4 = .ok (.ifCond .ne 5, 3) := by decide +kernel
theorem dX10_shore_7 : decode cX10_shore 7 = .ok (.iconst (-1), 1) := by decide +kernel
theorem dX10_shore_8 : decode cX10_shore 8 = .ok (.ireturn, 1) := by decide +kernel
theorem dX10_shore_9 : decode cX10_shore 9 = .ok (.aload_n 0, 1) := by decide +kernel
theorem dX10_shore_10 : decode cX10_shore 10 = .ok (.iload_n 1, 1) := by decide +kernel
theorem dX10_shore_11 : decode cX10_shore 11 = .ok (.invokevirtual 236, 3) := by decide +kernel
theorem dX10_shore_14 : decode cX10_shore 14 = .ok (.astore_n 2, 1) := by decide +kernel
theorem dX10_shore_15 : decode cX10_shore 15 = .ok (.iconst 0, 1) := by decide +kernel
theorem dX10_shore_16 : decode cX10_shore 16 = .ok (.istore_n 3, 1) := by decide +kernel
theorem dX10_shore_17 : decode cX10_shore 17 = .ok (.iconst 0, 1) := by decide +kernel
theorem dX10_shore_18 : decode cX10_shore 18 = .ok (.istore 4, 2) := by decide +kernel
theorem dX10_shore_20 : decode cX10_shore 20 = .ok (.iload 4, 2) := by decide +kernel
theorem dX10_shore_22 : decode cX10_shore 22 = .ok (.sipush 256, 3) := by decide +kernel
theorem dX10_shore_25 : decode cX10_shore 25 = .ok (.if_icmp .ge 77, 3) := by decide +kernel
theorem dX10_shore_28 : decode cX10_shore 28 = .ok (.iload 4, 2) := by decide +kernel
theorem dX10_shore_30 : decode cX10_shore 30 = .ok (.iconst 2, 1) := by decide +kernel
theorem dX10_shore_31 : decode cX10_shore 31 = .ok (.invokestatic 270, 3) := by decide +kernel
theorem dX10_shore_34 : decode cX10_shore 34 = .ok (.istore 5, 2) := by decide +kernel
theorem dX10_shore_36 : decode cX10_shore 36 = .ok (.iload 4, 2) := by decide +kernel
theorem dX10_shore_38 : decode cX10_shore 38 = .ok (.iconst 3, 1) := by decide +kernel
theorem dX10_shore_39 : decode cX10_shore 39 = .ok (.invokestatic 270, 3) := by decide +kernel
theorem dX10_shore_42 : decode cX10_shore 42 = .ok (.istore 6, 2) := by decide +kernel
theorem dX10_shore_44 : decode cX10_shore 44 = .ok (.iload 5, 2) := by decide +kernel
theorem dX10_shore_46 : decode cX10_shore 46 = .ok (.iconst (-1), 1) := by decide +kernel
theorem dX10_shore_47 : decode cX10_shore 47 = .ok (.if_icmp .eq 23, 3) := by decide +kernel
theorem dX10_shore_50 : decode cX10_shore 50 = .ok (.aload_n 2, 1) := by decide +kernel
theorem dX10_shore_51 : decode cX10_shore 51 = .ok (.getfield 240, 3) := by decide +kernel
theorem dX10_shore_54 : decode cX10_shore 54 = .ok (.iload 4, 2) := by decide +kernel
theorem dX10_shore_56 : decode cX10_shore 56 = .ok (.baload, 1) := by decide +kernel
theorem dX10_shore_57 : decode cX10_shore 57 = .ok (.aload_n 2, 1) := by decide +kernel
theorem dX10_shore_58 : decode cX10_shore 58 = .ok (.getfield 240, 3) := by decide +kernel
theorem dX10_shore_61 : decode cX10_shore 61 = .ok (.iload 5, 2) := by decide +kernel
theorem dX10_shore_63 : decode cX10_shore 63 = .ok (.baload, 1) := by decide +kernel
theorem dX10_shore_64 : decode cX10_shore 64 = .ok (.if_icmp .eq 6, 3) := by decide +kernel
theorem dX10_shore_67 : decode cX10_shore 67 = .ok (.iinc 3 1, 3) := by decide +kernel
theorem dX10_shore_70 : decode cX10_shore 70 = .ok (.iload 6, 2) := by decide +kernel
theorem dX10_shore_72 : decode cX10_shore 72 = .ok (.iconst (-1), 1) := by decide +kernel
theorem dX10_shore_73 : decode cX10_shore 73 = .ok (.if_icmp .eq 23, 3) := by decide +kernel
theorem dX10_shore_76 : decode cX10_shore 76 = .ok (.aload_n 2, 1) := by decide +kernel
theorem dX10_shore_77 : decode cX10_shore 77 = .ok (.getfield 240, 3) := by decide +kernel
theorem dX10_shore_80 : decode cX10_shore 80 = .ok (.iload 4, 2) := by decide +kernel
theorem dX10_shore_82 : decode cX10_shore 82 = .ok (.baload, 1) := by decide +kernel
theorem dX10_shore_83 : decode cX10_shore 83 = .ok (.aload_n 2, 1) := by decide +kernel
theorem dX10_shore_84 : decode cX10_shore 84 = .ok (.getfield 240, 3) := by decide +kernel
theorem dX10_shore_87 : decode cX10_shore 87 = .ok (.iload 6, 2) := by decide +kernel
theorem dX10_shore_89 : decode cX10_shore 89 = .ok (.baload, 1) := by decide +kernel
theorem dX10_shore_90 : decode cX10_shore 90 = .ok (.if_icmp .eq 6, 3) := by decide +kernel
theorem dX10_shore_93 : decode cX10_shore 93 = .ok (.iinc 3 1, 3) := by decide +kernel
theorem dX10_shore_96 : decode cX10_shore 96 = .ok (.iinc 4 1, 3) := by decide +kernel
theorem dX10_shore_99 : decode cX10_shore 99 = .ok (.goto (-79), 3) := by decide +kernel
theorem dX10_shore_102 : decode cX10_shore 102 = .ok (.iload_n 3, 1) := by decide +kernel
theorem dX10_shore_103 : decode cX10_shore 103 = .ok (.ireturn, 1) := by decide +kernel
theorem dX10_alone_0 : decode cX10_alone 0 = .ok (.iload_n 1, 1) := by decide +kernel
theorem dX10_alone_1 : decode cX10_alone 1 = .ok (.invokestatic 92, 3) := by decide +kernel
theorem dX10_alone_4 : decode cX10_alone 4 = .ok (.ifCond .eq 22, 3) := by decide +kernel
theorem dX10_alone_7 : decode cX10_alone 7 = .ok (.iload_n 2, 1) := by decide +kernel
theorem dX10_alone_8 : decode cX10_alone 8 = .ok (.iconst 1, 1) := by decide +kernel
theorem dX10_alone_9 : decode cX10_alone 9 = .ok (.if_icmp .lt 17, 3) := by decide +kernel
theorem dX10_alone_12 : decode cX10_alone 12 = .ok (.iload_n 2, 1) := by decide +kernel
theorem dX10_alone_13 : decode cX10_alone 13 = .ok (.sipush 256, 3) := by decide +kernel
theorem dX10_alone_16 : decode cX10_alone 16 = .ok (.if_icmp .gt 10, 3) := by decide +kernel
theorem dX10_alone_19 : decode cX10_alone 19 = .ok (.iload_n 3, 1) := by decide +kernel
theorem dX10_alone_20 : decode cX10_alone 20 = .ok (.invokestatic 200, 3) := by decide +kernel
theorem dX10_alone_23 : decode cX10_alone 23 = .ok (.ifCond .ne 5, 3) := by decide +kernel
theorem dX10_alone_26 : decode cX10_alone 26 = .ok (.iconst (-1), 1) := by decide +kernel
theorem dX10_alone_27 : decode cX10_alone 27 = .ok (.ireturn, 1) := by decide +kernel
theorem dX10_alone_28 : decode cX10_alone 28 = .ok (.aload_n 0, 1) := by decide +kernel
theorem dX10_alone_29 : decode cX10_alone 29 = .ok (.invokevirtual 213, 3) := by decide +kernel
theorem dX10_alone_32 : decode cX10_alone 32 = .ok (.iconst 0, 1) := by decide +kernel
theorem dX10_alone_33 : decode cX10_alone 33 = .ok (.istore 4, 2) := by decide +kernel
theorem dX10_alone_35 : decode cX10_alone 35 = .ok (.iconst (-1), 1) := by decide +kernel
theorem dX10_alone_36 : decode cX10_alone 36 = .ok (.istore 5, 2) := by decide +kernel
theorem dX10_alone_38 : decode cX10_alone 38 = .ok (.iconst 0, 1) := by decide +kernel
theorem dX10_alone_39 : decode cX10_alone 39 = .ok (.istore 6, 2) := by decide +kernel
theorem dX10_alone_41 : decode cX10_alone 41 = .ok (.iconst 0, 1) := by decide +kernel
theorem dX10_alone_42 : decode cX10_alone 42 = .ok (.istore 7, 2) := by decide +kernel
theorem dX10_alone_44 : decode cX10_alone 44 = .ok (.iconst 0, 1) := by decide +kernel
theorem dX10_alone_45 : decode cX10_alone 45 = .ok (.istore 8, 2) := by decide +kernel
theorem dX10_alone_47 : decode cX10_alone 47 = .ok (.iload 8, 2) := by decide +kernel
theorem dX10_alone_49 : decode cX10_alone 49 = .ok (.bipush 100, 2) := by decide +kernel
theorem dX10_alone_51 : decode cX10_alone 51 = .ok (.if_icmp .ge 92, 3) := by decide +kernel
theorem dX10_alone_54 : decode cX10_alone 54 = .ok (.aload_n 0, 1) := by decide +kernel
theorem dX10_alone_55 : decode cX10_alone 55 = .ok (.getfield 74, 3) := by decide +kernel
theorem dX10_alone_58 : decode cX10_alone 58 = .ok (.iload 8, 2) := by decide +kernel
theorem dX10_alone_60 : decode cX10_alone 60 = .ok (.invokevirtual 253, 3) := by decide +kernel
theorem dX10_alone_63 : decode cX10_alone 63 = .ok (.istore 9, 2) := by decide +kernel
theorem dX10_alone_65 : decode cX10_alone 65 = .ok (.iload 8, 2) := by decide +kernel
theorem dX10_alone_67 : decode cX10_alone 67 = .ok (.ifCond .eq 19, 3) := by decide +kernel
theorem dX10_alone_70 : decode cX10_alone 70 = .ok (.iload 9, 2) := by decide +kernel
theorem dX10_alone_72 : decode cX10_alone 72 = .ok (.aload_n 0, 1) := by decide +kernel
theorem dX10_alone_73 : decode cX10_alone 73 = .ok (.getfield 74, 3) := by decide +kernel
theorem dX10_alone_76 : decode cX10_alone 76 = .ok (.iload 8, 2) := by decide +kernel
theorem dX10_alone_78 : decode cX10_alone 78 = .ok (.iconst 1, 1) := by decide +kernel
theorem dX10_alone_79 : decode cX10_alone 79 = .ok (.isub, 1) := by decide +kernel
theorem dX10_alone_80 : decode cX10_alone 80 = .ok (.invokevirtual 253, 3) := by decide +kernel
theorem dX10_alone_83 : decode cX10_alone 83 = .ok (.if_icmp .eq 12, 3) := by decide +kernel
theorem dX10_alone_86 : decode cX10_alone 86 = .ok (.aload_n 0, 1) := by decide +kernel
theorem dX10_alone_87 : decode cX10_alone 87 = .ok (.iload_n 1, 1) := by decide +kernel
theorem dX10_alone_88 : decode cX10_alone 88 = .ok (.iload 9, 2) := by decide +kernel
theorem dX10_alone_90 : decode cX10_alone 90 = .ok (.invokevirtual 256, 3) := by decide +kernel
theorem dX10_alone_93 : decode cX10_alone 93 = .ok (.istore 7, 2) := by decide +kernel
theorem dX10_alone_95 : decode cX10_alone 95 = .ok (.iload 7, 2) := by decide +kernel
theorem dX10_alone_97 : decode cX10_alone 97 = .ok (.iconst 1, 1) := by decide +kernel
theorem dX10_alone_98 : decode cX10_alone 98 = .ok (.if_icmp .lt 16, 3) := by decide +kernel
theorem dX10_alone_101 : decode cX10_alone 101 = .ok (.iload 7, 2) := by decide +kernel
theorem dX10_alone_103 : decode cX10_alone 103 = .ok (.iload_n 2, 1) := by decide +kernel
theorem dX10_alone_104 : decode cX10_alone 104 = .ok (.if_icmp .gt 10, 3) := by decide +kernel
theorem dX10_alone_107 : decode cX10_alone 107 = .ok (.iload 6, 2) := by decide +kernel
theorem dX10_alone_109 : decode cX10_alone 109 = .ok (.iconst 1, 1) := by decide +kernel
theorem dX10_alone_110 : decode cX10_alone 110 = .ok (.iadd, 1) := by decide +kernel
theorem dX10_alone_111 : decode cX10_alone 111 = .ok (.goto 4, 3) := by decide +kernel
theorem dX10_alone_114 : decode cX10_alone 114 = .ok (.iconst 0, 1) := by decide +kernel
theorem dX10_alone_115 : decode cX10_alone 115 = .ok (.istore 6, 2) := by decide +kernel
theorem dX10_alone_117 : decode cX10_alone 117 = .ok (.iload 6, 2) := by decide +kernel
theorem dX10_alone_119 : decode cX10_alone 119 = .ok (.iload 4, 2) := by decide +kernel
theorem dX10_alone_121 : decode cX10_alone 121 = .ok (.if_icmp .le 16, 3) := by decide +kernel
theorem dX10_alone_124 : decode cX10_alone 124 = .ok (.iload 6, 2) := by decide +kernel
theorem dX10_alone_126 : decode cX10_alone 126 = .ok (.istore 4, 2) := by decide +kernel
theorem dX10_alone_128 : decode cX10_alone 128 = .ok (.iload 8, 2) := by decide +kernel
theorem dX10_alone_130 : decode cX10_alone 130 = .ok (.iload 6, 2) := by decide +kernel
theorem dX10_alone_132 : decode cX10_alone 132 = .ok (.isub, 1) := by decide +kernel
theorem dX10_alone_133 : decode cX10_alone 133 = .ok (.iconst 1, 1) := by decide +kernel
theorem dX10_alone_134 : decode cX10_alone 134 = .ok (.iadd, 1) := by decide +kernel
theorem dX10_alone_135 : decode cX10_alone 135 = .ok (.istore 5, 2) := by decide +kernel
theorem dX10_alone_137 : decode cX10_alone 137 = .ok (.iinc 8 1, 3) := by decide +kernel
theorem dX10_alone_140 : decode cX10_alone 140 = .ok (.goto (-93), 3) := by decide +kernel
theorem dX10_alone_143 : decode cX10_alone 143 = .ok (.iload_n 3, 1) := by decide +kernel
theorem dX10_alone_144 : decode cX10_alone 144 = .ok (.ifCond .ne 8, 3) := by decide +kernel
theorem dX10_alone_147 : decode cX10_alone 147 = .ok (.iload 4, 2) := by decide +kernel
theorem dX10_alone_149 : decode cX10_alone 149 = .ok (.goto 5, 3) := by decide +kernel
theorem dX10_alone_152 : decode cX10_alone 152 = .ok (.iload 5, 2) := by decide +kernel
theorem dX10_alone_154 : decode cX10_alone 154 = .ok (.ireturn, 1) := by decide +kernel
theorem dX10_ends_0 : decode cX10_ends 0 = .ok (.iload_n 1, 1) := by decide +kernel
theorem dX10_ends_1 : decode cX10_ends 1 = .ok (.invokestatic 92, 3) := by decide +kernel
theorem dX10_ends_4 : decode cX10_ends 4 = .ok (.ifCond .eq 10, 3) := by decide +kernel
theorem dX10_ends_7 : decode cX10_ends 7 = .ok (.iload_n 2, 1) := by decide +kernel
theorem dX10_ends_8 : decode cX10_ends 8 = .ok (.invokestatic 200, 3) := by decide +kernel
theorem dX10_ends_11 : decode cX10_ends 11 = .ok (.ifCond .ne 5, 3) := by decide +kernel
theorem dX10_ends_14 : decode cX10_ends 14 = .ok (.iconst (-1), 1) := by decide +kernel
theorem dX10_ends_15 : decode cX10_ends 15 = .ok (.ireturn, 1) := by decide +kernel
theorem dX10_ends_16 : decode cX10_ends 16 = .ok (.aload_n 0, 1) := by decide +kernel
theorem dX10_ends_17 : decode cX10_ends 17 = .ok (.invokevirtual 213, 3) := by decide +kernel
theorem dX10_ends_20 : decode cX10_ends 20 = .ok (.aload_n 0, 1) := by decide +kernel
theorem dX10_ends_21 : decode cX10_ends 21 = .ok (.getfield 38, 3) := by decide +kernel
theorem dX10_ends_24 : decode cX10_ends 24 = .ok (.getfield 273, 3) := by decide +kernel
theorem dX10_ends_27 : decode cX10_ends 27 = .ok (.iload_n 1, 1) := by decide +kernel
theorem dX10_ends_28 : decode cX10_ends 28 = .ok (.iaload, 1) := by decide +kernel
theorem dX10_ends_29 : decode cX10_ends 29 = .ok (.istore_n 3, 1) := by decide +kernel
theorem dX10_ends_30 : decode cX10_ends 30 = .ok (.iload_n 2, 1) := by decide +kernel
theorem dX10_ends_31 : decode cX10_ends 31 = .ok (.ifCond .ne 5, 3) := by decide +kernel
theorem dX10_ends_34 : decode cX10_ends 34 = .ok (.iload_n 3, 1) := by decide +kernel
theorem dX10_ends_35 : decode cX10_ends 35 = .ok (.ireturn, 1) := by decide +kernel
theorem dX10_ends_36 : decode cX10_ends 36 = .ok (.iconst 0, 1) := by decide +kernel
theorem dX10_ends_37 : decode cX10_ends 37 = .ok (.istore 4, 2) := by decide +kernel
theorem dX10_ends_39 : decode cX10_ends 39 = .ok (.iconst 0, 1) := by decide +kernel
theorem dX10_ends_40 : decode cX10_ends 40 = .ok (.istore 5, 2) := by decide +kernel
theorem dX10_ends_42 : decode cX10_ends 42 = .ok (.iload 5, 2) := by decide +kernel
theorem dX10_ends_44 : decode cX10_ends 44 = .ok (.sipush 256, 3) := by decide +kernel
theorem dX10_ends_47 : decode cX10_ends 47 = .ok (.if_icmp .ge 26, 3) := by decide +kernel
theorem dX10_ends_50 : decode cX10_ends 50 = .ok (.aload_n 0, 1) := by decide +kernel
theorem dX10_ends_51 : decode cX10_ends 51 = .ok (.getfield 38, 3) := by decide +kernel
theorem dX10_ends_54 : decode cX10_ends 54 = .ok (.getfield 273, 3) := by decide +kernel
theorem dX10_ends_57 : decode cX10_ends 57 = .ok (.iload 5, 2) := by decide +kernel
theorem dX10_ends_59 : decode cX10_ends 59 = .ok (.iaload, 1) := by decide +kernel
theorem dX10_ends_60 : decode cX10_ends 60 = .ok (.iload_n 3, 1) := by decide +kernel
theorem dX10_ends_61 : decode cX10_ends 61 = .ok (.if_icmp .ne 6, 3) := by decide +kernel
theorem dX10_ends_64 : decode cX10_ends 64 = .ok (.iinc 4 1, 3) := by decide +kernel
theorem dX10_ends_67 : decode cX10_ends 67 = .ok (.iinc 5 1, 3) := by decide +kernel
theorem dX10_ends_70 : decode cX10_ends 70 = .ok (.goto (-28), 3) := by decide +kernel
theorem dX10_ends_73 : decode cX10_ends 73 = .ok (.iload 4, 2) := by decide +kernel
theorem dX10_ends_75 : decode cX10_ends 75 = .ok (.ireturn, 1) := by decide +kernel
theorem dX10_ford_0 : decode cX10_ford 0 = .ok (.iload_n 1, 1) := by decide +kernel
theorem dX10_ford_1 : decode cX10_ford 1 = .ok (.invokestatic 197, 3) := by decide +kernel
theorem dX10_ford_4 : decode cX10_ford 4 = .ok (.ifCond .eq 19, 3) := by decide +kernel
theorem dX10_ford_7 : decode cX10_ford 7 = .ok (.iload_n 2, 1) := by decide +kernel
theorem dX10_ford_8 : decode cX10_ford 8 = .ok (.iconst 2, 1) := by decide +kernel
theorem dX10_ford_9 : decode cX10_ford 9 = .ok (.if_icmp .lt 14, 3) := by decide +kernel
theorem dX10_ford_12 : decode cX10_ford 12 = .ok (.iload_n 2, 1) := by decide +kernel
theorem dX10_ford_13 : decode cX10_ford 13 = .ok (.bipush 99, 2) := by decide +kernel
theorem dX10_ford_15 : decode cX10_ford 15 = .ok (.if_icmp .gt 8, 3) := by decide +kernel
theorem dX10_ford_18 : decode cX10_ford 18 = .ok (.iload_n 3, 1) := by decide +kernel
theorem dX10_ford_19 : decode cX10_ford 19 = .ok (.iconst (-1), 1) := by decide +kernel
theorem dX10_ford_20 : decode cX10_ford 20 = .ok (.if_icmp .ge 5, 3) := by decide +kernel
theorem dX10_ford_23 : decode cX10_ford 23 = .ok (.iconst (-1), 1) := by decide +kernel
theorem dX10_ford_24 : decode cX10_ford 24 = .ok (.ireturn, 1) := by decide +kernel
theorem dX10_ford_25 : decode cX10_ford 25 = .ok (.aload_n 0, 1) := by decide +kernel
theorem dX10_ford_26 : decode cX10_ford 26 = .ok (.iload_n 1, 1) := by decide +kernel
theorem dX10_ford_27 : decode cX10_ford 27 = .ok (.invokevirtual 236, 3) := by decide +kernel
theorem dX10_ford_30 : decode cX10_ford 30 = .ok (.astore 4, 2) := by decide +kernel
theorem dX10_ford_32 : decode cX10_ford 32 = .ok (.iconst 0, 1) := by decide +kernel
theorem dX10_ford_33 : decode cX10_ford 33 = .ok (.istore 5, 2) := by decide +kernel
theorem dX10_ford_35 : decode cX10_ford 35 = .ok (.iconst 0, 1) := by decide +kernel
theorem dX10_ford_36 : decode cX10_ford 36 = .ok (.istore 6, 2) := by decide +kernel
theorem dX10_ford_38 : decode cX10_ford 38 = .ok (.iload 6, 2) := by decide +kernel
theorem dX10_ford_40 : decode cX10_ford 40 = .ok (.sipush 256, 3) := by decide +kernel
theorem dX10_ford_43 : decode cX10_ford 43 = .ok (.if_icmp .ge 32, 3) := by decide +kernel
theorem dX10_ford_46 : decode cX10_ford 46 = .ok (.aload 4, 2) := by decide +kernel
theorem dX10_ford_48 : decode cX10_ford 48 = .ok (.iload 6, 2) := by decide +kernel
theorem dX10_ford_50 : decode cX10_ford 50 = .ok (.iload_n 2, 1) := by decide +kernel
theorem dX10_ford_51 : decode cX10_ford 51 = .ok (.invokevirtual 276, 3) := by decide +kernel
theorem dX10_ford_54 : decode cX10_ford 54 = .ok (.ifCond .eq 15, 3) := by decide +kernel
theorem dX10_ford_57 : decode cX10_ford 57 = .ok (.iload 5, 2) := by decide +kernel
theorem dX10_ford_59 : decode cX10_ford 59 = .ok (.iload_n 3, 1) := by decide +kernel
theorem dX10_ford_60 : decode cX10_ford 60 = .ok (.if_icmp .ne 6, 3) := by decide +kernel
theorem dX10_ford_63 : decode cX10_ford 63 = .ok (.iload 6, 2) := by decide +kernel
theorem dX10_ford_65 : decode cX10_ford 65 = .ok (.ireturn, 1) := by decide +kernel
theorem dX10_ford_66 : decode cX10_ford 66 = .ok (.iinc 5 1, 3) := by decide +kernel
theorem dX10_ford_69 : decode cX10_ford 69 = .ok (.iinc 6 1, 3) := by decide +kernel
theorem dX10_ford_72 : decode cX10_ford 72 = .ok (.goto (-34), 3) := by decide +kernel
theorem dX10_ford_75 : decode cX10_ford 75 = .ok (.iload_n 3, 1) := by decide +kernel
theorem dX10_ford_76 : decode cX10_ford 76 = .ok (.iconst (-1), 1) := by decide +kernel
theorem dX10_ford_77 : decode cX10_ford 77 = .ok (.if_icmp .ne 8, 3) := by decide +kernel
theorem dX10_ford_80 : decode cX10_ford 80 = .ok (.iload 5, 2) := by decide +kernel
theorem dX10_ford_82 : decode cX10_ford 82 = .ok (.goto 4, 3) := by decide +kernel
theorem dX10_ford_85 : decode cX10_ford 85 = .ok (.iconst (-1), 1) := by decide +kernel
theorem dX10_ford_86 : decode cX10_ford 86 = .ok (.ireturn, 1) := by decide +kernel
theorem dX10_lived_0 : decode cX10_lived 0 = .ok (.iload_n 1, 1) := by decide +kernel
theorem dX10_lived_1 : decode cX10_lived 1 = .ok (.invokestatic 92, 3) := by decide +kernel
theorem dX10_lived_4 : decode cX10_lived 4 = .ok (.ifCond .eq 19, 3) := by decide +kernel
theorem dX10_lived_7 : decode cX10_lived 7 = .ok (.iload_n 2, 1) := by decide +kernel
theorem dX10_lived_8 : decode cX10_lived 8 = .ok (.iload_n 3, 1) := by decide +kernel
theorem dX10_lived_9 : decode cX10_lived 9 = .ok (.invokestatic 144, 3) := by decide +kernel
theorem dX10_lived_12 : decode cX10_lived 12 = .ok (.ifCond .eq 11, 3) := by decide +kernel
theorem dX10_lived_15 : decode cX10_lived 15 = .ok (.iload 4, 2) := by decide +kernel
theorem dX10_lived_17 : decode cX10_lived 17 = .ok (.invokestatic 200, 3) := by decide +kernel
theorem dX10_lived_20 : decode cX10_lived 20 = .ok (.ifCond .ne 7, 3) := by decide +kernel
theorem dX10_lived_23 : decode cX10_lived 23 = .ok (.ldc2_w 279, 3) := by decide +kernel
theorem dX10_lived_26 : decode cX10_lived 26 = .ok (.lreturn, 1) := by decide +kernel
theorem dX10_lived_27 : decode cX10_lived 27 = .ok (.aload_n 0, 1) := by decide +kernel
theorem dX10_lived_28 : decode cX10_lived 28 = .ok (.invokevirtual 213, 3) := by decide +kernel
theorem dX10_lived_31 : decode cX10_lived 31 = .ok (.aload_n 0, 1) := by decide +kernel
theorem dX10_lived_32 : decode cX10_lived 32 = .ok (.iload_n 2, 1) := by decide +kernel
theorem dX10_lived_33 : decode cX10_lived 33 = .ok (.iload_n 3, 1) := by decide +kernel
theorem dX10_lived_34 : decode cX10_lived 34 = .ok (.invokevirtual 281, 3) := by decide +kernel
theorem dX10_lived_37 : decode cX10_lived 37 = .ok (.lstore 5, 2) := by decide +kernel
theorem dX10_lived_39 : decode cX10_lived 39 = .ok (.lload 5, 2) := by decide +kernel
theorem dX10_lived_41 : decode cX10_lived 41 = .ok (.lconst 0, 1) := by decide +kernel
theorem dX10_lived_42 : decode cX10_lived 42 = .ok (.lcmp, 1) := by decide +kernel
theorem dX10_lived_43 : decode cX10_lived 43 = .ok (.ifCond .ne 7, 3) := by decide +kernel
theorem dX10_lived_46 : decode cX10_lived 46 = .ok (.ldc2_w 279, 3) := by decide +kernel
theorem dX10_lived_49 : decode cX10_lived 49 = .ok (.lreturn, 1) := by decide +kernel
theorem dX10_lived_50 : decode cX10_lived 50 = .ok (.aload_n 0, 1) := by decide +kernel
theorem dX10_lived_51 : decode cX10_lived 51 = .ok (.getfield 63, 3) := by decide +kernel
theorem dX10_lived_54 : decode cX10_lived 54 = .ok (.aload_n 0, 1) := by decide +kernel
theorem dX10_lived_55 : decode cX10_lived 55 = .ok (.iload_n 1, 1) := by decide +kernel
theorem dX10_lived_56 : decode cX10_lived 56 = .ok (.iload_n 2, 1) := by decide +kernel
theorem dX10_lived_57 : decode cX10_lived 57 = .ok (.iload_n 3, 1) := by decide +kernel
theorem dX10_lived_58 : decode cX10_lived 58 = .ok (.invokevirtual 285, 3) := by decide +kernel
theorem dX10_lived_61 : decode cX10_lived 61 = .ok (.lload 5, 2) := by decide +kernel
theorem dX10_lived_63 : decode cX10_lived 63 = .ok (.invokevirtual 289, 3) := by decide +kernel
theorem dX10_lived_66 : decode cX10_lived 66 = .ok (.aload_n 0, 1) := by decide +kernel
theorem dX10_lived_67 : decode cX10_lived 67 = .ok (.getfield 63, 3) := by decide +kernel
theorem dX10_lived_70 : decode cX10_lived 70 = .ok (.iload 4, 2) := by decide +kernel
theorem dX10_lived_72 : decode cX10_lived 72 = .ok (.invokevirtual 292, 3) := by decide +kernel
theorem dX10_lived_75 : decode cX10_lived 75 = .ok (.lreturn, 1) := by decide +kernel
theorem dX10_learnt_0 : decode cX10_learnt 0 = .ok (.iload_n 1, 1) := by decide +kernel
theorem dX10_learnt_1 : decode cX10_learnt 1 = .ok (.invokestatic 126, 3) := by decide +kernel
theorem dX10_learnt_4 : decode cX10_learnt 4 = .ok (.ifCond .eq 10, 3) := by decide +kernel
theorem dX10_learnt_7 : decode cX10_learnt 7 = .ok (.iload_n 2, 1) := by decide +kernel
theorem dX10_learnt_8 : decode cX10_learnt 8 = .ok (.invokestatic 200, 3) := by decide +kernel
theorem dX10_learnt_11 : decode cX10_learnt 11 = .ok (.ifCond .ne 5, 3) := by decide +kernel
theorem dX10_learnt_14 : decode cX10_learnt 14 = .ok (.iconst (-1), 1) := by decide +kernel
theorem dX10_learnt_15 : decode cX10_learnt 15 = .ok (.ireturn, 1) := by decide +kernel
theorem dX10_learnt_16 : decode cX10_learnt 16 = .ok (.iload_n 2, 1) := by decide +kernel
theorem dX10_learnt_17 : decode cX10_learnt 17 = .ok (.ifCond .ne 17, 3) := by decide +kernel
theorem dX10_learnt_20 : decode cX10_learnt 20 = .ok (.aload_n 0, 1) := by decide +kernel
theorem dX10_learnt_21 : decode cX10_learnt 21 = .ok (.getfield 19, 3) := by decide +kernel
theorem dX10_learnt_24 : decode cX10_learnt 24 = .ok (.getfield 135, 3) := by decide +kernel
theorem dX10_learnt_27 : decode cX10_learnt 27 = .ok (.iload_n 1, 1) := by decide +kernel
theorem dX10_learnt_28 : decode cX10_learnt 28 = .ok (.iaload, 1) := by decide +kernel
theorem dX10_learnt_29 : decode cX10_learnt 29 = .ok (.iconst 1, 1) := by decide +kernel
theorem dX10_learnt_30 : decode cX10_learnt 30 = .ok (.iadd, 1) := by decide +kernel
theorem dX10_learnt_31 : decode cX10_learnt 31 = .ok (.goto 14, 3) := by decide +kernel
theorem dX10_learnt_34 : decode cX10_learnt 34 = .ok (.aload_n 0, 1) := by decide +kernel
theorem dX10_learnt_35 : decode cX10_learnt 35 = .ok (.getfield 19, 3) := by decide +kernel
theorem dX10_learnt_38 : decode cX10_learnt 38 = .ok (.getfield 132, 3) := by decide +kernel
theorem dX10_learnt_41 : decode cX10_learnt 41 = .ok (.iload_n 1, 1) := by decide +kernel
theorem dX10_learnt_42 : decode cX10_learnt 42 = .ok (.iaload, 1) := by decide +kernel
theorem dX10_learnt_43 : decode cX10_learnt 43 = .ok (.iconst 2, 1) := by decide +kernel
theorem dX10_learnt_44 : decode cX10_learnt 44 = .ok (.iadd, 1) := by decide +kernel
theorem dX10_learnt_45 : decode cX10_learnt 45 = .ok (.ireturn, 1) := by decide +kernel
theorem dX10_tried_0 : decode cX10_tried 0 = .ok (.iload_n 1, 1) := by decide +kernel
theorem dX10_tried_1 : decode cX10_tried 1 = .ok (.invokestatic 200, 3) := by decide +kernel
theorem dX10_tried_4 : decode cX10_tried 4 = .ok (.ifCond .ne 5, 3) := by decide +kernel
theorem dX10_tried_7 : decode cX10_tried 7 = .ok (.iconst (-1), 1) := by decide +kernel
theorem dX10_tried_8 : decode cX10_tried 8 = .ok (.ireturn, 1) := by decide +kernel
theorem dX10_tried_9 : decode cX10_tried 9 = .ok (.iconst 0, 1) := by decide +kernel
theorem dX10_tried_10 : decode cX10_tried 10 = .ok (.istore_n 2, 1) := by decide +kernel
theorem dX10_tried_11 : decode cX10_tried 11 = .ok (.iconst 0, 1) := by decide +kernel
theorem dX10_tried_12 : decode cX10_tried 12 = .ok (.istore_n 3, 1) := by decide +kernel
theorem dX10_tried_13 : decode cX10_tried 13 = .ok (.iconst 0, 1) := by decide +kernel
theorem dX10_tried_14 : decode cX10_tried 14 = .ok (.istore 4, 2) := by decide +kernel
theorem dX10_tried_16 : decode cX10_tried 16 = .ok (.iload 4, 2) := by decide +kernel
theorem dX10_tried_18 : decode cX10_tried 18 = .ok (.bipush 16, 2) := by decide +kernel
theorem dX10_tried_20 : decode cX10_tried 20 = .ok (.if_icmp .ge 48, 3) := by decide +kernel
theorem dX10_tried_23 : decode cX10_tried 23 = .ok (.iload_n 2, 1) := by decide +kernel
theorem dX10_tried_24 : decode cX10_tried 24 = .ok (.aload_n 0, 1) := by decide +kernel
theorem dX10_tried_25 : decode cX10_tried 25 = .ok (.getfield 19, 3) := by decide +kernel
theorem dX10_tried_28 : decode cX10_tried 28 = .ok (.getfield 135, 3) := by decide +kernel
theorem dX10_tried_31 : decode cX10_tried 31 = .ok (.iload 4, 2) := by decide +kernel
theorem dX10_tried_33 : decode cX10_tried 33 = .ok (.iaload, 1) := by decide +kernel
theorem dX10_tried_34 : decode cX10_tried 34 = .ok (.aload_n 0, 1) := by decide +kernel
theorem dX10_tried_35 : decode cX10_tried 35 = .ok (.getfield 19, 3) := by decide +kernel
theorem dX10_tried_38 : decode cX10_tried 38 = .ok (.getfield 132, 3) := by decide +kernel
theorem dX10_tried_41 : decode cX10_tried 41 = .ok (.iload 4, 2) := by decide +kernel
theorem dX10_tried_43 : decode cX10_tried 43 = .ok (.iaload, 1) := by decide +kernel
theorem dX10_tried_44 : decode cX10_tried 44 = .ok (.invokestatic 296, 3) := by decide +kernel
theorem dX10_tried_47 : decode cX10_tried 47 = .ok (.iadd, 1) := by decide +kernel
theorem dX10_tried_48 : decode cX10_tried 48 = .ok (.istore_n 2, 1) := by decide +kernel
theorem dX10_tried_49 : decode cX10_tried 49 = .ok (.iload_n 3, 1) := by decide +kernel
theorem dX10_tried_50 : decode cX10_tried 50 = .ok (.aload_n 0, 1) := by decide +kernel
theorem dX10_tried_51 : decode cX10_tried 51 = .ok (.getfield 19, 3) := by decide +kernel
theorem dX10_tried_54 : decode cX10_tried 54 = .ok (.getfield 135, 3) := by decide +kernel
theorem dX10_tried_57 : decode cX10_tried 57 = .ok (.iload 4, 2) := by decide +kernel
theorem dX10_tried_59 : decode cX10_tried 59 = .ok (.iaload, 1) := by decide +kernel
theorem dX10_tried_60 : decode cX10_tried 60 = .ok (.iadd, 1) := by decide +kernel
theorem dX10_tried_61 : decode cX10_tried 61 = .ok (.istore_n 3, 1) := by decide +kernel
theorem dX10_tried_62 : decode cX10_tried 62 = .ok (.iinc 4 1, 3) := by decide +kernel
theorem dX10_tried_65 : decode cX10_tried 65 = .ok (.goto (-49), 3) := by decide +kernel
theorem dX10_tried_68 : decode cX10_tried 68 = .ok (.iload_n 1, 1) := by decide +kernel
theorem dX10_tried_69 : decode cX10_tried 69 = .ok (.ifCond .ne 7, 3) := by decide +kernel
theorem dX10_tried_72 : decode cX10_tried 72 = .ok (.iload_n 2, 1) := by decide +kernel
theorem dX10_tried_73 : decode cX10_tried 73 = .ok (.goto 14, 3) := by decide +kernel
theorem dX10_tried_76 : decode cX10_tried 76 = .ok (.iload_n 3, 1) := by decide +kernel
theorem dX10_tried_77 : decode cX10_tried 77 = .ok (.aload_n 0, 1) := by decide +kernel
theorem dX10_tried_78 : decode cX10_tried 78 = .ok (.getfield 19, 3) := by decide +kernel
theorem dX10_tried_81 : decode cX10_tried 81 = .ok (.getfield 129, 3) := by decide +kernel
theorem dX10_tried_84 : decode cX10_tried 84 = .ok (.invokestatic 296, 3) := by decide +kernel
theorem dX10_tried_87 : decode cX10_tried 87 = .ok (.ireturn, 1) := by decide +kernel
theorem dX10_offTogether_0 : decode cX10_offTogether 0 = .ok (.iload_n 1, 1) := by decide +kernel
theorem dX10_offTogether_1 : decode cX10_offTogether 1 = .ok (.iconst 1, 1) := by decide +kernel
theorem dX10_offTogether_2 : decode cX10_offTogether 2 = .ok (.if_icmp .ge 5, 3) := by decide +kernel
theorem dX10_offTogether_5 : decode cX10_offTogether 5 = .ok (.iconst 0, 1) := by decide +kernel
theorem dX10_offTogether_6 : decode cX10_offTogether 6 = .ok (.ireturn, 1) := by decide +kernel
theorem dX10_offTogether_7 : decode cX10_offTogether 7 = .ok (.sipush 1000, 3) := by decide +kernel
theorem dX10_offTogether_10 : decode cX10_offTogether 10 = .ok (.sipush 1000, 3) := by decide +kernel
theorem dX10_offTogether_13 : decode cX10_offTogether 13 = .ok (.iload_n 0, 1) := by decide +kernel
theorem dX10_offTogether_14 : decode cX10_offTogether 14 = .ok (.imul, 1) := by decide +kernel
theorem dX10_offTogether_15 : decode cX10_offTogether 15 = .ok (.iload_n 1, 1) := by decide +kernel
theorem dX10_offTogether_16 : decode cX10_offTogether 16 = .ok (.iconst 1, 1) := by decide +kernel
theorem dX10_offTogether_17 : decode cX10_offTogether 17 = .ok (.iadd, 1) := by decide +kernel
theorem dX10_offTogether_18 : decode cX10_offTogether 18 = .ok (.idiv, 1) := by decide +kernel
theorem dX10_offTogether_19 : decode cX10_offTogether 19 = .ok (.isub, 1) := by decide +kernel
theorem dX10_offTogether_20 : decode cX10_offTogether 20 = .ok (.istore_n 2, 1) := by decide +kernel
theorem dX10_offTogether_21 : decode cX10_offTogether 21 = .ok (.sipush 1000, 3) := by decide +kernel
theorem dX10_offTogether_24 : decode cX10_offTogether 24 = .ok (.iload_n 0, 1) := by decide +kernel
theorem dX10_offTogether_25 : decode cX10_offTogether 25 = .ok (.iconst 1, 1) := by decide +kernel
theorem dX10_offTogether_26 : decode cX10_offTogether 26 = .ok (.iadd, 1) := by decide +kernel
theorem dX10_offTogether_27 : decode cX10_offTogether 27 = .ok (.imul, 1) := by decide +kernel
theorem dX10_offTogether_28 : decode cX10_offTogether 28 = .ok (.iload_n 1, 1) := by decide +kernel
theorem dX10_offTogether_29 : decode cX10_offTogether 29 = .ok (.iconst 1, 1) := by decide +kernel
theorem dX10_offTogether_30 : decode cX10_offTogether 30 = .ok (.iadd, 1) := by decide +kernel
theorem dX10_offTogether_31 : decode cX10_offTogether 31 = .ok (.idiv, 1) := by decide +kernel
theorem dX10_offTogether_32 : decode cX10_offTogether 32 = .ok (.istore_n 3, 1) := by decide +kernel
theorem dX10_offTogether_33 : decode cX10_offTogether 33 = .ok (.iload_n 0, 1) := by decide +kernel
theorem dX10_offTogether_34 : decode cX10_offTogether 34 = .ok (.iload_n 2, 1) := by decide +kernel
theorem dX10_offTogether_35 : decode cX10_offTogether 35 = .ok (.imul, 1) := by decide +kernel
theorem dX10_offTogether_36 : decode cX10_offTogether 36 = .ok (.iload_n 1, 1) := by decide +kernel
theorem dX10_offTogether_37 : decode cX10_offTogether 37 = .ok (.iload_n 0, 1) := by decide +kernel
theorem dX10_offTogether_38 : decode cX10_offTogether 38 = .ok (.isub, 1) := by decide +kernel
theorem dX10_offTogether_39 : decode cX10_offTogether 39 = .ok (.iload_n 3, 1) := by decide +kernel
theorem dX10_offTogether_40 : decode cX10_offTogether 40 = .ok (.imul, 1) := by decide +kernel
theorem dX10_offTogether_41 : decode cX10_offTogether 41 = .ok (.iadd, 1) := by decide +kernel
theorem dX10_offTogether_42 : decode cX10_offTogether 42 = .ok (.ireturn, 1) := by decide +kernel
theorem dX10_left_0 : decode cX10_left 0 = .ok (.iload_n 1, 1) := by decide +kernel
theorem dX10_left_1 : decode cX10_left 1 = .ok (.invokestatic 92, 3) := by decide +kernel
theorem dX10_left_4 : decode cX10_left 4 = .ok (.ifCond .eq 17, 3) := by decide +kernel
theorem dX10_left_7 : decode cX10_left 7 = .ok (.iload_n 2, 1) := by decide +kernel
theorem dX10_left_8 : decode cX10_left 8 = .ok (.invokestatic 197, 3) := by decide +kernel
theorem dX10_left_11 : decode cX10_left 11 = .ok (.ifCond .eq 10, 3) := by decide +kernel
theorem dX10_left_14 : decode cX10_left 14 = .ok (.iload_n 3, 1) := by decide +kernel
theorem dX10_left_15 : decode cX10_left 15 = .ok (.invokestatic 200, 3) := by decide +kernel
theorem dX10_left_18 : decode cX10_left 18 = .ok (.ifCond .ne 7, 3) := by decide +kernel
theorem dX10_left_21 : decode cX10_left 21 = .ok (.ldc2_w 279, 3) := by decide +kernel
theorem dX10_left_24 : decode cX10_left 24 = .ok (.lreturn, 1) := by decide +kernel
theorem dX10_left_25 : decode cX10_left 25 = .ok (.aload_n 0, 1) := by decide +kernel
theorem dX10_left_26 : decode cX10_left 26 = .ok (.iload_n 1, 1) := by decide +kernel
theorem dX10_left_27 : decode cX10_left 27 = .ok (.aload_n 0, 1) := by decide +kernel
theorem dX10_left_28 : decode cX10_left 28 = .ok (.iload_n 2, 1) := by decide +kernel
theorem dX10_left_29 : decode cX10_left 29 = .ok (.invokevirtual 236, 3) := by decide +kernel
theorem dX10_left_32 : decode cX10_left 32 = .ok (.invokevirtual 299, 3) := by decide +kernel
theorem dX10_left_35 : decode cX10_left 35 = .ok (.aload_n 0, 1) := by decide +kernel
theorem dX10_left_36 : decode cX10_left 36 = .ok (.getfield 63, 3) := by decide +kernel
theorem dX10_left_39 : decode cX10_left 39 = .ok (.iload_n 3, 1) := by decide +kernel
theorem dX10_left_40 : decode cX10_left 40 = .ok (.invokevirtual 292, 3) := by decide +kernel
theorem dX10_left_43 : decode cX10_left 43 = .ok (.lreturn, 1) := by decide +kernel
theorem dX10_lean_0 : decode cX10_lean 0 = .ok (.iload_n 1, 1) := by decide +kernel
theorem dX10_lean_1 : decode cX10_lean 1 = .ok (.ifCond .lt 15, 3) := by decide +kernel
theorem dX10_lean_4 : decode cX10_lean 4 = .ok (.iload_n 1, 1) := by decide +kernel
theorem dX10_lean_5 : decode cX10_lean 5 = .ok (.iconst 3, 1) := by decide +kernel
theorem dX10_lean_6 : decode cX10_lean 6 = .ok (.if_icmp .gt 10, 3) := by decide +kernel
theorem dX10_lean_9 : decode cX10_lean 9 = .ok (.iload_n 2, 1) := by decide +kernel
theorem dX10_lean_10 : decode cX10_lean 10 = .ok (.invokestatic 197, 3) := by decide +kernel
theorem dX10_lean_13 : decode cX10_lean 13 = .ok (.ifCond .ne 5, 3) := by decide +kernel
theorem dX10_lean_16 : decode cX10_lean 16 = .ok (.iconst (-1), 1) := by decide +kernel
theorem dX10_lean_17 : decode cX10_lean 17 = .ok (.ireturn, 1) := by decide +kernel
theorem dX10_lean_18 : decode cX10_lean 18 = .ok (.aload_n 0, 1) := by decide +kernel
theorem dX10_lean_19 : decode cX10_lean 19 = .ok (.iload_n 1, 1) := by decide +kernel
theorem dX10_lean_20 : decode cX10_lean 20 = .ok (.iload_n 2, 1) := by decide +kernel
theorem dX10_lean_21 : decode cX10_lean 21 = .ok (.aload_n 0, 1) := by decide +kernel
theorem dX10_lean_22 : decode cX10_lean 22 = .ok (.iload_n 2, 1) := by decide +kernel
theorem dX10_lean_23 : decode cX10_lean 23 = .ok (.invokevirtual 236, 3) := by decide +kernel
theorem dX10_lean_26 : decode cX10_lean 26 = .ok (.invokevirtual 303, 3) := by decide +kernel
theorem dX10_lean_29 : decode cX10_lean 29 = .ok (.ireturn, 1) := by decide +kernel
theorem dX10_right_0 : decode cX10_right 0 = .ok (.iload_n 1, 1) := by decide +kernel
theorem dX10_right_1 : decode cX10_right 1 = .ok (.ifCond .lt 22, 3) := by decide +kernel
theorem dX10_right_4 : decode cX10_right 4 = .ok (.iload_n 1, 1) := by decide +kernel
theorem dX10_right_5 : decode cX10_right 5 = .ok (.iconst 3, 1) := by decide +kernel
theorem dX10_right_6 : decode cX10_right 6 = .ok (.if_icmp .gt 17, 3) := by decide +kernel
theorem dX10_right_9 : decode cX10_right 9 = .ok (.iload_n 2, 1) := by decide +kernel
theorem dX10_right_10 : decode cX10_right 10 = .ok (.invokestatic 197, 3) := by decide +kernel
theorem dX10_right_13 : decode cX10_right 13 = .ok (.ifCond .eq 10, 3) := by decide +kernel
theorem dX10_right_16 : decode cX10_right 16 = .ok (.iload_n 3, 1) := by decide +kernel
theorem dX10_right_17 : decode cX10_right 17 = .ok (.invokestatic 200, 3) := by decide +kernel
theorem dX10_right_20 : decode cX10_right 20 = .ok (.ifCond .ne 7, 3) := by decide +kernel
theorem dX10_right_23 : decode cX10_right 23 = .ok (.ldc2_w 279, 3) := by decide +kernel
theorem dX10_right_26 : decode cX10_right 26 = .ok (.lreturn, 1) := by decide +kernel
theorem dX10_right_27 : decode cX10_right 27 = .ok (.aload_n 0, 1) := by decide +kernel
theorem dX10_right_28 : decode cX10_right 28 = .ok (.iload_n 2, 1) := by decide +kernel
theorem dX10_right_29 : decode cX10_right 29 = .ok (.invokevirtual 236, 3) := by decide +kernel
theorem dX10_right_32 : decode cX10_right 32 = .ok (.astore 4, 2) := by decide +kernel
theorem dX10_right_34 : decode cX10_right 34 = .ok (.aload_n 0, 1) := by decide +kernel
theorem dX10_right_35 : decode cX10_right 35 = .ok (.iload_n 1, 1) := by decide +kernel
theorem dX10_right_36 : decode cX10_right 36 = .ok (.iload_n 2, 1) := by decide +kernel
theorem dX10_right_37 : decode cX10_right 37 = .ok (.aload 4, 2) := by decide +kernel
theorem dX10_right_39 : decode cX10_right 39 = .ok (.invokevirtual 303, 3) := by decide +kernel
theorem dX10_right_42 : decode cX10_right 42 = .ok (.i2l, 1) := by decide +kernel
theorem dX10_right_43 : decode cX10_right 43 = .ok (.lstore 5, 2) := by decide +kernel
theorem dX10_right_45 : decode cX10_right 45 = .ok (.lconst 0, 1) := by decide +kernel
theorem dX10_right_46 : decode cX10_right 46 = .ok (.lstore 7, 2) := by decide +kernel
theorem dX10_right_48 : decode cX10_right 48 = .ok (.iconst 0, 1) := by decide +kernel
theorem dX10_right_49 : decode cX10_right 49 = .ok (.istore 9, 2) := by decide +kernel
theorem dX10_right_51 : decode cX10_right 51 = .ok (.iload 9, 2) := by decide +kernel
theorem dX10_right_53 : decode cX10_right 53 = .ok (.iconst 4, 1) := by decide +kernel
theorem dX10_right_54 : decode cX10_right 54 = .ok (.if_icmp .ge 35, 3) := by decide +kernel
theorem dX10_right_57 : decode cX10_right 57 = .ok (.lload 7, 2) := by decide +kernel
theorem dX10_right_59 : decode cX10_right 59 = .ok (.iload 9, 2) := by decide +kernel
theorem dX10_right_61 : decode cX10_right 61 = .ok (.iload_n 1, 1) := by decide +kernel
theorem dX10_right_62 : decode cX10_right 62 = .ok (.if_icmp .ne 8, 3) := by decide +kernel
theorem dX10_right_65 : decode cX10_right 65 = .ok (.lload 5, 2) := by decide +kernel
theorem dX10_right_67 : decode cX10_right 67 = .ok (.goto 13, 3) := by decide +kernel
theorem dX10_right_70 : decode cX10_right 70 = .ok (.aload_n 0, 1) := by decide +kernel
theorem dX10_right_71 : decode cX10_right 71 = .ok (.iload 9, 2) := by decide +kernel
theorem dX10_right_73 : decode cX10_right 73 = .ok (.iload_n 2, 1) := by decide +kernel
theorem dX10_right_74 : decode cX10_right 74 = .ok (.aload 4, 2) := by decide +kernel
theorem dX10_right_76 : decode cX10_right 76 = .ok (.invokevirtual 303, 3) := by decide +kernel
theorem dX10_right_79 : decode cX10_right 79 = .ok (.i2l, 1) := by decide +kernel
theorem dX10_right_80 : decode cX10_right 80 = .ok (.ladd, 1) := by decide +kernel
theorem dX10_right_81 : decode cX10_right 81 = .ok (.lstore 7, 2) := by decide +kernel
theorem dX10_right_83 : decode cX10_right 83 = .ok (.iinc 9 1, 3) := by decide +kernel
theorem dX10_right_86 : decode cX10_right 86 = .ok (.goto (-35), 3) := by decide +kernel
theorem dX10_right_89 : decode cX10_right 89 = .ok (.lconst 0, 1) := by decide +kernel
theorem dX10_right_90 : decode cX10_right 90 = .ok (.lstore 9, 2) := by decide +kernel
theorem dX10_right_92 : decode cX10_right 92 = .ok (.lconst 0, 1) := by decide +kernel
theorem dX10_right_93 : decode cX10_right 93 = .ok (.lstore 11, 2) := by decide +kernel
theorem dX10_right_95 : decode cX10_right 95 = .ok (.iconst 0, 1) := by decide +kernel
theorem dX10_right_96 : decode cX10_right 96 = .ok (.istore 13, 2) := by decide +kernel
theorem dX10_right_98 : decode cX10_right 98 = .ok (.iload 13, 2) := by decide +kernel
theorem dX10_right_100 : decode cX10_right 100 = .ok (.aload_n 0, 1) := by decide +kernel
theorem dX10_right_101 : decode cX10_right 101 = .ok (.getfield 19, 3) := by decide +kernel
theorem dX10_right_104 : decode cX10_right 104 = .ok (.getfield 148, 3) := by decide +kernel
theorem dX10_right_107 : decode cX10_right 107 = .ok (.if_icmp .ge 55, 3) := by decide +kernel
theorem dX10_right_110 : decode cX10_right 110 = .ok (.aload_n 0, 1) := by decide +kernel
theorem dX10_right_111 : decode cX10_right 111 = .ok (.getfield 19, 3) := by decide +kernel
theorem dX10_right_114 : decode cX10_right 114 = .ok (.getfield 154, 3) := by decide +kernel
theorem dX10_right_117 : decode cX10_right 117 = .ok (.iload 13, 2) := by decide +kernel
theorem dX10_right_119 : decode cX10_right 119 = .ok (.iaload, 1) := by decide +kernel
theorem dX10_right_120 : decode cX10_right 120 = .ok (.ifCond .ne 36, 3) := by decide +kernel
theorem dX10_right_123 : decode cX10_right 123 = .ok (.lload 11, 2) := by decide +kernel
theorem dX10_right_125 : decode cX10_right 125 = .ok (.lconst 1, 1) := by decide +kernel
theorem dX10_right_126 : decode cX10_right 126 = .ok (.ladd, 1) := by decide +kernel
theorem dX10_right_127 : decode cX10_right 127 = .ok (.lstore 11, 2) := by decide +kernel
theorem dX10_right_129 : decode cX10_right 129 = .ok (.lload 9, 2) := by decide +kernel
theorem dX10_right_131 : decode cX10_right 131 = .ok (.aload_n 0, 1) := by decide +kernel
theorem dX10_right_132 : decode cX10_right 132 = .ok (.getfield 19, 3) := by decide +kernel
theorem dX10_right_135 : decode cX10_right 135 = .ok (.getfield 151, 3) := by decide +kernel
theorem dX10_right_138 : decode cX10_right 138 = .ok (.iload 13, 2) := by decide +kernel
theorem dX10_right_140 : decode cX10_right 140 = .ok (.iaload, 1) := by decide +kernel
theorem dX10_right_141 : decode cX10_right 141 = .ok (.invokestatic 307, 3) := by decide +kernel
theorem dX10_right_144 : decode cX10_right 144 = .ok (.iload_n 1, 1) := by decide +kernel
theorem dX10_right_145 : decode cX10_right 145 = .ok (.if_icmp .ne 7, 3) := by decide +kernel
theorem dX10_right_148 : decode cX10_right 148 = .ok (.lconst 1, 1) := by decide +kernel
theorem dX10_right_149 : decode cX10_right 149 = .ok (.goto 4, 3) := by decide +kernel
theorem dX10_right_152 : decode cX10_right 152 = .ok (.lconst 0, 1) := by decide +kernel
theorem dX10_right_153 : decode cX10_right 153 = .ok (.ladd, 1) := by decide +kernel
theorem dX10_right_154 : decode cX10_right 154 = .ok (.lstore 9, 2) := by decide +kernel
theorem dX10_right_156 : decode cX10_right 156 = .ok (.iinc 13 1, 3) := by decide +kernel
theorem dX10_right_159 : decode cX10_right 159 = .ok (.goto (-61), 3) := by decide +kernel
theorem dX10_right_162 : decode cX10_right 162 = .ok (.lload 5, 2) := by decide +kernel
theorem dX10_right_164 : decode cX10_right 164 = .ok (.lconst 0, 1) := by decide +kernel
theorem dX10_right_165 : decode cX10_right 165 = .ok (.lcmp, 1) := by decide +kernel
theorem dX10_right_166 : decode cX10_right 166 = .ok (.ifCond .eq 10, 3) := by decide +kernel
theorem dX10_right_169 : decode cX10_right 169 = .ok (.lload 11, 2) := by decide +kernel
theorem dX10_right_171 : decode cX10_right 171 = .ok (.lconst 0, 1) := by decide +kernel
theorem dX10_right_172 : decode cX10_right 172 = .ok (.lcmp, 1) := by decide +kernel
theorem dX10_right_173 : decode cX10_right 173 = .ok (.ifCond .ne 7, 3) := by decide +kernel
theorem dX10_right_176 : decode cX10_right 176 = .ok (.ldc2_w 279, 3) := by decide +kernel
theorem dX10_right_179 : decode cX10_right 179 = .ok (.lreturn, 1) := by decide +kernel
theorem dX10_right_180 : decode cX10_right 180 = .ok (.aload_n 0, 1) := by decide +kernel
theorem dX10_right_181 : decode cX10_right 181 = .ok (.getfield 63, 3) := by decide +kernel
theorem dX10_right_184 : decode cX10_right 184 = .ok (.lload 9, 2) := by decide +kernel
theorem dX10_right_186 : decode cX10_right 186 = .ok (.lload 7, 2) := by decide +kernel
theorem dX10_right_188 : decode cX10_right 188 = .ok (.lmul, 1) := by decide +kernel
theorem dX10_right_189 : decode cX10_right 189 = .ok (.lload 5, 2) := by decide +kernel
theorem dX10_right_191 : decode cX10_right 191 = .ok (.lload 11, 2) := by decide +kernel
theorem dX10_right_193 : decode cX10_right 193 = .ok (.lmul, 1) := by decide +kernel
theorem dX10_right_194 : decode cX10_right 194 = .ok (.invokevirtual 289, 3) := by decide +kernel
theorem dX10_right_197 : decode cX10_right 197 = .ok (.aload_n 0, 1) := by decide +kernel
theorem dX10_right_198 : decode cX10_right 198 = .ok (.getfield 63, 3) := by decide +kernel
theorem dX10_right_201 : decode cX10_right 201 = .ok (.iload_n 3, 1) := by decide +kernel
theorem dX10_right_202 : decode cX10_right 202 = .ok (.invokevirtual 292, 3) := by decide +kernel
theorem dX10_right_205 : decode cX10_right 205 = .ok (.lreturn, 1) := by decide +kernel
theorem dX10_ahead_0 : decode cX10_ahead 0 = .ok (.iload_n 1, 1) := by decide +kernel
theorem dX10_ahead_1 : decode cX10_ahead 1 = .ok (.invokestatic 197, 3) := by decide +kernel
theorem dX10_ahead_4 : decode cX10_ahead 4 = .ok (.ifCond .eq 14, 3) := by decide +kernel
theorem dX10_ahead_7 : decode cX10_ahead 7 = .ok (.iload_n 2, 1) := by decide +kernel
theorem dX10_ahead_8 : decode cX10_ahead 8 = .ok (.ifCond .lt 10, 3) := by decide +kernel
theorem dX10_ahead_11 : decode cX10_ahead 11 = .ok (.iload_n 2, 1) := by decide +kernel
theorem dX10_ahead_12 : decode cX10_ahead 12 = .ok (.sipush 256, 3) := by decide +kernel
theorem dX10_ahead_15 : decode cX10_ahead 15 = .ok (.if_icmp .lt 5, 3) := by decide +kernel
theorem dX10_ahead_18 : decode cX10_ahead 18 = .ok (.iconst (-1), 1) := by decide +kernel
theorem dX10_ahead_19 : decode cX10_ahead 19 = .ok (.ireturn, 1) := by decide +kernel
theorem dX10_ahead_20 : decode cX10_ahead 20 = .ok (.aload_n 0, 1) := by decide +kernel
theorem dX10_ahead_21 : decode cX10_ahead 21 = .ok (.invokevirtual 213, 3) := by decide +kernel
theorem dX10_ahead_24 : decode cX10_ahead 24 = .ok (.aload_n 0, 1) := by decide +kernel
theorem dX10_ahead_25 : decode cX10_ahead 25 = .ok (.getfield 42, 3) := by decide +kernel
theorem dX10_ahead_28 : decode cX10_ahead 28 = .ok (.aload_n 0, 1) := by decide +kernel
theorem dX10_ahead_29 : decode cX10_ahead 29 = .ok (.iload_n 1, 1) := by decide +kernel
theorem dX10_ahead_30 : decode cX10_ahead 30 = .ok (.invokevirtual 310, 3) := by decide +kernel
theorem dX10_ahead_33 : decode cX10_ahead 33 = .ok (.iload_n 2, 1) := by decide +kernel
theorem dX10_ahead_34 : decode cX10_ahead 34 = .ok (.invokevirtual 313, 3) := by decide +kernel
theorem dX10_ahead_37 : decode cX10_ahead 37 = .ok (.ireturn, 1) := by decide +kernel
theorem dX10_held_0 : decode cX10_held 0 = .ok (.iload_n 1, 1) := by decide +kernel
theorem dX10_held_1 : decode cX10_held 1 = .ok (.invokestatic 197, 3) := by decide +kernel
theorem dX10_held_4 : decode cX10_held 4 = .ok (.ifCond .eq 22, 3) := by decide +kernel
theorem dX10_held_7 : decode cX10_held 7 = .ok (.iload_n 2, 1) := by decide +kernel
theorem dX10_held_8 : decode cX10_held 8 = .ok (.iconst 1, 1) := by decide +kernel
theorem dX10_held_9 : decode cX10_held 9 = .ok (.if_icmp .lt 17, 3) := by decide +kernel
theorem dX10_held_12 : decode cX10_held 12 = .ok (.iload_n 2, 1) := by decide +kernel
theorem dX10_held_13 : decode cX10_held 13 = .ok (.sipush 256, 3) := by decide +kernel
theorem dX10_held_16 : decode cX10_held 16 = .ok (.if_icmp .gt 10, 3) := by decide +kernel
theorem dX10_held_19 : decode cX10_held 19 = .ok (.iload_n 3, 1) := by decide +kernel
theorem dX10_held_20 : decode cX10_held 20 = .ok (.invokestatic 200, 3) := by decide +kernel
theorem dX10_held_23 : decode cX10_held 23 = .ok (.ifCond .ne 5, 3) := by decide +kernel
theorem dX10_held_26 : decode cX10_held 26 = .ok (.iconst (-1), 1) := by decide +kernel
theorem dX10_held_27 : decode cX10_held 27 = .ok (.ireturn, 1) := by decide +kernel
theorem dX10_held_28 : decode cX10_held 28 = .ok (.iload_n 3, 1) := by decide +kernel
theorem dX10_held_29 : decode cX10_held 29 = .ok (.iconst 1, 1) := by decide +kernel
theorem dX10_held_30 : decode cX10_held 30 = .ok (.if_icmp .ne 11, 3) := by decide +kernel
theorem dX10_held_33 : decode cX10_held 33 = .ok (.aload_n 0, 1) := by decide +kernel
theorem dX10_held_34 : decode cX10_held 34 = .ok (.getfield 19, 3) := by decide +kernel
theorem dX10_held_37 : decode cX10_held 37 = .ok (.getfield 148, 3) := by decide +kernel
theorem dX10_held_40 : decode cX10_held 40 = .ok (.ireturn, 1) := by decide +kernel
theorem dX10_held_41 : decode cX10_held 41 = .ok (.aload_n 0, 1) := by decide +kernel
theorem dX10_held_42 : decode cX10_held 42 = .ok (.invokevirtual 213, 3) := by decide +kernel
theorem dX10_held_45 : decode cX10_held 45 = .ok (.aload_n 0, 1) := by decide +kernel
theorem dX10_held_46 : decode cX10_held 46 = .ok (.iload_n 1, 1) := by decide +kernel
theorem dX10_held_47 : decode cX10_held 47 = .ok (.invokevirtual 310, 3) := by decide +kernel
theorem dX10_held_50 : decode cX10_held 50 = .ok (.istore 4, 2) := by decide +kernel
theorem dX10_held_52 : decode cX10_held 52 = .ok (.aload_n 0, 1) := by decide +kernel
theorem dX10_held_53 : decode cX10_held 53 = .ok (.getfield 42, 3) := by decide +kernel
theorem dX10_held_56 : decode cX10_held 56 = .ok (.iload 4, 2) := by decide +kernel
theorem dX10_held_58 : decode cX10_held 58 = .ok (.iload_n 2, 1) := by decide +kernel
theorem dX10_held_59 : decode cX10_held 59 = .ok (.iconst 1, 1) := by decide +kernel
theorem dX10_held_60 : decode cX10_held 60 = .ok (.isub, 1) := by decide +kernel
theorem dX10_held_61 : decode cX10_held 61 = .ok (.invokevirtual 313, 3) := by decide +kernel
theorem dX10_held_64 : decode cX10_held 64 = .ok (.istore 5, 2) := by decide +kernel
theorem dX10_held_66 : decode cX10_held 66 = .ok (.iconst 0, 1) := by decide +kernel
theorem dX10_held_67 : decode cX10_held 67 = .ok (.istore 6, 2) := by decide +kernel
theorem dX10_held_69 : decode cX10_held 69 = .ok (.iconst 0, 1) := by decide +kernel
theorem dX10_held_70 : decode cX10_held 70 = .ok (.istore 7, 2) := by decide +kernel
theorem dX10_held_72 : decode cX10_held 72 = .ok (.iload 7, 2) := by decide +kernel
theorem dX10_held_74 : decode cX10_held 74 = .ok (.aload_n 0, 1) := by decide +kernel
theorem dX10_held_75 : decode cX10_held 75 = .ok (.getfield 19, 3) := by decide +kernel
theorem dX10_held_78 : decode cX10_held 78 = .ok (.getfield 148, 3) := by decide +kernel
theorem dX10_held_81 : decode cX10_held 81 = .ok (.if_icmp .ge 36, 3) := by decide +kernel
theorem dX10_held_84 : decode cX10_held 84 = .ok (.aload_n 0, 1) := by decide +kernel
theorem dX10_held_85 : decode cX10_held 85 = .ok (.getfield 42, 3) := by decide +kernel
theorem dX10_held_88 : decode cX10_held 88 = .ok (.iload 4, 2) := by decide +kernel
theorem dX10_held_90 : decode cX10_held 90 = .ok (.aload_n 0, 1) := by decide +kernel
theorem dX10_held_91 : decode cX10_held 91 = .ok (.getfield 19, 3) := by decide +kernel
theorem dX10_held_94 : decode cX10_held 94 = .ok (.getfield 151, 3) := by decide +kernel
theorem dX10_held_97 : decode cX10_held 97 = .ok (.iload 7, 2) := by decide +kernel
theorem dX10_held_99 : decode cX10_held 99 = .ok (.iaload, 1) := by decide +kernel
theorem dX10_held_100 : decode cX10_held 100 = .ok (.iload 5, 2) := by decide +kernel
theorem dX10_held_102 : decode cX10_held 102 = .ok (.invokevirtual 316, 3) := by decide +kernel
theorem dX10_held_105 : decode cX10_held 105 = .ok (.ifCond .eq 6, 3) := by decide +kernel
theorem dX10_held_108 : decode cX10_held 108 = .ok (.iinc 6 1, 3) := by decide +kernel
theorem dX10_held_111 : decode cX10_held 111 = .ok (.iinc 7 1, 3) := by decide +kernel
theorem dX10_held_114 : decode cX10_held 114 = .ok (.goto (-42), 3) := by decide +kernel
theorem dX10_held_117 : decode cX10_held 117 = .ok (.iload 6, 2) := by decide +kernel
theorem dX10_held_119 : decode cX10_held 119 = .ok (.ireturn, 1) := by decide +kernel
theorem dX10_unlike_0 : decode cX10_unlike 0 = .ok (.iload_n 1, 1) := by decide +kernel
theorem dX10_unlike_1 : decode cX10_unlike 1 = .ok (.invokestatic 197, 3) := by decide +kernel
theorem dX10_unlike_4 : decode cX10_unlike 4 = .ok (.ifCond .eq 13, 3) := by decide +kernel
theorem dX10_unlike_7 : decode cX10_unlike 7 = .ok (.aload_n 0, 1) := by decide +kernel
theorem dX10_unlike_8 : decode cX10_unlike 8 = .ok (.getfield 19, 3) := by decide +kernel
theorem dX10_unlike_11 : decode cX10_unlike 11 = .ok (.getfield 129, 3) := by decide +kernel
theorem dX10_unlike_14 : decode cX10_unlike 14 = .ok (.ifCond .ne 5, 3) := by decide +kernel
theorem dX10_unlike_17 : decode cX10_unlike 17 = .ok (.iconst (-1), 1) := by decide +kernel
theorem dX10_unlike_18 : decode cX10_unlike 18 = .ok (.ireturn, 1) := by decide +kernel
theorem dX10_unlike_19 : decode cX10_unlike 19 = .ok (.aload_n 0, 1) := by decide +kernel
theorem dX10_unlike_20 : decode cX10_unlike 20 = .ok (.iload_n 1, 1) := by decide +kernel
theorem dX10_unlike_21 : decode cX10_unlike 21 = .ok (.invokevirtual 236, 3) := by decide +kernel
theorem dX10_unlike_24 : decode cX10_unlike 24 = .ok (.invokevirtual 320, 3) := by decide +kernel
theorem dX10_unlike_27 : decode cX10_unlike 27 = .ok (.astore_n 2, 1) := by decide +kernel
theorem dX10_unlike_28 : decode cX10_unlike 28 = .ok (.iconst 0, 1) := by decide +kernel
theorem dX10_unlike_29 : decode cX10_unlike 29 = .ok (.istore_n 3, 1) := by decide +kernel
theorem dX10_unlike_30 : decode cX10_unlike 30 = .ok (.iconst 0, 1) := by decide +kernel
theorem dX10_unlike_31 : decode cX10_unlike 31 = .ok (.istore 4, 2) := by decide +kernel
theorem dX10_unlike_33 : decode cX10_unlike 33 = .ok (.iload 4, 2) := by decide +kernel
theorem dX10_unlike_35 : decode cX10_unlike 35 = .ok (.bipush 16, 2) := by decide +kernel
theorem dX10_unlike_37 : decode cX10_unlike 37 = .ok (.if_icmp .ge 16, 3) := by decide +kernel
theorem dX10_unlike_40 : decode cX10_unlike 40 = .ok (.iload_n 3, 1) := by decide +kernel
theorem dX10_unlike_41 : decode cX10_unlike 41 = .ok (.aload_n 2, 1) := by decide +kernel
theorem dX10_unlike_42 : decode cX10_unlike 42 = .ok (.iload 4, 2) := by decide +kernel
theorem dX10_unlike_44 : decode cX10_unlike 44 = .ok (.iaload, 1) := by decide +kernel
theorem dX10_unlike_45 : decode cX10_unlike 45 = .ok (.iadd, 1) := by decide +kernel
theorem dX10_unlike_46 : decode cX10_unlike 46 = .ok (.istore_n 3, 1) := by decide +kernel
theorem dX10_unlike_47 : decode cX10_unlike 47 = .ok (.iinc 4 1, 3) := by decide +kernel
theorem dX10_unlike_50 : decode cX10_unlike 50 = .ok (.goto (-17), 3) := by decide +kernel
theorem dX10_unlike_53 : decode cX10_unlike 53 = .ok (.iload_n 3, 1) := by decide +kernel
theorem dX10_unlike_54 : decode cX10_unlike 54 = .ok (.ifCond .ne 5, 3) := by decide +kernel
theorem dX10_unlike_57 : decode cX10_unlike 57 = .ok (.iconst (-1), 1) := by decide +kernel
theorem dX10_unlike_58 : decode cX10_unlike 58 = .ok (.ireturn, 1) := by decide +kernel
theorem dX10_unlike_59 : decode cX10_unlike 59 = .ok (.iconst 0, 1) := by decide +kernel
theorem dX10_unlike_60 : decode cX10_unlike 60 = .ok (.istore 4, 2) := by decide +kernel
theorem dX10_unlike_62 : decode cX10_unlike 62 = .ok (.iconst 0, 1) := by decide +kernel
theorem dX10_unlike_63 : decode cX10_unlike 63 = .ok (.istore 5, 2) := by decide +kernel
theorem dX10_unlike_65 : decode cX10_unlike 65 = .ok (.iload 5, 2) := by decide +kernel
theorem dX10_unlike_67 : decode cX10_unlike 67 = .ok (.bipush 16, 2) := by decide +kernel
theorem dX10_unlike_69 : decode cX10_unlike 69 = .ok (.if_icmp .ge 58, 3) := by decide +kernel
theorem dX10_unlike_72 : decode cX10_unlike 72 = .ok (.sipush 1000, 3) := by decide +kernel
theorem dX10_unlike_75 : decode cX10_unlike 75 = .ok (.aload_n 2, 1) := by decide +kernel
theorem dX10_unlike_76 : decode cX10_unlike 76 = .ok (.iload 5, 2) := by decide +kernel
theorem dX10_unlike_78 : decode cX10_unlike 78 = .ok (.iaload, 1) := by decide +kernel
theorem dX10_unlike_79 : decode cX10_unlike 79 = .ok (.imul, 1) := by decide +kernel
theorem dX10_unlike_80 : decode cX10_unlike 80 = .ok (.iload_n 3, 1) := by decide +kernel
theorem dX10_unlike_81 : decode cX10_unlike 81 = .ok (.idiv, 1) := by decide +kernel
theorem dX10_unlike_82 : decode cX10_unlike 82 = .ok (.istore 6, 2) := by decide +kernel
theorem dX10_unlike_84 : decode cX10_unlike 84 = .ok (.sipush 1000, 3) := by decide +kernel
theorem dX10_unlike_87 : decode cX10_unlike 87 = .ok (.aload_n 0, 1) := by decide +kernel
theorem dX10_unlike_88 : decode cX10_unlike 88 = .ok (.getfield 19, 3) := by decide +kernel
theorem dX10_unlike_91 : decode cX10_unlike 91 = .ok (.getfield 132, 3) := by decide +kernel
theorem dX10_unlike_94 : decode cX10_unlike 94 = .ok (.iload 5, 2) := by decide +kernel
theorem dX10_unlike_96 : decode cX10_unlike 96 = .ok (.iaload, 1) := by decide +kernel
theorem dX10_unlike_97 : decode cX10_unlike 97 = .ok (.imul, 1) := by decide +kernel
theorem dX10_unlike_98 : decode cX10_unlike 98 = .ok (.aload_n 0, 1) := by decide +kernel
theorem dX10_unlike_99 : decode cX10_unlike 99 = .ok (.getfield 19, 3) := by decide +kernel
theorem dX10_unlike_102 : decode cX10_unlike 102 = .ok (.getfield 129, 3) := by decide +kernel
theorem dX10_unlike_105 : decode cX10_unlike 105 = .ok (.idiv, 1) := by decide +kernel
theorem dX10_unlike_106 : decode cX10_unlike 106 = .ok (.istore 7, 2) := by decide +kernel
theorem dX10_unlike_108 : decode cX10_unlike 108 = .ok (.iload 4, 2) := by decide +kernel
theorem dX10_unlike_110 : decode cX10_unlike 110 = .ok (.iload 6, 2) := by decide +kernel
theorem dX10_unlike_112 : decode cX10_unlike 112 = .ok (.iload 7, 2) := by decide +kernel
theorem dX10_unlike_114 : decode cX10_unlike 114 = .ok (.isub, 1) := by decide +kernel
theorem dX10_unlike_115 : decode cX10_unlike 115 = .ok (.invokestatic 324, 3) := by decide +kernel
theorem dX10_unlike_118 : decode cX10_unlike 118 = .ok (.iadd, 1) := by decide +kernel
theorem dX10_unlike_119 : decode cX10_unlike 119 = .ok (.istore 4, 2) := by decide +kernel
theorem dX10_unlike_121 : decode cX10_unlike 121 = .ok (.iinc 5 1, 3) := by decide +kernel
theorem dX10_unlike_124 : decode cX10_unlike 124 = .ok (.goto (-59), 3) := by decide +kernel
theorem dX10_unlike_127 : decode cX10_unlike 127 = .ok (.iload 4, 2) := by decide +kernel
theorem dX10_unlike_129 : decode cX10_unlike 129 = .ok (.ireturn, 1) := by decide +kernel
theorem dX10_world_0 : decode cX10_world 0 = .ok (.iload_n 1, 1) := by decide +kernel
theorem dX10_world_1 : decode cX10_world 1 = .ok (.ifCond .lt 29, 3) := by decide +kernel
theorem dX10_world_4 : decode cX10_world 4 = .ok (.iload_n 1, 1) := by decide +kernel
theorem dX10_world_5 : decode cX10_world 5 = .ok (.ldc_w 329, 3) := by decide +kernel
theorem dX10_world_8 : decode cX10_world 8 = .ok (.if_icmp .gt 22, 3) := by decide +kernel
theorem dX10_world_11 : decode cX10_world 11 = .ok (.iload_n 2, 1) := by decide +kernel
theorem dX10_world_12 : decode cX10_world 12 = .ok (.invokestatic 197, 3) := by decide +kernel
theorem dX10_world_15 : decode cX10_world 15 = .ok (.ifCond .eq 15, 3) := by decide +kernel
theorem dX10_world_18 : decode cX10_world 18 = .ok (.iload_n 3, 1) := by decide +kernel
theorem dX10_world_19 : decode cX10_world 19 = .ok (.iconst 1, 1) := by decide +kernel
theorem dX10_world_20 : decode cX10_world 20 = .ok (.if_icmp .lt 10, 3) := by decide +kernel
theorem dX10_world_23 : decode cX10_world 23 = .ok (.iload_n 3, 1) := by decide +kernel
theorem dX10_world_24 : decode cX10_world 24 = .ok (.sipush 200, 3) := by decide +kernel
theorem dX10_world_27 : decode cX10_world 27 = .ok (.if_icmp .le 5, 3) := by decide +kernel
theorem dX10_world_30 : decode cX10_world 30 = .ok (.iconst (-1), 1) := by decide +kernel
theorem dX10_world_31 : decode cX10_world 31 = .ok (.ireturn, 1) := by decide +kernel
theorem dX10_world_32 : decode cX10_world 32 = .ok (.iload 4, 2) := by decide +kernel
theorem dX10_world_34 : decode cX10_world 34 = .ok (.invokestatic 92, 3) := by decide +kernel
theorem dX10_world_37 : decode cX10_world 37 = .ok (.ifCond .eq 15, 3) := by decide +kernel
theorem dX10_world_40 : decode cX10_world 40 = .ok (.iload 5, 2) := by decide +kernel
theorem dX10_world_42 : decode cX10_world 42 = .ok (.ifCond .lt 10, 3) := by decide +kernel
theorem dX10_world_45 : decode cX10_world 45 = .ok (.iload 5, 2) := by decide +kernel
theorem dX10_world_47 : decode cX10_world 47 = .ok (.bipush 99, 2) := by decide +kernel
theorem dX10_world_49 : decode cX10_world 49 = .ok (.if_icmp .le 5, 3) := by decide +kernel
theorem dX10_world_52 : decode cX10_world 52 = .ok (.iconst (-1), 1) := by decide +kernel
theorem dX10_world_53 : decode cX10_world 53 = .ok (.ireturn, 1) := by decide +kernel
theorem dX10_world_54 : decode cX10_world 54 = .ok (.aload_n 0, 1) := by decide +kernel
theorem dX10_world_55 : decode cX10_world 55 = .ok (.iload_n 2, 1) := by decide +kernel
theorem dX10_world_56 : decode cX10_world 56 = .ok (.invokevirtual 236, 3) := by decide +kernel
theorem dX10_world_59 : decode cX10_world 59 = .ok (.astore 6, 2) := by decide +kernel
theorem dX10_world_61 : decode cX10_world 61 = .ok (.aload_n 0, 1) := by decide +kernel
theorem dX10_world_62 : decode cX10_world 62 = .ok (.iload_n 2, 1) := by decide +kernel
theorem dX10_world_63 : decode cX10_world 63 = .ok (.invokevirtual 310, 3) := by decide +kernel
theorem dX10_world_66 : decode cX10_world 66 = .ok (.istore 7, 2) := by decide +kernel
theorem dX10_world_68 : decode cX10_world 68 = .ok (.aload_n 0, 1) := by decide +kernel
theorem dX10_world_69 : decode cX10_world 69 = .ok (.getfield 42, 3) := by decide +kernel
theorem dX10_world_72 : decode cX10_world 72 = .ok (.getfield 330, 3) := by decide +kernel
theorem dX10_world_75 : decode cX10_world 75 = .ok (.iload 7, 2) := by decide +kernel
theorem dX10_world_77 : decode cX10_world 77 = .ok (.iaload, 1) := by decide +kernel
theorem dX10_world_78 : decode cX10_world 78 = .ok (.istore 8, 2) := by decide +kernel
theorem dX10_world_80 : decode cX10_world 80 = .ok (.iload 8, 2) := by decide +kernel
theorem dX10_world_82 : decode cX10_world 82 = .ok (.ifCond .ne 5, 3) := by decide +kernel
theorem dX10_world_85 : decode cX10_world 85 = .ok (.iconst (-1), 1) := by decide +kernel
theorem dX10_world_86 : decode cX10_world 86 = .ok (.ireturn, 1) := by decide +kernel
theorem dX10_world_87 : decode cX10_world 87 = .ok (.aload_n 0, 1) := by decide +kernel
theorem dX10_world_88 : decode cX10_world 88 = .ok (.getfield 42, 3) := by decide +kernel
theorem dX10_world_91 : decode cX10_world 91 = .ok (.iload 7, 2) := by decide +kernel
theorem dX10_world_93 : decode cX10_world 93 = .ok (.iload 4, 2) := by decide +kernel
theorem dX10_world_95 : decode cX10_world 95 = .ok (.invokevirtual 333, 3) := by decide +kernel
theorem dX10_world_98 : decode cX10_world 98 = .ok (.istore 9, 2) := by decide +kernel
theorem dX10_world_100 : decode cX10_world 100 = .ok (.iload 9, 2) := by decide +kernel
theorem dX10_world_102 : decode cX10_world 102 = .ok (.aload_n 0, 1) := by decide +kernel
theorem dX10_world_103 : decode cX10_world 103 = .ok (.getfield 42, 3) := by decide +kernel
theorem dX10_world_106 : decode cX10_world 106 = .ok (.iload 7, 2) := by decide +kernel
theorem dX10_world_108 : decode cX10_world 108 = .ok (.iload 4, 2) := by decide +kernel
theorem dX10_world_110 : decode cX10_world 110 = .ok (.invokevirtual 336, 3) := by decide +kernel
theorem dX10_world_113 : decode cX10_world 113 = .ok (.iadd, 1) := by decide +kernel
theorem dX10_world_114 : decode cX10_world 114 = .ok (.istore 10, 2) := by decide +kernel
theorem dX10_world_116 : decode cX10_world 116 = .ok (.aload_n 0, 1) := by decide +kernel
theorem dX10_world_117 : decode cX10_world 117 = .ok (.getfield 74, 3) := by decide +kernel
theorem dX10_world_120 : decode cX10_world 120 = .ok (.iconst 4, 1) := by decide +kernel
theorem dX10_world_121 : decode cX10_world 121 = .ok (.aload 6, 2) := by decide +kernel
theorem dX10_world_123 : decode cX10_world 123 = .ok (.iload 4, 2) := by decide +kernel
theorem dX10_world_125 : decode cX10_world 125 = .ok (.iload_n 2, 1) := by decide +kernel
theorem dX10_world_126 : decode cX10_world 126 = .ok (.invokevirtual 259, 3) := by decide +kernel
theorem dX10_world_129 : decode cX10_world 129 = .ok (.bipush 100, 2) := by decide +kernel
theorem dX10_world_131 : decode cX10_world 131 = .ok (.invokevirtual 263, 3) := by decide +kernel
theorem dX10_world_134 : decode cX10_world 134 = .ok (.istore 11, 2) := by decide +kernel
theorem dX10_world_136 : decode cX10_world 136 = .ok (.new 339, 3) := by decide +kernel
theorem dX10_world_139 : decode cX10_world 139 = .ok (.dup, 1) := by decide +kernel
theorem dX10_world_140 : decode cX10_world 140 = .ok (.iload_n 1, 1) := by decide +kernel
theorem dX10_world_141 : decode cX10_world 141 = .ok (.i2l, 1) := by decide +kernel
theorem dX10_world_142 : decode cX10_world 142 = .ok (.invokespecial 341, 3) := by decide +kernel
theorem dX10_world_145 : decode cX10_world 145 = .ok (.astore 12, 2) := by decide +kernel
theorem dX10_world_147 : decode cX10_world 147 = .ok (.iconst 0, 1) := by decide +kernel
theorem dX10_world_148 : decode cX10_world 148 = .ok (.istore 13, 2) := by decide +kernel
theorem dX10_world_150 : decode cX10_world 150 = .ok (.iconst 0, 1) := by decide +kernel
theorem dX10_world_151 : decode cX10_world 151 = .ok (.istore 14, 2) := by decide +kernel
theorem dX10_world_153 : decode cX10_world 153 = .ok (.iload 14, 2) := by decide +kernel
theorem dX10_world_155 : decode cX10_world 155 = .ok (.iload_n 3, 1) := by decide +kernel
theorem dX10_world_156 : decode cX10_world 156 = .ok (.if_icmp .ge 80, 3) := by decide +kernel
theorem dX10_world_159 : decode cX10_world 159 = .ok (.aload 12, 2) := by decide +kernel
theorem dX10_world_161 : decode cX10_world 161 = .ok (.iload 8, 2) := by decide +kernel
theorem dX10_world_163 : decode cX10_world 163 = .ok (.invokevirtual 344, 3) := by decide +kernel
theorem dX10_world_166 : decode cX10_world 166 = .ok (.istore 15, 2) := by decide +kernel
theorem dX10_world_168 : decode cX10_world 168 = .ok (.iload 15, 2) := by decide +kernel
theorem dX10_world_170 : decode cX10_world 170 = .ok (.iload 9, 2) := by decide +kernel
theorem dX10_world_172 : decode cX10_world 172 = .ok (.if_icmp .lt 14, 3) := by decide +kernel
theorem dX10_world_175 : decode cX10_world 175 = .ok (.iload 15, 2) := by decide +kernel
theorem dX10_world_177 : decode cX10_world 177 = .ok (.iload 10, 2) := by decide +kernel
theorem dX10_world_179 : decode cX10_world 179 = .ok (.if_icmp .ge 7, 3) := by decide +kernel
theorem dX10_world_182 : decode cX10_world 182 = .ok (.iconst 1, 1) := by decide +kernel
theorem dX10_world_183 : decode cX10_world 183 = .ok (.goto 4, 3) := by decide +kernel
theorem dX10_world_186 : decode cX10_world 186 = .ok (.iconst 0, 1) := by decide +kernel
theorem dX10_world_187 : decode cX10_world 187 = .ok (.istore 16, 2) := by decide +kernel
theorem dX10_world_189 : decode cX10_world 189 = .ok (.aload 12, 2) := by decide +kernel
theorem dX10_world_191 : decode cX10_world 191 = .ok (.bipush 100, 2) := by decide +kernel
theorem dX10_world_193 : decode cX10_world 193 = .ok (.invokevirtual 344, 3) := by decide +kernel
theorem dX10_world_196 : decode cX10_world 196 = .ok (.iload 11, 2) := by decide +kernel
theorem dX10_world_198 : decode cX10_world 198 = .ok (.if_icmp .ge 7, 3) := by decide +kernel
theorem dX10_world_201 : decode cX10_world 201 = .ok (.iconst 1, 1) := by decide +kernel
theorem dX10_world_202 : decode cX10_world 202 = .ok (.goto 4, 3) := by decide +kernel
theorem dX10_world_205 : decode cX10_world 205 = .ok (.iconst 0, 1) := by decide +kernel
theorem dX10_world_206 : decode cX10_world 206 = .ok (.istore 17, 2) := by decide +kernel
theorem dX10_world_208 : decode cX10_world 208 = .ok (.iload 13, 2) := by decide +kernel
theorem dX10_world_210 : decode cX10_world 210 = .ok (.ifCond .ne 13, 3) := by decide +kernel
theorem dX10_world_213 : decode cX10_world 213 = .ok (.iload 16, 2) := by decide +kernel
theorem dX10_world_215 : decode cX10_world 215 = .ok (.ifCond .eq 12, 3) := by decide +kernel
theorem dX10_world_218 : decode cX10_world 218 = .ok (.iload 17, 2) := by decide +kernel
theorem dX10_world_220 : decode cX10_world 220 = .ok (.ifCond .eq 7, 3) := by decide +kernel
theorem dX10_world_223 : decode cX10_world 223 = .ok (.iconst 1, 1) := by decide +kernel
theorem dX10_world_224 : decode cX10_world 224 = .ok (.goto 4, 3) := by decide +kernel
theorem dX10_world_227 : decode cX10_world 227 = .ok (.iconst 0, 1) := by decide +kernel
theorem dX10_world_228 : decode cX10_world 228 = .ok (.istore 13, 2) := by decide +kernel
theorem dX10_world_230 : decode cX10_world 230 = .ok (.iinc 14 1, 3) := by decide +kernel
theorem dX10_world_233 : decode cX10_world 233 = .ok (.goto (-80), 3) := by decide +kernel
theorem dX10_world_236 : decode cX10_world 236 = .ok (.iconst 0, 1) := by decide +kernel
theorem dX10_world_237 : decode cX10_world 237 = .ok (.istore 14, 2) := by decide +kernel
theorem dX10_world_239 : decode cX10_world 239 = .ok (.iconst 0, 1) := by decide +kernel
theorem dX10_world_240 : decode cX10_world 240 = .ok (.istore 15, 2) := by decide +kernel
theorem dX10_world_242 : decode cX10_world 242 = .ok (.iload 15, 2) := by decide +kernel
theorem dX10_world_244 : decode cX10_world 244 = .ok (.iload 5, 2) := by decide +kernel
theorem dX10_world_246 : decode cX10_world 246 = .ok (.if_icmp .ge 34, 3) := by decide +kernel
theorem dX10_world_249 : decode cX10_world 249 = .ok (.aload 12, 2) := by decide +kernel
theorem dX10_world_251 : decode cX10_world 251 = .ok (.bipush 10, 2) := by decide +kernel
theorem dX10_world_253 : decode cX10_world 253 = .ok (.invokevirtual 344, 3) := by decide +kernel
theorem dX10_world_256 : decode cX10_world 256 = .ok (.aload_n 0, 1) := by decide +kernel
theorem dX10_world_257 : decode cX10_world 257 = .ok (.getfield 74, 3) := by decide +kernel
theorem dX10_world_260 : decode cX10_world 260 = .ok (.getfield 347, 3) := by decide +kernel
theorem dX10_world_263 : decode cX10_world 263 = .ok (.if_icmp .ge 11, 3) := by decide +kernel
theorem dX10_world_266 : decode cX10_world 266 = .ok (.iload 13, 2) := by decide +kernel
theorem dX10_world_268 : decode cX10_world 268 = .ok (.ifCond .eq 6, 3) := by decide +kernel
theorem dX10_world_271 : decode cX10_world 271 = .ok (.iinc 14 1, 3) := by decide +kernel
theorem dX10_world_274 : decode cX10_world 274 = .ok (.iinc 15 1, 3) := by decide +kernel
theorem dX10_world_277 : decode cX10_world 277 = .ok (.goto (-35), 3) := by decide +kernel
theorem dX10_world_280 : decode cX10_world 280 = .ok (.iload 14, 2) := by decide +kernel
theorem dX10_world_282 : decode cX10_world 282 = .ok (.ireturn, 1) := by decide +kernel
theorem dX10_found_0 : decode cX10_found 0 = .ok (.iload_n 1, 1) := by decide +kernel
theorem dX10_found_1 : decode cX10_found 1 = .ok (.ifCond .lt 20, 3) := by decide +kernel
theorem dX10_found_4 : decode cX10_found 4 = .ok (.iload_n 1, 1) := by decide +kernel
theorem dX10_found_5 : decode cX10_found 5 = .ok (.aload_n 0, 1) := by decide +kernel
theorem dX10_found_6 : decode cX10_found 6 = .ok (.getfield 19, 3) := by decide +kernel
theorem dX10_found_9 : decode cX10_found 9 = .ok (.getfield 148, 3) := by decide +kernel
theorem dX10_found_12 : decode cX10_found 12 = .ok (.if_icmp .ge 9, 3) := by decide +kernel
theorem dX10_found_15 : decode cX10_found 15 = .ok (.iload_n 1, 1) := by decide +kernel
theorem dX10_found_16 : decode cX10_found 16 = .ok (.bipush 60, 2) := by decide +kernel
theorem dX10_found_18 : decode cX10_found 18 = .ok (.if_icmp .lt 5, 3) := by decide +kernel
theorem dX10_found_21 : decode cX10_found 21 = .ok (.iconst (-1), 1) := by decide +kernel
theorem dX10_found_22 : decode cX10_found 22 = .ok (.ireturn, 1) := by decide +kernel
theorem dX10_found_23 : decode cX10_found 23 = .ok (.iload_n 2, 1) := by decide +kernel
theorem dX10_found_24 : decode cX10_found 24 = .ok (.tableswitch 72 0 3 #[32, 42, 52, 62], 32) := by decide +kernel
theorem dX10_found_56 : decode cX10_found 56 = .ok (.aload_n 0, 1) := by decide +kernel
theorem dX10_found_57 : decode cX10_found 57 = .ok (.getfield 19, 3) := by decide +kernel
theorem dX10_found_60 : decode cX10_found 60 = .ok (.getfield 151, 3) := by decide +kernel
theorem dX10_found_63 : decode cX10_found 63 = .ok (.iload_n 1, 1) := by decide +kernel
theorem dX10_found_64 : decode cX10_found 64 = .ok (.iaload, 1) := by decide +kernel
theorem dX10_found_65 : decode cX10_found 65 = .ok (.ireturn, 1) := by decide +kernel
theorem dX10_found_66 : decode cX10_found 66 = .ok (.aload_n 0, 1) := by decide +kernel
theorem dX10_found_67 : decode cX10_found 67 = .ok (.getfield 19, 3) := by decide +kernel
theorem dX10_found_70 : decode cX10_found 70 = .ok (.getfield 154, 3) := by decide +kernel
theorem dX10_found_73 : decode cX10_found 73 = .ok (.iload_n 1, 1) := by decide +kernel
theorem dX10_found_74 : decode cX10_found 74 = .ok (.iaload, 1) := by decide +kernel
theorem dX10_found_75 : decode cX10_found 75 = .ok (.ireturn, 1) := by decide +kernel
theorem dX10_found_76 : decode cX10_found 76 = .ok (.aload_n 0, 1) := by decide +kernel
theorem dX10_found_77 : decode cX10_found 77 = .ok (.getfield 19, 3) := by decide +kernel
theorem dX10_found_80 : decode cX10_found 80 = .ok (.getfield 157, 3) := by decide +kernel
theorem dX10_found_83 : decode cX10_found 83 = .ok (.iload_n 1, 1) := by decide +kernel
theorem dX10_found_84 : decode cX10_found 84 = .ok (.iaload, 1) := by decide +kernel
theorem dX10_found_85 : decode cX10_found 85 = .ok (.ireturn, 1) := by decide +kernel
theorem dX10_found_86 : decode cX10_found 86 = .ok (.aload_n 0, 1) := by decide +kernel
theorem dX10_found_87 : decode cX10_found 87 = .ok (.getfield 19, 3) := by decide +kernel
theorem dX10_found_90 : decode cX10_found 90 = .ok (.getfield 160, 3) := by decide +kernel
theorem dX10_found_93 : decode cX10_found 93 = .ok (.iload_n 1, 1) := by decide +kernel
theorem dX10_found_94 : decode cX10_found 94 = .ok (.iaload, 1) := by decide +kernel
theorem dX10_found_95 : decode cX10_found 95 = .ok (.ireturn, 1) := by decide +kernel
theorem dX10_found_96 : decode cX10_found 96 = .ok (.iconst (-1), 1) := by decide +kernel
theorem dX10_found_97 : decode cX10_found 97 = .ok (.ireturn, 1) := by decide +kernel
theorem dX10_carried_0 : decode cX10_carried 0 = .ok (.iload_n 1, 1) := by decide +kernel
theorem dX10_carried_1 : decode cX10_carried 1 = .ok (.ifCond .lt 27, 3) := by decide +kernel
theorem dX10_carried_4 : decode cX10_carried 4 = .ok (.iload_n 1, 1) := by decide +kernel
theorem dX10_carried_5 : decode cX10_carried 5 = .ok (.aload_n 0, 1) := by decide +kernel
theorem dX10_carried_6 : decode cX10_carried 6 = .ok (.getfield 19, 3) := by decide +kernel
theorem dX10_carried_9 : decode cX10_carried 9 = .ok (.getfield 148, 3) := by decide +kernel
theorem dX10_carried_12 : decode cX10_carried 12 = .ok (.if_icmp .ge 16, 3) := by decide +kernel
theorem dX10_carried_15 : decode cX10_carried 15 = .ok (.iload_n 1, 1) := by decide +kernel
theorem dX10_carried_16 : decode cX10_carried 16 = .ok (.bipush 60, 2) := by decide +kernel
theorem dX10_carried_18 : decode cX10_carried 18 = .ok (.if_icmp .ge 10, 3) := by decide +kernel
theorem dX10_carried_21 : decode cX10_carried 21 = .ok (.iload_n 2, 1) := by decide +kernel
theorem dX10_carried_22 : decode cX10_carried 22 = .ok (.invokestatic 200, 3) := by decide +kernel
theorem dX10_carried_25 : decode cX10_carried 25 = .ok (.ifCond .ne 7, 3) := by decide +kernel
theorem dX10_carried_28 : decode cX10_carried 28 = .ok (.ldc2_w 279, 3) := by decide +kernel
theorem dX10_carried_31 : decode cX10_carried 31 = .ok (.lreturn, 1) := by decide +kernel
theorem dX10_carried_32 : decode cX10_carried 32 = .ok (.aload_n 0, 1) := by decide +kernel
theorem dX10_carried_33 : decode cX10_carried 33 = .ok (.invokevirtual 213, 3) := by decide +kernel
theorem dX10_carried_36 : decode cX10_carried 36 = .ok (.aload_n 0, 1) := by decide +kernel
theorem dX10_carried_37 : decode cX10_carried 37 = .ok (.getfield 19, 3) := by decide +kernel
theorem dX10_carried_40 : decode cX10_carried 40 = .ok (.getfield 157, 3) := by decide +kernel
theorem dX10_carried_43 : decode cX10_carried 43 = .ok (.iload_n 1, 1) := by decide +kernel
theorem dX10_carried_44 : decode cX10_carried 44 = .ok (.iaload, 1) := by decide +kernel
theorem dX10_carried_45 : decode cX10_carried 45 = .ok (.istore_n 3, 1) := by decide +kernel
theorem dX10_carried_46 : decode cX10_carried 46 = .ok (.aload_n 0, 1) := by decide +kernel
theorem dX10_carried_47 : decode cX10_carried 47 = .ok (.getfield 19, 3) := by decide +kernel
theorem dX10_carried_50 : decode cX10_carried 50 = .ok (.getfield 160, 3) := by decide +kernel
theorem dX10_carried_53 : decode cX10_carried 53 = .ok (.iload_n 1, 1) := by decide +kernel
theorem dX10_carried_54 : decode cX10_carried 54 = .ok (.iaload, 1) := by decide +kernel
theorem dX10_carried_55 : decode cX10_carried 55 = .ok (.istore 4, 2) := by decide +kernel
theorem dX10_carried_57 : decode cX10_carried 57 = .ok (.aload_n 0, 1) := by decide +kernel
theorem dX10_carried_58 : decode cX10_carried 58 = .ok (.getfield 74, 3) := by decide +kernel
theorem dX10_carried_61 : decode cX10_carried 61 = .ok (.getfield 350, 3) := by decide +kernel
theorem dX10_carried_64 : decode cX10_carried 64 = .ok (.aload_n 0, 1) := by decide +kernel
theorem dX10_carried_65 : decode cX10_carried 65 = .ok (.getfield 19, 3) := by decide +kernel
theorem dX10_carried_68 : decode cX10_carried 68 = .ok (.getfield 154, 3) := by decide +kernel
theorem dX10_carried_71 : decode cX10_carried 71 = .ok (.iload_n 1, 1) := by decide +kernel
theorem dX10_carried_72 : decode cX10_carried 72 = .ok (.iaload, 1) := by decide +kernel
theorem dX10_carried_73 : decode cX10_carried 73 = .ok (.iaload, 1) := by decide +kernel
theorem dX10_carried_74 : decode cX10_carried 74 = .ok (.i2l, 1) := by decide +kernel
theorem dX10_carried_75 : decode cX10_carried 75 = .ok (.lstore 5, 2) := by decide +kernel
theorem dX10_carried_77 : decode cX10_carried 77 = .ok (.lload 5, 2) := by decide +kernel
theorem dX10_carried_79 : decode cX10_carried 79 = .ok (.aload_n 0, 1) := by decide +kernel
theorem dX10_carried_80 : decode cX10_carried 80 = .ok (.iload_n 3, 1) := by decide +kernel
theorem dX10_carried_81 : decode cX10_carried 81 = .ok (.iload 4, 2) := by decide +kernel
theorem dX10_carried_83 : decode cX10_carried 83 = .ok (.invokevirtual 281, 3) := by decide +kernel
theorem dX10_carried_86 : decode cX10_carried 86 = .ok (.lmul, 1) := by decide +kernel
theorem dX10_carried_87 : decode cX10_carried 87 = .ok (.lstore 7, 2) := by decide +kernel
theorem dX10_carried_89 : decode cX10_carried 89 = .ok (.ldc2_w 353, 3) := by decide +kernel
theorem dX10_carried_92 : decode cX10_carried 92 = .ok (.lload 5, 2) := by decide +kernel
theorem dX10_carried_94 : decode cX10_carried 94 = .ok (.lsub, 1) := by decide +kernel
theorem dX10_carried_95 : decode cX10_carried 95 = .ok (.ldc2_w 355, 3) := by decide +kernel
theorem dX10_carried_98 : decode cX10_carried 98 = .ok (.lmul, 1) := by decide +kernel
theorem dX10_carried_99 : decode cX10_carried 99 = .ok (.aload_n 0, 1) := by decide +kernel
theorem dX10_carried_100 : decode cX10_carried 100 = .ok (.aload_n 0, 1) := by decide +kernel
theorem dX10_carried_101 : decode cX10_carried 101 = .ok (.getfield 19, 3) := by decide +kernel
theorem dX10_carried_104 : decode cX10_carried 104 = .ok (.getfield 151, 3) := by decide +kernel
theorem dX10_carried_107 : decode cX10_carried 107 = .ok (.iload_n 1, 1) := by decide +kernel
theorem dX10_carried_108 : decode cX10_carried 108 = .ok (.iaload, 1) := by decide +kernel
theorem dX10_carried_109 : decode cX10_carried 109 = .ok (.iload_n 3, 1) := by decide +kernel
theorem dX10_carried_110 : decode cX10_carried 110 = .ok (.iload 4, 2) := by decide +kernel
theorem dX10_carried_112 : decode cX10_carried 112 = .ok (.invokevirtual 285, 3) := by decide +kernel
theorem dX10_carried_115 : decode cX10_carried 115 = .ok (.lmul, 1) := by decide +kernel
theorem dX10_carried_116 : decode cX10_carried 116 = .ok (.lstore 9, 2) := by decide +kernel
theorem dX10_carried_118 : decode cX10_carried 118 = .ok (.lload 7, 2) := by decide +kernel
theorem dX10_carried_120 : decode cX10_carried 120 = .ok (.lload 9, 2) := by decide +kernel
theorem dX10_carried_122 : decode cX10_carried 122 = .ok (.ladd, 1) := by decide +kernel
theorem dX10_carried_123 : decode cX10_carried 123 = .ok (.lconst 0, 1) := by decide +kernel
theorem dX10_carried_124 : decode cX10_carried 124 = .ok (.lcmp, 1) := by decide +kernel
theorem dX10_carried_125 : decode cX10_carried 125 = .ok (.ifCond .ne 15, 3) := by decide +kernel
theorem dX10_carried_128 : decode cX10_carried 128 = .ok (.aload_n 0, 1) := by decide +kernel
theorem dX10_carried_129 : decode cX10_carried 129 = .ok (.getfield 63, 3) := by decide +kernel
theorem dX10_carried_132 : decode cX10_carried 132 = .ok (.lconst 0, 1) := by decide +kernel
theorem dX10_carried_133 : decode cX10_carried 133 = .ok (.lconst 1, 1) := by decide +kernel
theorem dX10_carried_134 : decode cX10_carried 134 = .ok (.invokevirtual 289, 3) := by decide +kernel
theorem dX10_carried_137 : decode cX10_carried 137 = .ok (.goto 17, 3) := by decide +kernel
theorem dX10_carried_140 : decode cX10_carried 140 = .ok (.aload_n 0, 1) := by decide +kernel
theorem dX10_carried_141 : decode cX10_carried 141 = .ok (.getfield 63, 3) := by decide +kernel
theorem dX10_carried_144 : decode cX10_carried 144 = .ok (.lload 7, 2) := by decide +kernel
theorem dX10_carried_146 : decode cX10_carried 146 = .ok (.lload 7, 2) := by decide +kernel
theorem dX10_carried_148 : decode cX10_carried 148 = .ok (.lload 9, 2) := by decide +kernel
theorem dX10_carried_150 : decode cX10_carried 150 = .ok (.ladd, 1) := by decide +kernel
theorem dX10_carried_151 : decode cX10_carried 151 = .ok (.invokevirtual 289, 3) := by decide +kernel
theorem dX10_carried_154 : decode cX10_carried 154 = .ok (.aload_n 0, 1) := by decide +kernel
theorem dX10_carried_155 : decode cX10_carried 155 = .ok (.getfield 63, 3) := by decide +kernel
theorem dX10_carried_158 : decode cX10_carried 158 = .ok (.iload_n 2, 1) := by decide +kernel
theorem dX10_carried_159 : decode cX10_carried 159 = .ok (.invokevirtual 292, 3) := by decide +kernel
theorem dX10_carried_162 : decode cX10_carried 162 = .ok (.lreturn, 1) := by decide +kernel
theorem dX10_say_0 : decode cX10_say 0 = .ok (.iload_n 1, 1) := by decide +kernel
theorem dX10_say_1 : decode cX10_say 1 = .ok (.invokestatic 92, 3) := by decide +kernel
theorem dX10_say_4 : decode cX10_say 4 = .ok (.ifCond .eq 10, 3) := by decide +kernel
theorem dX10_say_7 : decode cX10_say 7 = .ok (.iload_n 2, 1) := by decide +kernel
theorem dX10_say_8 : decode cX10_say 8 = .ok (.invokestatic 197, 3) := by decide +kernel
theorem dX10_say_11 : decode cX10_say 11 = .ok (.ifCond .ne 6, 3) := by decide +kernel
theorem dX10_say_14 : decode cX10_say 14 = .ok (.bipush (-2), 2) := by decide +kernel
theorem dX10_say_16 : decode cX10_say 16 = .ok (.ireturn, 1) := by decide +kernel
theorem dX10_say_17 : decode cX10_say 17 = .ok (.aload_n 0, 1) := by decide +kernel
theorem dX10_say_18 : decode cX10_say 18 = .ok (.iload_n 2, 1) := by decide +kernel
theorem dX10_say_19 : decode cX10_say 19 = .ok (.invokevirtual 236, 3) := by decide +kernel
theorem dX10_say_22 : decode cX10_say 22 = .ok (.astore_n 3, 1) := by decide +kernel
theorem dX10_say_23 : decode cX10_say 23 = .ok (.aload_n 3, 1) := by decide +kernel
theorem dX10_say_24 : decode cX10_say 24 = .ok (.getfield 240, 3) := by decide +kernel
theorem dX10_say_27 : decode cX10_say 27 = .ok (.iload_n 1, 1) := by decide +kernel
theorem dX10_say_28 : decode cX10_say 28 = .ok (.baload, 1) := by decide +kernel
theorem dX10_say_29 : decode cX10_say 29 = .ok (.ifCond .ne 5, 3) := by decide +kernel
theorem dX10_say_32 : decode cX10_say 32 = .ok (.iconst (-1), 1) := by decide +kernel
theorem dX10_say_33 : decode cX10_say 33 = .ok (.ireturn, 1) := by decide +kernel
theorem dX10_say_34 : decode cX10_say 34 = .ok (.aload_n 0, 1) := by decide +kernel
theorem dX10_say_35 : decode cX10_say 35 = .ok (.iload_n 1, 1) := by decide +kernel
theorem dX10_say_36 : decode cX10_say 36 = .ok (.iload_n 2, 1) := by decide +kernel
theorem dX10_say_37 : decode cX10_say 37 = .ok (.invokevirtual 357, 3) := by decide +kernel
theorem dX10_say_40 : decode cX10_say 40 = .ok (.istore 4, 2) := by decide +kernel
theorem dX10_say_42 : decode cX10_say 42 = .ok (.iload 4, 2) := by decide +kernel
theorem dX10_say_44 : decode cX10_say 44 = .ok (.ifCond .eq 6, 3) := by decide +kernel
theorem dX10_say_47 : decode cX10_say 47 = .ok (.iload 4, 2) := by decide +kernel
theorem dX10_say_49 : decode cX10_say 49 = .ok (.ireturn, 1) := by decide +kernel
theorem dX10_say_50 : decode cX10_say 50 = .ok (.aload_n 0, 1) := by decide +kernel
theorem dX10_say_51 : decode cX10_say 51 = .ok (.iload_n 1, 1) := by decide +kernel
theorem dX10_say_52 : decode cX10_say 52 = .ok (.aload_n 3, 1) := by decide +kernel
theorem dX10_say_53 : decode cX10_say 53 = .ok (.invokevirtual 299, 3) := by decide +kernel
theorem dX10_say_56 : decode cX10_say 56 = .ok (.ldc2_w 360, 3) := by decide +kernel
theorem dX10_say_59 : decode cX10_say 59 = .ok (.aload_n 0, 1) := by decide +kernel
theorem dX10_say_60 : decode cX10_say 60 = .ok (.getfield 63, 3) := by decide +kernel
theorem dX10_say_63 : decode cX10_say 63 = .ok (.getfield 362, 3) := by decide +kernel
theorem dX10_say_66 : decode cX10_say 66 = .ok (.lmul, 1) := by decide +kernel
theorem dX10_say_67 : decode cX10_say 67 = .ok (.aload_n 0, 1) := by decide +kernel
theorem dX10_say_68 : decode cX10_say 68 = .ok (.getfield 63, 3) := by decide +kernel
theorem dX10_say_71 : decode cX10_say 71 = .ok (.getfield 366, 3) := by decide +kernel
theorem dX10_say_74 : decode cX10_say 74 = .ok (.lcmp, 1) := by decide +kernel
theorem dX10_say_75 : decode cX10_say 75 = .ok (.ifCond .lt 7, 3) := by decide +kernel
theorem dX10_say_78 : decode cX10_say 78 = .ok (.iconst 1, 1) := by decide +kernel
theorem dX10_say_79 : decode cX10_say 79 = .ok (.goto 4, 3) := by decide +kernel
theorem dX10_say_82 : decode cX10_say 82 = .ok (.iconst 0, 1) := by decide +kernel
theorem dX10_say_83 : decode cX10_say 83 = .ok (.ireturn, 1) := by decide +kernel
theorem dX10_surestFind_0 : decode cX10_surestFind 0 = .ok (.iconst 0, 1) := by decide +kernel
theorem dX10_surestFind_1 : decode cX10_surestFind 1 = .ok (.istore_n 3, 1) := by decide +kernel
theorem dX10_surestFind_2 : decode cX10_surestFind 2 = .ok (.iconst 0, 1) := by decide +kernel
theorem dX10_surestFind_3 : decode cX10_surestFind 3 = .ok (.istore 4, 2) := by decide +kernel
theorem dX10_surestFind_5 : decode cX10_surestFind 5 = .ok (.iload 4, 2) := by decide +kernel
theorem dX10_surestFind_7 : decode cX10_surestFind 7 = .ok (.aload_n 0, 1) := by decide +kernel
theorem dX10_surestFind_8 : decode cX10_surestFind 8 = .ok (.getfield 19, 3) := by decide +kernel
theorem dX10_surestFind_11 : decode cX10_surestFind 11 = .ok (.getfield 148, 3) := by decide +kernel
theorem dX10_surestFind_14 : decode cX10_surestFind 14 = .ok (.if_icmp .ge 74, 3) := by decide +kernel
theorem dX10_surestFind_17 : decode cX10_surestFind 17 = .ok (.aload_n 0, 1) := by decide +kernel
theorem dX10_surestFind_18 : decode cX10_surestFind 18 = .ok (.getfield 19, 3) := by decide +kernel
theorem dX10_surestFind_21 : decode cX10_surestFind 21 = .ok (.getfield 151, 3) := by decide +kernel
theorem dX10_surestFind_24 : decode cX10_surestFind 24 = .ok (.iload 4, 2) := by decide +kernel
theorem dX10_surestFind_26 : decode cX10_surestFind 26 = .ok (.iaload, 1) := by decide +kernel
theorem dX10_surestFind_27 : decode cX10_surestFind 27 = .ok (.iload_n 1, 1) := by decide +kernel
theorem dX10_surestFind_28 : decode cX10_surestFind 28 = .ok (.if_icmp .ne 54, 3) := by decide +kernel
theorem dX10_surestFind_31 : decode cX10_surestFind 31 = .ok (.aload_n 0, 1) := by decide +kernel
theorem dX10_surestFind_32 : decode cX10_surestFind 32 = .ok (.getfield 19, 3) := by decide +kernel
theorem dX10_surestFind_35 : decode cX10_surestFind 35 = .ok (.getfield 157, 3) := by decide +kernel
theorem dX10_surestFind_38 : decode cX10_surestFind 38 = .ok (.iload 4, 2) := by decide +kernel
theorem dX10_surestFind_40 : decode cX10_surestFind 40 = .ok (.iaload, 1) := by decide +kernel
theorem dX10_surestFind_41 : decode cX10_surestFind 41 = .ok (.iload_n 2, 1) := by decide +kernel
theorem dX10_surestFind_42 : decode cX10_surestFind 42 = .ok (.if_icmp .gt 40, 3) := by decide +kernel
theorem dX10_surestFind_45 : decode cX10_surestFind 45 = .ok (.iload_n 2, 1) := by decide +kernel
theorem dX10_surestFind_46 : decode cX10_surestFind 46 = .ok (.aload_n 0, 1) := by decide +kernel
theorem dX10_surestFind_47 : decode cX10_surestFind 47 = .ok (.getfield 19, 3) := by decide +kernel
theorem dX10_surestFind_50 : decode cX10_surestFind 50 = .ok (.getfield 160, 3) := by decide +kernel
theorem dX10_surestFind_53 : decode cX10_surestFind 53 = .ok (.iload 4, 2) := by decide +kernel
theorem dX10_surestFind_55 : decode cX10_surestFind 55 = .ok (.iaload, 1) := by decide +kernel
theorem dX10_surestFind_56 : decode cX10_surestFind 56 = .ok (.if_icmp .gt 26, 3) := by decide +kernel
theorem dX10_surestFind_59 : decode cX10_surestFind 59 = .ok (.iload_n 3, 1) := by decide +kernel
theorem dX10_surestFind_60 : decode cX10_surestFind 60 = .ok (.aload_n 0, 1) := by decide +kernel
theorem dX10_surestFind_61 : decode cX10_surestFind 61 = .ok (.getfield 19, 3) := by decide +kernel
theorem dX10_surestFind_64 : decode cX10_surestFind 64 = .ok (.getfield 154, 3) := by decide +kernel
theorem dX10_surestFind_67 : decode cX10_surestFind 67 = .ok (.iload 4, 2) := by decide +kernel
theorem dX10_surestFind_69 : decode cX10_surestFind 69 = .ok (.iaload, 1) := by decide +kernel
theorem dX10_surestFind_70 : decode cX10_surestFind 70 = .ok (.ifCond .ne 7, 3) := by decide +kernel
theorem dX10_surestFind_73 : decode cX10_surestFind 73 = .ok (.iconst 2, 1) := by decide +kernel
theorem dX10_surestFind_74 : decode cX10_surestFind 74 = .ok (.goto 4, 3) := by decide +kernel
theorem dX10_surestFind_77 : decode cX10_surestFind 77 = .ok (.iconst 3, 1) := by decide +kernel
theorem dX10_surestFind_78 : decode cX10_surestFind 78 = .ok (.invokestatic 369, 3) := by decide +kernel
theorem dX10_surestFind_81 : decode cX10_surestFind 81 = .ok (.istore_n 3, 1) := by decide +kernel
theorem dX10_surestFind_82 : decode cX10_surestFind 82 = .ok (.iinc 4 1, 3) := by decide +kernel
theorem dX10_surestFind_85 : decode cX10_surestFind 85 = .ok (.goto (-80), 3) := by decide +kernel
theorem dX10_surestFind_88 : decode cX10_surestFind 88 = .ok (.iload_n 3, 1) := by decide +kernel
theorem dX10_surestFind_89 : decode cX10_surestFind 89 = .ok (.ireturn, 1) := by decide +kernel
theorem dX10_gone_0 : decode cX10_gone 0 = .ok (.iload_n 1, 1) := by decide +kernel
theorem dX10_gone_1 : decode cX10_gone 1 = .ok (.invokestatic 92, 3) := by decide +kernel
theorem dX10_gone_4 : decode cX10_gone 4 = .ok (.ifCond .eq 19, 3) := by decide +kernel
theorem dX10_gone_7 : decode cX10_gone 7 = .ok (.iload_n 2, 1) := by decide +kernel
theorem dX10_gone_8 : decode cX10_gone 8 = .ok (.invokestatic 197, 3) := by decide +kernel
theorem dX10_gone_11 : decode cX10_gone 11 = .ok (.ifCond .eq 12, 3) := by decide +kernel
theorem dX10_gone_14 : decode cX10_gone 14 = .ok (.iload_n 3, 1) := by decide +kernel
theorem dX10_gone_15 : decode cX10_gone 15 = .ok (.iload 4, 2) := by decide +kernel
theorem dX10_gone_17 : decode cX10_gone 17 = .ok (.invokestatic 372, 3) := by decide +kernel
theorem dX10_gone_20 : decode cX10_gone 20 = .ok (.ifCond .ne 6, 3) := by decide +kernel
theorem dX10_gone_23 : decode cX10_gone 23 = .ok (.bipush (-2), 2) := by decide +kernel
theorem dX10_gone_25 : decode cX10_gone 25 = .ok (.ireturn, 1) := by decide +kernel
theorem dX10_gone_26 : decode cX10_gone 26 = .ok (.aload_n 0, 1) := by decide +kernel
theorem dX10_gone_27 : decode cX10_gone 27 = .ok (.iload_n 2, 1) := by decide +kernel
theorem dX10_gone_28 : decode cX10_gone 28 = .ok (.invokevirtual 236, 3) := by decide +kernel
theorem dX10_gone_31 : decode cX10_gone 31 = .ok (.astore 5, 2) := by decide +kernel
theorem dX10_gone_33 : decode cX10_gone 33 = .ok (.aload 5, 2) := by decide +kernel
theorem dX10_gone_35 : decode cX10_gone 35 = .ok (.getfield 240, 3) := by decide +kernel
theorem dX10_gone_38 : decode cX10_gone 38 = .ok (.iload_n 1, 1) := by decide +kernel
theorem dX10_gone_39 : decode cX10_gone 39 = .ok (.baload, 1) := by decide +kernel
theorem dX10_gone_40 : decode cX10_gone 40 = .ok (.ifCond .ne 5, 3) := by decide +kernel
theorem dX10_gone_43 : decode cX10_gone 43 = .ok (.iconst (-1), 1) := by decide +kernel
theorem dX10_gone_44 : decode cX10_gone 44 = .ok (.ireturn, 1) := by decide +kernel
theorem dX10_gone_45 : decode cX10_gone 45 = .ok (.aload 5, 2) := by decide +kernel
theorem dX10_gone_47 : decode cX10_gone 47 = .ok (.iload_n 1, 1) := by decide +kernel
theorem dX10_gone_48 : decode cX10_gone 48 = .ok (.iload 4, 2) := by decide +kernel
theorem dX10_gone_50 : decode cX10_gone 50 = .ok (.invokevirtual 375, 3) := by decide +kernel
theorem dX10_gone_53 : decode cX10_gone 53 = .ok (.iload_n 3, 1) := by decide +kernel
theorem dX10_gone_54 : decode cX10_gone 54 = .ok (.if_icmp .ge 7, 3) := by decide +kernel
theorem dX10_gone_57 : decode cX10_gone 57 = .ok (.iconst 1, 1) := by decide +kernel
theorem dX10_gone_58 : decode cX10_gone 58 = .ok (.goto 4, 3) := by decide +kernel
theorem dX10_gone_61 : decode cX10_gone 61 = .ok (.iconst 0, 1) := by decide +kernel
theorem dX10_gone_62 : decode cX10_gone 62 = .ok (.ireturn, 1) := by decide +kernel
theorem dX10_rest_0 : decode cX10_rest 0 = .ok (.iload_n 1, 1) := by decide +kernel
theorem dX10_rest_1 : decode cX10_rest 1 = .ok (.invokestatic 197, 3) := by decide +kernel
theorem dX10_rest_4 : decode cX10_rest 4 = .ok (.ifCond .eq 22, 3) := by decide +kernel
theorem dX10_rest_7 : decode cX10_rest 7 = .ok (.iload_n 2, 1) := by decide +kernel
theorem dX10_rest_8 : decode cX10_rest 8 = .ok (.iload_n 3, 1) := by decide +kernel
theorem dX10_rest_9 : decode cX10_rest 9 = .ok (.invokestatic 372, 3) := by decide +kernel
theorem dX10_rest_12 : decode cX10_rest 12 = .ok (.ifCond .eq 14, 3) := by decide +kernel
theorem dX10_rest_15 : decode cX10_rest 15 = .ok (.iload 4, 2) := by decide +kernel
theorem dX10_rest_17 : decode cX10_rest 17 = .ok (.ifCond .lt 9, 3) := by decide +kernel
theorem dX10_rest_20 : decode cX10_rest 20 = .ok (.iload 4, 2) := by decide +kernel
theorem dX10_rest_22 : decode cX10_rest 22 = .ok (.iconst 2, 1) := by decide +kernel
theorem dX10_rest_23 : decode cX10_rest 23 = .ok (.if_icmp .le 5, 3) := by decide +kernel
theorem dX10_rest_26 : decode cX10_rest 26 = .ok (.iconst (-1), 1) := by decide +kernel
theorem dX10_rest_27 : decode cX10_rest 27 = .ok (.ireturn, 1) := by decide +kernel
theorem dX10_rest_28 : decode cX10_rest 28 = .ok (.aload_n 0, 1) := by decide +kernel
theorem dX10_rest_29 : decode cX10_rest 29 = .ok (.iload_n 1, 1) := by decide +kernel
theorem dX10_rest_30 : decode cX10_rest 30 = .ok (.invokevirtual 236, 3) := by decide +kernel
theorem dX10_rest_33 : decode cX10_rest 33 = .ok (.astore 5, 2) := by decide +kernel
theorem dX10_rest_35 : decode cX10_rest 35 = .ok (.iconst 0, 1) := by decide +kernel
theorem dX10_rest_36 : decode cX10_rest 36 = .ok (.istore 6, 2) := by decide +kernel
theorem dX10_rest_38 : decode cX10_rest 38 = .ok (.iconst 0, 1) := by decide +kernel
theorem dX10_rest_39 : decode cX10_rest 39 = .ok (.istore 7, 2) := by decide +kernel
theorem dX10_rest_41 : decode cX10_rest 41 = .ok (.iconst 0, 1) := by decide +kernel
theorem dX10_rest_42 : decode cX10_rest 42 = .ok (.istore 8, 2) := by decide +kernel
theorem dX10_rest_44 : decode cX10_rest 44 = .ok (.iload 8, 2) := by decide +kernel
theorem dX10_rest_46 : decode cX10_rest 46 = .ok (.sipush 256, 3) := by decide +kernel
theorem dX10_rest_49 : decode cX10_rest 49 = .ok (.if_icmp .ge 92, 3) := by decide +kernel
theorem dX10_rest_52 : decode cX10_rest 52 = .ok (.aload 5, 2) := by decide +kernel
theorem dX10_rest_54 : decode cX10_rest 54 = .ok (.getfield 240, 3) := by decide +kernel
theorem dX10_rest_57 : decode cX10_rest 57 = .ok (.iload 8, 2) := by decide +kernel
theorem dX10_rest_59 : decode cX10_rest 59 = .ok (.baload, 1) := by decide +kernel
theorem dX10_rest_60 : decode cX10_rest 60 = .ok (.ifCond .eq 19, 3) := by decide +kernel
theorem dX10_rest_63 : decode cX10_rest 63 = .ok (.aload 5, 2) := by decide +kernel
theorem dX10_rest_65 : decode cX10_rest 65 = .ok (.iload 8, 2) := by decide +kernel
theorem dX10_rest_67 : decode cX10_rest 67 = .ok (.iload_n 3, 1) := by decide +kernel
theorem dX10_rest_68 : decode cX10_rest 68 = .ok (.invokevirtual 375, 3) := by decide +kernel
theorem dX10_rest_71 : decode cX10_rest 71 = .ok (.iload_n 2, 1) := by decide +kernel
theorem dX10_rest_72 : decode cX10_rest 72 = .ok (.if_icmp .lt 7, 3) := by decide +kernel
theorem dX10_rest_75 : decode cX10_rest 75 = .ok (.iconst 1, 1) := by decide +kernel
theorem dX10_rest_76 : decode cX10_rest 76 = .ok (.goto 4, 3) := by decide +kernel
theorem dX10_rest_79 : decode cX10_rest 79 = .ok (.iconst 0, 1) := by decide +kernel
theorem dX10_rest_80 : decode cX10_rest 80 = .ok (.istore 9, 2) := by decide +kernel
theorem dX10_rest_82 : decode cX10_rest 82 = .ok (.aload_n 0, 1) := by decide +kernel
theorem dX10_rest_83 : decode cX10_rest 83 = .ok (.getfield 49, 3) := by decide +kernel
theorem dX10_rest_86 : decode cX10_rest 86 = .ok (.getfield 378, 3) := by decide +kernel
theorem dX10_rest_89 : decode cX10_rest 89 = .ok (.iload 8, 2) := by decide +kernel
theorem dX10_rest_91 : decode cX10_rest 91 = .ok (.iload 9, 2) := by decide +kernel
theorem dX10_rest_93 : decode cX10_rest 93 = .ok (.bastore, 1) := by decide +kernel
theorem dX10_rest_94 : decode cX10_rest 94 = .ok (.iload 6, 2) := by decide +kernel
theorem dX10_rest_96 : decode cX10_rest 96 = .ok (.iload 9, 2) := by decide +kernel
theorem dX10_rest_98 : decode cX10_rest 98 = .ok (.ifCond .eq 7, 3) := by decide +kernel
theorem dX10_rest_101 : decode cX10_rest 101 = .ok (.iconst 1, 1) := by decide +kernel
theorem dX10_rest_102 : decode cX10_rest 102 = .ok (.goto 4, 3) := by decide +kernel
theorem dX10_rest_105 : decode cX10_rest 105 = .ok (.iconst 0, 1) := by decide +kernel
theorem dX10_rest_106 : decode cX10_rest 106 = .ok (.iadd, 1) := by decide +kernel
theorem dX10_rest_107 : decode cX10_rest 107 = .ok (.istore 6, 2) := by decide +kernel
theorem dX10_rest_109 : decode cX10_rest 109 = .ok (.iload 7, 2) := by decide +kernel
theorem dX10_rest_111 : decode cX10_rest 111 = .ok (.aload 5, 2) := by decide +kernel
theorem dX10_rest_113 : decode cX10_rest 113 = .ok (.getfield 240, 3) := by decide +kernel
theorem dX10_rest_116 : decode cX10_rest 116 = .ok (.iload 8, 2) := by decide +kernel
theorem dX10_rest_118 : decode cX10_rest 118 = .ok (.baload, 1) := by decide +kernel
theorem dX10_rest_119 : decode cX10_rest 119 = .ok (.ifCond .eq 12, 3) := by decide +kernel
theorem dX10_rest_122 : decode cX10_rest 122 = .ok (.iload 9, 2) := by decide +kernel
theorem dX10_rest_124 : decode cX10_rest 124 = .ok (.ifCond .ne 7, 3) := by decide +kernel
theorem dX10_rest_127 : decode cX10_rest 127 = .ok (.iconst 1, 1) := by decide +kernel
theorem dX10_rest_128 : decode cX10_rest 128 = .ok (.goto 4, 3) := by decide +kernel
theorem dX10_rest_131 : decode cX10_rest 131 = .ok (.iconst 0, 1) := by decide +kernel
theorem dX10_rest_132 : decode cX10_rest 132 = .ok (.iadd, 1) := by decide +kernel
theorem dX10_rest_133 : decode cX10_rest 133 = .ok (.istore 7, 2) := by decide +kernel
theorem dX10_rest_135 : decode cX10_rest 135 = .ok (.iinc 8 1, 3) := by decide +kernel
theorem dX10_rest_138 : decode cX10_rest 138 = .ok (.goto (-94), 3) := by decide +kernel
theorem dX10_rest_141 : decode cX10_rest 141 = .ok (.iload 4, 2) := by decide +kernel
theorem dX10_rest_143 : decode cX10_rest 143 = .ok (.iconst 1, 1) := by decide +kernel
theorem dX10_rest_144 : decode cX10_rest 144 = .ok (.if_icmp .ne 11, 3) := by decide +kernel
theorem dX10_rest_147 : decode cX10_rest 147 = .ok (.aload_n 0, 1) := by decide +kernel
theorem dX10_rest_148 : decode cX10_rest 148 = .ok (.getfield 49, 3) := by decide +kernel
theorem dX10_rest_151 : decode cX10_rest 151 = .ok (.invokevirtual 381, 3) := by decide +kernel
theorem dX10_rest_154 : decode cX10_rest 154 = .ok (.ireturn, 1) := by decide +kernel
theorem dX10_rest_155 : decode cX10_rest 155 = .ok (.iload 4, 2) := by decide +kernel
theorem dX10_rest_157 : decode cX10_rest 157 = .ok (.ifCond .ne 8, 3) := by decide +kernel
theorem dX10_rest_160 : decode cX10_rest 160 = .ok (.iload 6, 2) := by decide +kernel
theorem dX10_rest_162 : decode cX10_rest 162 = .ok (.goto 5, 3) := by decide +kernel
theorem dX10_rest_165 : decode cX10_rest 165 = .ok (.iload 7, 2) := by decide +kernel
theorem dX10_rest_167 : decode cX10_rest 167 = .ok (.ireturn, 1) := by decide +kernel
theorem dX10_height_0 : decode cX10_height 0 = .ok (.iload_n 1, 1) := by decide +kernel
theorem dX10_height_1 : decode cX10_height 1 = .ok (.invokestatic 197, 3) := by decide +kernel
theorem dX10_height_4 : decode cX10_height 4 = .ok (.ifCond .eq 22, 3) := by decide +kernel
theorem dX10_height_7 : decode cX10_height 7 = .ok (.iload_n 2, 1) := by decide +kernel
theorem dX10_height_8 : decode cX10_height 8 = .ok (.ifCond .lt 18, 3) := by decide +kernel
theorem dX10_height_11 : decode cX10_height 11 = .ok (.iload_n 2, 1) := by decide +kernel
theorem dX10_height_12 : decode cX10_height 12 = .ok (.bipush 20, 2) := by decide +kernel
theorem dX10_height_14 : decode cX10_height 14 = .ok (.if_icmp .gt 12, 3) := by decide +kernel
theorem dX10_height_17 : decode cX10_height 17 = .ok (.iload_n 3, 1) := by decide +kernel
theorem dX10_height_18 : decode cX10_height 18 = .ok (.ifCond .lt 8, 3) := by decide +kernel
theorem dX10_height_21 : decode cX10_height 21 = .ok (.iload_n 3, 1) := by decide +kernel
theorem dX10_height_22 : decode cX10_height 22 = .ok (.iconst 2, 1) := by decide +kernel
theorem dX10_height_23 : decode cX10_height 23 = .ok (.if_icmp .le 5, 3) := by decide +kernel
theorem dX10_height_26 : decode cX10_height 26 = .ok (.iconst (-1), 1) := by decide +kernel
theorem dX10_height_27 : decode cX10_height 27 = .ok (.ireturn, 1) := by decide +kernel
theorem dX10_height_28 : decode cX10_height 28 = .ok (.aload_n 0, 1) := by decide +kernel
theorem dX10_height_29 : decode cX10_height 29 = .ok (.iload_n 1, 1) := by decide +kernel
theorem dX10_height_30 : decode cX10_height 30 = .ok (.invokevirtual 236, 3) := by decide +kernel
theorem dX10_height_33 : decode cX10_height 33 = .ok (.astore 4, 2) := by decide +kernel
theorem dX10_height_35 : decode cX10_height 35 = .ok (.iconst 1, 1) := by decide +kernel
theorem dX10_height_36 : decode cX10_height 36 = .ok (.istore 5, 2) := by decide +kernel
theorem dX10_height_38 : decode cX10_height 38 = .ok (.bipush 99, 2) := by decide +kernel
theorem dX10_height_40 : decode cX10_height 40 = .ok (.istore 6, 2) := by decide +kernel
theorem dX10_height_42 : decode cX10_height 42 = .ok (.iconst 0, 1) := by decide +kernel
theorem dX10_height_43 : decode cX10_height 43 = .ok (.istore 7, 2) := by decide +kernel
theorem dX10_height_45 : decode cX10_height 45 = .ok (.iload 7, 2) := by decide +kernel
theorem dX10_height_47 : decode cX10_height 47 = .ok (.sipush 256, 3) := by decide +kernel
theorem dX10_height_50 : decode cX10_height 50 = .ok (.if_icmp .ge 81, 3) := by decide +kernel
theorem dX10_height_53 : decode cX10_height 53 = .ok (.aload_n 0, 1) := by decide +kernel
theorem dX10_height_54 : decode cX10_height 54 = .ok (.getfield 19, 3) := by decide +kernel
theorem dX10_height_57 : decode cX10_height 57 = .ok (.getfield 163, 3) := by decide +kernel
theorem dX10_height_60 : decode cX10_height 60 = .ok (.iload 7, 2) := by decide +kernel
theorem dX10_height_62 : decode cX10_height 62 = .ok (.iaload, 1) := by decide +kernel
theorem dX10_height_63 : decode cX10_height 63 = .ok (.iconst (-1), 1) := by decide +kernel
theorem dX10_height_64 : decode cX10_height 64 = .ok (.if_icmp .eq 61, 3) := by decide +kernel
theorem dX10_height_67 : decode cX10_height 67 = .ok (.aload 4, 2) := by decide +kernel
theorem dX10_height_69 : decode cX10_height 69 = .ok (.getfield 240, 3) := by decide +kernel
theorem dX10_height_72 : decode cX10_height 72 = .ok (.iload 7, 2) := by decide +kernel
theorem dX10_height_74 : decode cX10_height 74 = .ok (.baload, 1) := by decide +kernel
theorem dX10_height_75 : decode cX10_height 75 = .ok (.ifCond .eq 50, 3) := by decide +kernel
theorem dX10_height_78 : decode cX10_height 78 = .ok (.aload 4, 2) := by decide +kernel
theorem dX10_height_80 : decode cX10_height 80 = .ok (.iload 7, 2) := by decide +kernel
theorem dX10_height_82 : decode cX10_height 82 = .ok (.iload_n 2, 1) := by decide +kernel
theorem dX10_height_83 : decode cX10_height 83 = .ok (.invokevirtual 375, 3) := by decide +kernel
theorem dX10_height_86 : decode cX10_height 86 = .ok (.istore 8, 2) := by decide +kernel
theorem dX10_height_88 : decode cX10_height 88 = .ok (.aload_n 0, 1) := by decide +kernel
theorem dX10_height_89 : decode cX10_height 89 = .ok (.getfield 19, 3) := by decide +kernel
theorem dX10_height_92 : decode cX10_height 92 = .ok (.getfield 163, 3) := by decide +kernel
theorem dX10_height_95 : decode cX10_height 95 = .ok (.iload 7, 2) := by decide +kernel
theorem dX10_height_97 : decode cX10_height 97 = .ok (.iaload, 1) := by decide +kernel
theorem dX10_height_98 : decode cX10_height 98 = .ok (.iconst 1, 1) := by decide +kernel
theorem dX10_height_99 : decode cX10_height 99 = .ok (.if_icmp .ne 17, 3) := by decide +kernel
theorem dX10_height_102 : decode cX10_height 102 = .ok (.iload 5, 2) := by decide +kernel
theorem dX10_height_104 : decode cX10_height 104 = .ok (.iload 8, 2) := by decide +kernel
theorem dX10_height_106 : decode cX10_height 106 = .ok (.iconst 1, 1) := by decide +kernel
theorem dX10_height_107 : decode cX10_height 107 = .ok (.iadd, 1) := by decide +kernel
theorem dX10_height_108 : decode cX10_height 108 = .ok (.invokestatic 369, 3) := by decide +kernel
theorem dX10_height_111 : decode cX10_height 111 = .ok (.istore 5, 2) := by decide +kernel
theorem dX10_height_113 : decode cX10_height 113 = .ok (.goto 12, 3) := by decide +kernel
theorem dX10_height_116 : decode cX10_height 116 = .ok (.iload 6, 2) := by decide +kernel
theorem dX10_height_118 : decode cX10_height 118 = .ok (.iload 8, 2) := by decide +kernel
theorem dX10_height_120 : decode cX10_height 120 = .ok (.invokestatic 385, 3) := by decide +kernel
theorem dX10_height_123 : decode cX10_height 123 = .ok (.istore 6, 2) := by decide +kernel
theorem dX10_height_125 : decode cX10_height 125 = .ok (.iinc 7 1, 3) := by decide +kernel
theorem dX10_height_128 : decode cX10_height 128 = .ok (.goto (-83), 3) := by decide +kernel
theorem dX10_height_131 : decode cX10_height 131 = .ok (.iload_n 3, 1) := by decide +kernel
theorem dX10_height_132 : decode cX10_height 132 = .ok (.iconst 2, 1) := by decide +kernel
theorem dX10_height_133 : decode cX10_height 133 = .ok (.if_icmp .ne 15, 3) := by decide +kernel
theorem dX10_height_136 : decode cX10_height 136 = .ok (.iconst 0, 1) := by decide +kernel
theorem dX10_height_137 : decode cX10_height 137 = .ok (.iload 6, 2) := by decide +kernel
theorem dX10_height_139 : decode cX10_height 139 = .ok (.iload 5, 2) := by decide +kernel
theorem dX10_height_141 : decode cX10_height 141 = .ok (.isub, 1) := by decide +kernel
theorem dX10_height_142 : decode cX10_height 142 = .ok (.iconst 1, 1) := by decide +kernel
theorem dX10_height_143 : decode cX10_height 143 = .ok (.iadd, 1) := by decide +kernel
theorem dX10_height_144 : decode cX10_height 144 = .ok (.invokestatic 369, 3) := by decide +kernel
theorem dX10_height_147 : decode cX10_height 147 = .ok (.ireturn, 1) := by decide +kernel
theorem dX10_height_148 : decode cX10_height 148 = .ok (.iload 5, 2) := by decide +kernel
theorem dX10_height_150 : decode cX10_height 150 = .ok (.iload 6, 2) := by decide +kernel
theorem dX10_height_152 : decode cX10_height 152 = .ok (.if_icmp .le 5, 3) := by decide +kernel
theorem dX10_height_155 : decode cX10_height 155 = .ok (.iconst (-1), 1) := by decide +kernel
theorem dX10_height_156 : decode cX10_height 156 = .ok (.ireturn, 1) := by decide +kernel
theorem dX10_height_157 : decode cX10_height 157 = .ok (.iload_n 3, 1) := by decide +kernel
theorem dX10_height_158 : decode cX10_height 158 = .ok (.ifCond .ne 8, 3) := by decide +kernel
theorem dX10_height_161 : decode cX10_height 161 = .ok (.iload 5, 2) := by decide +kernel
theorem dX10_height_163 : decode cX10_height 163 = .ok (.goto 5, 3) := by decide +kernel
theorem dX10_height_166 : decode cX10_height 166 = .ok (.iload 6, 2) := by decide +kernel
theorem dX10_height_168 : decode cX10_height 168 = .ok (.ireturn, 1) := by decide +kernel
theorem dX10_ship_0 : decode cX10_ship 0 = .ok (.iload_n 1, 1) := by decide +kernel
theorem dX10_ship_1 : decode cX10_ship 1 = .ok (.iconst 1, 1) := by decide +kernel
theorem dX10_ship_2 : decode cX10_ship 2 = .ok (.if_icmp .lt 26, 3) := by decide +kernel
theorem dX10_ship_5 : decode cX10_ship 5 = .ok (.iload_n 1, 1) := by decide +kernel
theorem dX10_ship_6 : decode cX10_ship 6 = .ok (.bipush 6, 2) := by decide +kernel
theorem dX10_ship_8 : decode cX10_ship 8 = .ok (.if_icmp .gt 20, 3) := by decide +kernel
theorem dX10_ship_11 : decode cX10_ship 11 = .ok (.iload_n 2, 1) := by decide +kernel
theorem dX10_ship_12 : decode cX10_ship 12 = .ok (.invokestatic 197, 3) := by decide +kernel
theorem dX10_ship_15 : decode cX10_ship 15 = .ok (.ifCond .eq 13, 3) := by decide +kernel
theorem dX10_ship_18 : decode cX10_ship 18 = .ok (.aload_n 0, 1) := by decide +kernel
theorem dX10_ship_19 : decode cX10_ship 19 = .ok (.getfield 19, 3) := by decide +kernel
theorem dX10_ship_22 : decode cX10_ship 22 = .ok (.getfield 172, 3) := by decide +kernel
theorem dX10_ship_25 : decode cX10_ship 25 = .ok (.ifCond .ne 5, 3) := by decide +kernel
theorem dX10_ship_28 : decode cX10_ship 28 = .ok (.iconst (-1), 1) := by decide +kernel
theorem dX10_ship_29 : decode cX10_ship 29 = .ok (.ireturn, 1) := by decide +kernel
theorem dX10_ship_30 : decode cX10_ship 30 = .ok (.iload_n 3, 1) := by decide +kernel
theorem dX10_ship_31 : decode cX10_ship 31 = .ok (.bipush 10, 2) := by decide +kernel
theorem dX10_ship_33 : decode cX10_ship 33 = .ok (.isub, 1) := by decide +kernel
theorem dX10_ship_34 : decode cX10_ship 34 = .ok (.istore 4, 2) := by decide +kernel
theorem dX10_ship_36 : decode cX10_ship 36 = .ok (.iload_n 3, 1) := by decide +kernel
theorem dX10_ship_37 : decode cX10_ship 37 = .ok (.ifCond .eq 23, 3) := by decide +kernel
theorem dX10_ship_40 : decode cX10_ship 40 = .ok (.iload_n 3, 1) := by decide +kernel
theorem dX10_ship_41 : decode cX10_ship 41 = .ok (.bipush 10, 2) := by decide +kernel
theorem dX10_ship_43 : decode cX10_ship 43 = .ok (.if_icmp .lt 15, 3) := by decide +kernel
theorem dX10_ship_46 : decode cX10_ship 46 = .ok (.iload 4, 2) := by decide +kernel
theorem dX10_ship_48 : decode cX10_ship 48 = .ok (.aload_n 0, 1) := by decide +kernel
theorem dX10_ship_49 : decode cX10_ship 49 = .ok (.getfield 19, 3) := by decide +kernel
theorem dX10_ship_52 : decode cX10_ship 52 = .ok (.getfield 172, 3) := by decide +kernel
theorem dX10_ship_55 : decode cX10_ship 55 = .ok (.if_icmp .lt 5, 3) := by decide +kernel
theorem dX10_ship_58 : decode cX10_ship 58 = .ok (.iconst (-1), 1) := by decide +kernel
theorem dX10_ship_59 : decode cX10_ship 59 = .ok (.ireturn, 1) := by decide +kernel
theorem dX10_ship_60 : decode cX10_ship 60 = .ok (.aload_n 0, 1) := by decide +kernel
theorem dX10_ship_61 : decode cX10_ship 61 = .ok (.getfield 56, 3) := by decide +kernel
theorem dX10_ship_64 : decode cX10_ship 64 = .ok (.iload_n 1, 1) := by decide +kernel
theorem dX10_ship_65 : decode cX10_ship 65 = .ok (.iload_n 2, 1) := by decide +kernel
theorem dX10_ship_66 : decode cX10_ship 66 = .ok (.invokevirtual 388, 3) := by decide +kernel
theorem dX10_ship_69 : decode cX10_ship 69 = .ok (.ifCond .ne 28, 3) := by decide +kernel
theorem dX10_ship_72 : decode cX10_ship 72 = .ok (.aload_n 0, 1) := by decide +kernel
theorem dX10_ship_73 : decode cX10_ship 73 = .ok (.aload_n 0, 1) := by decide +kernel
theorem dX10_ship_74 : decode cX10_ship 74 = .ok (.iload_n 2, 1) := by decide +kernel
theorem dX10_ship_75 : decode cX10_ship 75 = .ok (.invokevirtual 236, 3) := by decide +kernel
theorem dX10_ship_78 : decode cX10_ship 78 = .ok (.invokevirtual 391, 3) := by decide +kernel
theorem dX10_ship_81 : decode cX10_ship 81 = .ok (.aload_n 0, 1) := by decide +kernel
theorem dX10_ship_82 : decode cX10_ship 82 = .ok (.getfield 56, 3) := by decide +kernel
theorem dX10_ship_85 : decode cX10_ship 85 = .ok (.iload_n 1, 1) := by decide +kernel
theorem dX10_ship_86 : decode cX10_ship 86 = .ok (.iload_n 2, 1) := by decide +kernel
theorem dX10_ship_87 : decode cX10_ship 87 = .ok (.aload_n 0, 1) := by decide +kernel
theorem dX10_ship_88 : decode cX10_ship 88 = .ok (.getfield 19, 3) := by decide +kernel
theorem dX10_ship_91 : decode cX10_ship 91 = .ok (.getfield 172, 3) := by decide +kernel
theorem dX10_ship_94 : decode cX10_ship 94 = .ok (.invokevirtual 395, 3) := by decide +kernel
theorem dX10_ship_97 : decode cX10_ship 97 = .ok (.iload_n 3, 1) := by decide +kernel
theorem dX10_ship_98 : decode cX10_ship 98 = .ok (.ifCond .ne 18, 3) := by decide +kernel
theorem dX10_ship_101 : decode cX10_ship 101 = .ok (.ldc2_w 399, 3) := by decide +kernel
theorem dX10_ship_104 : decode cX10_ship 104 = .ok (.aload_n 0, 1) := by decide +kernel
theorem dX10_ship_105 : decode cX10_ship 105 = .ok (.getfield 56, 3) := by decide +kernel
theorem dX10_ship_108 : decode cX10_ship 108 = .ok (.getfield 401, 3) := by decide +kernel
theorem dX10_ship_111 : decode cX10_ship 111 = .ok (.lsub, 1) := by decide +kernel
theorem dX10_ship_112 : decode cX10_ship 112 = .ok (.l2i, 1) := by decide +kernel
theorem dX10_ship_113 : decode cX10_ship 113 = .ok (.goto 13, 3) := by decide +kernel
theorem dX10_ship_116 : decode cX10_ship 116 = .ok (.aload_n 0, 1) := by decide +kernel
theorem dX10_ship_117 : decode cX10_ship 117 = .ok (.getfield 56, 3) := by decide +kernel
theorem dX10_ship_120 : decode cX10_ship 120 = .ok (.getfield 404, 3) := by decide +kernel
theorem dX10_ship_123 : decode cX10_ship 123 = .ok (.iload 4, 2) := by decide +kernel
theorem dX10_ship_125 : decode cX10_ship 125 = .ok (.iaload, 1) := by decide +kernel
theorem dX10_ship_126 : decode cX10_ship 126 = .ok (.ireturn, 1) := by decide +kernel
theorem dX10_layOut_0 : decode cX10_layOut 0 = .ok (.iconst 0, 1) := by decide +kernel
theorem dX10_layOut_1 : decode cX10_layOut 1 = .ok (.istore_n 2, 1) := by decide +kernel
theorem dX10_layOut_2 : decode cX10_layOut 2 = .ok (.iload_n 2, 1) := by decide +kernel
theorem dX10_layOut_3 : decode cX10_layOut 3 = .ok (.aload_n 0, 1) := by decide +kernel
theorem dX10_layOut_4 : decode cX10_layOut 4 = .ok (.getfield 19, 3) := by decide +kernel
theorem dX10_layOut_7 : decode cX10_layOut 7 = .ok (.getfield 172, 3) := by decide +kernel
theorem dX10_layOut_10 : decode cX10_layOut 10 = .ok (.if_icmp .ge 48, 3) := by decide +kernel
theorem dX10_layOut_13 : decode cX10_layOut 13 = .ok (.aload_n 0, 1) := by decide +kernel
theorem dX10_layOut_14 : decode cX10_layOut 14 = .ok (.aload_n 0, 1) := by decide +kernel
theorem dX10_layOut_15 : decode cX10_layOut 15 = .ok (.getfield 19, 3) := by decide +kernel
theorem dX10_layOut_18 : decode cX10_layOut 18 = .ok (.getfield 175, 3) := by decide +kernel
theorem dX10_layOut_21 : decode cX10_layOut 21 = .ok (.iload_n 2, 1) := by decide +kernel
theorem dX10_layOut_22 : decode cX10_layOut 22 = .ok (.iaload, 1) := by decide +kernel
theorem dX10_layOut_23 : decode cX10_layOut 23 = .ok (.aload_n 1, 1) := by decide +kernel
theorem dX10_layOut_24 : decode cX10_layOut 24 = .ok (.invokevirtual 299, 3) := by decide +kernel
theorem dX10_layOut_27 : decode cX10_layOut 27 = .ok (.aload_n 0, 1) := by decide +kernel
theorem dX10_layOut_28 : decode cX10_layOut 28 = .ok (.getfield 56, 3) := by decide +kernel
theorem dX10_layOut_31 : decode cX10_layOut 31 = .ok (.iload_n 2, 1) := by decide +kernel
theorem dX10_layOut_32 : decode cX10_layOut 32 = .ok (.aload_n 0, 1) := by decide +kernel
theorem dX10_layOut_33 : decode cX10_layOut 33 = .ok (.getfield 63, 3) := by decide +kernel
theorem dX10_layOut_36 : decode cX10_layOut 36 = .ok (.ldc2_w 399, 3) := by decide +kernel
theorem dX10_layOut_39 : decode cX10_layOut 39 = .ok (.invokevirtual 407, 3) := by decide +kernel
theorem dX10_layOut_42 : decode cX10_layOut 42 = .ok (.aload_n 0, 1) := by decide +kernel
theorem dX10_layOut_43 : decode cX10_layOut 43 = .ok (.getfield 74, 3) := by decide +kernel
theorem dX10_layOut_46 : decode cX10_layOut 46 = .ok (.getfield 347, 3) := by decide +kernel
theorem dX10_layOut_49 : decode cX10_layOut 49 = .ok (.invokevirtual 411, 3) := by decide +kernel
theorem dX10_layOut_52 : decode cX10_layOut 52 = .ok (.iinc 2 1, 3) := by decide +kernel
theorem dX10_layOut_55 : decode cX10_layOut 55 = .ok (.goto (-53), 3) := by decide +kernel
theorem dX10_layOut_58 : decode cX10_layOut 58 = .ok (.return_, 1) := by decide +kernel
theorem dX10_doubt_0 : decode cX10_doubt 0 = .ok (.iload_n 1, 1) := by decide +kernel
theorem dX10_doubt_1 : decode cX10_doubt 1 = .ok (.invokestatic 197, 3) := by decide +kernel
theorem dX10_doubt_4 : decode cX10_doubt 4 = .ok (.ifCond .eq 13, 3) := by decide +kernel
theorem dX10_doubt_7 : decode cX10_doubt 7 = .ok (.aload_n 0, 1) := by decide +kernel
theorem dX10_doubt_8 : decode cX10_doubt 8 = .ok (.getfield 19, 3) := by decide +kernel
theorem dX10_doubt_11 : decode cX10_doubt 11 = .ok (.getfield 172, 3) := by decide +kernel
theorem dX10_doubt_14 : decode cX10_doubt 14 = .ok (.ifCond .ne 5, 3) := by decide +kernel
theorem dX10_doubt_17 : decode cX10_doubt 17 = .ok (.iconst (-1), 1) := by decide +kernel
theorem dX10_doubt_18 : decode cX10_doubt 18 = .ok (.ireturn, 1) := by decide +kernel
theorem dX10_doubt_19 : decode cX10_doubt 19 = .ok (.aload_n 0, 1) := by decide +kernel
theorem dX10_doubt_20 : decode cX10_doubt 20 = .ok (.iload_n 1, 1) := by decide +kernel
theorem dX10_doubt_21 : decode cX10_doubt 21 = .ok (.invokevirtual 236, 3) := by decide +kernel
theorem dX10_doubt_24 : decode cX10_doubt 24 = .ok (.astore_n 2, 1) := by decide +kernel
theorem dX10_doubt_25 : decode cX10_doubt 25 = .ok (.iconst 0, 1) := by decide +kernel
theorem dX10_doubt_26 : decode cX10_doubt 26 = .ok (.istore_n 3, 1) := by decide +kernel
theorem dX10_doubt_27 : decode cX10_doubt 27 = .ok (.lconst 0, 1) := by decide +kernel
theorem dX10_doubt_28 : decode cX10_doubt 28 = .ok (.lstore 4, 2) := by decide +kernel
theorem dX10_doubt_30 : decode cX10_doubt 30 = .ok (.lconst 1, 1) := by decide +kernel
theorem dX10_doubt_31 : decode cX10_doubt 31 = .ok (.lstore 6, 2) := by decide +kernel
theorem dX10_doubt_33 : decode cX10_doubt 33 = .ok (.iconst 0, 1) := by decide +kernel
theorem dX10_doubt_34 : decode cX10_doubt 34 = .ok (.istore 8, 2) := by decide +kernel
theorem dX10_doubt_36 : decode cX10_doubt 36 = .ok (.iload 8, 2) := by decide +kernel
theorem dX10_doubt_38 : decode cX10_doubt 38 = .ok (.aload_n 0, 1) := by decide +kernel
theorem dX10_doubt_39 : decode cX10_doubt 39 = .ok (.getfield 19, 3) := by decide +kernel
theorem dX10_doubt_42 : decode cX10_doubt 42 = .ok (.getfield 172, 3) := by decide +kernel
theorem dX10_doubt_45 : decode cX10_doubt 45 = .ok (.if_icmp .ge 88, 3) := by decide +kernel
theorem dX10_doubt_48 : decode cX10_doubt 48 = .ok (.aload_n 0, 1) := by decide +kernel
theorem dX10_doubt_49 : decode cX10_doubt 49 = .ok (.aload_n 0, 1) := by decide +kernel
theorem dX10_doubt_50 : decode cX10_doubt 50 = .ok (.getfield 19, 3) := by decide +kernel
theorem dX10_doubt_53 : decode cX10_doubt 53 = .ok (.getfield 175, 3) := by decide +kernel
theorem dX10_doubt_56 : decode cX10_doubt 56 = .ok (.iload 8, 2) := by decide +kernel
theorem dX10_doubt_58 : decode cX10_doubt 58 = .ok (.iaload, 1) := by decide +kernel
theorem dX10_doubt_59 : decode cX10_doubt 59 = .ok (.aload_n 2, 1) := by decide +kernel
theorem dX10_doubt_60 : decode cX10_doubt 60 = .ok (.invokevirtual 299, 3) := by decide +kernel
theorem dX10_doubt_63 : decode cX10_doubt 63 = .ok (.ldc2_w 360, 3) := by decide +kernel
theorem dX10_doubt_66 : decode cX10_doubt 66 = .ok (.aload_n 0, 1) := by decide +kernel
theorem dX10_doubt_67 : decode cX10_doubt 67 = .ok (.getfield 63, 3) := by decide +kernel
theorem dX10_doubt_70 : decode cX10_doubt 70 = .ok (.getfield 362, 3) := by decide +kernel
theorem dX10_doubt_73 : decode cX10_doubt 73 = .ok (.lmul, 1) := by decide +kernel
theorem dX10_doubt_74 : decode cX10_doubt 74 = .ok (.aload_n 0, 1) := by decide +kernel
theorem dX10_doubt_75 : decode cX10_doubt 75 = .ok (.getfield 63, 3) := by decide +kernel
theorem dX10_doubt_78 : decode cX10_doubt 78 = .ok (.getfield 366, 3) := by decide +kernel
theorem dX10_doubt_81 : decode cX10_doubt 81 = .ok (.lsub, 1) := by decide +kernel
theorem dX10_doubt_82 : decode cX10_doubt 82 = .ok (.invokestatic 415, 3) := by decide +kernel
theorem dX10_doubt_85 : decode cX10_doubt 85 = .ok (.lstore 9, 2) := by decide +kernel
theorem dX10_doubt_87 : decode cX10_doubt 87 = .ok (.iload 8, 2) := by decide +kernel
theorem dX10_doubt_89 : decode cX10_doubt 89 = .ok (.ifCond .eq 22, 3) := by decide +kernel
theorem dX10_doubt_92 : decode cX10_doubt 92 = .ok (.lload 9, 2) := by decide +kernel
theorem dX10_doubt_94 : decode cX10_doubt 94 = .ok (.aload_n 0, 1) := by decide +kernel
theorem dX10_doubt_95 : decode cX10_doubt 95 = .ok (.getfield 63, 3) := by decide +kernel
theorem dX10_doubt_98 : decode cX10_doubt 98 = .ok (.getfield 366, 3) := by decide +kernel
theorem dX10_doubt_101 : decode cX10_doubt 101 = .ok (.lload 4, 2) := by decide +kernel
theorem dX10_doubt_103 : decode cX10_doubt 103 = .ok (.lload 6, 2) := by decide +kernel
theorem dX10_doubt_105 : decode cX10_doubt 105 = .ok (.invokestatic 417, 3) := by decide +kernel
theorem dX10_doubt_108 : decode cX10_doubt 108 = .ok (.ifCond .ge 19, 3) := by decide +kernel
theorem dX10_doubt_111 : decode cX10_doubt 111 = .ok (.iload 8, 2) := by decide +kernel
theorem dX10_doubt_113 : decode cX10_doubt 113 = .ok (.istore_n 3, 1) := by decide +kernel
theorem dX10_doubt_114 : decode cX10_doubt 114 = .ok (.lload 9, 2) := by decide +kernel
theorem dX10_doubt_116 : decode cX10_doubt 116 = .ok (.lstore 4, 2) := by decide +kernel
theorem dX10_doubt_118 : decode cX10_doubt 118 = .ok (.aload_n 0, 1) := by decide +kernel
theorem dX10_doubt_119 : decode cX10_doubt 119 = .ok (.getfield 63, 3) := by decide +kernel
theorem dX10_doubt_122 : decode cX10_doubt 122 = .ok (.getfield 366, 3) := by decide +kernel
theorem dX10_doubt_125 : decode cX10_doubt 125 = .ok (.lstore 6, 2) := by decide +kernel
theorem dX10_doubt_127 : decode cX10_doubt 127 = .ok (.iinc 8 1, 3) := by decide +kernel
theorem dX10_doubt_130 : decode cX10_doubt 130 = .ok (.goto (-94), 3) := by decide +kernel
theorem dX10_doubt_133 : decode cX10_doubt 133 = .ok (.iload_n 3, 1) := by decide +kernel
theorem dX10_doubt_134 : decode cX10_doubt 134 = .ok (.ireturn, 1) := by decide +kernel
theorem dX10_levels_0 : decode cX10_levels 0 = .ok (.iload_n 1, 1) := by decide +kernel
theorem dX10_levels_1 : decode cX10_levels 1 = .ok (.invokestatic 197, 3) := by decide +kernel
theorem dX10_levels_4 : decode cX10_levels 4 = .ok (.ifCond .eq 10, 3) := by decide +kernel
theorem dX10_levels_7 : decode cX10_levels 7 = .ok (.iload_n 2, 1) := by decide +kernel
theorem dX10_levels_8 : decode cX10_levels 8 = .ok (.invokestatic 200, 3) := by decide +kernel
theorem dX10_levels_11 : decode cX10_levels 11 = .ok (.ifCond .ne 5, 3) := by decide +kernel
theorem dX10_levels_14 : decode cX10_levels 14 = .ok (.iconst (-1), 1) := by decide +kernel
theorem dX10_levels_15 : decode cX10_levels 15 = .ok (.ireturn, 1) := by decide +kernel
theorem dX10_levels_16 : decode cX10_levels 16 = .ok (.iconst 0, 1) := by decide +kernel
theorem dX10_levels_17 : decode cX10_levels 17 = .ok (.istore_n 3, 1) := by decide +kernel
theorem dX10_levels_18 : decode cX10_levels 18 = .ok (.bipush 99, 2) := by decide +kernel
theorem dX10_levels_20 : decode cX10_levels 20 = .ok (.istore 4, 2) := by decide +kernel
theorem dX10_levels_22 : decode cX10_levels 22 = .ok (.iconst 0, 1) := by decide +kernel
theorem dX10_levels_23 : decode cX10_levels 23 = .ok (.istore 5, 2) := by decide +kernel
theorem dX10_levels_25 : decode cX10_levels 25 = .ok (.iload 5, 2) := by decide +kernel
theorem dX10_levels_27 : decode cX10_levels 27 = .ok (.aload_n 0, 1) := by decide +kernel
theorem dX10_levels_28 : decode cX10_levels 28 = .ok (.getfield 19, 3) := by decide +kernel
theorem dX10_levels_31 : decode cX10_levels 31 = .ok (.getfield 178, 3) := by decide +kernel
theorem dX10_levels_34 : decode cX10_levels 34 = .ok (.if_icmp .ge 102, 3) := by decide +kernel
theorem dX10_levels_37 : decode cX10_levels 37 = .ok (.aload_n 0, 1) := by decide +kernel
theorem dX10_levels_38 : decode cX10_levels 38 = .ok (.getfield 19, 3) := by decide +kernel
theorem dX10_levels_41 : decode cX10_levels 41 = .ok (.getfield 181, 3) := by decide +kernel
theorem dX10_levels_44 : decode cX10_levels 44 = .ok (.iload 5, 2) := by decide +kernel
theorem dX10_levels_46 : decode cX10_levels 46 = .ok (.iaload, 1) := by decide +kernel
theorem dX10_levels_47 : decode cX10_levels 47 = .ok (.iconst 1, 1) := by decide +kernel
theorem dX10_levels_48 : decode cX10_levels 48 = .ok (.if_icmp .ne 7, 3) := by decide +kernel
theorem dX10_levels_51 : decode cX10_levels 51 = .ok (.iconst 1, 1) := by decide +kernel
theorem dX10_levels_52 : decode cX10_levels 52 = .ok (.goto 4, 3) := by decide +kernel
theorem dX10_levels_55 : decode cX10_levels 55 = .ok (.iconst 0, 1) := by decide +kernel
theorem dX10_levels_56 : decode cX10_levels 56 = .ok (.istore 6, 2) := by decide +kernel
theorem dX10_levels_58 : decode cX10_levels 58 = .ok (.iload 6, 2) := by decide +kernel
theorem dX10_levels_60 : decode cX10_levels 60 = .ok (.ifCond .eq 36, 3) := by decide +kernel
theorem dX10_levels_63 : decode cX10_levels 63 = .ok (.aload_n 0, 1) := by decide +kernel
theorem dX10_levels_64 : decode cX10_levels 64 = .ok (.getfield 19, 3) := by decide +kernel
theorem dX10_levels_67 : decode cX10_levels 67 = .ok (.getfield 187, 3) := by decide +kernel
theorem dX10_levels_70 : decode cX10_levels 70 = .ok (.iload 5, 2) := by decide +kernel
theorem dX10_levels_72 : decode cX10_levels 72 = .ok (.iaload, 1) := by decide +kernel
theorem dX10_levels_73 : decode cX10_levels 73 = .ok (.iload_n 1, 1) := by decide +kernel
theorem dX10_levels_74 : decode cX10_levels 74 = .ok (.if_icmp .lt 22, 3) := by decide +kernel
theorem dX10_levels_77 : decode cX10_levels 77 = .ok (.iload 4, 2) := by decide +kernel
theorem dX10_levels_79 : decode cX10_levels 79 = .ok (.aload_n 0, 1) := by decide +kernel
theorem dX10_levels_80 : decode cX10_levels 80 = .ok (.getfield 19, 3) := by decide +kernel
theorem dX10_levels_83 : decode cX10_levels 83 = .ok (.getfield 184, 3) := by decide +kernel
theorem dX10_levels_86 : decode cX10_levels 86 = .ok (.iload 5, 2) := by decide +kernel
theorem dX10_levels_88 : decode cX10_levels 88 = .ok (.iaload, 1) := by decide +kernel
theorem dX10_levels_89 : decode cX10_levels 89 = .ok (.iconst 1, 1) := by decide +kernel
theorem dX10_levels_90 : decode cX10_levels 90 = .ok (.isub, 1) := by decide +kernel
theorem dX10_levels_91 : decode cX10_levels 91 = .ok (.invokestatic 385, 3) := by decide +kernel
theorem dX10_levels_94 : decode cX10_levels 94 = .ok (.istore 4, 2) := by decide +kernel
theorem dX10_levels_96 : decode cX10_levels 96 = .ok (.iload 6, 2) := by decide +kernel
theorem dX10_levels_98 : decode cX10_levels 98 = .ok (.ifCond .ne 32, 3) := by decide +kernel
theorem dX10_levels_101 : decode cX10_levels 101 = .ok (.aload_n 0, 1) := by decide +kernel
theorem dX10_levels_102 : decode cX10_levels 102 = .ok (.getfield 19, 3) := by decide +kernel
theorem dX10_levels_105 : decode cX10_levels 105 = .ok (.getfield 190, 3) := by decide +kernel
theorem dX10_levels_108 : decode cX10_levels 108 = .ok (.iload 5, 2) := by decide +kernel
theorem dX10_levels_110 : decode cX10_levels 110 = .ok (.iaload, 1) := by decide +kernel
theorem dX10_levels_111 : decode cX10_levels 111 = .ok (.iload_n 1, 1) := by decide +kernel
theorem dX10_levels_112 : decode cX10_levels 112 = .ok (.if_icmp .gt 18, 3) := by decide +kernel
theorem dX10_levels_115 : decode cX10_levels 115 = .ok (.iload_n 3, 1) := by decide +kernel
theorem dX10_levels_116 : decode cX10_levels 116 = .ok (.aload_n 0, 1) := by decide +kernel
theorem dX10_levels_117 : decode cX10_levels 117 = .ok (.getfield 19, 3) := by decide +kernel
theorem dX10_levels_120 : decode cX10_levels 120 = .ok (.getfield 184, 3) := by decide +kernel
theorem dX10_levels_123 : decode cX10_levels 123 = .ok (.iload 5, 2) := by decide +kernel
theorem dX10_levels_125 : decode cX10_levels 125 = .ok (.iaload, 1) := by decide +kernel
theorem dX10_levels_126 : decode cX10_levels 126 = .ok (.invokestatic 369, 3) := by decide +kernel
theorem dX10_levels_129 : decode cX10_levels 129 = .ok (.istore_n 3, 1) := by decide +kernel
theorem dX10_levels_130 : decode cX10_levels 130 = .ok (.iinc 5 1, 3) := by decide +kernel
theorem dX10_levels_133 : decode cX10_levels 133 = .ok (.goto (-108), 3) := by decide +kernel
theorem dX10_levels_136 : decode cX10_levels 136 = .ok (.iload_n 3, 1) := by decide +kernel
theorem dX10_levels_137 : decode cX10_levels 137 = .ok (.iload 4, 2) := by decide +kernel
theorem dX10_levels_139 : decode cX10_levels 139 = .ok (.if_icmp .le 5, 3) := by decide +kernel
theorem dX10_levels_142 : decode cX10_levels 142 = .ok (.iconst (-1), 1) := by decide +kernel
theorem dX10_levels_143 : decode cX10_levels 143 = .ok (.ireturn, 1) := by decide +kernel
theorem dX10_levels_144 : decode cX10_levels 144 = .ok (.iload_n 2, 1) := by decide +kernel
theorem dX10_levels_145 : decode cX10_levels 145 = .ok (.ifCond .ne 7, 3) := by decide +kernel
theorem dX10_levels_148 : decode cX10_levels 148 = .ok (.iload_n 3, 1) := by decide +kernel
theorem dX10_levels_149 : decode cX10_levels 149 = .ok (.goto 5, 3) := by decide +kernel
theorem dX10_levels_152 : decode cX10_levels 152 = .ok (.iload 4, 2) := by decide +kernel
theorem dX10_levels_154 : decode cX10_levels 154 = .ok (.ireturn, 1) := by decide +kernel
theorem dX10_fits_0 : decode cX10_fits 0 = .ok (.iload_n 1, 1) := by decide +kernel
theorem dX10_fits_1 : decode cX10_fits 1 = .ok (.iconst (-1), 1) := by decide +kernel
theorem dX10_fits_2 : decode cX10_fits 2 = .ok (.if_icmp .eq 9, 3) := by decide +kernel
theorem dX10_fits_5 : decode cX10_fits 5 = .ok (.iload_n 1, 1) := by decide +kernel
theorem dX10_fits_6 : decode cX10_fits 6 = .ok (.ifCond .eq 5, 3) := by decide +kernel
theorem dX10_fits_9 : decode cX10_fits 9 = .ok (.iconst (-1), 1) := by decide +kernel
theorem dX10_fits_10 : decode cX10_fits 10 = .ok (.ireturn, 1) := by decide +kernel
theorem dX10_fits_11 : decode cX10_fits 11 = .ok (.iconst 0, 1) := by decide +kernel
theorem dX10_fits_12 : decode cX10_fits 12 = .ok (.istore_n 2, 1) := by decide +kernel
theorem dX10_fits_13 : decode cX10_fits 13 = .ok (.iconst 0, 1) := by decide +kernel
theorem dX10_fits_14 : decode cX10_fits 14 = .ok (.istore_n 3, 1) := by decide +kernel
theorem dX10_fits_15 : decode cX10_fits 15 = .ok (.iload_n 3, 1) := by decide +kernel
theorem dX10_fits_16 : decode cX10_fits 16 = .ok (.aload_n 0, 1) := by decide +kernel
theorem dX10_fits_17 : decode cX10_fits 17 = .ok (.getfield 19, 3) := by decide +kernel
theorem dX10_fits_20 : decode cX10_fits 20 = .ok (.getfield 178, 3) := by decide +kernel
theorem dX10_fits_23 : decode cX10_fits 23 = .ok (.if_icmp .ge 29, 3) := by decide +kernel
theorem dX10_fits_26 : decode cX10_fits 26 = .ok (.aload_n 0, 1) := by decide +kernel
theorem dX10_fits_27 : decode cX10_fits 27 = .ok (.iload_n 3, 1) := by decide +kernel
theorem dX10_fits_28 : decode cX10_fits 28 = .ok (.invokevirtual 421, 3) := by decide +kernel
theorem dX10_fits_31 : decode cX10_fits 31 = .ok (.ifCond .eq 9, 3) := by decide +kernel
theorem dX10_fits_34 : decode cX10_fits 34 = .ok (.iinc 2 1, 3) := by decide +kernel
theorem dX10_fits_37 : decode cX10_fits 37 = .ok (.goto 9, 3) := by decide +kernel
theorem dX10_fits_40 : decode cX10_fits 40 = .ok (.iload_n 1, 1) := by decide +kernel
theorem dX10_fits_41 : decode cX10_fits 41 = .ok (.ifCond .ne 5, 3) := by decide +kernel
theorem dX10_fits_44 : decode cX10_fits 44 = .ok (.iload_n 3, 1) := by decide +kernel
theorem dX10_fits_45 : decode cX10_fits 45 = .ok (.ireturn, 1) := by decide +kernel
theorem dX10_fits_46 : decode cX10_fits 46 = .ok (.iinc 3 1, 3) := by decide +kernel
theorem dX10_fits_49 : decode cX10_fits 49 = .ok (.goto (-34), 3) := by decide +kernel
theorem dX10_fits_52 : decode cX10_fits 52 = .ok (.iload_n 1, 1) := by decide +kernel
theorem dX10_fits_53 : decode cX10_fits 53 = .ok (.iconst (-1), 1) := by decide +kernel
theorem dX10_fits_54 : decode cX10_fits 54 = .ok (.if_icmp .ne 7, 3) := by decide +kernel
theorem dX10_fits_57 : decode cX10_fits 57 = .ok (.iload_n 2, 1) := by decide +kernel
theorem dX10_fits_58 : decode cX10_fits 58 = .ok (.goto 4, 3) := by decide +kernel
theorem dX10_fits_61 : decode cX10_fits 61 = .ok (.iconst (-1), 1) := by decide +kernel
theorem dX10_fits_62 : decode cX10_fits 62 = .ok (.ireturn, 1) := by decide +kernel
theorem dX10_letterFits_0 : decode cX10_letterFits 0 = .ok (.aload_n 0, 1) := by decide +kernel
theorem dX10_letterFits_1 : decode cX10_letterFits 1 = .ok (.getfield 19, 3) := by decide +kernel
theorem dX10_letterFits_4 : decode cX10_letterFits 4 = .ok (.getfield 184, 3) := by decide +kernel
theorem dX10_letterFits_7 : decode cX10_letterFits 7 = .ok (.iload_n 1, 1) := by decide +kernel
theorem dX10_letterFits_8 : decode cX10_letterFits 8 = .ok (.iaload, 1) := by decide +kernel
theorem dX10_letterFits_9 : decode cX10_letterFits 9 = .ok (.istore_n 2, 1) := by decide +kernel
theorem dX10_letterFits_10 : decode cX10_letterFits 10 = .ok (.aload_n 0, 1) := by decide +kernel
theorem dX10_letterFits_11 : decode cX10_letterFits 11 = .ok (.getfield 19, 3) := by decide +kernel
theorem dX10_letterFits_14 : decode cX10_letterFits 14 = .ok (.getfield 181, 3) := by decide +kernel
theorem dX10_letterFits_17 : decode cX10_letterFits 17 = .ok (.iload_n 1, 1) := by decide +kernel
theorem dX10_letterFits_18 : decode cX10_letterFits 18 = .ok (.iaload, 1) := by decide +kernel
