theorem dX10_letterFits_19 : decode cX10_letterFits 19 = .ok (.iconst 1, 1) := by decide +kernel
theorem dX10_letterFits_20 : decode cX10_letterFits 20 = .ok (.if_icmp .ne 7, 3) := by decide +kernel
theorem dX10_letterFits_23 : decode cX10_letterFits 23 = .ok (.iconst 1, 1) := by decide +kernel
theorem dX10_letterFits_24 : decode cX10_letterFits 24 = .ok (.goto 4, 3) := by decide +kernel
theorem dX10_letterFits_27 : decode cX10_letterFits 27 = .ok (.iconst 0, 1) := by decide +kernel
theorem dX10_letterFits_28 : decode cX10_letterFits 28 = .ok (.istore_n 3, 1) := by decide +kernel
theorem dX10_letterFits_29 : decode cX10_letterFits 29 = .ok (.aload_n 0, 1) := by decide +kernel
theorem dX10_letterFits_30 : decode cX10_letterFits 30 = .ok (.getfield 19, 3) := by decide +kernel
theorem dX10_letterFits_33 : decode cX10_letterFits 33 = .ok (.getfield 187, 3) := by decide +kernel
theorem dX10_letterFits_36 : decode cX10_letterFits 36 = .ok (.iload_n 1, 1) := by decide +kernel
theorem dX10_letterFits_37 : decode cX10_letterFits 37 = .ok (.iaload, 1) := by decide +kernel
theorem dX10_letterFits_38 : decode cX10_letterFits 38 = .ok (.istore 4, 2) := by decide +kernel
theorem dX10_letterFits_40 : decode cX10_letterFits 40 = .ok (.iload 4, 2) := by decide +kernel
theorem dX10_letterFits_42 : decode cX10_letterFits 42 = .ok (.aload_n 0, 1) := by decide +kernel
theorem dX10_letterFits_43 : decode cX10_letterFits 43 = .ok (.getfield 19, 3) := by decide +kernel
theorem dX10_letterFits_46 : decode cX10_letterFits 46 = .ok (.getfield 190, 3) := by decide +kernel
theorem dX10_letterFits_49 : decode cX10_letterFits 49 = .ok (.iload_n 1, 1) := by decide +kernel
theorem dX10_letterFits_50 : decode cX10_letterFits 50 = .ok (.iaload, 1) := by decide +kernel
theorem dX10_letterFits_51 : decode cX10_letterFits 51 = .ok (.if_icmp .gt 63, 3) := by decide +kernel
theorem dX10_letterFits_54 : decode cX10_letterFits 54 = .ok (.iload_n 3, 1) := by decide +kernel
theorem dX10_letterFits_55 : decode cX10_letterFits 55 = .ok (.ifCond .eq 25, 3) := by decide +kernel
theorem dX10_letterFits_58 : decode cX10_letterFits 58 = .ok (.aload_n 0, 1) := by decide +kernel
theorem dX10_letterFits_59 : decode cX10_letterFits 59 = .ok (.getfield 74, 3) := by decide +kernel
theorem dX10_letterFits_62 : decode cX10_letterFits 62 = .ok (.getfield 203, 3) := by decide +kernel
theorem dX10_letterFits_65 : decode cX10_letterFits 65 = .ok (.iload 4, 2) := by decide +kernel
theorem dX10_letterFits_67 : decode cX10_letterFits 67 = .ok (.iaload, 1) := by decide +kernel
theorem dX10_letterFits_68 : decode cX10_letterFits 68 = .ok (.iload_n 2, 1) := by decide +kernel
theorem dX10_letterFits_69 : decode cX10_letterFits 69 = .ok (.if_icmp .ge 7, 3) := by decide +kernel
theorem dX10_letterFits_72 : decode cX10_letterFits 72 = .ok (.iconst 1, 1) := by decide +kernel
theorem dX10_letterFits_73 : decode cX10_letterFits 73 = .ok (.goto 26, 3) := by decide +kernel
theorem dX10_letterFits_76 : decode cX10_letterFits 76 = .ok (.iconst 0, 1) := by decide +kernel
theorem dX10_letterFits_77 : decode cX10_letterFits 77 = .ok (.goto 22, 3) := by decide +kernel
theorem dX10_letterFits_80 : decode cX10_letterFits 80 = .ok (.aload_n 0, 1) := by decide +kernel
theorem dX10_letterFits_81 : decode cX10_letterFits 81 = .ok (.getfield 74, 3) := by decide +kernel
theorem dX10_letterFits_84 : decode cX10_letterFits 84 = .ok (.getfield 206, 3) := by decide +kernel
theorem dX10_letterFits_87 : decode cX10_letterFits 87 = .ok (.iload 4, 2) := by decide +kernel
theorem dX10_letterFits_89 : decode cX10_letterFits 89 = .ok (.iaload, 1) := by decide +kernel
theorem dX10_letterFits_90 : decode cX10_letterFits 90 = .ok (.iload_n 2, 1) := by decide +kernel
theorem dX10_letterFits_91 : decode cX10_letterFits 91 = .ok (.if_icmp .lt 7, 3) := by decide +kernel
theorem dX10_letterFits_94 : decode cX10_letterFits 94 = .ok (.iconst 1, 1) := by decide +kernel
theorem dX10_letterFits_95 : decode cX10_letterFits 95 = .ok (.goto 4, 3) := by decide +kernel
theorem dX10_letterFits_98 : decode cX10_letterFits 98 = .ok (.iconst 0, 1) := by decide +kernel
theorem dX10_letterFits_99 : decode cX10_letterFits 99 = .ok (.istore 5, 2) := by decide +kernel
theorem dX10_letterFits_101 : decode cX10_letterFits 101 = .ok (.iload 5, 2) := by decide +kernel
theorem dX10_letterFits_103 : decode cX10_letterFits 103 = .ok (.ifCond .eq 5, 3) := by decide +kernel
theorem dX10_letterFits_106 : decode cX10_letterFits 106 = .ok (.iconst 1, 1) := by decide +kernel
theorem dX10_letterFits_107 : decode cX10_letterFits 107 = .ok (.ireturn, 1) := by decide +kernel
theorem dX10_letterFits_108 : decode cX10_letterFits 108 = .ok (.iinc 4 1, 3) := by decide +kernel
theorem dX10_letterFits_111 : decode cX10_letterFits 111 = .ok (.goto (-71), 3) := by decide +kernel
theorem dX10_letterFits_114 : decode cX10_letterFits 114 = .ok (.iconst 0, 1) := by decide +kernel
theorem dX10_letterFits_115 : decode cX10_letterFits 115 = .ok (.ireturn, 1) := by decide +kernel
theorem dX10_count_0 : decode cX10_count 0 = .ok (.iload_n 1, 1) := by decide +kernel
theorem dX10_count_1 : decode cX10_count 1 = .ok (.tableswitch 179 0 15 #[79, 87, 95, 103, 111, 119, 127, 135, 140, 140, 140, 150, 158, 158, 158, 171], 79) := by decide +kernel
theorem dX10_count_80 : decode cX10_count 80 = .ok (.aload_n 0, 1) := by decide +kernel
theorem dX10_count_81 : decode cX10_count 81 = .ok (.getfield 74, 3) := by decide +kernel
theorem dX10_count_84 : decode cX10_count 84 = .ok (.getfield 123, 3) := by decide +kernel
theorem dX10_count_87 : decode cX10_count 87 = .ok (.ireturn, 1) := by decide +kernel
theorem dX10_count_88 : decode cX10_count 88 = .ok (.aload_n 0, 1) := by decide +kernel
theorem dX10_count_89 : decode cX10_count 89 = .ok (.getfield 19, 3) := by decide +kernel
theorem dX10_count_92 : decode cX10_count 92 = .ok (.getfield 129, 3) := by decide +kernel
theorem dX10_count_95 : decode cX10_count 95 = .ok (.ireturn, 1) := by decide +kernel
theorem dX10_count_96 : decode cX10_count 96 = .ok (.aload_n 0, 1) := by decide +kernel
theorem dX10_count_97 : decode cX10_count 97 = .ok (.getfield 19, 3) := by decide +kernel
theorem dX10_count_100 : decode cX10_count 100 = .ok (.getfield 148, 3) := by decide +kernel
theorem dX10_count_103 : decode cX10_count 103 = .ok (.ireturn, 1) := by decide +kernel
theorem dX10_count_104 : decode cX10_count 104 = .ok (.aload_n 0, 1) := by decide +kernel
theorem dX10_count_105 : decode cX10_count 105 = .ok (.getfield 19, 3) := by decide +kernel
theorem dX10_count_108 : decode cX10_count 108 = .ok (.invokevirtual 424, 3) := by decide +kernel
theorem dX10_count_111 : decode cX10_count 111 = .ok (.ireturn, 1) := by decide +kernel
theorem dX10_count_112 : decode cX10_count 112 = .ok (.aload_n 0, 1) := by decide +kernel
theorem dX10_count_113 : decode cX10_count 113 = .ok (.getfield 19, 3) := by decide +kernel
theorem dX10_count_116 : decode cX10_count 116 = .ok (.getfield 172, 3) := by decide +kernel
theorem dX10_count_119 : decode cX10_count 119 = .ok (.ireturn, 1) := by decide +kernel
theorem dX10_count_120 : decode cX10_count 120 = .ok (.aload_n 0, 1) := by decide +kernel
theorem dX10_count_121 : decode cX10_count 121 = .ok (.getfield 19, 3) := by decide +kernel
theorem dX10_count_124 : decode cX10_count 124 = .ok (.getfield 166, 3) := by decide +kernel
theorem dX10_count_127 : decode cX10_count 127 = .ok (.ireturn, 1) := by decide +kernel
theorem dX10_count_128 : decode cX10_count 128 = .ok (.aload_n 0, 1) := by decide +kernel
theorem dX10_count_129 : decode cX10_count 129 = .ok (.getfield 10, 3) := by decide +kernel
theorem dX10_count_132 : decode cX10_count 132 = .ok (.getfield 112, 3) := by decide +kernel
theorem dX10_count_135 : decode cX10_count 135 = .ok (.ireturn, 1) := by decide +kernel
theorem dX10_count_136 : decode cX10_count 136 = .ok (.aload_n 0, 1) := by decide +kernel
theorem dX10_count_137 : decode cX10_count 137 = .ok (.getfield 85, 3) := by decide +kernel
theorem dX10_count_140 : decode cX10_count 140 = .ok (.ireturn, 1) := by decide +kernel
theorem dX10_count_141 : decode cX10_count 141 = .ok (.aload_n 0, 1) := by decide +kernel
theorem dX10_count_142 : decode cX10_count 142 = .ok (.getfield 67, 3) := by decide +kernel
theorem dX10_count_145 : decode cX10_count 145 = .ok (.iload_n 1, 1) := by decide +kernel
theorem dX10_count_146 : decode cX10_count 146 = .ok (.bipush 8, 2) := by decide +kernel
theorem dX10_count_148 : decode cX10_count 148 = .ok (.isub, 1) := by decide +kernel
theorem dX10_count_149 : decode cX10_count 149 = .ok (.iaload, 1) := by decide +kernel
theorem dX10_count_150 : decode cX10_count 150 = .ok (.ireturn, 1) := by decide +kernel
theorem dX10_count_151 : decode cX10_count 151 = .ok (.aload_n 0, 1) := by decide +kernel
theorem dX10_count_152 : decode cX10_count 152 = .ok (.getfield 74, 3) := by decide +kernel
theorem dX10_count_155 : decode cX10_count 155 = .ok (.getfield 347, 3) := by decide +kernel
theorem dX10_count_158 : decode cX10_count 158 = .ok (.ireturn, 1) := by decide +kernel
theorem dX10_count_159 : decode cX10_count 159 = .ok (.aload_n 0, 1) := by decide +kernel
theorem dX10_count_160 : decode cX10_count 160 = .ok (.getfield 74, 3) := by decide +kernel
theorem dX10_count_163 : decode cX10_count 163 = .ok (.getfield 350, 3) := by decide +kernel
theorem dX10_count_166 : decode cX10_count 166 = .ok (.iload_n 1, 1) := by decide +kernel
theorem dX10_count_167 : decode cX10_count 167 = .ok (.bipush 12, 2) := by decide +kernel
theorem dX10_count_169 : decode cX10_count 169 = .ok (.isub, 1) := by decide +kernel
theorem dX10_count_170 : decode cX10_count 170 = .ok (.iaload, 1) := by decide +kernel
theorem dX10_count_171 : decode cX10_count 171 = .ok (.ireturn, 1) := by decide +kernel
theorem dX10_count_172 : decode cX10_count 172 = .ok (.aload_n 0, 1) := by decide +kernel
theorem dX10_count_173 : decode cX10_count 173 = .ok (.getfield 19, 3) := by decide +kernel
theorem dX10_count_176 : decode cX10_count 176 = .ok (.getfield 178, 3) := by decide +kernel
theorem dX10_count_179 : decode cX10_count 179 = .ok (.ireturn, 1) := by decide +kernel
theorem dX10_count_180 : decode cX10_count 180 = .ok (.iconst (-1), 1) := by decide +kernel
theorem dX10_count_181 : decode cX10_count 181 = .ok (.ireturn, 1) := by decide +kernel
theorem dX10_isCell_0 : decode cX10_isCell 0 = .ok (.iload_n 0, 1) := by decide +kernel
theorem dX10_isCell_1 : decode cX10_isCell 1 = .ok (.ifCond .lt 14, 3) := by decide +kernel
theorem dX10_isCell_4 : decode cX10_isCell 4 = .ok (.iload_n 0, 1) := by decide +kernel
theorem dX10_isCell_5 : decode cX10_isCell 5 = .ok (.sipush 256, 3) := by decide +kernel
theorem dX10_isCell_8 : decode cX10_isCell 8 = .ok (.if_icmp .ge 7, 3) := by decide +kernel
theorem dX10_isCell_11 : decode cX10_isCell 11 = .ok (.iconst 1, 1) := by decide +kernel
theorem dX10_isCell_12 : decode cX10_isCell 12 = .ok (.goto 4, 3) := by decide +kernel
theorem dX10_isCell_15 : decode cX10_isCell 15 = .ok (.iconst 0, 1) := by decide +kernel
theorem dX10_isCell_16 : decode cX10_isCell 16 = .ok (.ireturn, 1) := by decide +kernel
theorem dX10_isAge_0 : decode cX10_isAge 0 = .ok (.iload_n 0, 1) := by decide +kernel
theorem dX10_isAge_1 : decode cX10_isAge 1 = .ok (.ifCond .lt 13, 3) := by decide +kernel
theorem dX10_isAge_4 : decode cX10_isAge 4 = .ok (.iload_n 0, 1) := by decide +kernel
theorem dX10_isAge_5 : decode cX10_isAge 5 = .ok (.bipush 100, 2) := by decide +kernel
theorem dX10_isAge_7 : decode cX10_isAge 7 = .ok (.if_icmp .ge 7, 3) := by decide +kernel
theorem dX10_isAge_10 : decode cX10_isAge 10 = .ok (.iconst 1, 1) := by decide +kernel
theorem dX10_isAge_11 : decode cX10_isAge 11 = .ok (.goto 4, 3) := by decide +kernel
theorem dX10_isAge_14 : decode cX10_isAge 14 = .ok (.iconst 0, 1) := by decide +kernel
theorem dX10_isAge_15 : decode cX10_isAge 15 = .ok (.ireturn, 1) := by decide +kernel
theorem dX10_areAges_0 : decode cX10_areAges 0 = .ok (.iload_n 0, 1) := by decide +kernel
theorem dX10_areAges_1 : decode cX10_areAges 1 = .ok (.invokestatic 197, 3) := by decide +kernel
theorem dX10_areAges_4 : decode cX10_areAges 4 = .ok (.ifCond .eq 19, 3) := by decide +kernel
theorem dX10_areAges_7 : decode cX10_areAges 7 = .ok (.iload_n 1, 1) := by decide +kernel
theorem dX10_areAges_8 : decode cX10_areAges 8 = .ok (.invokestatic 197, 3) := by decide +kernel
theorem dX10_areAges_11 : decode cX10_areAges 11 = .ok (.ifCond .eq 12, 3) := by decide +kernel
theorem dX10_areAges_14 : decode cX10_areAges 14 = .ok (.iload_n 0, 1) := by decide +kernel
theorem dX10_areAges_15 : decode cX10_areAges 15 = .ok (.iload_n 1, 1) := by decide +kernel
theorem dX10_areAges_16 : decode cX10_areAges 16 = .ok (.if_icmp .gt 7, 3) := by decide +kernel
theorem dX10_areAges_19 : decode cX10_areAges 19 = .ok (.iconst 1, 1) := by decide +kernel
theorem dX10_areAges_20 : decode cX10_areAges 20 = .ok (.goto 4, 3) := by decide +kernel
theorem dX10_areAges_23 : decode cX10_areAges 23 = .ok (.iconst 0, 1) := by decide +kernel
theorem dX10_areAges_24 : decode cX10_areAges 24 = .ok (.ireturn, 1) := by decide +kernel
theorem dX10_isHeight_0 : decode cX10_isHeight 0 = .ok (.iload_n 0, 1) := by decide +kernel
theorem dX10_isHeight_1 : decode cX10_isHeight 1 = .ok (.ifCond .lt 13, 3) := by decide +kernel
theorem dX10_isHeight_4 : decode cX10_isHeight 4 = .ok (.iload_n 0, 1) := by decide +kernel
theorem dX10_isHeight_5 : decode cX10_isHeight 5 = .ok (.bipush 99, 2) := by decide +kernel
theorem dX10_isHeight_7 : decode cX10_isHeight 7 = .ok (.if_icmp .gt 7, 3) := by decide +kernel
theorem dX10_isHeight_10 : decode cX10_isHeight 10 = .ok (.iconst 1, 1) := by decide +kernel
theorem dX10_isHeight_11 : decode cX10_isHeight 11 = .ok (.goto 4, 3) := by decide +kernel
theorem dX10_isHeight_14 : decode cX10_isHeight 14 = .ok (.iconst 0, 1) := by decide +kernel
theorem dX10_isHeight_15 : decode cX10_isHeight 15 = .ok (.ireturn, 1) := by decide +kernel
theorem dX10_isKind_0 : decode cX10_isKind 0 = .ok (.iload_n 0, 1) := by decide +kernel
theorem dX10_isKind_1 : decode cX10_isKind 1 = .ok (.ifCond .lt 13, 3) := by decide +kernel
theorem dX10_isKind_4 : decode cX10_isKind 4 = .ok (.iload_n 0, 1) := by decide +kernel
theorem dX10_isKind_5 : decode cX10_isKind 5 = .ok (.bipush 16, 2) := by decide +kernel
theorem dX10_isKind_7 : decode cX10_isKind 7 = .ok (.if_icmp .ge 7, 3) := by decide +kernel
theorem dX10_isKind_10 : decode cX10_isKind 10 = .ok (.iconst 1, 1) := by decide +kernel
theorem dX10_isKind_11 : decode cX10_isKind 11 = .ok (.goto 4, 3) := by decide +kernel
theorem dX10_isKind_14 : decode cX10_isKind 14 = .ok (.iconst 0, 1) := by decide +kernel
theorem dX10_isKind_15 : decode cX10_isKind 15 = .ok (.ireturn, 1) := by decide +kernel
theorem dX10_isPart_0 : decode cX10_isPart 0 = .ok (.iload_n 0, 1) := by decide +kernel
theorem dX10_isPart_1 : decode cX10_isPart 1 = .ok (.ifCond .eq 8, 3) := by decide +kernel
theorem dX10_isPart_4 : decode cX10_isPart 4 = .ok (.iload_n 0, 1) := by decide +kernel
theorem dX10_isPart_5 : decode cX10_isPart 5 = .ok (.iconst 1, 1) := by decide +kernel
theorem dX10_isPart_6 : decode cX10_isPart 6 = .ok (.if_icmp .ne 7, 3) := by decide +kernel
theorem dX10_isPart_9 : decode cX10_isPart 9 = .ok (.iconst 1, 1) := by decide +kernel
theorem dX10_isPart_10 : decode cX10_isPart 10 = .ok (.goto 4, 3) := by decide +kernel
theorem dX10_isPart_13 : decode cX10_isPart 13 = .ok (.iconst 0, 1) := by decide +kernel
theorem dX10_isPart_14 : decode cX10_isPart 14 = .ok (.ireturn, 1) := by decide +kernel
theorem dX10_isWave_0 : decode cX10_isWave 0 = .ok (.iload_n 0, 1) := by decide +kernel
theorem dX10_isWave_1 : decode cX10_isWave 1 = .ok (.iconst 1, 1) := by decide +kernel
theorem dX10_isWave_2 : decode cX10_isWave 2 = .ok (.if_icmp .lt 23, 3) := by decide +kernel
theorem dX10_isWave_5 : decode cX10_isWave 5 = .ok (.iload_n 0, 1) := by decide +kernel
theorem dX10_isWave_6 : decode cX10_isWave 6 = .ok (.bipush 99, 2) := by decide +kernel
theorem dX10_isWave_8 : decode cX10_isWave 8 = .ok (.if_icmp .gt 17, 3) := by decide +kernel
theorem dX10_isWave_11 : decode cX10_isWave 11 = .ok (.iload_n 1, 1) := by decide +kernel
theorem dX10_isWave_12 : decode cX10_isWave 12 = .ok (.ifCond .lt 13, 3) := by decide +kernel
theorem dX10_isWave_15 : decode cX10_isWave 15 = .ok (.iload_n 1, 1) := by decide +kernel
theorem dX10_isWave_16 : decode cX10_isWave 16 = .ok (.bipush 20, 2) := by decide +kernel
theorem dX10_isWave_18 : decode cX10_isWave 18 = .ok (.if_icmp .gt 7, 3) := by decide +kernel
theorem dX10_isWave_21 : decode cX10_isWave 21 = .ok (.iconst 1, 1) := by decide +kernel
theorem dX10_isWave_22 : decode cX10_isWave 22 = .ok (.goto 4, 3) := by decide +kernel
theorem dX10_isWave_25 : decode cX10_isWave 25 = .ok (.iconst 0, 1) := by decide +kernel
theorem dX10_isWave_26 : decode cX10_isWave 26 = .ok (.ireturn, 1) := by decide +kernel
theorem dX10_quarterOf_0 : decode cX10_quarterOf 0 = .ok (.iload_n 0, 1) := by decide +kernel
theorem dX10_quarterOf_1 : decode cX10_quarterOf 1 = .ok (.bipush 16, 2) := by decide +kernel
theorem dX10_quarterOf_3 : decode cX10_quarterOf 3 = .ok (.irem, 1) := by decide +kernel
theorem dX10_quarterOf_4 : decode cX10_quarterOf 4 = .ok (.bipush 7, 2) := by decide +kernel
theorem dX10_quarterOf_6 : decode cX10_quarterOf 6 = .ok (.if_icmp .le 7, 3) := by decide +kernel
theorem dX10_quarterOf_9 : decode cX10_quarterOf 9 = .ok (.iconst 1, 1) := by decide +kernel
theorem dX10_quarterOf_10 : decode cX10_quarterOf 10 = .ok (.goto 4, 3) := by decide +kernel
theorem dX10_quarterOf_13 : decode cX10_quarterOf 13 = .ok (.iconst 0, 1) := by decide +kernel
theorem dX10_quarterOf_14 : decode cX10_quarterOf 14 = .ok (.iload_n 0, 1) := by decide +kernel
theorem dX10_quarterOf_15 : decode cX10_quarterOf 15 = .ok (.bipush 16, 2) := by decide +kernel
theorem dX10_quarterOf_17 : decode cX10_quarterOf 17 = .ok (.idiv, 1) := by decide +kernel
theorem dX10_quarterOf_18 : decode cX10_quarterOf 18 = .ok (.bipush 7, 2) := by decide +kernel
theorem dX10_quarterOf_20 : decode cX10_quarterOf 20 = .ok (.if_icmp .le 7, 3) := by decide +kernel
theorem dX10_quarterOf_23 : decode cX10_quarterOf 23 = .ok (.iconst 2, 1) := by decide +kernel
theorem dX10_quarterOf_24 : decode cX10_quarterOf 24 = .ok (.goto 4, 3) := by decide +kernel
theorem dX10_quarterOf_27 : decode cX10_quarterOf 27 = .ok (.iconst 0, 1) := by decide +kernel
theorem dX10_quarterOf_28 : decode cX10_quarterOf 28 = .ok (.iadd, 1) := by decide +kernel
theorem dX10_quarterOf_29 : decode cX10_quarterOf 29 = .ok (.ireturn, 1) := by decide +kernel
theorem dX10_beside_0 : decode cX10_beside 0 = .ok (.iload_n 0, 1) := by decide +kernel
theorem dX10_beside_1 : decode cX10_beside 1 = .ok (.bipush 16, 2) := by decide +kernel
theorem dX10_beside_3 : decode cX10_beside 3 = .ok (.irem, 1) := by decide +kernel
theorem dX10_beside_4 : decode cX10_beside 4 = .ok (.istore_n 2, 1) := by decide +kernel
theorem dX10_beside_5 : decode cX10_beside 5 = .ok (.iload_n 1, 1) := by decide +kernel
theorem dX10_beside_6 : decode cX10_beside 6 = .ok (.tableswitch 87 0 3 #[30, 45, 57, 71], 30) := by decide +kernel
theorem dX10_beside_36 : decode cX10_beside 36 = .ok (.iload_n 0, 1) := by decide +kernel
theorem dX10_beside_37 : decode cX10_beside 37 = .ok (.bipush 16, 2) := by decide +kernel
theorem dX10_beside_39 : decode cX10_beside 39 = .ok (.if_icmp .lt 10, 3) := by decide +kernel
theorem dX10_beside_42 : decode cX10_beside 42 = .ok (.iload_n 0, 1) := by decide +kernel
theorem dX10_beside_43 : decode cX10_beside 43 = .ok (.bipush 16, 2) := by decide +kernel
theorem dX10_beside_45 : decode cX10_beside 45 = .ok (.isub, 1) := by decide +kernel
theorem dX10_beside_46 : decode cX10_beside 46 = .ok (.goto 4, 3) := by decide +kernel
theorem dX10_beside_49 : decode cX10_beside 49 = .ok (.iconst (-1), 1) := by decide +kernel
theorem dX10_beside_50 : decode cX10_beside 50 = .ok (.ireturn, 1) := by decide +kernel
theorem dX10_beside_51 : decode cX10_beside 51 = .ok (.iload_n 2, 1) := by decide +kernel
theorem dX10_beside_52 : decode cX10_beside 52 = .ok (.ifCond .le 9, 3) := by decide +kernel
theorem dX10_beside_55 : decode cX10_beside 55 = .ok (.iload_n 0, 1) := by decide +kernel
theorem dX10_beside_56 : decode cX10_beside 56 = .ok (.iconst 1, 1) := by decide +kernel
theorem dX10_beside_57 : decode cX10_beside 57 = .ok (.isub, 1) := by decide +kernel
theorem dX10_beside_58 : decode cX10_beside 58 = .ok (.goto 4, 3) := by decide +kernel
theorem dX10_beside_61 : decode cX10_beside 61 = .ok (.iconst (-1), 1) := by decide +kernel
theorem dX10_beside_62 : decode cX10_beside 62 = .ok (.ireturn, 1) := by decide +kernel
theorem dX10_beside_63 : decode cX10_beside 63 = .ok (.iload_n 2, 1) := by decide +kernel
theorem dX10_beside_64 : decode cX10_beside 64 = .ok (.bipush 15, 2) := by decide +kernel
theorem dX10_beside_66 : decode cX10_beside 66 = .ok (.if_icmp .ge 9, 3) := by decide +kernel
theorem dX10_beside_69 : decode cX10_beside 69 = .ok (.iload_n 0, 1) := by decide +kernel
theorem dX10_beside_70 : decode cX10_beside 70 = .ok (.iconst 1, 1) := by decide +kernel
theorem dX10_beside_71 : decode cX10_beside 71 = .ok (.iadd, 1) := by decide +kernel
theorem dX10_beside_72 : decode cX10_beside 72 = .ok (.goto 4, 3) := by decide +kernel
theorem dX10_beside_75 : decode cX10_beside 75 = .ok (.iconst (-1), 1) := by decide +kernel
theorem dX10_beside_76 : decode cX10_beside 76 = .ok (.ireturn, 1) := by decide +kernel
theorem dX10_beside_77 : decode cX10_beside 77 = .ok (.iload_n 0, 1) := by decide +kernel
theorem dX10_beside_78 : decode cX10_beside 78 = .ok (.sipush 240, 3) := by decide +kernel
theorem dX10_beside_81 : decode cX10_beside 81 = .ok (.if_icmp .ge 10, 3) := by decide +kernel
theorem dX10_beside_84 : decode cX10_beside 84 = .ok (.iload_n 0, 1) := by decide +kernel
theorem dX10_beside_85 : decode cX10_beside 85 = .ok (.bipush 16, 2) := by decide +kernel
theorem dX10_beside_87 : decode cX10_beside 87 = .ok (.iadd, 1) := by decide +kernel
theorem dX10_beside_88 : decode cX10_beside 88 = .ok (.goto 4, 3) := by decide +kernel
theorem dX10_beside_91 : decode cX10_beside 91 = .ok (.iconst (-1), 1) := by decide +kernel
theorem dX10_beside_92 : decode cX10_beside 92 = .ok (.ireturn, 1) := by decide +kernel
theorem dX10_beside_93 : decode cX10_beside 93 = .ok (.iconst (-1), 1) := by decide +kernel
theorem dX10_beside_94 : decode cX10_beside 94 = .ok (.ireturn, 1) := by decide +kernel
theorem dX10_refuse_0 : decode cX10_refuse 0 = .ok (.aload_n 0, 1) := by decide +kernel
theorem dX10_refuse_1 : decode cX10_refuse 1 = .ok (.getfield 67, 3) := by decide +kernel
theorem dX10_refuse_4 : decode cX10_refuse 4 = .ok (.iload_n 1, 1) := by decide +kernel
theorem dX10_refuse_5 : decode cX10_refuse 5 = .ok (.dup2, 1) := by decide +kernel
theorem dX10_refuse_6 : decode cX10_refuse 6 = .ok (.iaload, 1) := by decide +kernel
theorem dX10_refuse_7 : decode cX10_refuse 7 = .ok (.iconst 1, 1) := by decide +kernel
theorem dX10_refuse_8 : decode cX10_refuse 8 = .ok (.iadd, 1) := by decide +kernel
theorem dX10_refuse_9 : decode cX10_refuse 9 = .ok (.iastore, 1) := by decide +kernel
theorem dX10_refuse_10 : decode cX10_refuse 10 = .ok (.iconst (-1), 1) := by decide +kernel
theorem dX10_refuse_11 : decode cX10_refuse 11 = .ok (.ireturn, 1) := by decide +kernel
theorem dX10_forgetGround_0 : decode cX10_forgetGround 0 = .ok (.aload_n 0, 1) := by decide +kernel
theorem dX10_forgetGround_1 : decode cX10_forgetGround 1 = .ok (.iconst 1, 1) := by decide +kernel
theorem dX10_forgetGround_2 : decode cX10_forgetGround 2 = .ok (.putfield 88, 3) := by decide +kernel
theorem dX10_forgetGround_5 : decode cX10_forgetGround 5 = .ok (.aload_n 0, 1) := by decide +kernel
theorem dX10_forgetGround_6 : decode cX10_forgetGround 6 = .ok (.getfield 56, 3) := by decide +kernel
theorem dX10_forgetGround_9 : decode cX10_forgetGround 9 = .ok (.invokevirtual 138, 3) := by decide +kernel
theorem dX10_forgetGround_12 : decode cX10_forgetGround 12 = .ok (.return_, 1) := by decide +kernel
theorem dX10_settle_0 : decode cX10_settle 0 = .ok (.aload_n 0, 1) := by decide +kernel
theorem dX10_settle_1 : decode cX10_settle 1 = .ok (.getfield 88, 3) := by decide +kernel
theorem dX10_settle_4 : decode cX10_settle 4 = .ok (.ifCond .eq 37, 3) := by decide +kernel
theorem dX10_settle_7 : decode cX10_settle 7 = .ok (.aload_n 0, 1) := by decide +kernel
theorem dX10_settle_8 : decode cX10_settle 8 = .ok (.getfield 38, 3) := by decide +kernel
theorem dX10_settle_11 : decode cX10_settle 11 = .ok (.aload_n 0, 1) := by decide +kernel
theorem dX10_settle_12 : decode cX10_settle 12 = .ok (.getfield 19, 3) := by decide +kernel
theorem dX10_settle_15 : decode cX10_settle 15 = .ok (.aload_n 0, 1) := by decide +kernel
theorem dX10_settle_16 : decode cX10_settle 16 = .ok (.getfield 74, 3) := by decide +kernel
theorem dX10_settle_19 : decode cX10_settle 19 = .ok (.invokevirtual 427, 3) := by decide +kernel
theorem dX10_settle_22 : decode cX10_settle 22 = .ok (.aload_n 0, 1) := by decide +kernel
theorem dX10_settle_23 : decode cX10_settle 23 = .ok (.getfield 30, 3) := by decide +kernel
theorem dX10_settle_26 : decode cX10_settle 26 = .ok (.invokevirtual 431, 3) := by decide +kernel
theorem dX10_settle_29 : decode cX10_settle 29 = .ok (.aload_n 0, 1) := by decide +kernel
theorem dX10_settle_30 : decode cX10_settle 30 = .ok (.getfield 42, 3) := by decide +kernel
theorem dX10_settle_33 : decode cX10_settle 33 = .ok (.invokevirtual 432, 3) := by decide +kernel
theorem dX10_settle_36 : decode cX10_settle 36 = .ok (.aload_n 0, 1) := by decide +kernel
theorem dX10_settle_37 : decode cX10_settle 37 = .ok (.iconst 0, 1) := by decide +kernel
theorem dX10_settle_38 : decode cX10_settle 38 = .ok (.putfield 88, 3) := by decide +kernel
theorem dX10_settle_41 : decode cX10_settle 41 = .ok (.return_, 1) := by decide +kernel
theorem dX10_viewAt_0 : decode cX10_viewAt 0 = .ok (.aload_n 0, 1) := by decide +kernel
theorem dX10_viewAt_1 : decode cX10_viewAt 1 = .ok (.invokevirtual 213, 3) := by decide +kernel
theorem dX10_viewAt_4 : decode cX10_viewAt 4 = .ok (.aload_n 0, 1) := by decide +kernel
theorem dX10_viewAt_5 : decode cX10_viewAt 5 = .ok (.getfield 30, 3) := by decide +kernel
theorem dX10_viewAt_8 : decode cX10_viewAt 8 = .ok (.aload_n 0, 1) := by decide +kernel
theorem dX10_viewAt_9 : decode cX10_viewAt 9 = .ok (.getfield 74, 3) := by decide +kernel
theorem dX10_viewAt_12 : decode cX10_viewAt 12 = .ok (.iload_n 1, 1) := by decide +kernel
theorem dX10_viewAt_13 : decode cX10_viewAt 13 = .ok (.invokevirtual 253, 3) := by decide +kernel
theorem dX10_viewAt_16 : decode cX10_viewAt 16 = .ok (.invokevirtual 433, 3) := by decide +kernel
theorem dX10_viewAt_19 : decode cX10_viewAt 19 = .ok (.aload_n 0, 1) := by decide +kernel
theorem dX10_viewAt_20 : decode cX10_viewAt 20 = .ok (.getfield 30, 3) := by decide +kernel
theorem dX10_viewAt_23 : decode cX10_viewAt 23 = .ok (.areturn, 1) := by decide +kernel
theorem dX10_islandOf_0 : decode cX10_islandOf 0 = .ok (.aload_n 0, 1) := by decide +kernel
theorem dX10_islandOf_1 : decode cX10_islandOf 1 = .ok (.getfield 38, 3) := by decide +kernel
theorem dX10_islandOf_4 : decode cX10_islandOf 4 = .ok (.getfield 436, 3) := by decide +kernel
theorem dX10_islandOf_7 : decode cX10_islandOf 7 = .ok (.iload_n 1, 1) := by decide +kernel
theorem dX10_islandOf_8 : decode cX10_islandOf 8 = .ok (.iaload, 1) := by decide +kernel
theorem dX10_islandOf_9 : decode cX10_islandOf 9 = .ok (.iload_n 2, 1) := by decide +kernel
theorem dX10_islandOf_10 : decode cX10_islandOf 10 = .ok (.if_icmp .gt 5, 3) := by decide +kernel
theorem dX10_islandOf_13 : decode cX10_islandOf 13 = .ok (.iconst 0, 1) := by decide +kernel
theorem dX10_islandOf_14 : decode cX10_islandOf 14 = .ok (.ireturn, 1) := by decide +kernel
theorem dX10_islandOf_15 : decode cX10_islandOf 15 = .ok (.iconst 0, 1) := by decide +kernel
theorem dX10_islandOf_16 : decode cX10_islandOf 16 = .ok (.istore_n 3, 1) := by decide +kernel
theorem dX10_islandOf_17 : decode cX10_islandOf 17 = .ok (.iload_n 3, 1) := by decide +kernel
theorem dX10_islandOf_18 : decode cX10_islandOf 18 = .ok (.sipush 256, 3) := by decide +kernel
theorem dX10_islandOf_21 : decode cX10_islandOf 21 = .ok (.if_icmp .ge 36, 3) := by decide +kernel
theorem dX10_islandOf_24 : decode cX10_islandOf 24 = .ok (.aload_n 0, 1) := by decide +kernel
theorem dX10_islandOf_25 : decode cX10_islandOf 25 = .ok (.getfield 49, 3) := by decide +kernel
theorem dX10_islandOf_28 : decode cX10_islandOf 28 = .ok (.getfield 378, 3) := by decide +kernel
theorem dX10_islandOf_31 : decode cX10_islandOf 31 = .ok (.iload_n 3, 1) := by decide +kernel
theorem dX10_islandOf_32 : decode cX10_islandOf 32 = .ok (.aload_n 0, 1) := by decide +kernel
theorem dX10_islandOf_33 : decode cX10_islandOf 33 = .ok (.getfield 38, 3) := by decide +kernel
theorem dX10_islandOf_36 : decode cX10_islandOf 36 = .ok (.getfield 436, 3) := by decide +kernel
theorem dX10_islandOf_39 : decode cX10_islandOf 39 = .ok (.iload_n 3, 1) := by decide +kernel
theorem dX10_islandOf_40 : decode cX10_islandOf 40 = .ok (.iaload, 1) := by decide +kernel
theorem dX10_islandOf_41 : decode cX10_islandOf 41 = .ok (.iload_n 2, 1) := by decide +kernel
theorem dX10_islandOf_42 : decode cX10_islandOf 42 = .ok (.if_icmp .le 7, 3) := by decide +kernel
theorem dX10_islandOf_45 : decode cX10_islandOf 45 = .ok (.iconst 1, 1) := by decide +kernel
theorem dX10_islandOf_46 : decode cX10_islandOf 46 = .ok (.goto 4, 3) := by decide +kernel
theorem dX10_islandOf_49 : decode cX10_islandOf 49 = .ok (.iconst 0, 1) := by decide +kernel
theorem dX10_islandOf_50 : decode cX10_islandOf 50 = .ok (.bastore, 1) := by decide +kernel
theorem dX10_islandOf_51 : decode cX10_islandOf 51 = .ok (.iinc 3 1, 3) := by decide +kernel
theorem dX10_islandOf_54 : decode cX10_islandOf 54 = .ok (.goto (-37), 3) := by decide +kernel
theorem dX10_islandOf_57 : decode cX10_islandOf 57 = .ok (.aload_n 0, 1) := by decide +kernel
theorem dX10_islandOf_58 : decode cX10_islandOf 58 = .ok (.getfield 49, 3) := by decide +kernel
theorem dX10_islandOf_61 : decode cX10_islandOf 61 = .ok (.iload_n 1, 1) := by decide +kernel
theorem dX10_islandOf_62 : decode cX10_islandOf 62 = .ok (.invokevirtual 439, 3) := by decide +kernel
theorem dX10_islandOf_65 : decode cX10_islandOf 65 = .ok (.ireturn, 1) := by decide +kernel
theorem dX10_spanKnown_0 : decode cX10_spanKnown 0 = .ok (.aload_n 0, 1) := by decide +kernel
theorem dX10_spanKnown_1 : decode cX10_spanKnown 1 = .ok (.getfield 74, 3) := by decide +kernel
theorem dX10_spanKnown_4 : decode cX10_spanKnown 4 = .ok (.getfield 442, 3) := by decide +kernel
theorem dX10_spanKnown_7 : decode cX10_spanKnown 7 = .ok (.iload_n 1, 1) := by decide +kernel
theorem dX10_spanKnown_8 : decode cX10_spanKnown 8 = .ok (.iaload, 1) := by decide +kernel
theorem dX10_spanKnown_9 : decode cX10_spanKnown 9 = .ok (.istore_n 2, 1) := by decide +kernel
theorem dX10_spanKnown_10 : decode cX10_spanKnown 10 = .ok (.aload_n 0, 1) := by decide +kernel
theorem dX10_spanKnown_11 : decode cX10_spanKnown 11 = .ok (.getfield 42, 3) := by decide +kernel
theorem dX10_spanKnown_14 : decode cX10_spanKnown 14 = .ok (.getfield 330, 3) := by decide +kernel
theorem dX10_spanKnown_17 : decode cX10_spanKnown 17 = .ok (.iload_n 2, 1) := by decide +kernel
theorem dX10_spanKnown_18 : decode cX10_spanKnown 18 = .ok (.iaload, 1) := by decide +kernel
theorem dX10_spanKnown_19 : decode cX10_spanKnown 19 = .ok (.iconst (-1), 1) := by decide +kernel
theorem dX10_spanKnown_20 : decode cX10_spanKnown 20 = .ok (.if_icmp .ne 34, 3) := by decide +kernel
theorem dX10_spanKnown_23 : decode cX10_spanKnown 23 = .ok (.aload_n 0, 1) := by decide +kernel
theorem dX10_spanKnown_24 : decode cX10_spanKnown 24 = .ok (.getfield 30, 3) := by decide +kernel
theorem dX10_spanKnown_27 : decode cX10_spanKnown 27 = .ok (.aload_n 0, 1) := by decide +kernel
theorem dX10_spanKnown_28 : decode cX10_spanKnown 28 = .ok (.getfield 74, 3) := by decide +kernel
theorem dX10_spanKnown_31 : decode cX10_spanKnown 31 = .ok (.iload_n 2, 1) := by decide +kernel
theorem dX10_spanKnown_32 : decode cX10_spanKnown 32 = .ok (.invokevirtual 253, 3) := by decide +kernel
theorem dX10_spanKnown_35 : decode cX10_spanKnown 35 = .ok (.invokevirtual 433, 3) := by decide +kernel
theorem dX10_spanKnown_38 : decode cX10_spanKnown 38 = .ok (.aload_n 0, 1) := by decide +kernel
theorem dX10_spanKnown_39 : decode cX10_spanKnown 39 = .ok (.getfield 42, 3) := by decide +kernel
theorem dX10_spanKnown_42 : decode cX10_spanKnown 42 = .ok (.iload_n 2, 1) := by decide +kernel
theorem dX10_spanKnown_43 : decode cX10_spanKnown 43 = .ok (.aload_n 0, 1) := by decide +kernel
theorem dX10_spanKnown_44 : decode cX10_spanKnown 44 = .ok (.getfield 74, 3) := by decide +kernel
theorem dX10_spanKnown_47 : decode cX10_spanKnown 47 = .ok (.aload_n 0, 1) := by decide +kernel
theorem dX10_spanKnown_48 : decode cX10_spanKnown 48 = .ok (.getfield 30, 3) := by decide +kernel
theorem dX10_spanKnown_51 : decode cX10_spanKnown 51 = .ok (.invokevirtual 445, 3) := by decide +kernel
theorem dX10_spanKnown_54 : decode cX10_spanKnown 54 = .ok (.iload_n 2, 1) := by decide +kernel
theorem dX10_spanKnown_55 : decode cX10_spanKnown 55 = .ok (.ireturn, 1) := by decide +kernel
theorem dX10_sumLives_0 : decode cX10_sumLives 0 = .ok (.lconst 0, 1) := by decide +kernel
theorem dX10_sumLives_1 : decode cX10_sumLives 1 = .ok (.lstore_n 3, 1) := by decide +kernel
theorem dX10_sumLives_2 : decode cX10_sumLives 2 = .ok (.iload_n 1, 1) := by decide +kernel
theorem dX10_sumLives_3 : decode cX10_sumLives 3 = .ok (.istore 5, 2) := by decide +kernel
theorem dX10_sumLives_5 : decode cX10_sumLives 5 = .ok (.iload 5, 2) := by decide +kernel
theorem dX10_sumLives_7 : decode cX10_sumLives 7 = .ok (.iload_n 2, 1) := by decide +kernel
theorem dX10_sumLives_8 : decode cX10_sumLives 8 = .ok (.if_icmp .gt 27, 3) := by decide +kernel
theorem dX10_sumLives_11 : decode cX10_sumLives 11 = .ok (.lload_n 3, 1) := by decide +kernel
theorem dX10_sumLives_12 : decode cX10_sumLives 12 = .ok (.aload_n 0, 1) := by decide +kernel
theorem dX10_sumLives_13 : decode cX10_sumLives 13 = .ok (.getfield 42, 3) := by decide +kernel
theorem dX10_sumLives_16 : decode cX10_sumLives 16 = .ok (.getfield 330, 3) := by decide +kernel
theorem dX10_sumLives_19 : decode cX10_sumLives 19 = .ok (.aload_n 0, 1) := by decide +kernel
theorem dX10_sumLives_20 : decode cX10_sumLives 20 = .ok (.iload 5, 2) := by decide +kernel
theorem dX10_sumLives_22 : decode cX10_sumLives 22 = .ok (.invokevirtual 310, 3) := by decide +kernel
theorem dX10_sumLives_25 : decode cX10_sumLives 25 = .ok (.iaload, 1) := by decide +kernel
theorem dX10_sumLives_26 : decode cX10_sumLives 26 = .ok (.i2l, 1) := by decide +kernel
theorem dX10_sumLives_27 : decode cX10_sumLives 27 = .ok (.ladd, 1) := by decide +kernel
theorem dX10_sumLives_28 : decode cX10_sumLives 28 = .ok (.lstore_n 3, 1) := by decide +kernel
theorem dX10_sumLives_29 : decode cX10_sumLives 29 = .ok (.iinc 5 1, 3) := by decide +kernel
theorem dX10_sumLives_32 : decode cX10_sumLives 32 = .ok (.goto (-27), 3) := by decide +kernel
theorem dX10_sumLives_35 : decode cX10_sumLives 35 = .ok (.lload_n 3, 1) := by decide +kernel
theorem dX10_sumLives_36 : decode cX10_sumLives 36 = .ok (.lreturn, 1) := by decide +kernel
theorem dX10_sumLivesIn_0 : decode cX10_sumLivesIn 0 = .ok (.lconst 0, 1) := by decide +kernel
theorem dX10_sumLivesIn_1 : decode cX10_sumLivesIn 1 = .ok (.lstore 4, 2) := by decide +kernel
theorem dX10_sumLivesIn_3 : decode cX10_sumLivesIn 3 = .ok (.iload_n 2, 1) := by decide +kernel
theorem dX10_sumLivesIn_4 : decode cX10_sumLivesIn 4 = .ok (.istore 6, 2) := by decide +kernel
theorem dX10_sumLivesIn_6 : decode cX10_sumLivesIn 6 = .ok (.iload 6, 2) := by decide +kernel
theorem dX10_sumLivesIn_8 : decode cX10_sumLivesIn 8 = .ok (.iload_n 3, 1) := by decide +kernel
theorem dX10_sumLivesIn_9 : decode cX10_sumLivesIn 9 = .ok (.if_icmp .gt 29, 3) := by decide +kernel
theorem dX10_sumLivesIn_12 : decode cX10_sumLivesIn 12 = .ok (.lload 4, 2) := by decide +kernel
theorem dX10_sumLivesIn_14 : decode cX10_sumLivesIn 14 = .ok (.aload_n 0, 1) := by decide +kernel
theorem dX10_sumLivesIn_15 : decode cX10_sumLivesIn 15 = .ok (.getfield 42, 3) := by decide +kernel
theorem dX10_sumLivesIn_18 : decode cX10_sumLivesIn 18 = .ok (.aload_n 0, 1) := by decide +kernel
theorem dX10_sumLivesIn_19 : decode cX10_sumLivesIn 19 = .ok (.iload 6, 2) := by decide +kernel
theorem dX10_sumLivesIn_21 : decode cX10_sumLivesIn 21 = .ok (.invokevirtual 310, 3) := by decide +kernel
theorem dX10_sumLivesIn_24 : decode cX10_sumLivesIn 24 = .ok (.iload_n 1, 1) := by decide +kernel
theorem dX10_sumLivesIn_25 : decode cX10_sumLivesIn 25 = .ok (.invokevirtual 336, 3) := by decide +kernel
theorem dX10_sumLivesIn_28 : decode cX10_sumLivesIn 28 = .ok (.i2l, 1) := by decide +kernel
theorem dX10_sumLivesIn_29 : decode cX10_sumLivesIn 29 = .ok (.ladd, 1) := by decide +kernel
theorem dX10_sumLivesIn_30 : decode cX10_sumLivesIn 30 = .ok (.lstore 4, 2) := by decide +kernel
theorem dX10_sumLivesIn_32 : decode cX10_sumLivesIn 32 = .ok (.iinc 6 1, 3) := by decide +kernel
theorem dX10_sumLivesIn_35 : decode cX10_sumLivesIn 35 = .ok (.goto (-29), 3) := by decide +kernel
theorem dX10_sumLivesIn_38 : decode cX10_sumLivesIn 38 = .ok (.lload 4, 2) := by decide +kernel
theorem dX10_sumLivesIn_40 : decode cX10_sumLivesIn 40 = .ok (.lreturn, 1) := by decide +kernel
theorem dX10_sumFish_0 : decode cX10_sumFish 0 = .ok (.iconst 0, 1) := by decide +kernel
theorem dX10_sumFish_1 : decode cX10_sumFish 1 = .ok (.istore 4, 2) := by decide +kernel
theorem dX10_sumFish_3 : decode cX10_sumFish 3 = .ok (.iconst 0, 1) := by decide +kernel
theorem dX10_sumFish_4 : decode cX10_sumFish 4 = .ok (.istore 5, 2) := by decide +kernel
theorem dX10_sumFish_6 : decode cX10_sumFish 6 = .ok (.iload 5, 2) := by decide +kernel
theorem dX10_sumFish_8 : decode cX10_sumFish 8 = .ok (.sipush 256, 3) := by decide +kernel
theorem dX10_sumFish_11 : decode cX10_sumFish 11 = .ok (.if_icmp .ge 39, 3) := by decide +kernel
theorem dX10_sumFish_14 : decode cX10_sumFish 14 = .ok (.iload 5, 2) := by decide +kernel
theorem dX10_sumFish_16 : decode cX10_sumFish 16 = .ok (.invokestatic 307, 3) := by decide +kernel
theorem dX10_sumFish_19 : decode cX10_sumFish 19 = .ok (.iload_n 1, 1) := by decide +kernel
theorem dX10_sumFish_20 : decode cX10_sumFish 20 = .ok (.if_icmp .ne 24, 3) := by decide +kernel
theorem dX10_sumFish_23 : decode cX10_sumFish 23 = .ok (.iload 4, 2) := by decide +kernel
theorem dX10_sumFish_25 : decode cX10_sumFish 25 = .ok (.aload_n 0, 1) := by decide +kernel
theorem dX10_sumFish_26 : decode cX10_sumFish 26 = .ok (.getfield 74, 3) := by decide +kernel
theorem dX10_sumFish_29 : decode cX10_sumFish 29 = .ok (.iconst 3, 1) := by decide +kernel
theorem dX10_sumFish_30 : decode cX10_sumFish 30 = .ok (.aload_n 3, 1) := by decide +kernel
theorem dX10_sumFish_31 : decode cX10_sumFish 31 = .ok (.iload 5, 2) := by decide +kernel
theorem dX10_sumFish_33 : decode cX10_sumFish 33 = .ok (.iload_n 2, 1) := by decide +kernel
theorem dX10_sumFish_34 : decode cX10_sumFish 34 = .ok (.invokevirtual 259, 3) := by decide +kernel
theorem dX10_sumFish_37 : decode cX10_sumFish 37 = .ok (.iconst 0, 1) := by decide +kernel
theorem dX10_sumFish_38 : decode cX10_sumFish 38 = .ok (.invokevirtual 263, 3) := by decide +kernel
theorem dX10_sumFish_41 : decode cX10_sumFish 41 = .ok (.iadd, 1) := by decide +kernel
theorem dX10_sumFish_42 : decode cX10_sumFish 42 = .ok (.istore 4, 2) := by decide +kernel
theorem dX10_sumFish_44 : decode cX10_sumFish 44 = .ok (.iinc 5 1, 3) := by decide +kernel
theorem dX10_sumFish_47 : decode cX10_sumFish 47 = .ok (.goto (-41), 3) := by decide +kernel
theorem dX10_sumFish_50 : decode cX10_sumFish 50 = .ok (.iload 4, 2) := by decide +kernel
theorem dX10_sumFish_52 : decode cX10_sumFish 52 = .ok (.ireturn, 1) := by decide +kernel
theorem dX10_reckonLeft_0 : decode cX10_reckonLeft 0 = .ok (.aload_n 2, 1) := by decide +kernel
theorem dX10_reckonLeft_1 : decode cX10_reckonLeft 1 = .ok (.getfield 240, 3) := by decide +kernel
theorem dX10_reckonLeft_4 : decode cX10_reckonLeft 4 = .ok (.iload_n 1, 1) := by decide +kernel
theorem dX10_reckonLeft_5 : decode cX10_reckonLeft 5 = .ok (.baload, 1) := by decide +kernel
theorem dX10_reckonLeft_6 : decode cX10_reckonLeft 6 = .ok (.ifCond .ne 13, 3) := by decide +kernel
theorem dX10_reckonLeft_9 : decode cX10_reckonLeft 9 = .ok (.aload_n 0, 1) := by decide +kernel
theorem dX10_reckonLeft_10 : decode cX10_reckonLeft 10 = .ok (.getfield 63, 3) := by decide +kernel
theorem dX10_reckonLeft_13 : decode cX10_reckonLeft 13 = .ok (.lconst 0, 1) := by decide +kernel
theorem dX10_reckonLeft_14 : decode cX10_reckonLeft 14 = .ok (.lconst 1, 1) := by decide +kernel
theorem dX10_reckonLeft_15 : decode cX10_reckonLeft 15 = .ok (.invokevirtual 289, 3) := by decide +kernel
theorem dX10_reckonLeft_18 : decode cX10_reckonLeft 18 = .ok (.return_, 1) := by decide +kernel
theorem dX10_reckonLeft_19 : decode cX10_reckonLeft 19 = .ok (.aload_n 2, 1) := by decide +kernel
theorem dX10_reckonLeft_20 : decode cX10_reckonLeft 20 = .ok (.iload_n 1, 1) := by decide +kernel
theorem dX10_reckonLeft_21 : decode cX10_reckonLeft 21 = .ok (.invokevirtual 267, 3) := by decide +kernel
theorem dX10_reckonLeft_24 : decode cX10_reckonLeft 24 = .ok (.istore_n 3, 1) := by decide +kernel
theorem dX10_reckonLeft_25 : decode cX10_reckonLeft 25 = .ok (.aload_n 0, 1) := by decide +kernel
theorem dX10_reckonLeft_26 : decode cX10_reckonLeft 26 = .ok (.getfield 19, 3) := by decide +kernel
theorem dX10_reckonLeft_29 : decode cX10_reckonLeft 29 = .ok (.getfield 135, 3) := by decide +kernel
theorem dX10_reckonLeft_32 : decode cX10_reckonLeft 32 = .ok (.iload_n 3, 1) := by decide +kernel
theorem dX10_reckonLeft_33 : decode cX10_reckonLeft 33 = .ok (.iaload, 1) := by decide +kernel
theorem dX10_reckonLeft_34 : decode cX10_reckonLeft 34 = .ok (.iconst 1, 1) := by decide +kernel
theorem dX10_reckonLeft_35 : decode cX10_reckonLeft 35 = .ok (.iadd, 1) := by decide +kernel
theorem dX10_reckonLeft_36 : decode cX10_reckonLeft 36 = .ok (.i2l, 1) := by decide +kernel
theorem dX10_reckonLeft_37 : decode cX10_reckonLeft 37 = .ok (.lstore 4, 2) := by decide +kernel
theorem dX10_reckonLeft_39 : decode cX10_reckonLeft 39 = .ok (.aload_n 0, 1) := by decide +kernel
theorem dX10_reckonLeft_40 : decode cX10_reckonLeft 40 = .ok (.getfield 19, 3) := by decide +kernel
theorem dX10_reckonLeft_43 : decode cX10_reckonLeft 43 = .ok (.getfield 132, 3) := by decide +kernel
theorem dX10_reckonLeft_46 : decode cX10_reckonLeft 46 = .ok (.iload_n 3, 1) := by decide +kernel
theorem dX10_reckonLeft_47 : decode cX10_reckonLeft 47 = .ok (.iaload, 1) := by decide +kernel
theorem dX10_reckonLeft_48 : decode cX10_reckonLeft 48 = .ok (.iconst 2, 1) := by decide +kernel
theorem dX10_reckonLeft_49 : decode cX10_reckonLeft 49 = .ok (.iadd, 1) := by decide +kernel
theorem dX10_reckonLeft_50 : decode cX10_reckonLeft 50 = .ok (.i2l, 1) := by decide +kernel
theorem dX10_reckonLeft_51 : decode cX10_reckonLeft 51 = .ok (.lload 4, 2) := by decide +kernel
theorem dX10_reckonLeft_53 : decode cX10_reckonLeft 53 = .ok (.lsub, 1) := by decide +kernel
theorem dX10_reckonLeft_54 : decode cX10_reckonLeft 54 = .ok (.lstore 6, 2) := by decide +kernel
theorem dX10_reckonLeft_56 : decode cX10_reckonLeft 56 = .ok (.iconst 0, 1) := by decide +kernel
theorem dX10_reckonLeft_57 : decode cX10_reckonLeft 57 = .ok (.istore 8, 2) := by decide +kernel
theorem dX10_reckonLeft_59 : decode cX10_reckonLeft 59 = .ok (.iload 8, 2) := by decide +kernel
theorem dX10_reckonLeft_61 : decode cX10_reckonLeft 61 = .ok (.aload_n 0, 1) := by decide +kernel
theorem dX10_reckonLeft_62 : decode cX10_reckonLeft 62 = .ok (.getfield 19, 3) := by decide +kernel
theorem dX10_reckonLeft_65 : decode cX10_reckonLeft 65 = .ok (.getfield 141, 3) := by decide +kernel
theorem dX10_reckonLeft_68 : decode cX10_reckonLeft 68 = .ok (.iload_n 1, 1) := by decide +kernel
theorem dX10_reckonLeft_69 : decode cX10_reckonLeft 69 = .ok (.iaload, 1) := by decide +kernel
theorem dX10_reckonLeft_70 : decode cX10_reckonLeft 70 = .ok (.if_icmp .ge 33, 3) := by decide +kernel
theorem dX10_reckonLeft_73 : decode cX10_reckonLeft 73 = .ok (.lload 4, 2) := by decide +kernel
theorem dX10_reckonLeft_75 : decode cX10_reckonLeft 75 = .ok (.bipush 10, 2) := by decide +kernel
theorem dX10_reckonLeft_77 : decode cX10_reckonLeft 77 = .ok (.aload_n 0, 1) := by decide +kernel
theorem dX10_reckonLeft_78 : decode cX10_reckonLeft 78 = .ok (.getfield 74, 3) := by decide +kernel
theorem dX10_reckonLeft_81 : decode cX10_reckonLeft 81 = .ok (.getfield 347, 3) := by decide +kernel
theorem dX10_reckonLeft_84 : decode cX10_reckonLeft 84 = .ok (.isub, 1) := by decide +kernel
theorem dX10_reckonLeft_85 : decode cX10_reckonLeft 85 = .ok (.i2l, 1) := by decide +kernel
theorem dX10_reckonLeft_86 : decode cX10_reckonLeft 86 = .ok (.lmul, 1) := by decide +kernel
theorem dX10_reckonLeft_87 : decode cX10_reckonLeft 87 = .ok (.lstore 4, 2) := by decide +kernel
theorem dX10_reckonLeft_89 : decode cX10_reckonLeft 89 = .ok (.lload 6, 2) := by decide +kernel
theorem dX10_reckonLeft_91 : decode cX10_reckonLeft 91 = .ok (.ldc2_w 449, 3) := by decide +kernel
theorem dX10_reckonLeft_94 : decode cX10_reckonLeft 94 = .ok (.lmul, 1) := by decide +kernel
theorem dX10_reckonLeft_95 : decode cX10_reckonLeft 95 = .ok (.lstore 6, 2) := by decide +kernel
theorem dX10_reckonLeft_97 : decode cX10_reckonLeft 97 = .ok (.iinc 8 1, 3) := by decide +kernel
theorem dX10_reckonLeft_100 : decode cX10_reckonLeft 100 = .ok (.goto (-41), 3) := by decide +kernel
theorem dX10_reckonLeft_103 : decode cX10_reckonLeft 103 = .ok (.aload_n 0, 1) := by decide +kernel
theorem dX10_reckonLeft_104 : decode cX10_reckonLeft 104 = .ok (.getfield 63, 3) := by decide +kernel
theorem dX10_reckonLeft_107 : decode cX10_reckonLeft 107 = .ok (.lload 4, 2) := by decide +kernel
theorem dX10_reckonLeft_109 : decode cX10_reckonLeft 109 = .ok (.lload 4, 2) := by decide +kernel
theorem dX10_reckonLeft_111 : decode cX10_reckonLeft 111 = .ok (.lload 6, 2) := by decide +kernel
theorem dX10_reckonLeft_113 : decode cX10_reckonLeft 113 = .ok (.ladd, 1) := by decide +kernel
theorem dX10_reckonLeft_114 : decode cX10_reckonLeft 114 = .ok (.invokevirtual 289, 3) := by decide +kernel
theorem dX10_reckonLeft_117 : decode cX10_reckonLeft 117 = .ok (.return_, 1) := by decide +kernel
theorem dX11_init_0 : decode cX11_init 0 = .ok (.aload_n 0, 1) := by decide +kernel
theorem dX11_init_1 : decode cX11_init 1 = .ok (.invokespecial 1, 3) := by decide +kernel
theorem dX11_init_4 : decode cX11_init 4 = .ok (.aload_n 0, 1) := by decide +kernel
theorem dX11_init_5 : decode cX11_init 5 = .ok (.iconst 3, 1) := by decide +kernel
theorem dX11_init_6 : decode cX11_init 6 = .ok (.newarray .int, 2) := by decide +kernel
theorem dX11_init_8 : decode cX11_init 8 = .ok (.putfield 7, 3) := by decide +kernel
theorem dX11_init_11 : decode cX11_init 11 = .ok (.aload_n 0, 1) := by decide +kernel
theorem dX11_init_12 : decode cX11_init 12 = .ok (.iconst 4, 1) := by decide +kernel
theorem dX11_init_13 : decode cX11_init 13 = .ok (.newarray .int, 2) := by decide +kernel
theorem dX11_init_15 : decode cX11_init 15 = .ok (.putfield 13, 3) := by decide +kernel
theorem dX11_init_18 : decode cX11_init 18 = .ok (.aload_n 0, 1) := by decide +kernel
theorem dX11_init_19 : decode cX11_init 19 = .ok (.iconst 4, 1) := by decide +kernel
theorem dX11_init_20 : decode cX11_init 20 = .ok (.newarray .int, 2) := by decide +kernel
theorem dX11_init_22 : decode cX11_init 22 = .ok (.putfield 16, 3) := by decide +kernel
theorem dX11_init_25 : decode cX11_init 25 = .ok (.aload_n 0, 1) := by decide +kernel
theorem dX11_init_26 : decode cX11_init 26 = .ok (.iconst 4, 1) := by decide +kernel
theorem dX11_init_27 : decode cX11_init 27 = .ok (.newarray .int, 2) := by decide +kernel
theorem dX11_init_29 : decode cX11_init 29 = .ok (.putfield 19, 3) := by decide +kernel
theorem dX11_init_32 : decode cX11_init 32 = .ok (.aload_n 0, 1) := by decide +kernel
theorem dX11_init_33 : decode cX11_init 33 = .ok (.iconst 4, 1) := by decide +kernel
theorem dX11_init_34 : decode cX11_init 34 = .ok (.newarray .int, 2) := by decide +kernel
theorem dX11_init_36 : decode cX11_init 36 = .ok (.putfield 22, 3) := by decide +kernel
theorem dX11_init_39 : decode cX11_init 39 = .ok (.aload_n 0, 1) := by decide +kernel
theorem dX11_init_40 : decode cX11_init 40 = .ok (.sipush 1024, 3) := by decide +kernel
theorem dX11_init_43 : decode cX11_init 43 = .ok (.newarray .int, 2) := by decide +kernel
theorem dX11_init_45 : decode cX11_init 45 = .ok (.putfield 25, 3) := by decide +kernel
theorem dX11_init_48 : decode cX11_init 48 = .ok (.aload_n 0, 1) := by decide +kernel
theorem dX11_init_49 : decode cX11_init 49 = .ok (.sipush 1024, 3) := by decide +kernel
theorem dX11_init_52 : decode cX11_init 52 = .ok (.newarray .int, 2) := by decide +kernel
theorem dX11_init_54 : decode cX11_init 54 = .ok (.putfield 28, 3) := by decide +kernel
theorem dX11_init_57 : decode cX11_init 57 = .ok (.aload_n 0, 1) := by decide +kernel
theorem dX11_init_58 : decode cX11_init 58 = .ok (.sipush 1024, 3) := by decide +kernel
theorem dX11_init_61 : decode cX11_init 61 = .ok (.newarray .int, 2) := by decide +kernel
theorem dX11_init_63 : decode cX11_init 63 = .ok (.putfield 31, 3) := by decide +kernel
theorem dX11_init_66 : decode cX11_init 66 = .ok (.aload_n 0, 1) := by decide +kernel
theorem dX11_init_67 : decode cX11_init 67 = .ok (.sipush 1024, 3) := by decide +kernel
theorem dX11_init_70 : decode cX11_init 70 = .ok (.newarray .int, 2) := by decide +kernel
theorem dX11_init_72 : decode cX11_init 72 = .ok (.putfield 34, 3) := by decide +kernel
theorem dX11_init_75 : decode cX11_init 75 = .ok (.aload_n 0, 1) := by decide +kernel
theorem dX11_init_76 : decode cX11_init 76 = .ok (.sipush 320, 3) := by decide +kernel
theorem dX11_init_79 : decode cX11_init 79 = .ok (.newarray .int, 2) := by decide +kernel
theorem dX11_init_81 : decode cX11_init 81 = .ok (.putfield 37, 3) := by decide +kernel
theorem dX11_init_84 : decode cX11_init 84 = .ok (.aload_n 0, 1) := by decide +kernel
theorem dX11_init_85 : decode cX11_init 85 = .ok (.sipush 240, 3) := by decide +kernel
theorem dX11_init_88 : decode cX11_init 88 = .ok (.newarray .int, 2) := by decide +kernel
theorem dX11_init_90 : decode cX11_init 90 = .ok (.putfield 40, 3) := by decide +kernel
theorem dX11_init_93 : decode cX11_init 93 = .ok (.aload_n 0, 1) := by decide +kernel
theorem dX11_init_94 : decode cX11_init 94 = .ok (.sipush 240, 3) := by decide +kernel
theorem dX11_init_97 : decode cX11_init 97 = .ok (.newarray .int, 2) := by decide +kernel
theorem dX11_init_99 : decode cX11_init 99 = .ok (.putfield 43, 3) := by decide +kernel
theorem dX11_init_102 : decode cX11_init 102 = .ok (.aload_n 0, 1) := by decide +kernel
theorem dX11_init_103 : decode cX11_init 103 = .ok (.sipush 240, 3) := by decide +kernel
theorem dX11_init_106 : decode cX11_init 106 = .ok (.newarray .int, 2) := by decide +kernel
theorem dX11_init_108 : decode cX11_init 108 = .ok (.putfield 46, 3) := by decide +kernel
theorem dX11_init_111 : decode cX11_init 111 = .ok (.aload_n 0, 1) := by decide +kernel
theorem dX11_init_112 : decode cX11_init 112 = .ok (.sipush 240, 3) := by decide +kernel
theorem dX11_init_115 : decode cX11_init 115 = .ok (.newarray .int, 2) := by decide +kernel
theorem dX11_init_117 : decode cX11_init 117 = .ok (.putfield 49, 3) := by decide +kernel
theorem dX11_init_120 : decode cX11_init 120 = .ok (.aload_n 0, 1) := by decide +kernel
theorem dX11_init_121 : decode cX11_init 121 = .ok (.bipush 40, 2) := by decide +kernel
theorem dX11_init_123 : decode cX11_init 123 = .ok (.newarray .int, 2) := by decide +kernel
theorem dX11_init_125 : decode cX11_init 125 = .ok (.putfield 52, 3) := by decide +kernel
theorem dX11_init_128 : decode cX11_init 128 = .ok (.aload_n 0, 1) := by decide +kernel
theorem dX11_init_129 : decode cX11_init 129 = .ok (.sipush 160, 3) := by decide +kernel
theorem dX11_init_132 : decode cX11_init 132 = .ok (.newarray .int, 2) := by decide +kernel
theorem dX11_init_134 : decode cX11_init 134 = .ok (.putfield 55, 3) := by decide +kernel
theorem dX11_init_137 : decode cX11_init 137 = .ok (.aload_n 0, 1) := by decide +kernel
theorem dX11_init_138 : decode cX11_init 138 = .ok (.sipush 160, 3) := by decide +kernel
theorem dX11_init_141 : decode cX11_init 141 = .ok (.newarray .int, 2) := by decide +kernel
theorem dX11_init_143 : decode cX11_init 143 = .ok (.putfield 58, 3) := by decide +kernel
theorem dX11_init_146 : decode cX11_init 146 = .ok (.aload_n 0, 1) := by decide +kernel
theorem dX11_init_147 : decode cX11_init 147 = .ok (.sipush 160, 3) := by decide +kernel
theorem dX11_init_150 : decode cX11_init 150 = .ok (.newarray .int, 2) := by decide +kernel
theorem dX11_init_152 : decode cX11_init 152 = .ok (.putfield 61, 3) := by decide +kernel
theorem dX11_init_155 : decode cX11_init 155 = .ok (.aload_n 0, 1) := by decide +kernel
theorem dX11_init_156 : decode cX11_init 156 = .ok (.sipush 320, 3) := by decide +kernel
theorem dX11_init_159 : decode cX11_init 159 = .ok (.newarray .boolean, 2) := by decide +kernel
theorem dX11_init_161 : decode cX11_init 161 = .ok (.putfield 64, 3) := by decide +kernel
theorem dX11_init_164 : decode cX11_init 164 = .ok (.aload_n 0, 1) := by decide +kernel
theorem dX11_init_165 : decode cX11_init 165 = .ok (.sipush 160, 3) := by decide +kernel
theorem dX11_init_168 : decode cX11_init 168 = .ok (.newarray .boolean, 2) := by decide +kernel
theorem dX11_init_170 : decode cX11_init 170 = .ok (.putfield 68, 3) := by decide +kernel
theorem dX11_init_173 : decode cX11_init 173 = .ok (.aload_n 0, 1) := by decide +kernel
theorem dX11_init_174 : decode cX11_init 174 = .ok (.iconst 2, 1) := by decide +kernel
theorem dX11_init_175 : decode cX11_init 175 = .ok (.newarray .int, 2) := by decide +kernel
theorem dX11_init_177 : decode cX11_init 177 = .ok (.putfield 71, 3) := by decide +kernel
theorem dX11_init_180 : decode cX11_init 180 = .ok (.aload_n 0, 1) := by decide +kernel
theorem dX11_init_181 : decode cX11_init 181 = .ok (.bipush 80, 2) := by decide +kernel
theorem dX11_init_183 : decode cX11_init 183 = .ok (.newarray .int, 2) := by decide +kernel
theorem dX11_init_185 : decode cX11_init 185 = .ok (.putfield 74, 3) := by decide +kernel
theorem dX11_init_188 : decode cX11_init 188 = .ok (.aload_n 0, 1) := by decide +kernel
theorem dX11_init_189 : decode cX11_init 189 = .ok (.bipush 80, 2) := by decide +kernel
theorem dX11_init_191 : decode cX11_init 191 = .ok (.newarray .int, 2) := by decide +kernel
theorem dX11_init_193 : decode cX11_init 193 = .ok (.putfield 77, 3) := by decide +kernel
theorem dX11_init_196 : decode cX11_init 196 = .ok (.aload_n 0, 1) := by decide +kernel
theorem dX11_init_197 : decode cX11_init 197 = .ok (.bipush 80, 2) := by decide +kernel
theorem dX11_init_199 : decode cX11_init 199 = .ok (.newarray .int, 2) := by decide +kernel
theorem dX11_init_201 : decode cX11_init 201 = .ok (.putfield 80, 3) := by decide +kernel
theorem dX11_init_204 : decode cX11_init 204 = .ok (.aload_n 0, 1) := by decide +kernel
theorem dX11_init_205 : decode cX11_init 205 = .ok (.bipush 80, 2) := by decide +kernel
theorem dX11_init_207 : decode cX11_init 207 = .ok (.newarray .int, 2) := by decide +kernel
theorem dX11_init_209 : decode cX11_init 209 = .ok (.putfield 83, 3) := by decide +kernel
theorem dX11_init_212 : decode cX11_init 212 = .ok (.aload_n 0, 1) := by decide +kernel
theorem dX11_init_213 : decode cX11_init 213 = .ok (.bipush 80, 2) := by decide +kernel
theorem dX11_init_215 : decode cX11_init 215 = .ok (.newarray .int, 2) := by decide +kernel
theorem dX11_init_217 : decode cX11_init 217 = .ok (.putfield 86, 3) := by decide +kernel
theorem dX11_init_220 : decode cX11_init 220 = .ok (.aload_n 0, 1) := by decide +kernel
theorem dX11_init_221 : decode cX11_init 221 = .ok (.bipush 80, 2) := by decide +kernel
theorem dX11_init_223 : decode cX11_init 223 = .ok (.newarray .int, 2) := by decide +kernel
theorem dX11_init_225 : decode cX11_init 225 = .ok (.putfield 89, 3) := by decide +kernel
theorem dX11_init_228 : decode cX11_init 228 = .ok (.aload_n 0, 1) := by decide +kernel
theorem dX11_init_229 : decode cX11_init 229 = .ok (.sipush 2000, 3) := by decide +kernel
theorem dX11_init_232 : decode cX11_init 232 = .ok (.newarray .int, 2) := by decide +kernel
theorem dX11_init_234 : decode cX11_init 234 = .ok (.putfield 92, 3) := by decide +kernel
theorem dX11_init_237 : decode cX11_init 237 = .ok (.aload_n 0, 1) := by decide +kernel
theorem dX11_init_238 : decode cX11_init 238 = .ok (.sipush 2000, 3) := by decide +kernel
theorem dX11_init_241 : decode cX11_init 241 = .ok (.newarray .int, 2) := by decide +kernel
theorem dX11_init_243 : decode cX11_init 243 = .ok (.putfield 95, 3) := by decide +kernel
theorem dX11_init_246 : decode cX11_init 246 = .ok (.aload_n 0, 1) := by decide +kernel
theorem dX11_init_247 : decode cX11_init 247 = .ok (.sipush 2000, 3) := by decide +kernel
theorem dX11_init_250 : decode cX11_init 250 = .ok (.newarray .int, 2) := by decide +kernel
theorem dX11_init_252 : decode cX11_init 252 = .ok (.putfield 98, 3) := by decide +kernel
theorem dX11_init_255 : decode cX11_init 255 = .ok (.aload_n 0, 1) := by decide +kernel
theorem dX11_init_256 : decode cX11_init 256 = .ok (.sipush 2000, 3) := by decide +kernel
theorem dX11_init_259 : decode cX11_init 259 = .ok (.newarray .int, 2) := by decide +kernel
theorem dX11_init_261 : decode cX11_init 261 = .ok (.putfield 101, 3) := by decide +kernel
theorem dX11_init_264 : decode cX11_init 264 = .ok (.aload_n 0, 1) := by decide +kernel
theorem dX11_init_265 : decode cX11_init 265 = .ok (.sipush 700, 3) := by decide +kernel
theorem dX11_init_268 : decode cX11_init 268 = .ok (.newarray .byte, 2) := by decide +kernel
theorem dX11_init_270 : decode cX11_init 270 = .ok (.putfield 104, 3) := by decide +kernel
theorem dX11_init_273 : decode cX11_init 273 = .ok (.aload_n 0, 1) := by decide +kernel
theorem dX11_init_274 : decode cX11_init 274 = .ok (.iconst (-1), 1) := by decide +kernel
theorem dX11_init_275 : decode cX11_init 275 = .ok (.putfield 108, 3) := by decide +kernel
theorem dX11_init_278 : decode cX11_init 278 = .ok (.aload_n 0, 1) := by decide +kernel
theorem dX11_init_279 : decode cX11_init 279 = .ok (.bipush 12, 2) := by decide +kernel
theorem dX11_init_281 : decode cX11_init 281 = .ok (.newarray .int, 2) := by decide +kernel
theorem dX11_init_283 : decode cX11_init 283 = .ok (.putfield 112, 3) := by decide +kernel
theorem dX11_init_286 : decode cX11_init 286 = .ok (.aload_n 0, 1) := by decide +kernel
theorem dX11_init_287 : decode cX11_init 287 = .ok (.bipush 12, 2) := by decide +kernel
theorem dX11_init_289 : decode cX11_init 289 = .ok (.newarray .int, 2) := by decide +kernel
theorem dX11_init_291 : decode cX11_init 291 = .ok (.putfield 115, 3) := by decide +kernel
theorem dX11_init_294 : decode cX11_init 294 = .ok (.aload_n 0, 1) := by decide +kernel
theorem dX11_init_295 : decode cX11_init 295 = .ok (.bipush 7, 2) := by decide +kernel
theorem dX11_init_297 : decode cX11_init 297 = .ok (.newarray .int, 2) := by decide +kernel
theorem dX11_init_299 : decode cX11_init 299 = .ok (.putfield 118, 3) := by decide +kernel
theorem dX11_init_302 : decode cX11_init 302 = .ok (.aload_n 0, 1) := by decide +kernel
theorem dX11_init_303 : decode cX11_init 303 = .ok (.sipush 300, 3) := by decide +kernel
theorem dX11_init_306 : decode cX11_init 306 = .ok (.newarray .boolean, 2) := by decide +kernel
theorem dX11_init_308 : decode cX11_init 308 = .ok (.putfield 121, 3) := by decide +kernel
theorem dX11_init_311 : decode cX11_init 311 = .ok (.aload_n 0, 1) := by decide +kernel
theorem dX11_init_312 : decode cX11_init 312 = .ok (.sipush 256, 3) := by decide +kernel
theorem dX11_init_315 : decode cX11_init 315 = .ok (.newarray .int, 2) := by decide +kernel
theorem dX11_init_317 : decode cX11_init 317 = .ok (.putfield 124, 3) := by decide +kernel
theorem dX11_init_320 : decode cX11_init 320 = .ok (.aload_n 0, 1) := by decide +kernel
theorem dX11_init_321 : decode cX11_init 321 = .ok (.sipush 256, 3) := by decide +kernel
theorem dX11_init_324 : decode cX11_init 324 = .ok (.newarray .int, 2) := by decide +kernel
theorem dX11_init_326 : decode cX11_init 326 = .ok (.putfield 127, 3) := by decide +kernel
theorem dX11_init_329 : decode cX11_init 329 = .ok (.aload_n 0, 1) := by decide +kernel
theorem dX11_init_330 : decode cX11_init 330 = .ok (.sipush 256, 3) := by decide +kernel
theorem dX11_init_333 : decode cX11_init 333 = .ok (.newarray .int, 2) := by decide +kernel
theorem dX11_init_335 : decode cX11_init 335 = .ok (.putfield 130, 3) := by decide +kernel
theorem dX11_init_338 : decode cX11_init 338 = .ok (.aload_n 0, 1) := by decide +kernel
theorem dX11_init_339 : decode cX11_init 339 = .ok (.sipush 256, 3) := by decide +kernel
theorem dX11_init_342 : decode cX11_init 342 = .ok (.newarray .int, 2) := by decide +kernel
theorem dX11_init_344 : decode cX11_init 344 = .ok (.putfield 133, 3) := by decide +kernel
theorem dX11_init_347 : decode cX11_init 347 = .ok (.aload_n 0, 1) := by decide +kernel
theorem dX11_init_348 : decode cX11_init 348 = .ok (.sipush 256, 3) := by decide +kernel
theorem dX11_init_351 : decode cX11_init 351 = .ok (.newarray .int, 2) := by decide +kernel
theorem dX11_init_353 : decode cX11_init 353 = .ok (.putfield 136, 3) := by decide +kernel
theorem dX11_init_356 : decode cX11_init 356 = .ok (.aload_n 0, 1) := by decide +kernel
theorem dX11_init_357 : decode cX11_init 357 = .ok (.sipush 256, 3) := by decide +kernel
theorem dX11_init_360 : decode cX11_init 360 = .ok (.newarray .boolean, 2) := by decide +kernel
theorem dX11_init_362 : decode cX11_init 362 = .ok (.putfield 139, 3) := by decide +kernel
theorem dX11_init_365 : decode cX11_init 365 = .ok (.aload_n 0, 1) := by decide +kernel
theorem dX11_init_366 : decode cX11_init 366 = .ok (.sipush 256, 3) := by decide +kernel
theorem dX11_init_369 : decode cX11_init 369 = .ok (.newarray .boolean, 2) := by decide +kernel
theorem dX11_init_371 : decode cX11_init 371 = .ok (.putfield 142, 3) := by decide +kernel
theorem dX11_init_374 : decode cX11_init 374 = .ok (.aload_n 0, 1) := by decide +kernel
theorem dX11_init_375 : decode cX11_init 375 = .ok (.sipush 256, 3) := by decide +kernel
theorem dX11_init_378 : decode cX11_init 378 = .ok (.newarray .int, 2) := by decide +kernel
theorem dX11_init_380 : decode cX11_init 380 = .ok (.putfield 145, 3) := by decide +kernel
theorem dX11_init_383 : decode cX11_init 383 = .ok (.aload_n 0, 1) := by decide +kernel
theorem dX11_init_384 : decode cX11_init 384 = .ok (.sipush 256, 3) := by decide +kernel
theorem dX11_init_387 : decode cX11_init 387 = .ok (.newarray .int, 2) := by decide +kernel
theorem dX11_init_389 : decode cX11_init 389 = .ok (.putfield 148, 3) := by decide +kernel
theorem dX11_init_392 : decode cX11_init 392 = .ok (.aload_n 0, 1) := by decide +kernel
theorem dX11_init_393 : decode cX11_init 393 = .ok (.sipush 256, 3) := by decide +kernel
theorem dX11_init_396 : decode cX11_init 396 = .ok (.newarray .boolean, 2) := by decide +kernel
theorem dX11_init_398 : decode cX11_init 398 = .ok (.putfield 151, 3) := by decide +kernel
theorem dX11_init_401 : decode cX11_init 401 = .ok (.aload_n 0, 1) := by decide +kernel
theorem dX11_init_402 : decode cX11_init 402 = .ok (.bipush 10, 2) := by decide +kernel
theorem dX11_init_404 : decode cX11_init 404 = .ok (.newarray .int, 2) := by decide +kernel
theorem dX11_init_406 : decode cX11_init 406 = .ok (.putfield 154, 3) := by decide +kernel
theorem dX11_init_409 : decode cX11_init 409 = .ok (.aload_n 0, 1) := by decide +kernel
theorem dX11_init_410 : decode cX11_init 410 = .ok (.bipush 10, 2) := by decide +kernel
theorem dX11_init_412 : decode cX11_init 412 = .ok (.newarray .int, 2) := by decide +kernel
theorem dX11_init_414 : decode cX11_init 414 = .ok (.putfield 157, 3) := by decide +kernel
theorem dX11_init_417 : decode cX11_init 417 = .ok (.aload_n 0, 1) := by decide +kernel
theorem dX11_init_418 : decode cX11_init 418 = .ok (.bipush 10, 2) := by decide +kernel
theorem dX11_init_420 : decode cX11_init 420 = .ok (.newarray .int, 2) := by decide +kernel
theorem dX11_init_422 : decode cX11_init 422 = .ok (.putfield 160, 3) := by decide +kernel
theorem dX11_init_425 : decode cX11_init 425 = .ok (.aload_n 0, 1) := by decide +kernel
theorem dX11_init_426 : decode cX11_init 426 = .ok (.sipush 256, 3) := by decide +kernel
theorem dX11_init_429 : decode cX11_init 429 = .ok (.newarray .int, 2) := by decide +kernel
theorem dX11_init_431 : decode cX11_init 431 = .ok (.putfield 163, 3) := by decide +kernel
theorem dX11_init_434 : decode cX11_init 434 = .ok (.aload_n 0, 1) := by decide +kernel
theorem dX11_init_435 : decode cX11_init 435 = .ok (.bipush 16, 2) := by decide +kernel
theorem dX11_init_437 : decode cX11_init 437 = .ok (.newarray .int, 2) := by decide +kernel
theorem dX11_init_439 : decode cX11_init 439 = .ok (.putfield 166, 3) := by decide +kernel
theorem dX11_init_442 : decode cX11_init 442 = .ok (.aload_n 0, 1) := by decide +kernel
theorem dX11_init_443 : decode cX11_init 443 = .ok (.bipush 16, 2) := by decide +kernel
theorem dX11_init_445 : decode cX11_init 445 = .ok (.newarray .int, 2) := by decide +kernel
theorem dX11_init_447 : decode cX11_init 447 = .ok (.putfield 169, 3) := by decide +kernel
theorem dX11_init_450 : decode cX11_init 450 = .ok (.iconst 0, 1) := by decide +kernel
theorem dX11_init_451 : decode cX11_init 451 = .ok (.istore_n 1, 1) := by decide +kernel
theorem dX11_init_452 : decode cX11_init 452 = .ok (.iload_n 1, 1) := by decide +kernel
theorem dX11_init_453 : decode cX11_init 453 = .ok (.sipush 256, 3) := by decide +kernel
theorem dX11_init_456 : decode cX11_init 456 = .ok (.if_icmp .ge 24, 3) := by decide +kernel
theorem dX11_init_459 : decode cX11_init 459 = .ok (.aload_n 0, 1) := by decide +kernel
theorem dX11_init_460 : decode cX11_init 460 = .ok (.getfield 28, 3) := by decide +kernel
theorem dX11_init_463 : decode cX11_init 463 = .ok (.iload_n 1, 1) := by decide +kernel
theorem dX11_init_464 : decode cX11_init 464 = .ok (.bipush 99, 2) := by decide +kernel
theorem dX11_init_466 : decode cX11_init 466 = .ok (.iastore, 1) := by decide +kernel
theorem dX11_init_467 : decode cX11_init 467 = .ok (.aload_n 0, 1) := by decide +kernel
theorem dX11_init_468 : decode cX11_init 468 = .ok (.getfield 34, 3) := by decide +kernel
theorem dX11_init_471 : decode cX11_init 471 = .ok (.iload_n 1, 1) := by decide +kernel
theorem dX11_init_472 : decode cX11_init 472 = .ok (.iconst (-1), 1) := by decide +kernel
theorem dX11_init_473 : decode cX11_init 473 = .ok (.iastore, 1) := by decide +kernel
theorem dX11_init_474 : decode cX11_init 474 = .ok (.iinc 1 1, 3) := by decide +kernel
theorem dX11_init_477 : decode cX11_init 477 = .ok (.goto (-25), 3) := by decide +kernel
theorem dX11_init_480 : decode cX11_init 480 = .ok (.return_, 1) := by decide +kernel
theorem dX11_within_0 : decode cX11_within 0 = .ok (.iload_n 0, 1) := by decide +kernel
theorem dX11_within_1 : decode cX11_within 1 = .ok (.iload_n 1, 1) := by decide +kernel
theorem dX11_within_2 : decode cX11_within 2 = .ok (.if_icmp .lt 12, 3) := by decide +kernel
theorem dX11_within_5 : decode cX11_within 5 = .ok (.iload_n 0, 1) := by decide +kernel
theorem dX11_within_6 : decode cX11_within 6 = .ok (.iload_n 2, 1) := by decide +kernel
theorem dX11_within_7 : decode cX11_within 7 = .ok (.if_icmp .gt 7, 3) := by decide +kernel
theorem dX11_within_10 : decode cX11_within 10 = .ok (.iconst 1, 1) := by decide +kernel
theorem dX11_within_11 : decode cX11_within 11 = .ok (.goto 4, 3) := by decide +kernel
theorem dX11_within_14 : decode cX11_within 14 = .ok (.iconst 0, 1) := by decide +kernel
theorem dX11_within_15 : decode cX11_within 15 = .ok (.ireturn, 1) := by decide +kernel
theorem dX11_isCell_0 : decode cX11_isCell 0 = .ok (.iload_n 0, 1) := by decide +kernel
theorem dX11_isCell_1 : decode cX11_isCell 1 = .ok (.ifCond .lt 14, 3) := by decide +kernel
theorem dX11_isCell_4 : decode cX11_isCell 4 = .ok (.iload_n 0, 1) := by decide +kernel
theorem dX11_isCell_5 : decode cX11_isCell 5 = .ok (.sipush 256, 3) := by decide +kernel
theorem dX11_isCell_8 : decode cX11_isCell 8 = .ok (.if_icmp .ge 7, 3) := by decide +kernel
theorem dX11_isCell_11 : decode cX11_isCell 11 = .ok (.iconst 1, 1) := by decide +kernel
theorem dX11_isCell_12 : decode cX11_isCell 12 = .ok (.goto 4, 3) := by decide +kernel
theorem dX11_isCell_15 : decode cX11_isCell 15 = .ok (.iconst 0, 1) := by decide +kernel
theorem dX11_isCell_16 : decode cX11_isCell 16 = .ok (.ireturn, 1) := by decide +kernel
theorem dX11_isAge_0 : decode cX11_isAge 0 = .ok (.iload_n 0, 1) := by decide +kernel
theorem dX11_isAge_1 : decode cX11_isAge 1 = .ok (.ifCond .lt 13, 3) := by decide +kernel
theorem dX11_isAge_4 : decode cX11_isAge 4 = .ok (.iload_n 0, 1) := by decide +kernel
theorem dX11_isAge_5 : decode cX11_isAge 5 = .ok (.bipush 99, 2) := by decide +kernel
theorem dX11_isAge_7 : decode cX11_isAge 7 = .ok (.if_icmp .gt 7, 3) := by decide +kernel
theorem dX11_isAge_10 : decode cX11_isAge 10 = .ok (.iconst 1, 1) := by decide +kernel
theorem dX11_isAge_11 : decode cX11_isAge 11 = .ok (.goto 4, 3) := by decide +kernel
theorem dX11_isAge_14 : decode cX11_isAge 14 = .ok (.iconst 0, 1) := by decide +kernel
theorem dX11_isAge_15 : decode cX11_isAge 15 = .ok (.ireturn, 1) := by decide +kernel
theorem dX11_distance_0 : decode cX11_distance 0 = .ok (.iload_n 0, 1) := by decide +kernel
theorem dX11_distance_1 : decode cX11_distance 1 = .ok (.iload_n 1, 1) := by decide +kernel
theorem dX11_distance_2 : decode cX11_distance 2 = .ok (.if_icmp .ge 9, 3) := by decide +kernel
theorem dX11_distance_5 : decode cX11_distance 5 = .ok (.iload_n 1, 1) := by decide +kernel
theorem dX11_distance_6 : decode cX11_distance 6 = .ok (.iload_n 0, 1) := by decide +kernel
theorem dX11_distance_7 : decode cX11_distance 7 = .ok (.isub, 1) := by decide +kernel
theorem dX11_distance_8 : decode cX11_distance 8 = .ok (.goto 6, 3) := by decide +kernel
theorem dX11_distance_11 : decode cX11_distance 11 = .ok (.iload_n 0, 1) := by decide +kernel
theorem dX11_distance_12 : decode cX11_distance 12 = .ok (.iload_n 1, 1) := by decide +kernel
theorem dX11_distance_13 : decode cX11_distance 13 = .ok (.isub, 1) := by decide +kernel
theorem dX11_distance_14 : decode cX11_distance 14 = .ok (.ireturn, 1) := by decide +kernel
theorem dX11_refuses_0 : decode cX11_refuses 0 = .ok (.aload_n 0, 1) := by decide +kernel
theorem dX11_refuses_1 : decode cX11_refuses 1 = .ok (.getfield 7, 3) := by decide +kernel
theorem dX11_refuses_4 : decode cX11_refuses 4 = .ok (.iload_n 1, 1) := by decide +kernel
theorem dX11_refuses_5 : decode cX11_refuses 5 = .ok (.dup2, 1) := by decide +kernel
theorem dX11_refuses_6 : decode cX11_refuses 6 = .ok (.iaload, 1) := by decide +kernel
theorem dX11_refuses_7 : decode cX11_refuses 7 = .ok (.iconst 1, 1) := by decide +kernel
theorem dX11_refuses_8 : decode cX11_refuses 8 = .ok (.iadd, 1) := by decide +kernel
theorem dX11_refuses_9 : decode cX11_refuses 9 = .ok (.iastore, 1) := by decide +kernel
theorem dX11_refuses_10 : decode cX11_refuses 10 = .ok (.iconst (-1), 1) := by decide +kernel
theorem dX11_refuses_11 : decode cX11_refuses 11 = .ok (.ireturn, 1) := by decide +kernel
theorem dX11_isNot_0 : decode cX11_isNot 0 = .ok (.aload_n 0, 1) := by decide +kernel
theorem dX11_isNot_1 : decode cX11_isNot 1 = .ok (.getfield 7, 3) := by decide +kernel
theorem dX11_isNot_4 : decode cX11_isNot 4 = .ok (.iconst 0, 1) := by decide +kernel
theorem dX11_isNot_5 : decode cX11_isNot 5 = .ok (.dup2, 1) := by decide +kernel
theorem dX11_isNot_6 : decode cX11_isNot 6 = .ok (.iaload, 1) := by decide +kernel
theorem dX11_isNot_7 : decode cX11_isNot 7 = .ok (.iconst 1, 1) := by decide +kernel
theorem dX11_isNot_8 : decode cX11_isNot 8 = .ok (.iadd, 1) := by decide +kernel
theorem dX11_isNot_9 : decode cX11_isNot 9 = .ok (.iastore, 1) := by decide +kernel
theorem dX11_isNot_10 : decode cX11_isNot 10 = .ok (.iconst 0, 1) := by decide +kernel
theorem dX11_isNot_11 : decode cX11_isNot 11 = .ok (.ireturn, 1) := by decide +kernel
theorem dX11_copies_0 : decode cX11_copies 0 = .ok (.aload_n 0, 1) := by decide +kernel
theorem dX11_copies_1 : decode cX11_copies 1 = .ok (.getfield 13, 3) := by decide +kernel
theorem dX11_copies_4 : decode cX11_copies 4 = .ok (.iload_n 2, 1) := by decide +kernel
theorem dX11_copies_5 : decode cX11_copies 5 = .ok (.aload_n 0, 1) := by decide +kernel
theorem dX11_copies_6 : decode cX11_copies 6 = .ok (.getfield 13, 3) := by decide +kernel
theorem dX11_copies_9 : decode cX11_copies 9 = .ok (.iload_n 1, 1) := by decide +kernel
theorem dX11_copies_10 : decode cX11_copies 10 = .ok (.iaload, 1) := by decide +kernel
theorem dX11_copies_11 : decode cX11_copies 11 = .ok (.iastore, 1) := by decide +kernel
theorem dX11_copies_12 : decode cX11_copies 12 = .ok (.aload_n 0, 1) := by decide +kernel
theorem dX11_copies_13 : decode cX11_copies 13 = .ok (.getfield 16, 3) := by decide +kernel
theorem dX11_copies_16 : decode cX11_copies 16 = .ok (.iload_n 2, 1) := by decide +kernel
theorem dX11_copies_17 : decode cX11_copies 17 = .ok (.aload_n 0, 1) := by decide +kernel
theorem dX11_copies_18 : decode cX11_copies 18 = .ok (.getfield 16, 3) := by decide +kernel
theorem dX11_copies_21 : decode cX11_copies 21 = .ok (.iload_n 1, 1) := by decide +kernel
theorem dX11_copies_22 : decode cX11_copies 22 = .ok (.iaload, 1) := by decide +kernel
theorem dX11_copies_23 : decode cX11_copies 23 = .ok (.iastore, 1) := by decide +kernel
theorem dX11_copies_24 : decode cX11_copies 24 = .ok (.aload_n 0, 1) := by decide +kernel
theorem dX11_copies_25 : decode cX11_copies 25 = .ok (.getfield 19, 3) := by decide +kernel
theorem dX11_copies_28 : decode cX11_copies 28 = .ok (.iload_n 2, 1) := by decide +kernel
theorem dX11_copies_29 : decode cX11_copies 29 = .ok (.aload_n 0, 1) := by decide +kernel
theorem dX11_copies_30 : decode cX11_copies 30 = .ok (.getfield 19, 3) := by decide +kernel
theorem dX11_copies_33 : decode cX11_copies 33 = .ok (.iload_n 1, 1) := by decide +kernel
theorem dX11_copies_34 : decode cX11_copies 34 = .ok (.iaload, 1) := by decide +kernel
theorem dX11_copies_35 : decode cX11_copies 35 = .ok (.iastore, 1) := by decide +kernel
theorem dX11_copies_36 : decode cX11_copies 36 = .ok (.aload_n 0, 1) := by decide +kernel
theorem dX11_copies_37 : decode cX11_copies 37 = .ok (.getfield 22, 3) := by decide +kernel
theorem dX11_copies_40 : decode cX11_copies 40 = .ok (.iload_n 2, 1) := by decide +kernel
theorem dX11_copies_41 : decode cX11_copies 41 = .ok (.aload_n 0, 1) := by decide +kernel
theorem dX11_copies_42 : decode cX11_copies 42 = .ok (.getfield 22, 3) := by decide +kernel
theorem dX11_copies_45 : decode cX11_copies 45 = .ok (.iload_n 1, 1) := by decide +kernel
theorem dX11_copies_46 : decode cX11_copies 46 = .ok (.iaload, 1) := by decide +kernel
theorem dX11_copies_47 : decode cX11_copies 47 = .ok (.iastore, 1) := by decide +kernel
theorem dX11_copies_48 : decode cX11_copies 48 = .ok (.iconst 0, 1) := by decide +kernel
theorem dX11_copies_49 : decode cX11_copies 49 = .ok (.istore_n 3, 1) := by decide +kernel
theorem dX11_copies_50 : decode cX11_copies 50 = .ok (.iload_n 3, 1) := by decide +kernel
theorem dX11_copies_51 : decode cX11_copies 51 = .ok (.sipush 256, 3) := by decide +kernel
theorem dX11_copies_54 : decode cX11_copies 54 = .ok (.if_icmp .ge 105, 3) := by decide +kernel
theorem dX11_copies_57 : decode cX11_copies 57 = .ok (.aload_n 0, 1) := by decide +kernel
theorem dX11_copies_58 : decode cX11_copies 58 = .ok (.getfield 25, 3) := by decide +kernel
theorem dX11_copies_61 : decode cX11_copies 61 = .ok (.sipush 256, 3) := by decide +kernel
theorem dX11_copies_64 : decode cX11_copies 64 = .ok (.iload_n 2, 1) := by decide +kernel
theorem dX11_copies_65 : decode cX11_copies 65 = .ok (.imul, 1) := by decide +kernel
theorem dX11_copies_66 : decode cX11_copies 66 = .ok (.iload_n 3, 1) := by decide +kernel
theorem dX11_copies_67 : decode cX11_copies 67 = .ok (.iadd, 1) := by decide +kernel
theorem dX11_copies_68 : decode cX11_copies 68 = .ok (.aload_n 0, 1) := by decide +kernel
theorem dX11_copies_69 : decode cX11_copies 69 = .ok (.getfield 25, 3) := by decide +kernel
theorem dX11_copies_72 : decode cX11_copies 72 = .ok (.sipush 256, 3) := by decide +kernel
theorem dX11_copies_75 : decode cX11_copies 75 = .ok (.iload_n 1, 1) := by decide +kernel
theorem dX11_copies_76 : decode cX11_copies 76 = .ok (.imul, 1) := by decide +kernel
theorem dX11_copies_77 : decode cX11_copies 77 = .ok (.iload_n 3, 1) := by decide +kernel
theorem dX11_copies_78 : decode cX11_copies 78 = .ok (.iadd, 1) := by decide +kernel
theorem dX11_copies_79 : decode cX11_copies 79 = .ok (.iaload, 1) := by decide +kernel
theorem dX11_copies_80 : decode cX11_copies 80 = .ok (.iastore, 1) := by decide +kernel
theorem dX11_copies_81 : decode cX11_copies 81 = .ok (.aload_n 0, 1) := by decide +kernel
theorem dX11_copies_82 : decode cX11_copies 82 = .ok (.getfield 28, 3) := by decide +kernel
theorem dX11_copies_85 : decode cX11_copies 85 = .ok (.sipush 256, 3) := by decide +kernel
theorem dX11_copies_88 : decode cX11_copies 88 = .ok (.iload_n 2, 1) := by decide +kernel
theorem dX11_copies_89 : decode cX11_copies 89 = .ok (.imul, 1) := by decide +kernel
theorem dX11_copies_90 : decode cX11_copies 90 = .ok (.iload_n 3, 1) := by decide +kernel
theorem dX11_copies_91 : decode cX11_copies 91 = .ok (.iadd, 1) := by decide +kernel
theorem dX11_copies_92 : decode cX11_copies 92 = .ok (.aload_n 0, 1) := by decide +kernel
theorem dX11_copies_93 : decode cX11_copies 93 = .ok (.getfield 28, 3) := by decide +kernel
theorem dX11_copies_96 : decode cX11_copies 96 = .ok (.sipush 256, 3) := by decide +kernel
theorem dX11_copies_99 : decode cX11_copies 99 = .ok (.iload_n 1, 1) := by decide +kernel
theorem dX11_copies_100 : decode cX11_copies 100 = .ok (.imul, 1) := by decide +kernel
theorem dX11_copies_101 : decode cX11_copies 101 = .ok (.iload_n 3, 1) := by decide +kernel
theorem dX11_copies_102 : decode cX11_copies 102 = .ok (.iadd, 1) := by decide +kernel
theorem dX11_copies_103 : decode cX11_copies 103 = .ok (.iaload, 1) := by decide +kernel
theorem dX11_copies_104 : decode cX11_copies 104 = .ok (.iastore, 1) := by decide +kernel
theorem dX11_copies_105 : decode cX11_copies 105 = .ok (.aload_n 0, 1) := by decide +kernel
theorem dX11_copies_106 : decode cX11_copies 106 = .ok (.getfield 31, 3) := by decide +kernel
theorem dX11_copies_109 : decode cX11_copies 109 = .ok (.sipush 256, 3) := by decide +kernel
theorem dX11_copies_112 : decode cX11_copies 112 = .ok (.iload_n 2, 1) := by decide +kernel
theorem dX11_copies_113 : decode cX11_copies 113 = .ok (.imul, 1) := by decide +kernel
theorem dX11_copies_114 : decode cX11_copies 114 = .ok (.iload_n 3, 1) := by decide +kernel
theorem dX11_copies_115 : decode cX11_copies 115 = .ok (.iadd, 1) := by decide +kernel
theorem dX11_copies_116 : decode cX11_copies 116 = .ok (.aload_n 0, 1) := by decide +kernel
theorem dX11_copies_117 : decode cX11_copies 117 = .ok (.getfield 31, 3) := by decide +kernel
theorem dX11_copies_120 : decode cX11_copies 120 = .ok (.sipush 256, 3) := by decide +kernel
theorem dX11_copies_123 : decode cX11_copies 123 = .ok (.iload_n 1, 1) := by decide +kernel
theorem dX11_copies_124 : decode cX11_copies 124 = .ok (.imul, 1) := by decide +kernel
theorem dX11_copies_125 : decode cX11_copies 125 = .ok (.iload_n 3, 1) := by decide +kernel
theorem dX11_copies_126 : decode cX11_copies 126 = .ok (.iadd, 1) := by decide +kernel
theorem dX11_copies_127 : decode cX11_copies 127 = .ok (.iaload, 1) := by decide +kernel
theorem dX11_copies_128 : decode cX11_copies 128 = .ok (.iastore, 1) := by decide +kernel
theorem dX11_copies_129 : decode cX11_copies 129 = .ok (.aload_n 0, 1) := by decide +kernel
theorem dX11_copies_130 : decode cX11_copies 130 = .ok (.getfield 34, 3) := by decide +kernel
theorem dX11_copies_133 : decode cX11_copies 133 = .ok (.sipush 256, 3) := by decide +kernel
theorem dX11_copies_136 : decode cX11_copies 136 = .ok (.iload_n 2, 1) := by decide +kernel
theorem dX11_copies_137 : decode cX11_copies 137 = .ok (.imul, 1) := by decide +kernel
theorem dX11_copies_138 : decode cX11_copies 138 = .ok (.iload_n 3, 1) := by decide +kernel
theorem dX11_copies_139 : decode cX11_copies 139 = .ok (.iadd, 1) := by decide +kernel
theorem dX11_copies_140 : decode cX11_copies 140 = .ok (.aload_n 0, 1) := by decide +kernel
theorem dX11_copies_141 : decode cX11_copies 141 = .ok (.getfield 34, 3) := by decide +kernel
theorem dX11_copies_144 : decode cX11_copies 144 = .ok (.sipush 256, 3) := by decide +kernel
theorem dX11_copies_147 : decode cX11_copies 147 = .ok (.iload_n 1, 1) := by decide +kernel
theorem dX11_copies_148 : decode cX11_copies 148 = .ok (.imul, 1) := by decide +kernel
theorem dX11_copies_149 : decode cX11_copies 149 = .ok (.iload_n 3, 1) := by decide +kernel
theorem dX11_copies_150 : decode cX11_copies 150 = .ok (.iadd, 1) := by decide +kernel
theorem dX11_copies_151 : decode cX11_copies 151 = .ok (.iaload, 1) := by decide +kernel
theorem dX11_copies_152 : decode cX11_copies 152 = .ok (.iastore, 1) := by decide +kernel
theorem dX11_copies_153 : decode cX11_copies 153 = .ok (.iinc 3 1, 3) := by decide +kernel
theorem dX11_copies_156 : decode cX11_copies 156 = .ok (.goto (-106), 3) := by decide +kernel
theorem dX11_copies_159 : decode cX11_copies 159 = .ok (.iconst 0, 1) := by decide +kernel
theorem dX11_copies_160 : decode cX11_copies 160 = .ok (.istore_n 3, 1) := by decide +kernel
theorem dX11_copies_161 : decode cX11_copies 161 = .ok (.iload_n 3, 1) := by decide +kernel
theorem dX11_copies_162 : decode cX11_copies 162 = .ok (.bipush 80, 2) := by decide +kernel
theorem dX11_copies_164 : decode cX11_copies 164 = .ok (.if_icmp .ge 53, 3) := by decide +kernel
theorem dX11_copies_167 : decode cX11_copies 167 = .ok (.aload_n 0, 1) := by decide +kernel
theorem dX11_copies_168 : decode cX11_copies 168 = .ok (.getfield 37, 3) := by decide +kernel
theorem dX11_copies_171 : decode cX11_copies 171 = .ok (.bipush 80, 2) := by decide +kernel
theorem dX11_copies_173 : decode cX11_copies 173 = .ok (.iload_n 2, 1) := by decide +kernel
theorem dX11_copies_174 : decode cX11_copies 174 = .ok (.imul, 1) := by decide +kernel
theorem dX11_copies_175 : decode cX11_copies 175 = .ok (.iload_n 3, 1) := by decide +kernel
theorem dX11_copies_176 : decode cX11_copies 176 = .ok (.iadd, 1) := by decide +kernel
theorem dX11_copies_177 : decode cX11_copies 177 = .ok (.aload_n 0, 1) := by decide +kernel
theorem dX11_copies_178 : decode cX11_copies 178 = .ok (.getfield 37, 3) := by decide +kernel
theorem dX11_copies_181 : decode cX11_copies 181 = .ok (.bipush 80, 2) := by decide +kernel
theorem dX11_copies_183 : decode cX11_copies 183 = .ok (.iload_n 1, 1) := by decide +kernel
theorem dX11_copies_184 : decode cX11_copies 184 = .ok (.imul, 1) := by decide +kernel
theorem dX11_copies_185 : decode cX11_copies 185 = .ok (.iload_n 3, 1) := by decide +kernel
theorem dX11_copies_186 : decode cX11_copies 186 = .ok (.iadd, 1) := by decide +kernel
theorem dX11_copies_187 : decode cX11_copies 187 = .ok (.iaload, 1) := by decide +kernel
theorem dX11_copies_188 : decode cX11_copies 188 = .ok (.iastore, 1) := by decide +kernel
theorem dX11_copies_189 : decode cX11_copies 189 = .ok (.aload_n 0, 1) := by decide +kernel
theorem dX11_copies_190 : decode cX11_copies 190 = .ok (.getfield 64, 3) := by decide +kernel
theorem dX11_copies_193 : decode cX11_copies 193 = .ok (.bipush 80, 2) := by decide +kernel
theorem dX11_copies_195 : decode cX11_copies 195 = .ok (.iload_n 2, 1) := by decide +kernel
theorem dX11_copies_196 : decode cX11_copies 196 = .ok (.imul, 1) := by decide +kernel
theorem dX11_copies_197 : decode cX11_copies 197 = .ok (.iload_n 3, 1) := by decide +kernel
theorem dX11_copies_198 : decode cX11_copies 198 = .ok (.iadd, 1) := by decide +kernel
theorem dX11_copies_199 : decode cX11_copies 199 = .ok (.aload_n 0, 1) := by decide +kernel
theorem dX11_copies_200 : decode cX11_copies 200 = .ok (.getfield 64, 3) := by decide +kernel
theorem dX11_copies_203 : decode cX11_copies 203 = .ok (.bipush 80, 2) := by decide +kernel
theorem dX11_copies_205 : decode cX11_copies 205 = .ok (.iload_n 1, 1) := by decide +kernel
theorem dX11_copies_206 : decode cX11_copies 206 = .ok (.imul, 1) := by decide +kernel
theorem dX11_copies_207 : decode cX11_copies 207 = .ok (.iload_n 3, 1) := by decide +kernel
theorem dX11_copies_208 : decode cX11_copies 208 = .ok (.iadd, 1) := by decide +kernel
theorem dX11_copies_209 : decode cX11_copies 209 = .ok (.baload, 1) := by decide +kernel
theorem dX11_copies_210 : decode cX11_copies 210 = .ok (.bastore, 1) := by decide +kernel
theorem dX11_copies_211 : decode cX11_copies 211 = .ok (.iinc 3 1, 3) := by decide +kernel
theorem dX11_copies_214 : decode cX11_copies 214 = .ok (.goto (-53), 3) := by decide +kernel
theorem dX11_copies_217 : decode cX11_copies 217 = .ok (.iconst 0, 1) := by decide +kernel
theorem dX11_copies_218 : decode cX11_copies 218 = .ok (.istore_n 3, 1) := by decide +kernel
theorem dX11_copies_219 : decode cX11_copies 219 = .ok (.iload_n 3, 1) := by decide +kernel
theorem dX11_copies_220 : decode cX11_copies 220 = .ok (.bipush 60, 2) := by decide +kernel
theorem dX11_copies_222 : decode cX11_copies 222 = .ok (.if_icmp .ge 97, 3) := by decide +kernel
theorem dX11_copies_225 : decode cX11_copies 225 = .ok (.aload_n 0, 1) := by decide +kernel
theorem dX11_copies_226 : decode cX11_copies 226 = .ok (.getfield 40, 3) := by decide +kernel
theorem dX11_copies_229 : decode cX11_copies 229 = .ok (.bipush 60, 2) := by decide +kernel
theorem dX11_copies_231 : decode cX11_copies 231 = .ok (.iload_n 2, 1) := by decide +kernel
theorem dX11_copies_232 : decode cX11_copies 232 = .ok (.imul, 1) := by decide +kernel
theorem dX11_copies_233 : decode cX11_copies 233 = .ok (.iload_n 3, 1) := by decide +kernel
theorem dX11_copies_234 : decode cX11_copies 234 = .ok (.iadd, 1) := by decide +kernel
theorem dX11_copies_235 : decode cX11_copies 235 = .ok (.aload_n 0, 1) := by decide +kernel
theorem dX11_copies_236 : decode cX11_copies 236 = .ok (.getfield 40, 3) := by decide +kernel
theorem dX11_copies_239 : decode cX11_copies 239 = .ok (.bipush 60, 2) := by decide +kernel
theorem dX11_copies_241 : decode cX11_copies 241 = .ok (.iload_n 1, 1) := by decide +kernel
theorem dX11_copies_242 : decode cX11_copies 242 = .ok (.imul, 1) := by decide +kernel
theorem dX11_copies_243 : decode cX11_copies 243 = .ok (.iload_n 3, 1) := by decide +kernel
theorem dX11_copies_244 : decode cX11_copies 244 = .ok (.iadd, 1) := by decide +kernel
theorem dX11_copies_245 : decode cX11_copies 245 = .ok (.iaload, 1) := by decide +kernel
theorem dX11_copies_246 : decode cX11_copies 246 = .ok (.iastore, 1) := by decide +kernel
theorem dX11_copies_247 : decode cX11_copies 247 = .ok (.aload_n 0, 1) := by decide +kernel
theorem dX11_copies_248 : decode cX11_copies 248 = .ok (.getfield 43, 3) := by decide +kernel
theorem dX11_copies_251 : decode cX11_copies 251 = .ok (.bipush 60, 2) := by decide +kernel
theorem dX11_copies_253 : decode cX11_copies 253 = .ok (.iload_n 2, 1) := by decide +kernel
theorem dX11_copies_254 : decode cX11_copies 254 = .ok (.imul, 1) := by decide +kernel
theorem dX11_copies_255 : decode cX11_copies 255 = .ok (.iload_n 3, 1) := by decide +kernel
theorem dX11_copies_256 : decode cX11_copies 256 = .ok (.iadd, 1) := by decide +kernel
theorem dX11_copies_257 : decode cX11_copies 257 = .ok (.aload_n 0, 1) := by decide +kernel
theorem dX11_copies_258 : decode cX11_copies 258 = .ok (.getfield 43, 3) := by decide +kernel
theorem dX11_copies_261 : decode cX11_copies 261 = .ok (.bipush 60, 2) := by decide +kernel
theorem dX11_copies_263 : decode cX11_copies 263 = .ok (.iload_n 1, 1) := by decide +kernel
theorem dX11_copies_264 : decode cX11_copies 264 = .ok (.imul, 1) := by decide +kernel
theorem dX11_copies_265 : decode cX11_copies 265 = .ok (.iload_n 3, 1) := by decide +kernel
theorem dX11_copies_266 : decode cX11_copies 266 = .ok (.iadd, 1) := by decide +kernel
theorem dX11_copies_267 : decode cX11_copies 267 = .ok (.iaload, 1) := by decide +kernel
theorem dX11_copies_268 : decode cX11_copies 268 = .ok (.iastore, 1) := by decide +kernel
theorem dX11_copies_269 : decode cX11_copies 269 = .ok (.aload_n 0, 1) := by decide +kernel
theorem dX11_copies_270 : decode cX11_copies 270 = .ok (.getfield 46, 3) := by decide +kernel
theorem dX11_copies_273 : decode cX11_copies 273 = .ok (.bipush 60, 2) := by decide +kernel
theorem dX11_copies_275 : decode cX11_copies 275 = .ok (.iload_n 2, 1) := by decide +kernel
theorem dX11_copies_276 : decode cX11_copies 276 = .ok (.imul, 1) := by decide +kernel
theorem dX11_copies_277 : decode cX11_copies 277 = .ok (.iload_n 3, 1) := by decide +kernel
theorem dX11_copies_278 : decode cX11_copies 278 = .ok (.iadd, 1) := by decide +kernel
theorem dX11_copies_279 : decode cX11_copies 279 = .ok (.aload_n 0, 1) := by decide +kernel
theorem dX11_copies_280 : decode cX11_copies 280 = .ok (.getfield 46, 3) := by decide +kernel
theorem dX11_copies_283 : decode cX11_copies 283 = .ok (.bipush 60, 2) := by decide +kernel
theorem dX11_copies_285 : decode cX11_copies 285 = .ok (.iload_n 1, 1) := by decide +kernel
theorem dX11_copies_286 : decode cX11_copies 286 = .ok (.imul, 1) := by decide +kernel
theorem dX11_copies_287 : decode cX11_copies 287 = .ok (.iload_n 3, 1) := by decide +kernel
theorem dX11_copies_288 : decode cX11_copies 288 = .ok (.iadd, 1) := by decide +kernel
theorem dX11_copies_289 : decode cX11_copies 289 = .ok (.iaload, 1) := by decide +kernel
theorem dX11_copies_290 : decode cX11_copies 290 = .ok (.iastore, 1) := by decide +kernel
theorem dX11_copies_291 : decode cX11_copies 291 = .ok (.aload_n 0, 1) := by decide +kernel
theorem dX11_copies_292 : decode cX11_copies 292 = .ok (.getfield 49, 3) := by decide +kernel
theorem dX11_copies_295 : decode cX11_copies 295 = .ok (.bipush 60, 2) := by decide +kernel
theorem dX11_copies_297 : decode cX11_copies 297 = .ok (.iload_n 2, 1) := by decide +kernel
theorem dX11_copies_298 : decode cX11_copies 298 = .ok (.imul, 1) := by decide +kernel
theorem dX11_copies_299 : decode cX11_copies 299 = .ok (.iload_n 3, 1) := by decide +kernel
theorem dX11_copies_300 : decode cX11_copies 300 = .ok (.iadd, 1) := by decide +kernel
theorem dX11_copies_301 : decode cX11_copies 301 = .ok (.aload_n 0, 1) := by decide +kernel
theorem dX11_copies_302 : decode cX11_copies 302 = .ok (.getfield 49, 3) := by decide +kernel
theorem dX11_copies_305 : decode cX11_copies 305 = .ok (.bipush 60, 2) := by decide +kernel
theorem dX11_copies_307 : decode cX11_copies 307 = .ok (.iload_n 1, 1) := by decide +kernel
theorem dX11_copies_308 : decode cX11_copies 308 = .ok (.imul, 1) := by decide +kernel
theorem dX11_copies_309 : decode cX11_copies 309 = .ok (.iload_n 3, 1) := by decide +kernel
theorem dX11_copies_310 : decode cX11_copies 310 = .ok (.iadd, 1) := by decide +kernel
theorem dX11_copies_311 : decode cX11_copies 311 = .ok (.iaload, 1) := by decide +kernel
theorem dX11_copies_312 : decode cX11_copies 312 = .ok (.iastore, 1) := by decide +kernel
theorem dX11_copies_313 : decode cX11_copies 313 = .ok (.iinc 3 1, 3) := by decide +kernel
theorem dX11_copies_316 : decode cX11_copies 316 = .ok (.goto (-97), 3) := by decide +kernel
theorem dX11_copies_319 : decode cX11_copies 319 = .ok (.iconst 0, 1) := by decide +kernel
theorem dX11_copies_320 : decode cX11_copies 320 = .ok (.istore_n 3, 1) := by decide +kernel
theorem dX11_copies_321 : decode cX11_copies 321 = .ok (.iload_n 3, 1) := by decide +kernel
theorem dX11_copies_322 : decode cX11_copies 322 = .ok (.bipush 10, 2) := by decide +kernel
theorem dX11_copies_324 : decode cX11_copies 324 = .ok (.if_icmp .ge 31, 3) := by decide +kernel
theorem dX11_copies_327 : decode cX11_copies 327 = .ok (.aload_n 0, 1) := by decide +kernel
theorem dX11_copies_328 : decode cX11_copies 328 = .ok (.getfield 52, 3) := by decide +kernel
theorem dX11_copies_331 : decode cX11_copies 331 = .ok (.bipush 10, 2) := by decide +kernel
theorem dX11_copies_333 : decode cX11_copies 333 = .ok (.iload_n 2, 1) := by decide +kernel
theorem dX11_copies_334 : decode cX11_copies 334 = .ok (.imul, 1) := by decide +kernel
theorem dX11_copies_335 : decode cX11_copies 335 = .ok (.iload_n 3, 1) := by decide +kernel
theorem dX11_copies_336 : decode cX11_copies 336 = .ok (.iadd, 1) := by decide +kernel
theorem dX11_copies_337 : decode cX11_copies 337 = .ok (.aload_n 0, 1) := by decide +kernel
theorem dX11_copies_338 : decode cX11_copies 338 = .ok (.getfield 52, 3) := by decide +kernel
theorem dX11_copies_341 : decode cX11_copies 341 = .ok (.bipush 10, 2) := by decide +kernel
theorem dX11_copies_343 : decode cX11_copies 343 = .ok (.iload_n 1, 1) := by decide +kernel
theorem dX11_copies_344 : decode cX11_copies 344 = .ok (.imul, 1) := by decide +kernel
theorem dX11_copies_345 : decode cX11_copies 345 = .ok (.iload_n 3, 1) := by decide +kernel
theorem dX11_copies_346 : decode cX11_copies 346 = .ok (.iadd, 1) := by decide +kernel
theorem dX11_copies_347 : decode cX11_copies 347 = .ok (.iaload, 1) := by decide +kernel
theorem dX11_copies_348 : decode cX11_copies 348 = .ok (.iastore, 1) := by decide +kernel
theorem dX11_copies_349 : decode cX11_copies 349 = .ok (.iinc 3 1, 3) := by decide +kernel
theorem dX11_copies_352 : decode cX11_copies 352 = .ok (.goto (-31), 3) := by decide +kernel
theorem dX11_copies_355 : decode cX11_copies 355 = .ok (.iconst 0, 1) := by decide +kernel
theorem dX11_copies_356 : decode cX11_copies 356 = .ok (.istore_n 3, 1) := by decide +kernel
theorem dX11_copies_357 : decode cX11_copies 357 = .ok (.iload_n 3, 1) := by decide +kernel
theorem dX11_copies_358 : decode cX11_copies 358 = .ok (.bipush 40, 2) := by decide +kernel
theorem dX11_copies_360 : decode cX11_copies 360 = .ok (.if_icmp .ge 97, 3) := by decide +kernel
theorem dX11_copies_363 : decode cX11_copies 363 = .ok (.aload_n 0, 1) := by decide +kernel
theorem dX11_copies_364 : decode cX11_copies 364 = .ok (.getfield 68, 3) := by decide +kernel
theorem dX11_copies_367 : decode cX11_copies 367 = .ok (.bipush 40, 2) := by decide +kernel
theorem dX11_copies_369 : decode cX11_copies 369 = .ok (.iload_n 2, 1) := by decide +kernel
theorem dX11_copies_370 : decode cX11_copies 370 = .ok (.imul, 1) := by decide +kernel
theorem dX11_copies_371 : decode cX11_copies 371 = .ok (.iload_n 3, 1) := by decide +kernel
theorem dX11_copies_372 : decode cX11_copies 372 = .ok (.iadd, 1) := by decide +kernel
theorem dX11_copies_373 : decode cX11_copies 373 = .ok (.aload_n 0, 1) := by decide +kernel
theorem dX11_copies_374 : decode cX11_copies 374 = .ok (.getfield 68, 3) := by decide +kernel
theorem dX11_copies_377 : decode cX11_copies 377 = .ok (.bipush 40, 2) := by decide +kernel
theorem dX11_copies_379 : decode cX11_copies 379 = .ok (.iload_n 1, 1) := by decide +kernel
theorem dX11_copies_380 : decode cX11_copies 380 = .ok (.imul, 1) := by decide +kernel
theorem dX11_copies_381 : decode cX11_copies 381 = .ok (.iload_n 3, 1) := by decide +kernel
theorem dX11_copies_382 : decode cX11_copies 382 = .ok (.iadd, 1) := by decide +kernel
theorem dX11_copies_383 : decode cX11_copies 383 = .ok (.baload, 1) := by decide +kernel
theorem dX11_copies_384 : decode cX11_copies 384 = .ok (.bastore, 1) := by decide +kernel
theorem dX11_copies_385 : decode cX11_copies 385 = .ok (.aload_n 0, 1) := by decide +kernel
theorem dX11_copies_386 : decode cX11_copies 386 = .ok (.getfield 55, 3) := by decide +kernel
theorem dX11_copies_389 : decode cX11_copies 389 = .ok (.bipush 40, 2) := by decide +kernel
theorem dX11_copies_391 : decode cX11_copies 391 = .ok (.iload_n 2, 1) := by decide +kernel
theorem dX11_copies_392 : decode cX11_copies 392 = .ok (.imul, 1) := by decide +kernel
theorem dX11_copies_393 : decode cX11_copies 393 = .ok (.iload_n 3, 1) := by decide +kernel
theorem dX11_copies_394 : decode cX11_copies 394 = .ok (.iadd, 1) := by decide +kernel
theorem dX11_copies_395 : decode cX11_copies 395 = .ok (.aload_n 0, 1) := by decide +kernel
theorem dX11_copies_396 : decode cX11_copies 396 = .ok (.getfield 55, 3) := by decide +kernel
theorem dX11_copies_399 : decode cX11_copies 399 = .ok (.bipush 40, 2) := by decide +kernel
theorem dX11_copies_401 : decode cX11_copies 401 = .ok (.iload_n 1, 1) := by decide +kernel
theorem dX11_copies_402 : decode cX11_copies 402 = .ok (.imul, 1) := by decide +kernel
theorem dX11_copies_403 : decode cX11_copies 403 = .ok (.iload_n 3, 1) := by decide +kernel
theorem dX11_copies_404 : decode cX11_copies 404 = .ok (.iadd, 1) := by decide +kernel
theorem dX11_copies_405 : decode cX11_copies 405 = .ok (.iaload, 1) := by decide +kernel
theorem dX11_copies_406 : decode cX11_copies 406 = .ok (.iastore, 1) := by decide +kernel
theorem dX11_copies_407 : decode cX11_copies 407 = .ok (.aload_n 0, 1) := by decide +kernel
theorem dX11_copies_408 : decode cX11_copies 408 = .ok (.getfield 58, 3) := by decide +kernel
theorem dX11_copies_411 : decode cX11_copies 411 = .ok (.bipush 40, 2) := by decide +kernel
theorem dX11_copies_413 : decode cX11_copies 413 = .ok (.iload_n 2, 1) := by decide +kernel
theorem dX11_copies_414 : decode cX11_copies 414 = .ok (.imul, 1) := by decide +kernel
theorem dX11_copies_415 : decode cX11_copies 415 = .ok (.iload_n 3, 1) := by decide +kernel
theorem dX11_copies_416 : decode cX11_copies 416 = .ok (.iadd, 1) := by decide +kernel
theorem dX11_copies_417 : decode cX11_copies 417 = .ok (.aload_n 0, 1) := by decide +kernel
theorem dX11_copies_418 : decode cX11_copies 418 = .ok (.getfield 58, 3) := by decide +kernel
theorem dX11_copies_421 : decode cX11_copies 421 = .ok (.bipush 40, 2) := by decide +kernel
theorem dX11_copies_423 : decode cX11_copies 423 = .ok (.iload_n 1, 1) := by decide +kernel
theorem dX11_copies_424 : decode cX11_copies 424 = .ok (.imul, 1) := by decide +kernel
theorem dX11_copies_425 : decode cX11_copies 425 = .ok (.iload_n 3, 1) := by decide +kernel
theorem dX11_copies_426 : decode cX11_copies 426 = .ok (.iadd, 1) := by decide +kernel
theorem dX11_copies_427 : decode cX11_copies 427 = .ok (.iaload, 1) := by decide +kernel
theorem dX11_copies_428 : decode cX11_copies 428 = .ok (.iastore, 1) := by decide +kernel
theorem dX11_copies_429 : decode cX11_copies 429 = .ok (.aload_n 0, 1) := by decide +kernel
theorem dX11_copies_430 : decode cX11_copies 430 = .ok (.getfield 61, 3) := by decide +kernel
theorem dX11_copies_433 : decode cX11_copies 433 = .ok (.bipush 40, 2) := by decide +kernel
theorem dX11_copies_435 : decode cX11_copies 435 = .ok (.iload_n 2, 1) := by decide +kernel
theorem dX11_copies_436 : decode cX11_copies 436 = .ok (.imul, 1) := by decide +kernel
theorem dX11_copies_437 : decode cX11_copies 437 = .ok (.iload_n 3, 1) := by decide +kernel
theorem dX11_copies_438 : decode cX11_copies 438 = .ok (.iadd, 1) := by decide +kernel
theorem dX11_copies_439 : decode cX11_copies 439 = .ok (.aload_n 0, 1) := by decide +kernel
theorem dX11_copies_440 : decode cX11_copies 440 = .ok (.getfield 61, 3) := by decide +kernel
theorem dX11_copies_443 : decode cX11_copies 443 = .ok (.bipush 40, 2) := by decide +kernel
theorem dX11_copies_445 : decode cX11_copies 445 = .ok (.iload_n 1, 1) := by decide +kernel
theorem dX11_copies_446 : decode cX11_copies 446 = .ok (.imul, 1) := by decide +kernel
theorem dX11_copies_447 : decode cX11_copies 447 = .ok (.iload_n 3, 1) := by decide +kernel
theorem dX11_copies_448 : decode cX11_copies 448 = .ok (.iadd, 1) := by decide +kernel
theorem dX11_copies_449 : decode cX11_copies 449 = .ok (.iaload, 1) := by decide +kernel
theorem dX11_copies_450 : decode cX11_copies 450 = .ok (.iastore, 1) := by decide +kernel
theorem dX11_copies_451 : decode cX11_copies 451 = .ok (.iinc 3 1, 3) := by decide +kernel
theorem dX11_copies_454 : decode cX11_copies 454 = .ok (.goto (-97), 3) := by decide +kernel
theorem dX11_copies_457 : decode cX11_copies 457 = .ok (.return_, 1) := by decide +kernel
theorem dX11_image_0 : decode cX11_image 0 = .ok (.aload_n 0, 1) := by decide +kernel
theorem dX11_image_1 : decode cX11_image 1 = .ok (.getfield 172, 3) := by decide +kernel
theorem dX11_image_4 : decode cX11_image 4 = .ok (.iconst 3, 1) := by decide +kernel
theorem dX11_image_5 : decode cX11_image 5 = .ok (.if_icmp .ne 9, 3) := by decide +kernel
theorem dX11_image_8 : decode cX11_image 8 = .ok (.aload_n 0, 1) := by decide +kernel
theorem dX11_image_9 : decode cX11_image 9 = .ok (.iconst 1, 1) := by decide +kernel
theorem dX11_image_10 : decode cX11_image 10 = .ok (.invokevirtual 175, 3) := by decide +kernel
theorem dX11_image_13 : decode cX11_image 13 = .ok (.ireturn, 1) := by decide +kernel
theorem dX11_image_14 : decode cX11_image 14 = .ok (.aload_n 0, 1) := by decide +kernel
theorem dX11_image_15 : decode cX11_image 15 = .ok (.dup, 1) := by decide +kernel
theorem dX11_image_16 : decode cX11_image 16 = .ok (.getfield 172, 3) := by decide +kernel
theorem dX11_image_19 : decode cX11_image 19 = .ok (.iconst 1, 1) := by decide +kernel
theorem dX11_image_20 : decode cX11_image 20 = .ok (.iadd, 1) := by decide +kernel
theorem dX11_image_21 : decode cX11_image 21 = .ok (.putfield 172, 3) := by decide +kernel
theorem dX11_image_24 : decode cX11_image 24 = .ok (.aload_n 0, 1) := by decide +kernel
theorem dX11_image_25 : decode cX11_image 25 = .ok (.iconst 0, 1) := by decide +kernel
theorem dX11_image_26 : decode cX11_image 26 = .ok (.aload_n 0, 1) := by decide +kernel
theorem dX11_image_27 : decode cX11_image 27 = .ok (.getfield 172, 3) := by decide +kernel
theorem dX11_image_30 : decode cX11_image 30 = .ok (.invokevirtual 179, 3) := by decide +kernel
theorem dX11_image_33 : decode cX11_image 33 = .ok (.aload_n 0, 1) := by decide +kernel
theorem dX11_image_34 : decode cX11_image 34 = .ok (.getfield 172, 3) := by decide +kernel
theorem dX11_image_37 : decode cX11_image 37 = .ok (.iconst 1, 1) := by decide +kernel
theorem dX11_image_38 : decode cX11_image 38 = .ok (.isub, 1) := by decide +kernel
theorem dX11_image_39 : decode cX11_image 39 = .ok (.ireturn, 1) := by decide +kernel
theorem dX11_restore_0 : decode cX11_restore 0 = .ok (.iload_n 1, 1) := by decide +kernel
theorem dX11_restore_1 : decode cX11_restore 1 = .ok (.iconst 0, 1) := by decide +kernel
theorem dX11_restore_2 : decode cX11_restore 2 = .ok (.aload_n 0, 1) := by decide +kernel
theorem dX11_restore_3 : decode cX11_restore 3 = .ok (.getfield 172, 3) := by decide +kernel
theorem dX11_restore_6 : decode cX11_restore 6 = .ok (.iconst 1, 1) := by decide +kernel
theorem dX11_restore_7 : decode cX11_restore 7 = .ok (.isub, 1) := by decide +kernel
theorem dX11_restore_8 : decode cX11_restore 8 = .ok (.invokestatic 183, 3) := by decide +kernel
theorem dX11_restore_11 : decode cX11_restore 11 = .ok (.ifCond .ne 8, 3) := by decide +kernel
theorem dX11_restore_14 : decode cX11_restore 14 = .ok (.aload_n 0, 1) := by decide +kernel
theorem dX11_restore_15 : decode cX11_restore 15 = .ok (.invokevirtual 187, 3) := by decide +kernel
theorem dX11_restore_18 : decode cX11_restore 18 = .ok (.ireturn, 1) := by decide +kernel
theorem dX11_restore_19 : decode cX11_restore 19 = .ok (.aload_n 0, 1) := by decide +kernel
theorem dX11_restore_20 : decode cX11_restore 20 = .ok (.iload_n 1, 1) := by decide +kernel
theorem dX11_restore_21 : decode cX11_restore 21 = .ok (.iconst 1, 1) := by decide +kernel
theorem dX11_restore_22 : decode cX11_restore 22 = .ok (.iadd, 1) := by decide +kernel
theorem dX11_restore_23 : decode cX11_restore 23 = .ok (.iconst 0, 1) := by decide +kernel
theorem dX11_restore_24 : decode cX11_restore 24 = .ok (.invokevirtual 179, 3) := by decide +kernel
theorem dX11_restore_27 : decode cX11_restore 27 = .ok (.iconst 1, 1) := by decide +kernel
theorem dX11_restore_28 : decode cX11_restore 28 = .ok (.ireturn, 1) := by decide +kernel
theorem dX11_sound_0 : decode cX11_sound 0 = .ok (.iload_n 1, 1) := by decide +kernel
theorem dX11_sound_1 : decode cX11_sound 1 = .ok (.invokestatic 191, 3) := by decide +kernel
theorem dX11_sound_4 : decode cX11_sound 4 = .ok (.ifCond .eq 23, 3) := by decide +kernel
theorem dX11_sound_7 : decode cX11_sound 7 = .ok (.iload_n 2, 1) := by decide +kernel
theorem dX11_sound_8 : decode cX11_sound 8 = .ok (.iconst 0, 1) := by decide +kernel
theorem dX11_sound_9 : decode cX11_sound 9 = .ok (.bipush 99, 2) := by decide +kernel
theorem dX11_sound_11 : decode cX11_sound 11 = .ok (.invokestatic 183, 3) := by decide +kernel
theorem dX11_sound_14 : decode cX11_sound 14 = .ok (.ifCond .eq 13, 3) := by decide +kernel
theorem dX11_sound_17 : decode cX11_sound 17 = .ok (.iload_n 3, 1) := by decide +kernel
theorem dX11_sound_18 : decode cX11_sound 18 = .ok (.iload_n 2, 1) := by decide +kernel
theorem dX11_sound_19 : decode cX11_sound 19 = .ok (.bipush 99, 2) := by decide +kernel
theorem dX11_sound_21 : decode cX11_sound 21 = .ok (.invokestatic 183, 3) := by decide +kernel
theorem dX11_sound_24 : decode cX11_sound 24 = .ok (.ifCond .ne 8, 3) := by decide +kernel
theorem dX11_sound_27 : decode cX11_sound 27 = .ok (.aload_n 0, 1) := by decide +kernel
theorem dX11_sound_28 : decode cX11_sound 28 = .ok (.invokevirtual 187, 3) := by decide +kernel
theorem dX11_sound_31 : decode cX11_sound 31 = .ok (.ireturn, 1) := by decide +kernel
theorem dX11_sound_32 : decode cX11_sound 32 = .ok (.aload_n 0, 1) := by decide +kernel
theorem dX11_sound_33 : decode cX11_sound 33 = .ok (.getfield 25, 3) := by decide +kernel
theorem dX11_sound_36 : decode cX11_sound 36 = .ok (.iload_n 1, 1) := by decide +kernel
theorem dX11_sound_37 : decode cX11_sound 37 = .ok (.iload_n 2, 1) := by decide +kernel
theorem dX11_sound_38 : decode cX11_sound 38 = .ok (.iastore, 1) := by decide +kernel
theorem dX11_sound_39 : decode cX11_sound 39 = .ok (.aload_n 0, 1) := by decide +kernel
theorem dX11_sound_40 : decode cX11_sound 40 = .ok (.getfield 28, 3) := by decide +kernel
theorem dX11_sound_43 : decode cX11_sound 43 = .ok (.iload_n 1, 1) := by decide +kernel
theorem dX11_sound_44 : decode cX11_sound 44 = .ok (.iload_n 3, 1) := by decide +kernel
theorem dX11_sound_45 : decode cX11_sound 45 = .ok (.iastore, 1) := by decide +kernel
theorem dX11_sound_46 : decode cX11_sound 46 = .ok (.iconst 1, 1) := by decide +kernel
theorem dX11_sound_47 : decode cX11_sound 47 = .ok (.ireturn, 1) := by decide +kernel
theorem dX11_feed_0 : decode cX11_feed 0 = .ok (.aload_n 0, 1) := by decide +kernel
theorem dX11_feed_1 : decode cX11_feed 1 = .ok (.getfield 195, 3) := by decide +kernel
theorem dX11_feed_4 : decode cX11_feed 4 = .ok (.bipush 20, 2) := by decide +kernel
theorem dX11_feed_6 : decode cX11_feed 6 = .ok (.iadd, 1) := by decide +kernel
theorem dX11_feed_7 : decode cX11_feed 7 = .ok (.sipush 700, 3) := by decide +kernel
theorem dX11_feed_10 : decode cX11_feed 10 = .ok (.if_icmp .le 5, 3) := by decide +kernel
theorem dX11_feed_13 : decode cX11_feed 13 = .ok (.iconst (-1), 1) := by decide +kernel
theorem dX11_feed_14 : decode cX11_feed 14 = .ok (.ireturn, 1) := by decide +kernel
theorem dX11_feed_15 : decode cX11_feed 15 = .ok (.iconst 0, 1) := by decide +kernel
theorem dX11_feed_16 : decode cX11_feed 16 = .ok (.istore 6, 2) := by decide +kernel
theorem dX11_feed_18 : decode cX11_feed 18 = .ok (.iload 6, 2) := by decide +kernel
theorem dX11_feed_20 : decode cX11_feed 20 = .ok (.bipush 20, 2) := by decide +kernel
theorem dX11_feed_22 : decode cX11_feed 22 = .ok (.if_icmp .ge 90, 3) := by decide +kernel
theorem dX11_feed_25 : decode cX11_feed 25 = .ok (.iload 6, 2) := by decide +kernel
theorem dX11_feed_27 : decode cX11_feed 27 = .ok (.iconst 4, 1) := by decide +kernel
theorem dX11_feed_28 : decode cX11_feed 28 = .ok (.if_icmp .ge 7, 3) := by decide +kernel
theorem dX11_feed_31 : decode cX11_feed 31 = .ok (.iload_n 1, 1) := by decide +kernel
theorem dX11_feed_32 : decode cX11_feed 32 = .ok (.goto 39, 3) := by decide +kernel
theorem dX11_feed_35 : decode cX11_feed 35 = .ok (.iload 6, 2) := by decide +kernel
theorem dX11_feed_37 : decode cX11_feed 37 = .ok (.bipush 8, 2) := by decide +kernel
theorem dX11_feed_39 : decode cX11_feed 39 = .ok (.if_icmp .ge 7, 3) := by decide +kernel
theorem dX11_feed_42 : decode cX11_feed 42 = .ok (.iload_n 2, 1) := by decide +kernel
theorem dX11_feed_43 : decode cX11_feed 43 = .ok (.goto 28, 3) := by decide +kernel
theorem dX11_feed_46 : decode cX11_feed 46 = .ok (.iload 6, 2) := by decide +kernel
theorem dX11_feed_48 : decode cX11_feed 48 = .ok (.bipush 12, 2) := by decide +kernel
theorem dX11_feed_50 : decode cX11_feed 50 = .ok (.if_icmp .ge 7, 3) := by decide +kernel
theorem dX11_feed_53 : decode cX11_feed 53 = .ok (.iload_n 3, 1) := by decide +kernel
theorem dX11_feed_54 : decode cX11_feed 54 = .ok (.goto 17, 3) := by decide +kernel
theorem dX11_feed_57 : decode cX11_feed 57 = .ok (.iload 6, 2) := by decide +kernel
theorem dX11_feed_59 : decode cX11_feed 59 = .ok (.bipush 16, 2) := by decide +kernel
theorem dX11_feed_61 : decode cX11_feed 61 = .ok (.if_icmp .ge 8, 3) := by decide +kernel
theorem dX11_feed_64 : decode cX11_feed 64 = .ok (.iload 4, 2) := by decide +kernel
theorem dX11_feed_66 : decode cX11_feed 66 = .ok (.goto 5, 3) := by decide +kernel
theorem dX11_feed_69 : decode cX11_feed 69 = .ok (.iload 5, 2) := by decide +kernel
theorem dX11_feed_71 : decode cX11_feed 71 = .ok (.istore 7, 2) := by decide +kernel
theorem dX11_feed_73 : decode cX11_feed 73 = .ok (.aload_n 0, 1) := by decide +kernel
theorem dX11_feed_74 : decode cX11_feed 74 = .ok (.getfield 104, 3) := by decide +kernel
theorem dX11_feed_77 : decode cX11_feed 77 = .ok (.aload_n 0, 1) := by decide +kernel
theorem dX11_feed_78 : decode cX11_feed 78 = .ok (.getfield 195, 3) := by decide +kernel
theorem dX11_feed_81 : decode cX11_feed 81 = .ok (.iload 7, 2) := by decide +kernel
theorem dX11_feed_83 : decode cX11_feed 83 = .ok (.bipush 24, 2) := by decide +kernel
theorem dX11_feed_85 : decode cX11_feed 85 = .ok (.bipush 8, 2) := by decide +kernel
theorem dX11_feed_87 : decode cX11_feed 87 = .ok (.iload 6, 2) := by decide +kernel
theorem dX11_feed_89 : decode cX11_feed 89 = .ok (.iconst 4, 1) := by decide +kernel
theorem dX11_feed_90 : decode cX11_feed 90 = .ok (.irem, 1) := by decide +kernel
theorem dX11_feed_91 : decode cX11_feed 91 = .ok (.imul, 1) := by decide +kernel
theorem dX11_feed_92 : decode cX11_feed 92 = .ok (.isub, 1) := by decide +kernel
theorem dX11_feed_93 : decode cX11_feed 93 = .ok (.ishr, 1) := by decide +kernel
theorem dX11_feed_94 : decode cX11_feed 94 = .ok (.i2b, 1) := by decide +kernel
theorem dX11_feed_95 : decode cX11_feed 95 = .ok (.bastore, 1) := by decide +kernel
theorem dX11_feed_96 : decode cX11_feed 96 = .ok (.aload_n 0, 1) := by decide +kernel
theorem dX11_feed_97 : decode cX11_feed 97 = .ok (.dup, 1) := by decide +kernel
theorem dX11_feed_98 : decode cX11_feed 98 = .ok (.getfield 195, 3) := by decide +kernel
theorem dX11_feed_101 : decode cX11_feed 101 = .ok (.iconst 1, 1) := by decide +kernel
theorem dX11_feed_102 : decode cX11_feed 102 = .ok (.iadd, 1) := by decide +kernel
theorem dX11_feed_103 : decode cX11_feed 103 = .ok (.putfield 195, 3) := by decide +kernel
theorem dX11_feed_106 : decode cX11_feed 106 = .ok (.iinc 6 1, 3) := by decide +kernel
theorem dX11_feed_109 : decode cX11_feed 109 = .ok (.goto (-91), 3) := by decide +kernel
theorem dX11_feed_112 : decode cX11_feed 112 = .ok (.aload_n 0, 1) := by decide +kernel
theorem dX11_feed_113 : decode cX11_feed 113 = .ok (.getfield 195, 3) := by decide +kernel
theorem dX11_feed_116 : decode cX11_feed 116 = .ok (.ireturn, 1) := by decide +kernel
theorem dX11_here_0 : decode cX11_here 0 = .ok (.aload_n 0, 1) := by decide +kernel
theorem dX11_here_1 : decode cX11_here 1 = .ok (.getfield 198, 3) := by decide +kernel
theorem dX11_here_4 : decode cX11_here 4 = .ok (.aload_n 0, 1) := by decide +kernel
theorem dX11_here_5 : decode cX11_here 5 = .ok (.getfield 201, 3) := by decide +kernel
theorem dX11_here_8 : decode cX11_here 8 = .ok (.if_icmp .ge 19, 3) := by decide +kernel
theorem dX11_here_11 : decode cX11_here 11 = .ok (.aload_n 0, 1) := by decide +kernel
theorem dX11_here_12 : decode cX11_here 12 = .ok (.getfield 104, 3) := by decide +kernel
theorem dX11_here_15 : decode cX11_here 15 = .ok (.aload_n 0, 1) := by decide +kernel
theorem dX11_here_16 : decode cX11_here 16 = .ok (.getfield 198, 3) := by decide +kernel
theorem dX11_here_19 : decode cX11_here 19 = .ok (.baload, 1) := by decide +kernel
theorem dX11_here_20 : decode cX11_here 20 = .ok (.sipush 255, 3) := by decide +kernel
theorem dX11_here_23 : decode cX11_here 23 = .ok (.iand, 1) := by decide +kernel
theorem dX11_here_24 : decode cX11_here 24 = .ok (.goto 4, 3) := by decide +kernel
theorem dX11_here_27 : decode cX11_here 27 = .ok (.iconst (-1), 1) := by decide +kernel
theorem dX11_here_28 : decode cX11_here 28 = .ok (.ireturn, 1) := by decide +kernel
theorem dX11_next_0 : decode cX11_next 0 = .ok (.aload_n 0, 1) := by decide +kernel
theorem dX11_next_1 : decode cX11_next 1 = .ok (.invokevirtual 204, 3) := by decide +kernel
theorem dX11_next_4 : decode cX11_next 4 = .ok (.bipush 32, 2) := by decide +kernel
theorem dX11_next_6 : decode cX11_next 6 = .ok (.if_icmp .eq 12, 3) := by decide +kernel
theorem dX11_next_9 : decode cX11_next 9 = .ok (.aload_n 0, 1) := by decide +kernel
theorem dX11_next_10 : decode cX11_next 10 = .ok (.invokevirtual 204, 3) := by decide +kernel
theorem dX11_next_13 : decode cX11_next 13 = .ok (.bipush 10, 2) := by decide +kernel
theorem dX11_next_15 : decode cX11_next 15 = .ok (.if_icmp .ne 16, 3) := by decide +kernel
theorem dX11_next_18 : decode cX11_next 18 = .ok (.aload_n 0, 1) := by decide +kernel
theorem dX11_next_19 : decode cX11_next 19 = .ok (.dup, 1) := by decide +kernel
theorem dX11_next_20 : decode cX11_next 20 = .ok (.getfield 198, 3) := by decide +kernel
theorem dX11_next_23 : decode cX11_next 23 = .ok (.iconst 1, 1) := by decide +kernel
theorem dX11_next_24 : decode cX11_next 24 = .ok (.iadd, 1) := by decide +kernel
theorem dX11_next_25 : decode cX11_next 25 = .ok (.putfield 198, 3) := by decide +kernel
theorem dX11_next_28 : decode cX11_next 28 = .ok (.goto (-28), 3) := by decide +kernel
theorem dX11_next_31 : decode cX11_next 31 = .ok (.aload_n 0, 1) := by decide +kernel
theorem dX11_next_32 : decode cX11_next 32 = .ok (.aload_n 0, 1) := by decide +kernel
theorem dX11_next_33 : decode cX11_next 33 = .ok (.getfield 198, 3) := by decide +kernel
theorem dX11_next_36 : decode cX11_next 36 = .ok (.putfield 208, 3) := by decide +kernel
theorem dX11_next_39 : decode cX11_next 39 = .ok (.aload_n 0, 1) := by decide +kernel
theorem dX11_next_40 : decode cX11_next 40 = .ok (.invokevirtual 204, 3) := by decide +kernel
theorem dX11_next_43 : decode cX11_next 43 = .ok (.istore_n 1, 1) := by decide +kernel
theorem dX11_next_44 : decode cX11_next 44 = .ok (.aload_n 0, 1) := by decide +kernel
theorem dX11_next_45 : decode cX11_next 45 = .ok (.ldc2_w 211, 3) := by decide +kernel
theorem dX11_next_48 : decode cX11_next 48 = .ok (.putfield 213, 3) := by decide +kernel
theorem dX11_next_51 : decode cX11_next 51 = .ok (.aload_n 0, 1) := by decide +kernel
theorem dX11_next_52 : decode cX11_next 52 = .ok (.iconst 0, 1) := by decide +kernel
theorem dX11_next_53 : decode cX11_next 53 = .ok (.putfield 217, 3) := by decide +kernel
theorem dX11_next_56 : decode cX11_next 56 = .ok (.iload_n 1, 1) := by decide +kernel
theorem dX11_next_57 : decode cX11_next 57 = .ok (.ifCond .ge 11, 3) := by decide +kernel
theorem dX11_next_60 : decode cX11_next 60 = .ok (.aload_n 0, 1) := by decide +kernel
theorem dX11_next_61 : decode cX11_next 61 = .ok (.iconst 0, 1) := by decide +kernel
theorem dX11_next_62 : decode cX11_next 62 = .ok (.putfield 220, 3) := by decide +kernel
theorem dX11_next_65 : decode cX11_next 65 = .ok (.goto 238, 3) := by decide +kernel
theorem dX11_next_68 : decode cX11_next 68 = .ok (.iload_n 1, 1) := by decide +kernel
theorem dX11_next_69 : decode cX11_next 69 = .ok (.bipush 97, 2) := by decide +kernel
theorem dX11_next_71 : decode cX11_next 71 = .ok (.bipush 122, 2) := by decide +kernel
theorem dX11_next_73 : decode cX11_next 73 = .ok (.invokestatic 183, 3) := by decide +kernel
theorem dX11_next_76 : decode cX11_next 76 = .ok (.ifCond .eq 81, 3) := by decide +kernel
theorem dX11_next_79 : decode cX11_next 79 = .ok (.aload_n 0, 1) := by decide +kernel
theorem dX11_next_80 : decode cX11_next 80 = .ok (.iconst 1, 1) := by decide +kernel
theorem dX11_next_81 : decode cX11_next 81 = .ok (.putfield 220, 3) := by decide +kernel
theorem dX11_next_84 : decode cX11_next 84 = .ok (.aload_n 0, 1) := by decide +kernel
theorem dX11_next_85 : decode cX11_next 85 = .ok (.lconst 0, 1) := by decide +kernel
theorem dX11_next_86 : decode cX11_next 86 = .ok (.putfield 213, 3) := by decide +kernel
theorem dX11_next_89 : decode cX11_next 89 = .ok (.aload_n 0, 1) := by decide +kernel
theorem dX11_next_90 : decode cX11_next 90 = .ok (.invokevirtual 204, 3) := by decide +kernel
theorem dX11_next_93 : decode cX11_next 93 = .ok (.bipush 97, 2) := by decide +kernel
theorem dX11_next_95 : decode cX11_next 95 = .ok (.bipush 122, 2) := by decide +kernel
theorem dX11_next_97 : decode cX11_next 97 = .ok (.invokestatic 183, 3) := by decide +kernel
theorem dX11_next_100 : decode cX11_next 100 = .ok (.ifCond .eq 203, 3) := by decide +kernel
theorem dX11_next_103 : decode cX11_next 103 = .ok (.aload_n 0, 1) := by decide +kernel
theorem dX11_next_104 : decode cX11_next 104 = .ok (.aload_n 0, 1) := by decide +kernel
theorem dX11_next_105 : decode cX11_next 105 = .ok (.getfield 198, 3) := by decide +kernel
theorem dX11_next_108 : decode cX11_next 108 = .ok (.aload_n 0, 1) := by decide +kernel
theorem dX11_next_109 : decode cX11_next 109 = .ok (.getfield 208, 3) := by decide +kernel
theorem dX11_next_112 : decode cX11_next 112 = .ok (.isub, 1) := by decide +kernel
theorem dX11_next_113 : decode cX11_next 113 = .ok (.bipush 10, 2) := by decide +kernel
theorem dX11_next_115 : decode cX11_next 115 = .ok (.if_icmp .ge 23, 3) := by decide +kernel
theorem dX11_next_118 : decode cX11_next 118 = .ok (.aload_n 0, 1) := by decide +kernel
theorem dX11_next_119 : decode cX11_next 119 = .ok (.getfield 213, 3) := by decide +kernel
theorem dX11_next_122 : decode cX11_next 122 = .ok (.ldc2_w 223, 3) := by decide +kernel
theorem dX11_next_125 : decode cX11_next 125 = .ok (.lmul, 1) := by decide +kernel
theorem dX11_next_126 : decode cX11_next 126 = .ok (.aload_n 0, 1) := by decide +kernel
theorem dX11_next_127 : decode cX11_next 127 = .ok (.invokevirtual 204, 3) := by decide +kernel
theorem dX11_next_130 : decode cX11_next 130 = .ok (.bipush 96, 2) := by decide +kernel
theorem dX11_next_132 : decode cX11_next 132 = .ok (.isub, 1) := by decide +kernel
theorem dX11_next_133 : decode cX11_next 133 = .ok (.i2l, 1) := by decide +kernel
theorem dX11_next_134 : decode cX11_next 134 = .ok (.ladd, 1) := by decide +kernel
theorem dX11_next_135 : decode cX11_next 135 = .ok (.goto 6, 3) := by decide +kernel
theorem dX11_next_138 : decode cX11_next 138 = .ok (.ldc2_w 211, 3) := by decide +kernel
theorem dX11_next_141 : decode cX11_next 141 = .ok (.putfield 213, 3) := by decide +kernel
theorem dX11_next_144 : decode cX11_next 144 = .ok (.aload_n 0, 1) := by decide +kernel
theorem dX11_next_145 : decode cX11_next 145 = .ok (.dup, 1) := by decide +kernel
theorem dX11_next_146 : decode cX11_next 146 = .ok (.getfield 198, 3) := by decide +kernel
theorem dX11_next_149 : decode cX11_next 149 = .ok (.iconst 1, 1) := by decide +kernel
theorem dX11_next_150 : decode cX11_next 150 = .ok (.iadd, 1) := by decide +kernel
theorem dX11_next_151 : decode cX11_next 151 = .ok (.putfield 198, 3) := by decide +kernel
theorem dX11_next_154 : decode cX11_next 154 = .ok (.goto (-65), 3) := by decide +kernel
theorem dX11_next_157 : decode cX11_next 157 = .ok (.iload_n 1, 1) := by decide +kernel
theorem dX11_next_158 : decode cX11_next 158 = .ok (.bipush 48, 2) := by decide +kernel
theorem dX11_next_160 : decode cX11_next 160 = .ok (.bipush 57, 2) := by decide +kernel
theorem dX11_next_162 : decode cX11_next 162 = .ok (.invokestatic 183, 3) := by decide +kernel
theorem dX11_next_165 : decode cX11_next 165 = .ok (.ifCond .eq 83, 3) := by decide +kernel
theorem dX11_next_168 : decode cX11_next 168 = .ok (.aload_n 0, 1) := by decide +kernel
theorem dX11_next_169 : decode cX11_next 169 = .ok (.invokevirtual 204, 3) := by decide +kernel
theorem dX11_next_172 : decode cX11_next 172 = .ok (.bipush 48, 2) := by decide +kernel
theorem dX11_next_174 : decode cX11_next 174 = .ok (.bipush 57, 2) := by decide +kernel
theorem dX11_next_176 : decode cX11_next 176 = .ok (.invokestatic 183, 3) := by decide +kernel
theorem dX11_next_179 : decode cX11_next 179 = .ok (.ifCond .eq 44, 3) := by decide +kernel
theorem dX11_next_182 : decode cX11_next 182 = .ok (.aload_n 0, 1) := by decide +kernel
theorem dX11_next_183 : decode cX11_next 183 = .ok (.getfield 217, 3) := by decide +kernel
theorem dX11_next_186 : decode cX11_next 186 = .ok (.ldc 225, 2) := by decide +kernel
theorem dX11_next_188 : decode cX11_next 188 = .ok (.if_icmp .ge 22, 3) := by decide +kernel
theorem dX11_next_191 : decode cX11_next 191 = .ok (.aload_n 0, 1) := by decide +kernel
theorem dX11_next_192 : decode cX11_next 192 = .ok (.bipush 10, 2) := by decide +kernel
theorem dX11_next_194 : decode cX11_next 194 = .ok (.aload_n 0, 1) := by decide +kernel
theorem dX11_next_195 : decode cX11_next 195 = .ok (.getfield 217, 3) := by decide +kernel
theorem dX11_next_198 : decode cX11_next 198 = .ok (.imul, 1) := by decide +kernel
theorem dX11_next_199 : decode cX11_next 199 = .ok (.aload_n 0, 1) := by decide +kernel
theorem dX11_next_200 : decode cX11_next 200 = .ok (.invokevirtual 204, 3) := by decide +kernel
theorem dX11_next_203 : decode cX11_next 203 = .ok (.iadd, 1) := by decide +kernel
theorem dX11_next_204 : decode cX11_next 204 = .ok (.bipush 48, 2) := by decide +kernel
theorem dX11_next_206 : decode cX11_next 206 = .ok (.isub, 1) := by decide +kernel
theorem dX11_next_207 : decode cX11_next 207 = .ok (.putfield 217, 3) := by decide +kernel
theorem dX11_next_210 : decode cX11_next 210 = .ok (.aload_n 0, 1) := by decide +kernel
theorem dX11_next_211 : decode cX11_next 211 = .ok (.dup, 1) := by decide +kernel
theorem dX11_next_212 : decode cX11_next 212 = .ok (.getfield 198, 3) := by decide +kernel
theorem dX11_next_215 : decode cX11_next 215 = .ok (.iconst 1, 1) := by decide +kernel
theorem dX11_next_216 : decode cX11_next 216 = .ok (.iadd, 1) := by decide +kernel
theorem dX11_next_217 : decode cX11_next 217 = .ok (.putfield 198, 3) := by decide +kernel
theorem dX11_next_220 : decode cX11_next 220 = .ok (.goto (-52), 3) := by decide +kernel
theorem dX11_next_223 : decode cX11_next 223 = .ok (.aload_n 0, 1) := by decide +kernel
theorem dX11_next_224 : decode cX11_next 224 = .ok (.aload_n 0, 1) := by decide +kernel
theorem dX11_next_225 : decode cX11_next 225 = .ok (.getfield 198, 3) := by decide +kernel
theorem dX11_next_228 : decode cX11_next 228 = .ok (.aload_n 0, 1) := by decide +kernel
theorem dX11_next_229 : decode cX11_next 229 = .ok (.getfield 208, 3) := by decide +kernel
theorem dX11_next_232 : decode cX11_next 232 = .ok (.isub, 1) := by decide +kernel
theorem dX11_next_233 : decode cX11_next 233 = .ok (.iconst 4, 1) := by decide +kernel
theorem dX11_next_234 : decode cX11_next 234 = .ok (.if_icmp .gt 7, 3) := by decide +kernel
theorem dX11_next_237 : decode cX11_next 237 = .ok (.iconst 2, 1) := by decide +kernel
theorem dX11_next_238 : decode cX11_next 238 = .ok (.goto 4, 3) := by decide +kernel
theorem dX11_next_241 : decode cX11_next 241 = .ok (.iconst 3, 1) := by decide +kernel
theorem dX11_next_242 : decode cX11_next 242 = .ok (.putfield 220, 3) := by decide +kernel
theorem dX11_next_245 : decode cX11_next 245 = .ok (.goto 58, 3) := by decide +kernel
theorem dX11_next_248 : decode cX11_next 248 = .ok (.aload_n 0, 1) := by decide +kernel
theorem dX11_next_249 : decode cX11_next 249 = .ok (.iload_n 1, 1) := by decide +kernel
theorem dX11_next_250 : decode cX11_next 250 = .ok (.bipush 40, 2) := by decide +kernel
theorem dX11_next_252 : decode cX11_next 252 = .ok (.if_icmp .eq 33, 3) := by decide +kernel
theorem dX11_next_255 : decode cX11_next 255 = .ok (.iload_n 1, 1) := by decide +kernel
theorem dX11_next_256 : decode cX11_next 256 = .ok (.bipush 41, 2) := by decide +kernel
theorem dX11_next_258 : decode cX11_next 258 = .ok (.if_icmp .eq 27, 3) := by decide +kernel
theorem dX11_next_261 : decode cX11_next 261 = .ok (.iload_n 1, 1) := by decide +kernel
theorem dX11_next_262 : decode cX11_next 262 = .ok (.bipush 59, 2) := by decide +kernel
theorem dX11_next_264 : decode cX11_next 264 = .ok (.if_icmp .eq 21, 3) := by decide +kernel
theorem dX11_next_267 : decode cX11_next 267 = .ok (.iload_n 1, 1) := by decide +kernel
theorem dX11_next_268 : decode cX11_next 268 = .ok (.bipush 60, 2) := by decide +kernel
theorem dX11_next_270 : decode cX11_next 270 = .ok (.if_icmp .eq 15, 3) := by decide +kernel
theorem dX11_next_273 : decode cX11_next 273 = .ok (.iload_n 1, 1) := by decide +kernel
theorem dX11_next_274 : decode cX11_next 274 = .ok (.bipush 62, 2) := by decide +kernel
theorem dX11_next_276 : decode cX11_next 276 = .ok (.if_icmp .eq 9, 3) := by decide +kernel
theorem dX11_next_279 : decode cX11_next 279 = .ok (.iload_n 1, 1) := by decide +kernel
theorem dX11_next_280 : decode cX11_next 280 = .ok (.bipush 61, 2) := by decide +kernel
theorem dX11_next_282 : decode cX11_next 282 = .ok (.if_icmp .ne 7, 3) := by decide +kernel
theorem dX11_next_285 : decode cX11_next 285 = .ok (.iload_n 1, 1) := by decide +kernel
theorem dX11_next_286 : decode cX11_next 286 = .ok (.goto 4, 3) := by decide +kernel
theorem dX11_next_289 : decode cX11_next 289 = .ok (.iconst 3, 1) := by decide +kernel
theorem dX11_next_290 : decode cX11_next 290 = .ok (.putfield 220, 3) := by decide +kernel
theorem dX11_next_293 : decode cX11_next 293 = .ok (.aload_n 0, 1) := by decide +kernel
theorem dX11_next_294 : decode cX11_next 294 = .ok (.dup, 1) := by decide +kernel
theorem dX11_next_295 : decode cX11_next 295 = .ok (.getfield 198, 3) := by decide +kernel
theorem dX11_next_298 : decode cX11_next 298 = .ok (.iconst 1, 1) := by decide +kernel
theorem dX11_next_299 : decode cX11_next 299 = .ok (.iadd, 1) := by decide +kernel
theorem dX11_next_300 : decode cX11_next 300 = .ok (.putfield 198, 3) := by decide +kernel
theorem dX11_next_303 : decode cX11_next 303 = .ok (.return_, 1) := by decide +kernel
theorem dX11_errs_0 : decode cX11_errs 0 = .ok (.aload_n 0, 1) := by decide +kernel
theorem dX11_errs_1 : decode cX11_errs 1 = .ok (.getfield 226, 3) := by decide +kernel
theorem dX11_errs_4 : decode cX11_errs 4 = .ok (.ifCond .eq 4, 3) := by decide +kernel
theorem dX11_errs_7 : decode cX11_errs 7 = .ok (.return_, 1) := by decide +kernel
theorem dX11_errs_8 : decode cX11_errs 8 = .ok (.aload_n 0, 1) := by decide +kernel
theorem dX11_errs_9 : decode cX11_errs 9 = .ok (.iconst 1, 1) := by decide +kernel
theorem dX11_errs_10 : decode cX11_errs 10 = .ok (.putfield 226, 3) := by decide +kernel
theorem dX11_errs_13 : decode cX11_errs 13 = .ok (.aload_n 0, 1) := by decide +kernel
theorem dX11_errs_14 : decode cX11_errs 14 = .ok (.aload_n 0, 1) := by decide +kernel
theorem dX11_errs_15 : decode cX11_errs 15 = .ok (.getfield 208, 3) := by decide +kernel
theorem dX11_errs_18 : decode cX11_errs 18 = .ok (.putfield 108, 3) := by decide +kernel
theorem dX11_errs_21 : decode cX11_errs 21 = .ok (.return_, 1) := by decide +kernel
theorem dX11_is_0 : decode cX11_is 0 = .ok (.aload_n 0, 1) := by decide +kernel
theorem dX11_is_1 : decode cX11_is 1 = .ok (.getfield 226, 3) := by decide +kernel
theorem dX11_is_4 : decode cX11_is 4 = .ok (.ifCond .ne 24, 3) := by decide +kernel
theorem dX11_is_7 : decode cX11_is 7 = .ok (.aload_n 0, 1) := by decide +kernel
theorem dX11_is_8 : decode cX11_is 8 = .ok (.getfield 220, 3) := by decide +kernel
theorem dX11_is_11 : decode cX11_is 11 = .ok (.iconst 1, 1) := by decide +kernel
theorem dX11_is_12 : decode cX11_is 12 = .ok (.if_icmp .ne 16, 3) := by decide +kernel
theorem dX11_is_15 : decode cX11_is 15 = .ok (.aload_n 0, 1) := by decide +kernel
theorem dX11_is_16 : decode cX11_is 16 = .ok (.getfield 213, 3) := by decide +kernel
theorem dX11_is_19 : decode cX11_is 19 = .ok (.lload_n 1, 1) := by decide +kernel
theorem dX11_is_20 : decode cX11_is 20 = .ok (.lcmp, 1) := by decide +kernel
theorem dX11_is_21 : decode cX11_is 21 = .ok (.ifCond .ne 7, 3) := by decide +kernel
theorem dX11_is_24 : decode cX11_is 24 = .ok (.iconst 1, 1) := by decide +kernel
theorem dX11_is_25 : decode cX11_is 25 = .ok (.goto 4, 3) := by decide +kernel
theorem dX11_is_28 : decode cX11_is 28 = .ok (.iconst 0, 1) := by decide +kernel
theorem dX11_is_29 : decode cX11_is 29 = .ok (.ireturn, 1) := by decide +kernel
theorem dX11_numeral_0 : decode cX11_numeral 0 = .ok (.aload_n 0, 1) := by decide +kernel
theorem dX11_numeral_1 : decode cX11_numeral 1 = .ok (.getfield 217, 3) := by decide +kernel
theorem dX11_numeral_4 : decode cX11_numeral 4 = .ok (.istore_n 3, 1) := by decide +kernel
theorem dX11_numeral_5 : decode cX11_numeral 5 = .ok (.aload_n 0, 1) := by decide +kernel
theorem dX11_numeral_6 : decode cX11_numeral 6 = .ok (.getfield 226, 3) := by decide +kernel
theorem dX11_numeral_9 : decode cX11_numeral 9 = .ok (.ifCond .eq 5, 3) := by decide +kernel
theorem dX11_numeral_12 : decode cX11_numeral 12 = .ok (.iconst 0, 1) := by decide +kernel
theorem dX11_numeral_13 : decode cX11_numeral 13 = .ok (.ireturn, 1) := by decide +kernel
theorem dX11_numeral_14 : decode cX11_numeral 14 = .ok (.aload_n 0, 1) := by decide +kernel
theorem dX11_numeral_15 : decode cX11_numeral 15 = .ok (.getfield 220, 3) := by decide +kernel
theorem dX11_numeral_18 : decode cX11_numeral 18 = .ok (.iconst 2, 1) := by decide +kernel
theorem dX11_numeral_19 : decode cX11_numeral 19 = .ok (.if_icmp .ne 13, 3) := by decide +kernel
theorem dX11_numeral_22 : decode cX11_numeral 22 = .ok (.iload_n 3, 1) := by decide +kernel
theorem dX11_numeral_23 : decode cX11_numeral 23 = .ok (.iload_n 1, 1) := by decide +kernel
theorem dX11_numeral_24 : decode cX11_numeral 24 = .ok (.if_icmp .lt 8, 3) := by decide +kernel
theorem dX11_numeral_27 : decode cX11_numeral 27 = .ok (.iload_n 3, 1) := by decide +kernel
theorem dX11_numeral_28 : decode cX11_numeral 28 = .ok (.iload_n 2, 1) := by decide +kernel
theorem dX11_numeral_29 : decode cX11_numeral 29 = .ok (.if_icmp .le 9, 3) := by decide +kernel
theorem dX11_numeral_32 : decode cX11_numeral 32 = .ok (.aload_n 0, 1) := by decide +kernel
theorem dX11_numeral_33 : decode cX11_numeral 33 = .ok (.invokevirtual 230, 3) := by decide +kernel
theorem dX11_numeral_36 : decode cX11_numeral 36 = .ok (.iconst 0, 1) := by decide +kernel
theorem dX11_numeral_37 : decode cX11_numeral 37 = .ok (.ireturn, 1) := by decide +kernel
theorem dX11_numeral_38 : decode cX11_numeral 38 = .ok (.aload_n 0, 1) := by decide +kernel
theorem dX11_numeral_39 : decode cX11_numeral 39 = .ok (.invokevirtual 233, 3) := by decide +kernel
theorem dX11_numeral_42 : decode cX11_numeral 42 = .ok (.iload_n 3, 1) := by decide +kernel
theorem dX11_numeral_43 : decode cX11_numeral 43 = .ok (.ireturn, 1) := by decide +kernel
theorem dX11_ruleHere_0 : decode cX11_ruleHere 0 = .ok (.aload_n 0, 1) := by decide +kernel
theorem dX11_ruleHere_1 : decode cX11_ruleHere 1 = .ok (.getfield 226, 3) := by decide +kernel
theorem dX11_ruleHere_4 : decode cX11_ruleHere 4 = .ok (.ifCond .ne 11, 3) := by decide +kernel
theorem dX11_ruleHere_7 : decode cX11_ruleHere 7 = .ok (.aload_n 0, 1) := by decide +kernel
theorem dX11_ruleHere_8 : decode cX11_ruleHere 8 = .ok (.getfield 220, 3) := by decide +kernel
theorem dX11_ruleHere_11 : decode cX11_ruleHere 11 = .ok (.iconst 1, 1) := by decide +kernel
theorem dX11_ruleHere_12 : decode cX11_ruleHere 12 = .ok (.if_icmp .eq 5, 3) := by decide +kernel
theorem dX11_ruleHere_15 : decode cX11_ruleHere 15 = .ok (.iconst (-1), 1) := by decide +kernel
theorem dX11_ruleHere_16 : decode cX11_ruleHere 16 = .ok (.ireturn, 1) := by decide +kernel
theorem dX11_ruleHere_17 : decode cX11_ruleHere 17 = .ok (.aload_n 0, 1) := by decide +kernel
theorem dX11_ruleHere_18 : decode cX11_ruleHere 18 = .ok (.getfield 213, 3) := by decide +kernel
theorem dX11_ruleHere_21 : decode cX11_ruleHere 21 = .ok (.ldc2_w 236, 3) := by decide +kernel
theorem dX11_ruleHere_24 : decode cX11_ruleHere 24 = .ok (.lcmp, 1) := by decide +kernel
theorem dX11_ruleHere_25 : decode cX11_ruleHere 25 = .ok (.ifCond .ne 5, 3) := by decide +kernel
theorem dX11_ruleHere_28 : decode cX11_ruleHere 28 = .ok (.iconst 0, 1) := by decide +kernel
theorem dX11_ruleHere_29 : decode cX11_ruleHere 29 = .ok (.ireturn, 1) := by decide +kernel
theorem dX11_ruleHere_30 : decode cX11_ruleHere 30 = .ok (.aload_n 0, 1) := by decide +kernel
theorem dX11_ruleHere_31 : decode cX11_ruleHere 31 = .ok (.getfield 213, 3) := by decide +kernel
theorem dX11_ruleHere_34 : decode cX11_ruleHere 34 = .ok (.ldc2_w 238, 3) := by decide +kernel
theorem dX11_ruleHere_37 : decode cX11_ruleHere 37 = .ok (.lcmp, 1) := by decide +kernel
theorem dX11_ruleHere_38 : decode cX11_ruleHere 38 = .ok (.ifCond .ne 5, 3) := by decide +kernel
theorem dX11_ruleHere_41 : decode cX11_ruleHere 41 = .ok (.iconst 1, 1) := by decide +kernel
theorem dX11_ruleHere_42 : decode cX11_ruleHere 42 = .ok (.ireturn, 1) := by decide +kernel
theorem dX11_ruleHere_43 : decode cX11_ruleHere 43 = .ok (.aload_n 0, 1) := by decide +kernel
theorem dX11_ruleHere_44 : decode cX11_ruleHere 44 = .ok (.getfield 213, 3) := by decide +kernel
theorem dX11_ruleHere_47 : decode cX11_ruleHere 47 = .ok (.ldc2_w 240, 3) := by decide +kernel
theorem dX11_ruleHere_50 : decode cX11_ruleHere 50 = .ok (.lcmp, 1) := by decide +kernel
theorem dX11_ruleHere_51 : decode cX11_ruleHere 51 = .ok (.ifCond .ne 5, 3) := by decide +kernel
theorem dX11_ruleHere_54 : decode cX11_ruleHere 54 = .ok (.iconst 2, 1) := by decide +kernel
theorem dX11_ruleHere_55 : decode cX11_ruleHere 55 = .ok (.ireturn, 1) := by decide +kernel
theorem dX11_ruleHere_56 : decode cX11_ruleHere 56 = .ok (.aload_n 0, 1) := by decide +kernel
theorem dX11_ruleHere_57 : decode cX11_ruleHere 57 = .ok (.getfield 213, 3) := by decide +kernel
theorem dX11_ruleHere_60 : decode cX11_ruleHere 60 = .ok (.ldc2_w 242, 3) := by decide +kernel
theorem dX11_ruleHere_63 : decode cX11_ruleHere 63 = .ok (.lcmp, 1) := by decide +kernel
theorem dX11_ruleHere_64 : decode cX11_ruleHere 64 = .ok (.ifCond .ne 5, 3) := by decide +kernel
theorem dX11_ruleHere_67 : decode cX11_ruleHere 67 = .ok (.iconst 3, 1) := by decide +kernel
theorem dX11_ruleHere_68 : decode cX11_ruleHere 68 = .ok (.ireturn, 1) := by decide +kernel
theorem dX11_ruleHere_69 : decode cX11_ruleHere 69 = .ok (.aload_n 0, 1) := by decide +kernel
theorem dX11_ruleHere_70 : decode cX11_ruleHere 70 = .ok (.getfield 213, 3) := by decide +kernel
theorem dX11_ruleHere_73 : decode cX11_ruleHere 73 = .ok (.ldc2_w 244, 3) := by decide +kernel
theorem dX11_ruleHere_76 : decode cX11_ruleHere 76 = .ok (.lcmp, 1) := by decide +kernel
theorem dX11_ruleHere_77 : decode cX11_ruleHere 77 = .ok (.ifCond .ne 5, 3) := by decide +kernel
theorem dX11_ruleHere_80 : decode cX11_ruleHere 80 = .ok (.iconst 4, 1) := by decide +kernel
theorem dX11_ruleHere_81 : decode cX11_ruleHere 81 = .ok (.ireturn, 1) := by decide +kernel
theorem dX11_ruleHere_82 : decode cX11_ruleHere 82 = .ok (.aload_n 0, 1) := by decide +kernel
theorem dX11_ruleHere_83 : decode cX11_ruleHere 83 = .ok (.getfield 213, 3) := by decide +kernel
theorem dX11_ruleHere_86 : decode cX11_ruleHere 86 = .ok (.ldc2_w 246, 3) := by decide +kernel
theorem dX11_ruleHere_89 : decode cX11_ruleHere 89 = .ok (.lcmp, 1) := by decide +kernel
theorem dX11_ruleHere_90 : decode cX11_ruleHere 90 = .ok (.ifCond .ne 5, 3) := by decide +kernel
theorem dX11_ruleHere_93 : decode cX11_ruleHere 93 = .ok (.iconst 5, 1) := by decide +kernel
theorem dX11_ruleHere_94 : decode cX11_ruleHere 94 = .ok (.ireturn, 1) := by decide +kernel
theorem dX11_ruleHere_95 : decode cX11_ruleHere 95 = .ok (.aload_n 0, 1) := by decide +kernel
theorem dX11_ruleHere_96 : decode cX11_ruleHere 96 = .ok (.getfield 213, 3) := by decide +kernel
theorem dX11_ruleHere_99 : decode cX11_ruleHere 99 = .ok (.ldc2_w 248, 3) := by decide +kernel
theorem dX11_ruleHere_102 : decode cX11_ruleHere 102 = .ok (.lcmp, 1) := by decide +kernel
theorem dX11_ruleHere_103 : decode cX11_ruleHere 103 = .ok (.ifCond .ne 6, 3) := by decide +kernel
theorem dX11_ruleHere_106 : decode cX11_ruleHere 106 = .ok (.bipush 6, 2) := by decide +kernel
theorem dX11_ruleHere_108 : decode cX11_ruleHere 108 = .ok (.ireturn, 1) := by decide +kernel
theorem dX11_ruleHere_109 : decode cX11_ruleHere 109 = .ok (.iconst (-1), 1) := by decide +kernel
theorem dX11_ruleHere_110 : decode cX11_ruleHere 110 = .ok (.ireturn, 1) := by decide +kernel
theorem dX11_wordHere_0 : decode cX11_wordHere 0 = .ok (.aload_n 0, 1) := by decide +kernel
theorem dX11_wordHere_1 : decode cX11_wordHere 1 = .ok (.getfield 226, 3) := by decide +kernel
theorem dX11_wordHere_4 : decode cX11_wordHere 4 = .ok (.ifCond .ne 11, 3) := by decide +kernel
theorem dX11_wordHere_7 : decode cX11_wordHere 7 = .ok (.aload_n 0, 1) := by decide +kernel
theorem dX11_wordHere_8 : decode cX11_wordHere 8 = .ok (.getfield 220, 3) := by decide +kernel
theorem dX11_wordHere_11 : decode cX11_wordHere 11 = .ok (.iconst 1, 1) := by decide +kernel
theorem dX11_wordHere_12 : decode cX11_wordHere 12 = .ok (.if_icmp .eq 5, 3) := by decide +kernel
theorem dX11_wordHere_15 : decode cX11_wordHere 15 = .ok (.iconst (-1), 1) := by decide +kernel
theorem dX11_wordHere_16 : decode cX11_wordHere 16 = .ok (.ireturn, 1) := by decide +kernel
theorem dX11_wordHere_17 : decode cX11_wordHere 17 = .ok (.aload_n 0, 1) := by decide +kernel
theorem dX11_wordHere_18 : decode cX11_wordHere 18 = .ok (.getfield 213, 3) := by decide +kernel
theorem dX11_wordHere_21 : decode cX11_wordHere 21 = .ok (.ldc2_w 250, 3) := by decide +kernel
theorem dX11_wordHere_24 : decode cX11_wordHere 24 = .ok (.lcmp, 1) := by decide +kernel
theorem dX11_wordHere_25 : decode cX11_wordHere 25 = .ok (.ifCond .ne 5, 3) := by decide +kernel
theorem dX11_wordHere_28 : decode cX11_wordHere 28 = .ok (.iconst 0, 1) := by decide +kernel
theorem dX11_wordHere_29 : decode cX11_wordHere 29 = .ok (.ireturn, 1) := by decide +kernel
theorem dX11_wordHere_30 : decode cX11_wordHere 30 = .ok (.aload_n 0, 1) := by decide +kernel
theorem dX11_wordHere_31 : decode cX11_wordHere 31 = .ok (.getfield 213, 3) := by decide +kernel
theorem dX11_wordHere_34 : decode cX11_wordHere 34 = .ok (.ldc2_w 252, 3) := by decide +kernel
theorem dX11_wordHere_37 : decode cX11_wordHere 37 = .ok (.lcmp, 1) := by decide +kernel
theorem dX11_wordHere_38 : decode cX11_wordHere 38 = .ok (.ifCond .ne 5, 3) := by decide +kernel
theorem dX11_wordHere_41 : decode cX11_wordHere 41 = .ok (.iconst 1, 1) := by decide +kernel
theorem dX11_wordHere_42 : decode cX11_wordHere 42 = .ok (.ireturn, 1) := by decide +kernel
theorem dX11_wordHere_43 : decode cX11_wordHere 43 = .ok (.aload_n 0, 1) := by decide +kernel
theorem dX11_wordHere_44 : decode cX11_wordHere 44 = .ok (.getfield 213, 3) := by decide +kernel
theorem dX11_wordHere_47 : decode cX11_wordHere 47 = .ok (.ldc2_w 254, 3) := by decide +kernel
theorem dX11_wordHere_50 : decode cX11_wordHere 50 = .ok (.lcmp, 1) := by decide +kernel
theorem dX11_wordHere_51 : decode cX11_wordHere 51 = .ok (.ifCond .ne 5, 3) := by decide +kernel
theorem dX11_wordHere_54 : decode cX11_wordHere 54 = .ok (.iconst 2, 1) := by decide +kernel
theorem dX11_wordHere_55 : decode cX11_wordHere 55 = .ok (.ireturn, 1) := by decide +kernel
theorem dX11_wordHere_56 : decode cX11_wordHere 56 = .ok (.aload_n 0, 1) := by decide +kernel
theorem dX11_wordHere_57 : decode cX11_wordHere 57 = .ok (.getfield 213, 3) := by decide +kernel
theorem dX11_wordHere_60 : decode cX11_wordHere 60 = .ok (.ldc2_w 256, 3) := by decide +kernel
theorem dX11_wordHere_63 : decode cX11_wordHere 63 = .ok (.lcmp, 1) := by decide +kernel
theorem dX11_wordHere_64 : decode cX11_wordHere 64 = .ok (.ifCond .ne 5, 3) := by decide +kernel
theorem dX11_wordHere_67 : decode cX11_wordHere 67 = .ok (.iconst 3, 1) := by decide +kernel
theorem dX11_wordHere_68 : decode cX11_wordHere 68 = .ok (.ireturn, 1) := by decide +kernel
theorem dX11_wordHere_69 : decode cX11_wordHere 69 = .ok (.aload_n 0, 1) := by decide +kernel
theorem dX11_wordHere_70 : decode cX11_wordHere 70 = .ok (.getfield 213, 3) := by decide +kernel
theorem dX11_wordHere_73 : decode cX11_wordHere 73 = .ok (.ldc2_w 258, 3) := by decide +kernel
theorem dX11_wordHere_76 : decode cX11_wordHere 76 = .ok (.lcmp, 1) := by decide +kernel
theorem dX11_wordHere_77 : decode cX11_wordHere 77 = .ok (.ifCond .ne 5, 3) := by decide +kernel
theorem dX11_wordHere_80 : decode cX11_wordHere 80 = .ok (.iconst 4, 1) := by decide +kernel
theorem dX11_wordHere_81 : decode cX11_wordHere 81 = .ok (.ireturn, 1) := by decide +kernel
theorem dX11_wordHere_82 : decode cX11_wordHere 82 = .ok (.aload_n 0, 1) := by decide +kernel
theorem dX11_wordHere_83 : decode cX11_wordHere 83 = .ok (.getfield 213, 3) := by decide +kernel
theorem dX11_wordHere_86 : decode cX11_wordHere 86 = .ok (.ldc2_w 260, 3) := by decide +kernel
theorem dX11_wordHere_89 : decode cX11_wordHere 89 = .ok (.lcmp, 1) := by decide +kernel
theorem dX11_wordHere_90 : decode cX11_wordHere 90 = .ok (.ifCond .ne 5, 3) := by decide +kernel
theorem dX11_wordHere_93 : decode cX11_wordHere 93 = .ok (.iconst 5, 1) := by decide +kernel
theorem dX11_wordHere_94 : decode cX11_wordHere 94 = .ok (.ireturn, 1) := by decide +kernel
theorem dX11_wordHere_95 : decode cX11_wordHere 95 = .ok (.aload_n 0, 1) := by decide +kernel
theorem dX11_wordHere_96 : decode cX11_wordHere 96 = .ok (.getfield 213, 3) := by decide +kernel
theorem dX11_wordHere_99 : decode cX11_wordHere 99 = .ok (.ldc2_w 262, 3) := by decide +kernel
theorem dX11_wordHere_102 : decode cX11_wordHere 102 = .ok (.lcmp, 1) := by decide +kernel
theorem dX11_wordHere_103 : decode cX11_wordHere 103 = .ok (.ifCond .ne 6, 3) := by decide +kernel
theorem dX11_wordHere_106 : decode cX11_wordHere 106 = .ok (.bipush 6, 2) := by decide +kernel
theorem dX11_wordHere_108 : decode cX11_wordHere 108 = .ok (.ireturn, 1) := by decide +kernel
theorem dX11_wordHere_109 : decode cX11_wordHere 109 = .ok (.iconst (-1), 1) := by decide +kernel
theorem dX11_wordHere_110 : decode cX11_wordHere 110 = .ok (.ireturn, 1) := by decide +kernel
theorem dX11_howHere_0 : decode cX11_howHere 0 = .ok (.aload_n 0, 1) := by decide +kernel
theorem dX11_howHere_1 : decode cX11_howHere 1 = .ok (.ldc2_w 264, 3) := by decide +kernel
theorem dX11_howHere_4 : decode cX11_howHere 4 = .ok (.invokevirtual 266, 3) := by decide +kernel
theorem dX11_howHere_7 : decode cX11_howHere 7 = .ok (.ifCond .eq 7, 3) := by decide +kernel
theorem dX11_howHere_10 : decode cX11_howHere 10 = .ok (.iconst 0, 1) := by decide +kernel
theorem dX11_howHere_11 : decode cX11_howHere 11 = .ok (.goto 32, 3) := by decide +kernel
theorem dX11_howHere_14 : decode cX11_howHere 14 = .ok (.aload_n 0, 1) := by decide +kernel
theorem dX11_howHere_15 : decode cX11_howHere 15 = .ok (.ldc2_w 270, 3) := by decide +kernel
theorem dX11_howHere_18 : decode cX11_howHere 18 = .ok (.invokevirtual 266, 3) := by decide +kernel
theorem dX11_howHere_21 : decode cX11_howHere 21 = .ok (.ifCond .eq 7, 3) := by decide +kernel
theorem dX11_howHere_24 : decode cX11_howHere 24 = .ok (.iconst 1, 1) := by decide +kernel
theorem dX11_howHere_25 : decode cX11_howHere 25 = .ok (.goto 18, 3) := by decide +kernel
theorem dX11_howHere_28 : decode cX11_howHere 28 = .ok (.aload_n 0, 1) := by decide +kernel
theorem dX11_howHere_29 : decode cX11_howHere 29 = .ok (.ldc2_w 272, 3) := by decide +kernel
theorem dX11_howHere_32 : decode cX11_howHere 32 = .ok (.invokevirtual 266, 3) := by decide +kernel
theorem dX11_howHere_35 : decode cX11_howHere 35 = .ok (.ifCond .eq 7, 3) := by decide +kernel
theorem dX11_howHere_38 : decode cX11_howHere 38 = .ok (.iconst 2, 1) := by decide +kernel
theorem dX11_howHere_39 : decode cX11_howHere 39 = .ok (.goto 4, 3) := by decide +kernel
theorem dX11_howHere_42 : decode cX11_howHere 42 = .ok (.iconst (-1), 1) := by decide +kernel
theorem dX11_howHere_43 : decode cX11_howHere 43 = .ok (.istore_n 1, 1) := by decide +kernel
theorem dX11_howHere_44 : decode cX11_howHere 44 = .ok (.iload_n 1, 1) := by decide +kernel
theorem dX11_howHere_45 : decode cX11_howHere 45 = .ok (.ifCond .ge 10, 3) := by decide +kernel
theorem dX11_howHere_48 : decode cX11_howHere 48 = .ok (.aload_n 0, 1) := by decide +kernel
theorem dX11_howHere_49 : decode cX11_howHere 49 = .ok (.invokevirtual 230, 3) := by decide +kernel
theorem dX11_howHere_52 : decode cX11_howHere 52 = .ok (.goto 7, 3) := by decide +kernel
theorem dX11_howHere_55 : decode cX11_howHere 55 = .ok (.aload_n 0, 1) := by decide +kernel
theorem dX11_howHere_56 : decode cX11_howHere 56 = .ok (.invokevirtual 233, 3) := by decide +kernel
theorem dX11_howHere_59 : decode cX11_howHere 59 = .ok (.iload_n 1, 1) := by decide +kernel
theorem dX11_howHere_60 : decode cX11_howHere 60 = .ok (.ireturn, 1) := by decide +kernel
theorem dX11_step_0 : decode cX11_step 0 = .ok (.aload_n 0, 1) := by decide +kernel
theorem dX11_step_1 : decode cX11_step 1 = .ok (.getfield 92, 3) := by decide +kernel
theorem dX11_step_4 : decode cX11_step 4 = .ok (.aload_n 0, 1) := by decide +kernel
theorem dX11_step_5 : decode cX11_step 5 = .ok (.getfield 274, 3) := by decide +kernel
theorem dX11_step_8 : decode cX11_step 8 = .ok (.iload_n 1, 1) := by decide +kernel
theorem dX11_step_9 : decode cX11_step 9 = .ok (.iastore, 1) := by decide +kernel
theorem dX11_step_10 : decode cX11_step 10 = .ok (.aload_n 0, 1) := by decide +kernel
theorem dX11_step_11 : decode cX11_step 11 = .ok (.getfield 95, 3) := by decide +kernel
theorem dX11_step_14 : decode cX11_step 14 = .ok (.aload_n 0, 1) := by decide +kernel
theorem dX11_step_15 : decode cX11_step 15 = .ok (.getfield 274, 3) := by decide +kernel
theorem dX11_step_18 : decode cX11_step 18 = .ok (.iload_n 2, 1) := by decide +kernel
theorem dX11_step_19 : decode cX11_step 19 = .ok (.iastore, 1) := by decide +kernel
theorem dX11_step_20 : decode cX11_step 20 = .ok (.aload_n 0, 1) := by decide +kernel
theorem dX11_step_21 : decode cX11_step 21 = .ok (.getfield 98, 3) := by decide +kernel
theorem dX11_step_24 : decode cX11_step 24 = .ok (.aload_n 0, 1) := by decide +kernel
theorem dX11_step_25 : decode cX11_step 25 = .ok (.getfield 274, 3) := by decide +kernel
theorem dX11_step_28 : decode cX11_step 28 = .ok (.iload_n 3, 1) := by decide +kernel
theorem dX11_step_29 : decode cX11_step 29 = .ok (.iastore, 1) := by decide +kernel
theorem dX11_step_30 : decode cX11_step 30 = .ok (.aload_n 0, 1) := by decide +kernel
theorem dX11_step_31 : decode cX11_step 31 = .ok (.getfield 101, 3) := by decide +kernel
theorem dX11_step_34 : decode cX11_step 34 = .ok (.aload_n 0, 1) := by decide +kernel
theorem dX11_step_35 : decode cX11_step 35 = .ok (.getfield 274, 3) := by decide +kernel
theorem dX11_step_38 : decode cX11_step 38 = .ok (.iload 4, 2) := by decide +kernel
theorem dX11_step_40 : decode cX11_step 40 = .ok (.iastore, 1) := by decide +kernel
theorem dX11_step_41 : decode cX11_step 41 = .ok (.aload_n 0, 1) := by decide +kernel
theorem dX11_step_42 : decode cX11_step 42 = .ok (.dup, 1) := by decide +kernel
theorem dX11_step_43 : decode cX11_step 43 = .ok (.getfield 274, 3) := by decide +kernel
theorem dX11_step_46 : decode cX11_step 46 = .ok (.iconst 1, 1) := by decide +kernel
theorem dX11_step_47 : decode cX11_step 47 = .ok (.iadd, 1) := by decide +kernel
theorem dX11_step_48 : decode cX11_step 48 = .ok (.putfield 274, 3) := by decide +kernel
theorem dX11_step_51 : decode cX11_step 51 = .ok (.return_, 1) := by decide +kernel
theorem dX11_readTest_0 : decode cX11_readTest 0 = .ok (.aload_n 0, 1) := by decide +kernel
theorem dX11_readTest_1 : decode cX11_readTest 1 = .ok (.invokevirtual 277, 3) := by decide +kernel
theorem dX11_readTest_4 : decode cX11_readTest 4 = .ok (.istore_n 1, 1) := by decide +kernel
theorem dX11_readTest_5 : decode cX11_readTest 5 = .ok (.iload_n 1, 1) := by decide +kernel
theorem dX11_readTest_6 : decode cX11_readTest 6 = .ok (.ifCond .ge 8, 3) := by decide +kernel
theorem dX11_readTest_9 : decode cX11_readTest 9 = .ok (.aload_n 0, 1) := by decide +kernel
theorem dX11_readTest_10 : decode cX11_readTest 10 = .ok (.invokevirtual 230, 3) := by decide +kernel
theorem dX11_readTest_13 : decode cX11_readTest 13 = .ok (.return_, 1) := by decide +kernel
theorem dX11_readTest_14 : decode cX11_readTest 14 = .ok (.aload_n 0, 1) := by decide +kernel
theorem dX11_readTest_15 : decode cX11_readTest 15 = .ok (.invokevirtual 233, 3) := by decide +kernel
theorem dX11_readTest_18 : decode cX11_readTest 18 = .ok (.aload_n 0, 1) := by decide +kernel
theorem dX11_readTest_19 : decode cX11_readTest 19 = .ok (.getfield 220, 3) := by decide +kernel
theorem dX11_readTest_22 : decode cX11_readTest 22 = .ok (.istore_n 2, 1) := by decide +kernel
theorem dX11_readTest_23 : decode cX11_readTest 23 = .ok (.iload_n 2, 1) := by decide +kernel
theorem dX11_readTest_24 : decode cX11_readTest 24 = .ok (.bipush 60, 2) := by decide +kernel
theorem dX11_readTest_26 : decode cX11_readTest 26 = .ok (.if_icmp .eq 20, 3) := by decide +kernel
theorem dX11_readTest_29 : decode cX11_readTest 29 = .ok (.iload_n 2, 1) := by decide +kernel
theorem dX11_readTest_30 : decode cX11_readTest 30 = .ok (.bipush 62, 2) := by decide +kernel
theorem dX11_readTest_32 : decode cX11_readTest 32 = .ok (.if_icmp .eq 14, 3) := by decide +kernel
theorem dX11_readTest_35 : decode cX11_readTest 35 = .ok (.iload_n 2, 1) := by decide +kernel
theorem dX11_readTest_36 : decode cX11_readTest 36 = .ok (.bipush 61, 2) := by decide +kernel
theorem dX11_readTest_38 : decode cX11_readTest 38 = .ok (.if_icmp .eq 8, 3) := by decide +kernel
theorem dX11_readTest_41 : decode cX11_readTest 41 = .ok (.aload_n 0, 1) := by decide +kernel
theorem dX11_readTest_42 : decode cX11_readTest 42 = .ok (.invokevirtual 230, 3) := by decide +kernel
theorem dX11_readTest_45 : decode cX11_readTest 45 = .ok (.return_, 1) := by decide +kernel
theorem dX11_readTest_46 : decode cX11_readTest 46 = .ok (.aload_n 0, 1) := by decide +kernel
theorem dX11_readTest_47 : decode cX11_readTest 47 = .ok (.invokevirtual 233, 3) := by decide +kernel
theorem dX11_readTest_50 : decode cX11_readTest 50 = .ok (.aload_n 0, 1) := by decide +kernel
theorem dX11_readTest_51 : decode cX11_readTest 51 = .ok (.iconst 0, 1) := by decide +kernel
theorem dX11_readTest_52 : decode cX11_readTest 52 = .ok (.sipush 9999, 3) := by decide +kernel
theorem dX11_readTest_55 : decode cX11_readTest 55 = .ok (.invokevirtual 280, 3) := by decide +kernel
theorem dX11_readTest_58 : decode cX11_readTest 58 = .ok (.istore_n 3, 1) := by decide +kernel
theorem dX11_readTest_59 : decode cX11_readTest 59 = .ok (.aload_n 0, 1) := by decide +kernel
theorem dX11_readTest_60 : decode cX11_readTest 60 = .ok (.iconst 0, 1) := by decide +kernel
theorem dX11_readTest_61 : decode cX11_readTest 61 = .ok (.iload_n 1, 1) := by decide +kernel
theorem dX11_readTest_62 : decode cX11_readTest 62 = .ok (.iload_n 2, 1) := by decide +kernel
theorem dX11_readTest_63 : decode cX11_readTest 63 = .ok (.iload_n 3, 1) := by decide +kernel
theorem dX11_readTest_64 : decode cX11_readTest 64 = .ok (.invokevirtual 284, 3) := by decide +kernel
theorem dX11_readTest_67 : decode cX11_readTest 67 = .ok (.return_, 1) := by decide +kernel
theorem dX11_closes_0 : decode cX11_closes 0 = .ok (.iconst 1, 1) := by decide +kernel
theorem dX11_closes_1 : decode cX11_closes 1 = .ok (.istore_n 1, 1) := by decide +kernel
theorem dX11_closes_2 : decode cX11_closes 2 = .ok (.iload_n 1, 1) := by decide +kernel
theorem dX11_closes_3 : decode cX11_closes 3 = .ok (.ifCond .eq 269, 3) := by decide +kernel
theorem dX11_closes_6 : decode cX11_closes 6 = .ok (.aload_n 0, 1) := by decide +kernel
theorem dX11_closes_7 : decode cX11_closes 7 = .ok (.getfield 226, 3) := by decide +kernel
theorem dX11_closes_10 : decode cX11_closes 10 = .ok (.ifCond .ne 262, 3) := by decide +kernel
theorem dX11_closes_13 : decode cX11_closes 13 = .ok (.aload_n 0, 1) := by decide +kernel
theorem dX11_closes_14 : decode cX11_closes 14 = .ok (.getfield 288, 3) := by decide +kernel
theorem dX11_closes_17 : decode cX11_closes 17 = .ok (.ifCond .le 39, 3) := by decide +kernel
theorem dX11_closes_20 : decode cX11_closes 20 = .ok (.aload_n 0, 1) := by decide +kernel
theorem dX11_closes_21 : decode cX11_closes 21 = .ok (.getfield 112, 3) := by decide +kernel
theorem dX11_closes_24 : decode cX11_closes 24 = .ok (.aload_n 0, 1) := by decide +kernel
theorem dX11_closes_25 : decode cX11_closes 25 = .ok (.getfield 288, 3) := by decide +kernel
theorem dX11_closes_28 : decode cX11_closes 28 = .ok (.iconst 1, 1) := by decide +kernel
theorem dX11_closes_29 : decode cX11_closes 29 = .ok (.isub, 1) := by decide +kernel
theorem dX11_closes_30 : decode cX11_closes 30 = .ok (.iaload, 1) := by decide +kernel
theorem dX11_closes_31 : decode cX11_closes 31 = .ok (.iconst 1, 1) := by decide +kernel
theorem dX11_closes_32 : decode cX11_closes 32 = .ok (.if_icmp .ne 24, 3) := by decide +kernel
theorem dX11_closes_35 : decode cX11_closes 35 = .ok (.aload_n 0, 1) := by decide +kernel
theorem dX11_closes_36 : decode cX11_closes 36 = .ok (.dup, 1) := by decide +kernel
theorem dX11_closes_37 : decode cX11_closes 37 = .ok (.getfield 288, 3) := by decide +kernel
theorem dX11_closes_40 : decode cX11_closes 40 = .ok (.iconst 1, 1) := by decide +kernel
theorem dX11_closes_41 : decode cX11_closes 41 = .ok (.isub, 1) := by decide +kernel
theorem dX11_closes_42 : decode cX11_closes 42 = .ok (.putfield 288, 3) := by decide +kernel
theorem dX11_closes_45 : decode cX11_closes 45 = .ok (.aload_n 0, 1) := by decide +kernel
theorem dX11_closes_46 : decode cX11_closes 46 = .ok (.iconst 1, 1) := by decide +kernel
theorem dX11_closes_47 : decode cX11_closes 47 = .ok (.iconst 0, 1) := by decide +kernel
theorem dX11_closes_48 : decode cX11_closes 48 = .ok (.iconst 0, 1) := by decide +kernel
theorem dX11_closes_49 : decode cX11_closes 49 = .ok (.iconst 0, 1) := by decide +kernel
theorem dX11_closes_50 : decode cX11_closes 50 = .ok (.invokevirtual 284, 3) := by decide +kernel
theorem dX11_closes_53 : decode cX11_closes 53 = .ok (.goto (-40), 3) := by decide +kernel
theorem dX11_closes_56 : decode cX11_closes 56 = .ok (.aload_n 0, 1) := by decide +kernel
theorem dX11_closes_57 : decode cX11_closes 57 = .ok (.ldc2_w 291, 3) := by decide +kernel
theorem dX11_closes_60 : decode cX11_closes 60 = .ok (.invokevirtual 266, 3) := by decide +kernel
theorem dX11_closes_63 : decode cX11_closes 63 = .ok (.ifCond .eq 56, 3) := by decide +kernel
theorem dX11_closes_66 : decode cX11_closes 66 = .ok (.aload_n 0, 1) := by decide +kernel
theorem dX11_closes_67 : decode cX11_closes 67 = .ok (.getfield 115, 3) := by decide +kernel
theorem dX11_closes_70 : decode cX11_closes 70 = .ok (.aload_n 0, 1) := by decide +kernel
theorem dX11_closes_71 : decode cX11_closes 71 = .ok (.getfield 288, 3) := by decide +kernel
theorem dX11_closes_74 : decode cX11_closes 74 = .ok (.iaload, 1) := by decide +kernel
theorem dX11_closes_75 : decode cX11_closes 75 = .ok (.iconst 2, 1) := by decide +kernel
theorem dX11_closes_76 : decode cX11_closes 76 = .ok (.irem, 1) := by decide +kernel
theorem dX11_closes_77 : decode cX11_closes 77 = .ok (.iconst 1, 1) := by decide +kernel
theorem dX11_closes_78 : decode cX11_closes 78 = .ok (.if_icmp .ne 11, 3) := by decide +kernel
theorem dX11_closes_81 : decode cX11_closes 81 = .ok (.aload_n 0, 1) := by decide +kernel
theorem dX11_closes_82 : decode cX11_closes 82 = .ok (.iconst 2, 1) := by decide +kernel
theorem dX11_closes_83 : decode cX11_closes 83 = .ok (.iconst 0, 1) := by decide +kernel
theorem dX11_closes_84 : decode cX11_closes 84 = .ok (.iconst 0, 1) := by decide +kernel
theorem dX11_closes_85 : decode cX11_closes 85 = .ok (.iconst 0, 1) := by decide +kernel
theorem dX11_closes_86 : decode cX11_closes 86 = .ok (.invokevirtual 284, 3) := by decide +kernel
theorem dX11_closes_89 : decode cX11_closes 89 = .ok (.aload_n 0, 1) := by decide +kernel
theorem dX11_closes_90 : decode cX11_closes 90 = .ok (.getfield 115, 3) := by decide +kernel
theorem dX11_closes_93 : decode cX11_closes 93 = .ok (.aload_n 0, 1) := by decide +kernel
theorem dX11_closes_94 : decode cX11_closes 94 = .ok (.getfield 288, 3) := by decide +kernel
theorem dX11_closes_97 : decode cX11_closes 97 = .ok (.aload_n 0, 1) := by decide +kernel
theorem dX11_closes_98 : decode cX11_closes 98 = .ok (.getfield 115, 3) := by decide +kernel
theorem dX11_closes_101 : decode cX11_closes 101 = .ok (.aload_n 0, 1) := by decide +kernel
theorem dX11_closes_102 : decode cX11_closes 102 = .ok (.getfield 288, 3) := by decide +kernel
theorem dX11_closes_105 : decode cX11_closes 105 = .ok (.iaload, 1) := by decide +kernel
theorem dX11_closes_106 : decode cX11_closes 106 = .ok (.iconst 2, 1) := by decide +kernel
theorem dX11_closes_107 : decode cX11_closes 107 = .ok (.idiv, 1) := by decide +kernel
theorem dX11_closes_108 : decode cX11_closes 108 = .ok (.iconst 2, 1) := by decide +kernel
theorem dX11_closes_109 : decode cX11_closes 109 = .ok (.imul, 1) := by decide +kernel
theorem dX11_closes_110 : decode cX11_closes 110 = .ok (.iconst 1, 1) := by decide +kernel
theorem dX11_closes_111 : decode cX11_closes 111 = .ok (.iadd, 1) := by decide +kernel
theorem dX11_closes_112 : decode cX11_closes 112 = .ok (.iastore, 1) := by decide +kernel
theorem dX11_closes_113 : decode cX11_closes 113 = .ok (.aload_n 0, 1) := by decide +kernel
theorem dX11_closes_114 : decode cX11_closes 114 = .ok (.invokevirtual 233, 3) := by decide +kernel
theorem dX11_closes_117 : decode cX11_closes 117 = .ok (.iconst 1, 1) := by decide +kernel
theorem dX11_closes_118 : decode cX11_closes 118 = .ok (.ireturn, 1) := by decide +kernel
theorem dX11_closes_119 : decode cX11_closes 119 = .ok (.aload_n 0, 1) := by decide +kernel
theorem dX11_closes_120 : decode cX11_closes 120 = .ok (.getfield 115, 3) := by decide +kernel
theorem dX11_closes_123 : decode cX11_closes 123 = .ok (.aload_n 0, 1) := by decide +kernel
theorem dX11_closes_124 : decode cX11_closes 124 = .ok (.getfield 288, 3) := by decide +kernel
theorem dX11_closes_127 : decode cX11_closes 127 = .ok (.iaload, 1) := by decide +kernel
theorem dX11_closes_128 : decode cX11_closes 128 = .ok (.iconst 2, 1) := by decide +kernel
theorem dX11_closes_129 : decode cX11_closes 129 = .ok (.irem, 1) := by decide +kernel
theorem dX11_closes_130 : decode cX11_closes 130 = .ok (.iconst 1, 1) := by decide +kernel
theorem dX11_closes_131 : decode cX11_closes 131 = .ok (.if_icmp .ne 11, 3) := by decide +kernel
theorem dX11_closes_134 : decode cX11_closes 134 = .ok (.aload_n 0, 1) := by decide +kernel
theorem dX11_closes_135 : decode cX11_closes 135 = .ok (.iconst 2, 1) := by decide +kernel
theorem dX11_closes_136 : decode cX11_closes 136 = .ok (.iconst 0, 1) := by decide +kernel
theorem dX11_closes_137 : decode cX11_closes 137 = .ok (.iconst 0, 1) := by decide +kernel
theorem dX11_closes_138 : decode cX11_closes 138 = .ok (.iconst 0, 1) := by decide +kernel
theorem dX11_closes_139 : decode cX11_closes 139 = .ok (.invokevirtual 284, 3) := by decide +kernel
theorem dX11_closes_142 : decode cX11_closes 142 = .ok (.aload_n 0, 1) := by decide +kernel
theorem dX11_closes_143 : decode cX11_closes 143 = .ok (.getfield 115, 3) := by decide +kernel
theorem dX11_closes_146 : decode cX11_closes 146 = .ok (.aload_n 0, 1) := by decide +kernel
theorem dX11_closes_147 : decode cX11_closes 147 = .ok (.getfield 288, 3) := by decide +kernel
theorem dX11_closes_150 : decode cX11_closes 150 = .ok (.aload_n 0, 1) := by decide +kernel
theorem dX11_closes_151 : decode cX11_closes 151 = .ok (.getfield 115, 3) := by decide +kernel
theorem dX11_closes_154 : decode cX11_closes 154 = .ok (.aload_n 0, 1) := by decide +kernel
theorem dX11_closes_155 : decode cX11_closes 155 = .ok (.getfield 288, 3) := by decide +kernel
theorem dX11_closes_158 : decode cX11_closes 158 = .ok (.iaload, 1) := by decide +kernel
theorem dX11_closes_159 : decode cX11_closes 159 = .ok (.iconst 2, 1) := by decide +kernel
theorem dX11_closes_160 : decode cX11_closes 160 = .ok (.idiv, 1) := by decide +kernel
theorem dX11_closes_161 : decode cX11_closes 161 = .ok (.iconst 2, 1) := by decide +kernel
theorem dX11_closes_162 : decode cX11_closes 162 = .ok (.imul, 1) := by decide +kernel
theorem dX11_closes_163 : decode cX11_closes 163 = .ok (.iastore, 1) := by decide +kernel
theorem dX11_closes_164 : decode cX11_closes 164 = .ok (.aload_n 0, 1) := by decide +kernel
theorem dX11_closes_165 : decode cX11_closes 165 = .ok (.getfield 115, 3) := by decide +kernel
theorem dX11_closes_168 : decode cX11_closes 168 = .ok (.aload_n 0, 1) := by decide +kernel
theorem dX11_closes_169 : decode cX11_closes 169 = .ok (.getfield 288, 3) := by decide +kernel
theorem dX11_closes_172 : decode cX11_closes 172 = .ok (.iaload, 1) := by decide +kernel
theorem dX11_closes_173 : decode cX11_closes 173 = .ok (.iconst 1, 1) := by decide +kernel
theorem dX11_closes_174 : decode cX11_closes 174 = .ok (.if_icmp .le 11, 3) := by decide +kernel
theorem dX11_closes_177 : decode cX11_closes 177 = .ok (.aload_n 0, 1) := by decide +kernel
theorem dX11_closes_178 : decode cX11_closes 178 = .ok (.iconst 3, 1) := by decide +kernel
theorem dX11_closes_179 : decode cX11_closes 179 = .ok (.iconst 0, 1) := by decide +kernel
theorem dX11_closes_180 : decode cX11_closes 180 = .ok (.iconst 0, 1) := by decide +kernel
theorem dX11_closes_181 : decode cX11_closes 181 = .ok (.iconst 0, 1) := by decide +kernel
theorem dX11_closes_182 : decode cX11_closes 182 = .ok (.invokevirtual 284, 3) := by decide +kernel
theorem dX11_closes_185 : decode cX11_closes 185 = .ok (.aload_n 0, 1) := by decide +kernel
theorem dX11_closes_186 : decode cX11_closes 186 = .ok (.getfield 115, 3) := by decide +kernel
theorem dX11_closes_189 : decode cX11_closes 189 = .ok (.aload_n 0, 1) := by decide +kernel
theorem dX11_closes_190 : decode cX11_closes 190 = .ok (.getfield 288, 3) := by decide +kernel
theorem dX11_closes_193 : decode cX11_closes 193 = .ok (.iconst 0, 1) := by decide +kernel
theorem dX11_closes_194 : decode cX11_closes 194 = .ok (.iastore, 1) := by decide +kernel
theorem dX11_closes_195 : decode cX11_closes 195 = .ok (.aload_n 0, 1) := by decide +kernel
theorem dX11_closes_196 : decode cX11_closes 196 = .ok (.ldc2_w 293, 3) := by decide +kernel
theorem dX11_closes_199 : decode cX11_closes 199 = .ok (.invokevirtual 266, 3) := by decide +kernel
theorem dX11_closes_202 : decode cX11_closes 202 = .ok (.ifCond .eq 19, 3) := by decide +kernel
theorem dX11_closes_205 : decode cX11_closes 205 = .ok (.aload_n 0, 1) := by decide +kernel
theorem dX11_closes_206 : decode cX11_closes 206 = .ok (.getfield 115, 3) := by decide +kernel
theorem dX11_closes_209 : decode cX11_closes 209 = .ok (.aload_n 0, 1) := by decide +kernel
theorem dX11_closes_210 : decode cX11_closes 210 = .ok (.getfield 288, 3) := by decide +kernel
theorem dX11_closes_213 : decode cX11_closes 213 = .ok (.iconst 2, 1) := by decide +kernel
theorem dX11_closes_214 : decode cX11_closes 214 = .ok (.iastore, 1) := by decide +kernel
theorem dX11_closes_215 : decode cX11_closes 215 = .ok (.aload_n 0, 1) := by decide +kernel
theorem dX11_closes_216 : decode cX11_closes 216 = .ok (.invokevirtual 233, 3) := by decide +kernel
theorem dX11_closes_219 : decode cX11_closes 219 = .ok (.iconst 1, 1) := by decide +kernel
theorem dX11_closes_220 : decode cX11_closes 220 = .ok (.ireturn, 1) := by decide +kernel
theorem dX11_closes_221 : decode cX11_closes 221 = .ok (.aload_n 0, 1) := by decide +kernel
theorem dX11_closes_222 : decode cX11_closes 222 = .ok (.getfield 288, 3) := by decide +kernel
theorem dX11_closes_225 : decode cX11_closes 225 = .ok (.ifCond .le 7, 3) := by decide +kernel
theorem dX11_closes_228 : decode cX11_closes 228 = .ok (.iconst 1, 1) := by decide +kernel
theorem dX11_closes_229 : decode cX11_closes 229 = .ok (.goto 4, 3) := by decide +kernel
theorem dX11_closes_232 : decode cX11_closes 232 = .ok (.iconst 0, 1) := by decide +kernel
theorem dX11_closes_233 : decode cX11_closes 233 = .ok (.istore_n 1, 1) := by decide +kernel
theorem dX11_closes_234 : decode cX11_closes 234 = .ok (.iload_n 1, 1) := by decide +kernel
theorem dX11_closes_235 : decode cX11_closes 235 = .ok (.ifCond .ne 5, 3) := by decide +kernel
theorem dX11_closes_238 : decode cX11_closes 238 = .ok (.iconst 0, 1) := by decide +kernel
theorem dX11_closes_239 : decode cX11_closes 239 = .ok (.ireturn, 1) := by decide +kernel
theorem dX11_closes_240 : decode cX11_closes 240 = .ok (.aload_n 0, 1) := by decide +kernel
theorem dX11_closes_241 : decode cX11_closes 241 = .ok (.getfield 220, 3) := by decide +kernel
theorem dX11_closes_244 : decode cX11_closes 244 = .ok (.bipush 41, 2) := by decide +kernel
theorem dX11_closes_246 : decode cX11_closes 246 = .ok (.if_icmp .eq 9, 3) := by decide +kernel
theorem dX11_closes_249 : decode cX11_closes 249 = .ok (.aload_n 0, 1) := by decide +kernel
theorem dX11_closes_250 : decode cX11_closes 250 = .ok (.invokevirtual 230, 3) := by decide +kernel
theorem dX11_closes_253 : decode cX11_closes 253 = .ok (.iconst 0, 1) := by decide +kernel
theorem dX11_closes_254 : decode cX11_closes 254 = .ok (.ireturn, 1) := by decide +kernel
theorem dX11_closes_255 : decode cX11_closes 255 = .ok (.aload_n 0, 1) := by decide +kernel
theorem dX11_closes_256 : decode cX11_closes 256 = .ok (.dup, 1) := by decide +kernel
theorem dX11_closes_257 : decode cX11_closes 257 = .ok (.getfield 288, 3) := by decide +kernel
theorem dX11_closes_260 : decode cX11_closes 260 = .ok (.iconst 1, 1) := by decide +kernel
theorem dX11_closes_261 : decode cX11_closes 261 = .ok (.isub, 1) := by decide +kernel
theorem dX11_closes_262 : decode cX11_closes 262 = .ok (.putfield 288, 3) := by decide +kernel
theorem dX11_closes_265 : decode cX11_closes 265 = .ok (.aload_n 0, 1) := by decide +kernel
theorem dX11_closes_266 : decode cX11_closes 266 = .ok (.invokevirtual 233, 3) := by decide +kernel
theorem dX11_closes_269 : decode cX11_closes 269 = .ok (.goto (-267), 3) := by decide +kernel
theorem dX11_closes_272 : decode cX11_closes 272 = .ok (.iconst 0, 1) := by decide +kernel
theorem dX11_closes_273 : decode cX11_closes 273 = .ok (.ireturn, 1) := by decide +kernel
theorem dX11_readCondition_0 : decode cX11_readCondition 0 = .ok (.aload_n 0, 1) := by decide +kernel
theorem dX11_readCondition_1 : decode cX11_readCondition 1 = .ok (.iconst 0, 1) := by decide +kernel
theorem dX11_readCondition_2 : decode cX11_readCondition 2 = .ok (.putfield 288, 3) := by decide +kernel
theorem dX11_readCondition_5 : decode cX11_readCondition 5 = .ok (.aload_n 0, 1) := by decide +kernel
theorem dX11_readCondition_6 : decode cX11_readCondition 6 = .ok (.getfield 115, 3) := by decide +kernel
theorem dX11_readCondition_9 : decode cX11_readCondition 9 = .ok (.iconst 0, 1) := by decide +kernel
theorem dX11_readCondition_10 : decode cX11_readCondition 10 = .ok (.iconst 0, 1) := by decide +kernel
theorem dX11_readCondition_11 : decode cX11_readCondition 11 = .ok (.iastore, 1) := by decide +kernel
theorem dX11_readCondition_12 : decode cX11_readCondition 12 = .ok (.iconst 1, 1) := by decide +kernel
theorem dX11_readCondition_13 : decode cX11_readCondition 13 = .ok (.istore_n 1, 1) := by decide +kernel
theorem dX11_readCondition_14 : decode cX11_readCondition 14 = .ok (.iload_n 1, 1) := by decide +kernel
theorem dX11_readCondition_15 : decode cX11_readCondition 15 = .ok (.ifCond .eq 117, 3) := by decide +kernel
theorem dX11_readCondition_18 : decode cX11_readCondition 18 = .ok (.aload_n 0, 1) := by decide +kernel
theorem dX11_readCondition_19 : decode cX11_readCondition 19 = .ok (.getfield 226, 3) := by decide +kernel
theorem dX11_readCondition_22 : decode cX11_readCondition 22 = .ok (.ifCond .ne 110, 3) := by decide +kernel
theorem dX11_readCondition_25 : decode cX11_readCondition 25 = .ok (.aload_n 0, 1) := by decide +kernel
theorem dX11_readCondition_26 : decode cX11_readCondition 26 = .ok (.ldc2_w 295, 3) := by decide +kernel
theorem dX11_readCondition_29 : decode cX11_readCondition 29 = .ok (.invokevirtual 266, 3) := by decide +kernel
theorem dX11_readCondition_32 : decode cX11_readCondition 32 = .ok (.istore_n 2, 1) := by decide +kernel
theorem dX11_readCondition_33 : decode cX11_readCondition 33 = .ok (.iload_n 2, 1) := by decide +kernel
theorem dX11_readCondition_34 : decode cX11_readCondition 34 = .ok (.ifCond .ne 12, 3) := by decide +kernel
theorem dX11_readCondition_37 : decode cX11_readCondition 37 = .ok (.aload_n 0, 1) := by decide +kernel
theorem dX11_readCondition_38 : decode cX11_readCondition 38 = .ok (.getfield 220, 3) := by decide +kernel
theorem dX11_readCondition_41 : decode cX11_readCondition 41 = .ok (.bipush 40, 2) := by decide +kernel
theorem dX11_readCondition_43 : decode cX11_readCondition 43 = .ok (.if_icmp .ne 62, 3) := by decide +kernel
theorem dX11_readCondition_46 : decode cX11_readCondition 46 = .ok (.aload_n 0, 1) := by decide +kernel
theorem dX11_readCondition_47 : decode cX11_readCondition 47 = .ok (.getfield 288, 3) := by decide +kernel
theorem dX11_readCondition_50 : decode cX11_readCondition 50 = .ok (.bipush 9, 2) := by decide +kernel
theorem dX11_readCondition_52 : decode cX11_readCondition 52 = .ok (.if_icmp .ne 8, 3) := by decide +kernel
theorem dX11_readCondition_55 : decode cX11_readCondition 55 = .ok (.aload_n 0, 1) := by decide +kernel
theorem dX11_readCondition_56 : decode cX11_readCondition 56 = .ok (.invokevirtual 230, 3) := by decide +kernel
theorem dX11_readCondition_59 : decode cX11_readCondition 59 = .ok (.return_, 1) := by decide +kernel
theorem dX11_readCondition_60 : decode cX11_readCondition 60 = .ok (.aload_n 0, 1) := by decide +kernel
theorem dX11_readCondition_61 : decode cX11_readCondition 61 = .ok (.getfield 112, 3) := by decide +kernel
theorem dX11_readCondition_64 : decode cX11_readCondition 64 = .ok (.aload_n 0, 1) := by decide +kernel
theorem dX11_readCondition_65 : decode cX11_readCondition 65 = .ok (.getfield 288, 3) := by decide +kernel
theorem dX11_readCondition_68 : decode cX11_readCondition 68 = .ok (.iload_n 2, 1) := by decide +kernel
theorem dX11_readCondition_69 : decode cX11_readCondition 69 = .ok (.ifCond .eq 7, 3) := by decide +kernel
theorem dX11_readCondition_72 : decode cX11_readCondition 72 = .ok (.iconst 1, 1) := by decide +kernel
theorem dX11_readCondition_73 : decode cX11_readCondition 73 = .ok (.goto 4, 3) := by decide +kernel
theorem dX11_readCondition_76 : decode cX11_readCondition 76 = .ok (.iconst 2, 1) := by decide +kernel
theorem dX11_readCondition_77 : decode cX11_readCondition 77 = .ok (.iastore, 1) := by decide +kernel
theorem dX11_readCondition_78 : decode cX11_readCondition 78 = .ok (.aload_n 0, 1) := by decide +kernel
theorem dX11_readCondition_79 : decode cX11_readCondition 79 = .ok (.dup, 1) := by decide +kernel
theorem dX11_readCondition_80 : decode cX11_readCondition 80 = .ok (.getfield 288, 3) := by decide +kernel
theorem dX11_readCondition_83 : decode cX11_readCondition 83 = .ok (.iconst 1, 1) := by decide +kernel
theorem dX11_readCondition_84 : decode cX11_readCondition 84 = .ok (.iadd, 1) := by decide +kernel
theorem dX11_readCondition_85 : decode cX11_readCondition 85 = .ok (.putfield 288, 3) := by decide +kernel
theorem dX11_readCondition_88 : decode cX11_readCondition 88 = .ok (.aload_n 0, 1) := by decide +kernel
theorem dX11_readCondition_89 : decode cX11_readCondition 89 = .ok (.getfield 115, 3) := by decide +kernel
theorem dX11_readCondition_92 : decode cX11_readCondition 92 = .ok (.aload_n 0, 1) := by decide +kernel
theorem dX11_readCondition_93 : decode cX11_readCondition 93 = .ok (.getfield 288, 3) := by decide +kernel
theorem dX11_readCondition_96 : decode cX11_readCondition 96 = .ok (.iconst 0, 1) := by decide +kernel
theorem dX11_readCondition_97 : decode cX11_readCondition 97 = .ok (.iastore, 1) := by decide +kernel
theorem dX11_readCondition_98 : decode cX11_readCondition 98 = .ok (.aload_n 0, 1) := by decide +kernel
theorem dX11_readCondition_99 : decode cX11_readCondition 99 = .ok (.invokevirtual 233, 3) := by decide +kernel
theorem dX11_readCondition_102 : decode cX11_readCondition 102 = .ok (.goto (-88), 3) := by decide +kernel
theorem dX11_readCondition_105 : decode cX11_readCondition 105 = .ok (.aload_n 0, 1) := by decide +kernel
theorem dX11_readCondition_106 : decode cX11_readCondition 106 = .ok (.invokevirtual 297, 3) := by decide +kernel
theorem dX11_readCondition_109 : decode cX11_readCondition 109 = .ok (.aload_n 0, 1) := by decide +kernel
theorem dX11_readCondition_110 : decode cX11_readCondition 110 = .ok (.getfield 226, 3) := by decide +kernel
theorem dX11_readCondition_113 : decode cX11_readCondition 113 = .ok (.ifCond .ne 14, 3) := by decide +kernel
theorem dX11_readCondition_116 : decode cX11_readCondition 116 = .ok (.aload_n 0, 1) := by decide +kernel
theorem dX11_readCondition_117 : decode cX11_readCondition 117 = .ok (.invokevirtual 300, 3) := by decide +kernel
theorem dX11_readCondition_120 : decode cX11_readCondition 120 = .ok (.ifCond .eq 7, 3) := by decide +kernel
theorem dX11_readCondition_123 : decode cX11_readCondition 123 = .ok (.iconst 1, 1) := by decide +kernel
theorem dX11_readCondition_124 : decode cX11_readCondition 124 = .ok (.goto 4, 3) := by decide +kernel
theorem dX11_readCondition_127 : decode cX11_readCondition 127 = .ok (.iconst 0, 1) := by decide +kernel
theorem dX11_readCondition_128 : decode cX11_readCondition 128 = .ok (.istore_n 1, 1) := by decide +kernel
theorem dX11_readCondition_129 : decode cX11_readCondition 129 = .ok (.goto (-115), 3) := by decide +kernel
theorem dX11_readCondition_132 : decode cX11_readCondition 132 = .ok (.return_, 1) := by decide +kernel
theorem dX11_readSea_0 : decode cX11_readSea 0 = .ok (.aload_n 0, 1) := by decide +kernel
theorem dX11_readSea_1 : decode cX11_readSea 1 = .ok (.getfield 77, 3) := by decide +kernel
theorem dX11_readSea_4 : decode cX11_readSea 4 = .ok (.iload_n 1, 1) := by decide +kernel
theorem dX11_readSea_5 : decode cX11_readSea 5 = .ok (.aload_n 0, 1) := by decide +kernel
theorem dX11_readSea_6 : decode cX11_readSea 6 = .ok (.iconst 0, 1) := by decide +kernel
theorem dX11_readSea_7 : decode cX11_readSea 7 = .ok (.bipush 99, 2) := by decide +kernel
theorem dX11_readSea_9 : decode cX11_readSea 9 = .ok (.invokevirtual 280, 3) := by decide +kernel
theorem dX11_readSea_12 : decode cX11_readSea 12 = .ok (.iastore, 1) := by decide +kernel
theorem dX11_readSea_13 : decode cX11_readSea 13 = .ok (.aload_n 0, 1) := by decide +kernel
theorem dX11_readSea_14 : decode cX11_readSea 14 = .ok (.getfield 80, 3) := by decide +kernel
theorem dX11_readSea_17 : decode cX11_readSea 17 = .ok (.iload_n 1, 1) := by decide +kernel
theorem dX11_readSea_18 : decode cX11_readSea 18 = .ok (.aload_n 0, 1) := by decide +kernel
theorem dX11_readSea_19 : decode cX11_readSea 19 = .ok (.iconst 0, 1) := by decide +kernel
theorem dX11_readSea_20 : decode cX11_readSea 20 = .ok (.bipush 99, 2) := by decide +kernel
theorem dX11_readSea_22 : decode cX11_readSea 22 = .ok (.invokevirtual 280, 3) := by decide +kernel
theorem dX11_readSea_25 : decode cX11_readSea 25 = .ok (.iastore, 1) := by decide +kernel
theorem dX11_readSea_26 : decode cX11_readSea 26 = .ok (.aload_n 0, 1) := by decide +kernel
theorem dX11_readSea_27 : decode cX11_readSea 27 = .ok (.getfield 83, 3) := by decide +kernel
theorem dX11_readSea_30 : decode cX11_readSea 30 = .ok (.iload_n 1, 1) := by decide +kernel
theorem dX11_readSea_31 : decode cX11_readSea 31 = .ok (.aload_n 0, 1) := by decide +kernel
theorem dX11_readSea_32 : decode cX11_readSea 32 = .ok (.getfield 80, 3) := by decide +kernel
theorem dX11_readSea_35 : decode cX11_readSea 35 = .ok (.iload_n 1, 1) := by decide +kernel
theorem dX11_readSea_36 : decode cX11_readSea 36 = .ok (.iaload, 1) := by decide +kernel
theorem dX11_readSea_37 : decode cX11_readSea 37 = .ok (.iastore, 1) := by decide +kernel
theorem dX11_readSea_38 : decode cX11_readSea 38 = .ok (.aload_n 0, 1) := by decide +kernel
theorem dX11_readSea_39 : decode cX11_readSea 39 = .ok (.ldc2_w 303, 3) := by decide +kernel
theorem dX11_readSea_42 : decode cX11_readSea 42 = .ok (.invokevirtual 266, 3) := by decide +kernel
theorem dX11_readSea_45 : decode cX11_readSea 45 = .ok (.ifCond .ne 4, 3) := by decide +kernel
theorem dX11_readSea_48 : decode cX11_readSea 48 = .ok (.return_, 1) := by decide +kernel
theorem dX11_readSea_49 : decode cX11_readSea 49 = .ok (.aload_n 0, 1) := by decide +kernel
theorem dX11_readSea_50 : decode cX11_readSea 50 = .ok (.invokevirtual 233, 3) := by decide +kernel
theorem dX11_readSea_53 : decode cX11_readSea 53 = .ok (.aload_n 0, 1) := by decide +kernel
theorem dX11_readSea_54 : decode cX11_readSea 54 = .ok (.getfield 83, 3) := by decide +kernel
theorem dX11_readSea_57 : decode cX11_readSea 57 = .ok (.iload_n 1, 1) := by decide +kernel
theorem dX11_readSea_58 : decode cX11_readSea 58 = .ok (.aload_n 0, 1) := by decide +kernel
theorem dX11_readSea_59 : decode cX11_readSea 59 = .ok (.aload_n 0, 1) := by decide +kernel
theorem dX11_readSea_60 : decode cX11_readSea 60 = .ok (.getfield 80, 3) := by decide +kernel
theorem dX11_readSea_63 : decode cX11_readSea 63 = .ok (.iload_n 1, 1) := by decide +kernel
theorem dX11_readSea_64 : decode cX11_readSea 64 = .ok (.iaload, 1) := by decide +kernel
theorem dX11_readSea_65 : decode cX11_readSea 65 = .ok (.bipush 99, 2) := by decide +kernel
theorem dX11_readSea_67 : decode cX11_readSea 67 = .ok (.invokevirtual 280, 3) := by decide +kernel
theorem dX11_readSea_70 : decode cX11_readSea 70 = .ok (.iastore, 1) := by decide +kernel
theorem dX11_readSea_71 : decode cX11_readSea 71 = .ok (.return_, 1) := by decide +kernel
theorem dX11_readRule_0 : decode cX11_readRule 0 = .ok (.bipush 40, 2) := by decide +kernel
theorem dX11_readRule_2 : decode cX11_readRule 2 = .ok (.aload_n 0, 1) := by decide +kernel
theorem dX11_readRule_3 : decode cX11_readRule 3 = .ok (.getfield 71, 3) := by decide +kernel
theorem dX11_readRule_6 : decode cX11_readRule 6 = .ok (.iconst 1, 1) := by decide +kernel
theorem dX11_readRule_7 : decode cX11_readRule 7 = .ok (.iaload, 1) := by decide +kernel
theorem dX11_readRule_8 : decode cX11_readRule 8 = .ok (.iadd, 1) := by decide +kernel
theorem dX11_readRule_9 : decode cX11_readRule 9 = .ok (.istore_n 1, 1) := by decide +kernel
theorem dX11_readRule_10 : decode cX11_readRule 10 = .ok (.aload_n 0, 1) := by decide +kernel
theorem dX11_readRule_11 : decode cX11_readRule 11 = .ok (.invokevirtual 305, 3) := by decide +kernel
theorem dX11_readRule_14 : decode cX11_readRule 14 = .ok (.istore_n 2, 1) := by decide +kernel
theorem dX11_readRule_15 : decode cX11_readRule 15 = .ok (.iload_n 2, 1) := by decide +kernel
theorem dX11_readRule_16 : decode cX11_readRule 16 = .ok (.ifCond .lt 14, 3) := by decide +kernel
theorem dX11_readRule_19 : decode cX11_readRule 19 = .ok (.aload_n 0, 1) := by decide +kernel
theorem dX11_readRule_20 : decode cX11_readRule 20 = .ok (.getfield 71, 3) := by decide +kernel
theorem dX11_readRule_23 : decode cX11_readRule 23 = .ok (.iconst 1, 1) := by decide +kernel
theorem dX11_readRule_24 : decode cX11_readRule 24 = .ok (.iaload, 1) := by decide +kernel
theorem dX11_readRule_25 : decode cX11_readRule 25 = .ok (.bipush 40, 2) := by decide +kernel
theorem dX11_readRule_27 : decode cX11_readRule 27 = .ok (.if_icmp .ne 8, 3) := by decide +kernel
theorem dX11_readRule_30 : decode cX11_readRule 30 = .ok (.aload_n 0, 1) := by decide +kernel
theorem dX11_readRule_31 : decode cX11_readRule 31 = .ok (.invokevirtual 230, 3) := by decide +kernel
theorem dX11_readRule_34 : decode cX11_readRule 34 = .ok (.return_, 1) := by decide +kernel
theorem dX11_readRule_35 : decode cX11_readRule 35 = .ok (.aload_n 0, 1) := by decide +kernel
theorem dX11_readRule_36 : decode cX11_readRule 36 = .ok (.invokevirtual 233, 3) := by decide +kernel
theorem dX11_readRule_39 : decode cX11_readRule 39 = .ok (.aload_n 0, 1) := by decide +kernel
theorem dX11_readRule_40 : decode cX11_readRule 40 = .ok (.getfield 74, 3) := by decide +kernel
theorem dX11_readRule_43 : decode cX11_readRule 43 = .ok (.iload_n 1, 1) := by decide +kernel
theorem dX11_readRule_44 : decode cX11_readRule 44 = .ok (.iload_n 2, 1) := by decide +kernel
theorem dX11_readRule_45 : decode cX11_readRule 45 = .ok (.iastore, 1) := by decide +kernel
theorem dX11_readRule_46 : decode cX11_readRule 46 = .ok (.aload_n 0, 1) := by decide +kernel
theorem dX11_readRule_47 : decode cX11_readRule 47 = .ok (.getfield 86, 3) := by decide +kernel
theorem dX11_readRule_50 : decode cX11_readRule 50 = .ok (.iload_n 1, 1) := by decide +kernel
theorem dX11_readRule_51 : decode cX11_readRule 51 = .ok (.aload_n 0, 1) := by decide +kernel
theorem dX11_readRule_52 : decode cX11_readRule 52 = .ok (.getfield 274, 3) := by decide +kernel
theorem dX11_readRule_55 : decode cX11_readRule 55 = .ok (.iastore, 1) := by decide +kernel
theorem dX11_readRule_56 : decode cX11_readRule 56 = .ok (.iload_n 2, 1) := by decide +kernel
theorem dX11_readRule_57 : decode cX11_readRule 57 = .ok (.ifCond .ne 11, 3) := by decide +kernel
theorem dX11_readRule_60 : decode cX11_readRule 60 = .ok (.aload_n 0, 1) := by decide +kernel
theorem dX11_readRule_61 : decode cX11_readRule 61 = .ok (.iload_n 1, 1) := by decide +kernel
theorem dX11_readRule_62 : decode cX11_readRule 62 = .ok (.invokevirtual 308, 3) := by decide +kernel
theorem dX11_readRule_65 : decode cX11_readRule 65 = .ok (.goto 92, 3) := by decide +kernel
theorem dX11_readRule_68 : decode cX11_readRule 68 = .ok (.iload_n 2, 1) := by decide +kernel
theorem dX11_readRule_69 : decode cX11_readRule 69 = .ok (.iconst 5, 1) := by decide +kernel
theorem dX11_readRule_70 : decode cX11_readRule 70 = .ok (.if_icmp .ne 29, 3) := by decide +kernel
theorem dX11_readRule_73 : decode cX11_readRule 73 = .ok (.aload_n 0, 1) := by decide +kernel
theorem dX11_readRule_74 : decode cX11_readRule 74 = .ok (.getfield 80, 3) := by decide +kernel
theorem dX11_readRule_77 : decode cX11_readRule 77 = .ok (.iload_n 1, 1) := by decide +kernel
theorem dX11_readRule_78 : decode cX11_readRule 78 = .ok (.aload_n 0, 1) := by decide +kernel
theorem dX11_readRule_79 : decode cX11_readRule 79 = .ok (.invokevirtual 312, 3) := by decide +kernel
theorem dX11_readRule_82 : decode cX11_readRule 82 = .ok (.iastore, 1) := by decide +kernel
theorem dX11_readRule_83 : decode cX11_readRule 83 = .ok (.aload_n 0, 1) := by decide +kernel
theorem dX11_readRule_84 : decode cX11_readRule 84 = .ok (.getfield 77, 3) := by decide +kernel
theorem dX11_readRule_87 : decode cX11_readRule 87 = .ok (.iload_n 1, 1) := by decide +kernel
theorem dX11_readRule_88 : decode cX11_readRule 88 = .ok (.aload_n 0, 1) := by decide +kernel
theorem dX11_readRule_89 : decode cX11_readRule 89 = .ok (.iconst 0, 1) := by decide +kernel
theorem dX11_readRule_90 : decode cX11_readRule 90 = .ok (.bipush 100, 2) := by decide +kernel
theorem dX11_readRule_92 : decode cX11_readRule 92 = .ok (.invokevirtual 280, 3) := by decide +kernel
theorem dX11_readRule_95 : decode cX11_readRule 95 = .ok (.iastore, 1) := by decide +kernel
theorem dX11_readRule_96 : decode cX11_readRule 96 = .ok (.goto 61, 3) := by decide +kernel
theorem dX11_readRule_99 : decode cX11_readRule 99 = .ok (.aload_n 0, 1) := by decide +kernel
theorem dX11_readRule_100 : decode cX11_readRule 100 = .ok (.getfield 77, 3) := by decide +kernel
theorem dX11_readRule_103 : decode cX11_readRule 103 = .ok (.iload_n 1, 1) := by decide +kernel
theorem dX11_readRule_104 : decode cX11_readRule 104 = .ok (.aload_n 0, 1) := by decide +kernel
theorem dX11_readRule_105 : decode cX11_readRule 105 = .ok (.iconst 0, 1) := by decide +kernel
theorem dX11_readRule_106 : decode cX11_readRule 106 = .ok (.iload_n 2, 1) := by decide +kernel
theorem dX11_readRule_107 : decode cX11_readRule 107 = .ok (.iconst 4, 1) := by decide +kernel
theorem dX11_readRule_108 : decode cX11_readRule 108 = .ok (.if_icmp .ne 8, 3) := by decide +kernel
theorem dX11_readRule_111 : decode cX11_readRule 111 = .ok (.bipush 100, 2) := by decide +kernel
theorem dX11_readRule_113 : decode cX11_readRule 113 = .ok (.goto 16, 3) := by decide +kernel
theorem dX11_readRule_116 : decode cX11_readRule 116 = .ok (.iload_n 2, 1) := by decide +kernel
theorem dX11_readRule_117 : decode cX11_readRule 117 = .ok (.bipush 6, 2) := by decide +kernel
theorem dX11_readRule_119 : decode cX11_readRule 119 = .ok (.if_icmp .ne 8, 3) := by decide +kernel
theorem dX11_readRule_122 : decode cX11_readRule 122 = .ok (.bipush 10, 2) := by decide +kernel
theorem dX11_readRule_124 : decode cX11_readRule 124 = .ok (.goto 5, 3) := by decide +kernel
theorem dX11_readRule_127 : decode cX11_readRule 127 = .ok (.bipush 99, 2) := by decide +kernel
theorem dX11_readRule_129 : decode cX11_readRule 129 = .ok (.invokevirtual 280, 3) := by decide +kernel
theorem dX11_readRule_132 : decode cX11_readRule 132 = .ok (.iastore, 1) := by decide +kernel
theorem dX11_readRule_133 : decode cX11_readRule 133 = .ok (.iload_n 2, 1) := by decide +kernel
theorem dX11_readRule_134 : decode cX11_readRule 134 = .ok (.bipush 6, 2) := by decide +kernel
theorem dX11_readRule_136 : decode cX11_readRule 136 = .ok (.if_icmp .eq 21, 3) := by decide +kernel
theorem dX11_readRule_139 : decode cX11_readRule 139 = .ok (.aload_n 0, 1) := by decide +kernel
theorem dX11_readRule_140 : decode cX11_readRule 140 = .ok (.ldc2_w 315, 3) := by decide +kernel
theorem dX11_readRule_143 : decode cX11_readRule 143 = .ok (.invokevirtual 266, 3) := by decide +kernel
theorem dX11_readRule_146 : decode cX11_readRule 146 = .ok (.ifCond .eq 11, 3) := by decide +kernel
theorem dX11_readRule_149 : decode cX11_readRule 149 = .ok (.aload_n 0, 1) := by decide +kernel
theorem dX11_readRule_150 : decode cX11_readRule 150 = .ok (.invokevirtual 233, 3) := by decide +kernel
theorem dX11_readRule_153 : decode cX11_readRule 153 = .ok (.aload_n 0, 1) := by decide +kernel
theorem dX11_readRule_154 : decode cX11_readRule 154 = .ok (.invokevirtual 317, 3) := by decide +kernel
theorem dX11_readRule_157 : decode cX11_readRule 157 = .ok (.aload_n 0, 1) := by decide +kernel
theorem dX11_readRule_158 : decode cX11_readRule 158 = .ok (.getfield 89, 3) := by decide +kernel
theorem dX11_readRule_161 : decode cX11_readRule 161 = .ok (.iload_n 1, 1) := by decide +kernel
theorem dX11_readRule_162 : decode cX11_readRule 162 = .ok (.aload_n 0, 1) := by decide +kernel
theorem dX11_readRule_163 : decode cX11_readRule 163 = .ok (.getfield 274, 3) := by decide +kernel
theorem dX11_readRule_166 : decode cX11_readRule 166 = .ok (.iastore, 1) := by decide +kernel
theorem dX11_readRule_167 : decode cX11_readRule 167 = .ok (.aload_n 0, 1) := by decide +kernel
theorem dX11_readRule_168 : decode cX11_readRule 168 = .ok (.getfield 226, 3) := by decide +kernel
theorem dX11_readRule_171 : decode cX11_readRule 171 = .ok (.ifCond .ne 16, 3) := by decide +kernel
theorem dX11_readRule_174 : decode cX11_readRule 174 = .ok (.aload_n 0, 1) := by decide +kernel
theorem dX11_readRule_175 : decode cX11_readRule 175 = .ok (.getfield 220, 3) := by decide +kernel
theorem dX11_readRule_178 : decode cX11_readRule 178 = .ok (.bipush 59, 2) := by decide +kernel
theorem dX11_readRule_180 : decode cX11_readRule 180 = .ok (.if_icmp .eq 7, 3) := by decide +kernel
theorem dX11_readRule_183 : decode cX11_readRule 183 = .ok (.aload_n 0, 1) := by decide +kernel
theorem dX11_readRule_184 : decode cX11_readRule 184 = .ok (.invokevirtual 230, 3) := by decide +kernel
theorem dX11_readRule_187 : decode cX11_readRule 187 = .ok (.aload_n 0, 1) := by decide +kernel
theorem dX11_readRule_188 : decode cX11_readRule 188 = .ok (.getfield 226, 3) := by decide +kernel
theorem dX11_readRule_191 : decode cX11_readRule 191 = .ok (.ifCond .eq 4, 3) := by decide +kernel
theorem dX11_readRule_194 : decode cX11_readRule 194 = .ok (.return_, 1) := by decide +kernel
theorem dX11_readRule_195 : decode cX11_readRule 195 = .ok (.aload_n 0, 1) := by decide +kernel
theorem dX11_readRule_196 : decode cX11_readRule 196 = .ok (.invokevirtual 233, 3) := by decide +kernel
theorem dX11_readRule_199 : decode cX11_readRule 199 = .ok (.aload_n 0, 1) := by decide +kernel
theorem dX11_readRule_200 : decode cX11_readRule 200 = .ok (.getfield 71, 3) := by decide +kernel
theorem dX11_readRule_203 : decode cX11_readRule 203 = .ok (.iconst 1, 1) := by decide +kernel
theorem dX11_readRule_204 : decode cX11_readRule 204 = .ok (.dup2, 1) := by decide +kernel
theorem dX11_readRule_205 : decode cX11_readRule 205 = .ok (.iaload, 1) := by decide +kernel
theorem dX11_readRule_206 : decode cX11_readRule 206 = .ok (.iconst 1, 1) := by decide +kernel
theorem dX11_readRule_207 : decode cX11_readRule 207 = .ok (.iadd, 1) := by decide +kernel
theorem dX11_readRule_208 : decode cX11_readRule 208 = .ok (.iastore, 1) := by decide +kernel
theorem dX11_readRule_209 : decode cX11_readRule 209 = .ok (.return_, 1) := by decide +kernel
theorem dX11_law_0 : decode cX11_law 0 = .ok (.iload_n 1, 1) := by decide +kernel
theorem dX11_law_1 : decode cX11_law 1 = .ok (.ifCond .lt 11, 3) := by decide +kernel
theorem dX11_law_4 : decode cX11_law 4 = .ok (.iload_n 1, 1) := by decide +kernel
theorem dX11_law_5 : decode cX11_law 5 = .ok (.aload_n 0, 1) := by decide +kernel
theorem dX11_law_6 : decode cX11_law 6 = .ok (.getfield 195, 3) := by decide +kernel
theorem dX11_law_9 : decode cX11_law 9 = .ok (.if_icmp .le 16, 3) := by decide +kernel
theorem dX11_law_12 : decode cX11_law 12 = .ok (.aload_n 0, 1) := by decide +kernel
theorem dX11_law_13 : decode cX11_law 13 = .ok (.getfield 7, 3) := by decide +kernel
theorem dX11_law_16 : decode cX11_law 16 = .ok (.iconst 0, 1) := by decide +kernel
theorem dX11_law_17 : decode cX11_law 17 = .ok (.dup2, 1) := by decide +kernel
theorem dX11_law_18 : decode cX11_law 18 = .ok (.iaload, 1) := by decide +kernel
theorem dX11_law_19 : decode cX11_law 19 = .ok (.iconst 1, 1) := by decide +kernel
theorem dX11_law_20 : decode cX11_law 20 = .ok (.iadd, 1) := by decide +kernel
theorem dX11_law_21 : decode cX11_law 21 = .ok (.iastore, 1) := by decide +kernel
theorem dX11_law_22 : decode cX11_law 22 = .ok (.bipush (-2), 2) := by decide +kernel
theorem dX11_law_24 : decode cX11_law 24 = .ok (.ireturn, 1) := by decide +kernel
theorem dX11_law_25 : decode cX11_law 25 = .ok (.aload_n 0, 1) := by decide +kernel
theorem dX11_law_26 : decode cX11_law 26 = .ok (.iload_n 1, 1) := by decide +kernel
theorem dX11_law_27 : decode cX11_law 27 = .ok (.putfield 201, 3) := by decide +kernel
theorem dX11_law_30 : decode cX11_law 30 = .ok (.aload_n 0, 1) := by decide +kernel
theorem dX11_law_31 : decode cX11_law 31 = .ok (.iconst 0, 1) := by decide +kernel
theorem dX11_law_32 : decode cX11_law 32 = .ok (.putfield 195, 3) := by decide +kernel
theorem dX11_law_35 : decode cX11_law 35 = .ok (.aload_n 0, 1) := by decide +kernel
theorem dX11_law_36 : decode cX11_law 36 = .ok (.iconst 0, 1) := by decide +kernel
theorem dX11_law_37 : decode cX11_law 37 = .ok (.putfield 198, 3) := by decide +kernel
theorem dX11_law_40 : decode cX11_law 40 = .ok (.aload_n 0, 1) := by decide +kernel
theorem dX11_law_41 : decode cX11_law 41 = .ok (.iconst (-1), 1) := by decide +kernel
theorem dX11_law_42 : decode cX11_law 42 = .ok (.putfield 108, 3) := by decide +kernel
theorem dX11_law_45 : decode cX11_law 45 = .ok (.aload_n 0, 1) := by decide +kernel
theorem dX11_law_46 : decode cX11_law 46 = .ok (.iconst 0, 1) := by decide +kernel
theorem dX11_law_47 : decode cX11_law 47 = .ok (.putfield 226, 3) := by decide +kernel
theorem dX11_law_50 : decode cX11_law 50 = .ok (.aload_n 0, 1) := by decide +kernel
theorem dX11_law_51 : decode cX11_law 51 = .ok (.sipush 1000, 3) := by decide +kernel
theorem dX11_law_54 : decode cX11_law 54 = .ok (.putfield 274, 3) := by decide +kernel
theorem dX11_law_57 : decode cX11_law 57 = .ok (.aload_n 0, 1) := by decide +kernel
theorem dX11_law_58 : decode cX11_law 58 = .ok (.getfield 71, 3) := by decide +kernel
theorem dX11_law_61 : decode cX11_law 61 = .ok (.iconst 1, 1) := by decide +kernel
theorem dX11_law_62 : decode cX11_law 62 = .ok (.iconst 0, 1) := by decide +kernel
theorem dX11_law_63 : decode cX11_law 63 = .ok (.iastore, 1) := by decide +kernel
theorem dX11_law_64 : decode cX11_law 64 = .ok (.aload_n 0, 1) := by decide +kernel
theorem dX11_law_65 : decode cX11_law 65 = .ok (.invokevirtual 233, 3) := by decide +kernel
theorem dX11_law_68 : decode cX11_law 68 = .ok (.aload_n 0, 1) := by decide +kernel
theorem dX11_law_69 : decode cX11_law 69 = .ok (.getfield 220, 3) := by decide +kernel
theorem dX11_law_72 : decode cX11_law 72 = .ok (.ifCond .eq 17, 3) := by decide +kernel
theorem dX11_law_75 : decode cX11_law 75 = .ok (.aload_n 0, 1) := by decide +kernel
theorem dX11_law_76 : decode cX11_law 76 = .ok (.getfield 226, 3) := by decide +kernel
theorem dX11_law_79 : decode cX11_law 79 = .ok (.ifCond .ne 10, 3) := by decide +kernel
theorem dX11_law_82 : decode cX11_law 82 = .ok (.aload_n 0, 1) := by decide +kernel
theorem dX11_law_83 : decode cX11_law 83 = .ok (.invokevirtual 320, 3) := by decide +kernel
theorem dX11_law_86 : decode cX11_law 86 = .ok (.goto (-18), 3) := by decide +kernel
theorem dX11_law_89 : decode cX11_law 89 = .ok (.aload_n 0, 1) := by decide +kernel
theorem dX11_law_90 : decode cX11_law 90 = .ok (.getfield 226, 3) := by decide +kernel
theorem dX11_law_93 : decode cX11_law 93 = .ok (.ifCond .eq 9, 3) := by decide +kernel
theorem dX11_law_96 : decode cX11_law 96 = .ok (.aload_n 0, 1) := by decide +kernel
theorem dX11_law_97 : decode cX11_law 97 = .ok (.iconst 2, 1) := by decide +kernel
theorem dX11_law_98 : decode cX11_law 98 = .ok (.invokevirtual 175, 3) := by decide +kernel
theorem dX11_law_101 : decode cX11_law 101 = .ok (.ireturn, 1) := by decide +kernel
theorem dX11_law_102 : decode cX11_law 102 = .ok (.aload_n 0, 1) := by decide +kernel
theorem dX11_law_103 : decode cX11_law 103 = .ok (.getfield 71, 3) := by decide +kernel
theorem dX11_law_106 : decode cX11_law 106 = .ok (.iconst 0, 1) := by decide +kernel
theorem dX11_law_107 : decode cX11_law 107 = .ok (.aload_n 0, 1) := by decide +kernel
theorem dX11_law_108 : decode cX11_law 108 = .ok (.getfield 71, 3) := by decide +kernel
theorem dX11_law_111 : decode cX11_law 111 = .ok (.iconst 1, 1) := by decide +kernel
theorem dX11_law_112 : decode cX11_law 112 = .ok (.iaload, 1) := by decide +kernel
theorem dX11_law_113 : decode cX11_law 113 = .ok (.iastore, 1) := by decide +kernel
theorem dX11_law_114 : decode cX11_law 114 = .ok (.iconst 0, 1) := by decide +kernel
theorem dX11_law_115 : decode cX11_law 115 = .ok (.istore_n 2, 1) := by decide +kernel
theorem dX11_law_116 : decode cX11_law 116 = .ok (.iload_n 2, 1) := by decide +kernel
theorem dX11_law_117 : decode cX11_law 117 = .ok (.bipush 40, 2) := by decide +kernel
theorem dX11_law_119 : decode cX11_law 119 = .ok (.if_icmp .ge 107, 3) := by decide +kernel
theorem dX11_law_122 : decode cX11_law 122 = .ok (.aload_n 0, 1) := by decide +kernel
theorem dX11_law_123 : decode cX11_law 123 = .ok (.getfield 74, 3) := by decide +kernel
theorem dX11_law_126 : decode cX11_law 126 = .ok (.iload_n 2, 1) := by decide +kernel
theorem dX11_law_127 : decode cX11_law 127 = .ok (.aload_n 0, 1) := by decide +kernel
theorem dX11_law_128 : decode cX11_law 128 = .ok (.getfield 74, 3) := by decide +kernel
theorem dX11_law_131 : decode cX11_law 131 = .ok (.bipush 40, 2) := by decide +kernel
theorem dX11_law_133 : decode cX11_law 133 = .ok (.iload_n 2, 1) := by decide +kernel
theorem dX11_law_134 : decode cX11_law 134 = .ok (.iadd, 1) := by decide +kernel
theorem dX11_law_135 : decode cX11_law 135 = .ok (.iaload, 1) := by decide +kernel
theorem dX11_law_136 : decode cX11_law 136 = .ok (.iastore, 1) := by decide +kernel
theorem dX11_law_137 : decode cX11_law 137 = .ok (.aload_n 0, 1) := by decide +kernel
theorem dX11_law_138 : decode cX11_law 138 = .ok (.getfield 77, 3) := by decide +kernel
theorem dX11_law_141 : decode cX11_law 141 = .ok (.iload_n 2, 1) := by decide +kernel
theorem dX11_law_142 : decode cX11_law 142 = .ok (.aload_n 0, 1) := by decide +kernel
theorem dX11_law_143 : decode cX11_law 143 = .ok (.getfield 77, 3) := by decide +kernel
theorem dX11_law_146 : decode cX11_law 146 = .ok (.bipush 40, 2) := by decide +kernel
theorem dX11_law_148 : decode cX11_law 148 = .ok (.iload_n 2, 1) := by decide +kernel
theorem dX11_law_149 : decode cX11_law 149 = .ok (.iadd, 1) := by decide +kernel
theorem dX11_law_150 : decode cX11_law 150 = .ok (.iaload, 1) := by decide +kernel
theorem dX11_law_151 : decode cX11_law 151 = .ok (.iastore, 1) := by decide +kernel
theorem dX11_law_152 : decode cX11_law 152 = .ok (.aload_n 0, 1) := by decide +kernel
theorem dX11_law_153 : decode cX11_law 153 = .ok (.getfield 80, 3) := by decide +kernel
theorem dX11_law_156 : decode cX11_law 156 = .ok (.iload_n 2, 1) := by decide +kernel
theorem dX11_law_157 : decode cX11_law 157 = .ok (.aload_n 0, 1) := by decide +kernel
theorem dX11_law_158 : decode cX11_law 158 = .ok (.getfield 80, 3) := by decide +kernel
theorem dX11_law_161 : decode cX11_law 161 = .ok (.bipush 40, 2) := by decide +kernel
theorem dX11_law_163 : decode cX11_law 163 = .ok (.iload_n 2, 1) := by decide +kernel
theorem dX11_law_164 : decode cX11_law 164 = .ok (.iadd, 1) := by decide +kernel
theorem dX11_law_165 : decode cX11_law 165 = .ok (.iaload, 1) := by decide +kernel
theorem dX11_law_166 : decode cX11_law 166 = .ok (.iastore, 1) := by decide +kernel
theorem dX11_law_167 : decode cX11_law 167 = .ok (.aload_n 0, 1) := by decide +kernel
theorem dX11_law_168 : decode cX11_law 168 = .ok (.getfield 83, 3) := by decide +kernel
theorem dX11_law_171 : decode cX11_law 171 = .ok (.iload_n 2, 1) := by decide +kernel
theorem dX11_law_172 : decode cX11_law 172 = .ok (.aload_n 0, 1) := by decide +kernel
theorem dX11_law_173 : decode cX11_law 173 = .ok (.getfield 83, 3) := by decide +kernel
theorem dX11_law_176 : decode cX11_law 176 = .ok (.bipush 40, 2) := by decide +kernel
theorem dX11_law_178 : decode cX11_law 178 = .ok (.iload_n 2, 1) := by decide +kernel
theorem dX11_law_179 : decode cX11_law 179 = .ok (.iadd, 1) := by decide +kernel
theorem dX11_law_180 : decode cX11_law 180 = .ok (.iaload, 1) := by decide +kernel
theorem dX11_law_181 : decode cX11_law 181 = .ok (.iastore, 1) := by decide +kernel
theorem dX11_law_182 : decode cX11_law 182 = .ok (.aload_n 0, 1) := by decide +kernel
theorem dX11_law_183 : decode cX11_law 183 = .ok (.getfield 86, 3) := by decide +kernel
theorem dX11_law_186 : decode cX11_law 186 = .ok (.iload_n 2, 1) := by decide +kernel
theorem dX11_law_187 : decode cX11_law 187 = .ok (.aload_n 0, 1) := by decide +kernel
theorem dX11_law_188 : decode cX11_law 188 = .ok (.getfield 86, 3) := by decide +kernel
theorem dX11_law_191 : decode cX11_law 191 = .ok (.bipush 40, 2) := by decide +kernel
theorem dX11_law_193 : decode cX11_law 193 = .ok (.iload_n 2, 1) := by decide +kernel
theorem dX11_law_194 : decode cX11_law 194 = .ok (.iadd, 1) := by decide +kernel
theorem dX11_law_195 : decode cX11_law 195 = .ok (.iaload, 1) := by decide +kernel
theorem dX11_law_196 : decode cX11_law 196 = .ok (.sipush 1000, 3) := by decide +kernel
theorem dX11_law_199 : decode cX11_law 199 = .ok (.isub, 1) := by decide +kernel
theorem dX11_law_200 : decode cX11_law 200 = .ok (.iastore, 1) := by decide +kernel
theorem dX11_law_201 : decode cX11_law 201 = .ok (.aload_n 0, 1) := by decide +kernel
theorem dX11_law_202 : decode cX11_law 202 = .ok (.getfield 89, 3) := by decide +kernel
theorem dX11_law_205 : decode cX11_law 205 = .ok (.iload_n 2, 1) := by decide +kernel
theorem dX11_law_206 : decode cX11_law 206 = .ok (.aload_n 0, 1) := by decide +kernel
theorem dX11_law_207 : decode cX11_law 207 = .ok (.getfield 89, 3) := by decide +kernel
theorem dX11_law_210 : decode cX11_law 210 = .ok (.bipush 40, 2) := by decide +kernel
theorem dX11_law_212 : decode cX11_law 212 = .ok (.iload_n 2, 1) := by decide +kernel
theorem dX11_law_213 : decode cX11_law 213 = .ok (.iadd, 1) := by decide +kernel
theorem dX11_law_214 : decode cX11_law 214 = .ok (.iaload, 1) := by decide +kernel
theorem dX11_law_215 : decode cX11_law 215 = .ok (.sipush 1000, 3) := by decide +kernel
theorem dX11_law_218 : decode cX11_law 218 = .ok (.isub, 1) := by decide +kernel
theorem dX11_law_219 : decode cX11_law 219 = .ok (.iastore, 1) := by decide +kernel
theorem dX11_law_220 : decode cX11_law 220 = .ok (.iinc 2 1, 3) := by decide +kernel
theorem dX11_law_223 : decode cX11_law 223 = .ok (.goto (-107), 3) := by decide +kernel
theorem dX11_law_226 : decode cX11_law 226 = .ok (.iconst 0, 1) := by decide +kernel
theorem dX11_law_227 : decode cX11_law 227 = .ok (.istore_n 2, 1) := by decide +kernel
theorem dX11_law_228 : decode cX11_law 228 = .ok (.iload_n 2, 1) := by decide +kernel
theorem dX11_law_229 : decode cX11_law 229 = .ok (.sipush 1000, 3) := by decide +kernel
theorem dX11_law_232 : decode cX11_law 232 = .ok (.if_icmp .ge 73, 3) := by decide +kernel
theorem dX11_law_235 : decode cX11_law 235 = .ok (.aload_n 0, 1) := by decide +kernel
theorem dX11_law_236 : decode cX11_law 236 = .ok (.getfield 92, 3) := by decide +kernel
theorem dX11_law_239 : decode cX11_law 239 = .ok (.iload_n 2, 1) := by decide +kernel
theorem dX11_law_240 : decode cX11_law 240 = .ok (.aload_n 0, 1) := by decide +kernel
theorem dX11_law_241 : decode cX11_law 241 = .ok (.getfield 92, 3) := by decide +kernel
theorem dX11_law_244 : decode cX11_law 244 = .ok (.sipush 1000, 3) := by decide +kernel
theorem dX11_law_247 : decode cX11_law 247 = .ok (.iload_n 2, 1) := by decide +kernel
theorem dX11_law_248 : decode cX11_law 248 = .ok (.iadd, 1) := by decide +kernel
theorem dX11_law_249 : decode cX11_law 249 = .ok (.iaload, 1) := by decide +kernel
theorem dX11_law_250 : decode cX11_law 250 = .ok (.iastore, 1) := by decide +kernel
theorem dX11_law_251 : decode cX11_law 251 = .ok (.aload_n 0, 1) := by decide +kernel
theorem dX11_law_252 : decode cX11_law 252 = .ok (.getfield 95, 3) := by decide +kernel
theorem dX11_law_255 : decode cX11_law 255 = .ok (.iload_n 2, 1) := by decide +kernel
theorem dX11_law_256 : decode cX11_law 256 = .ok (.aload_n 0, 1) := by decide +kernel
theorem dX11_law_257 : decode cX11_law 257 = .ok (.getfield 95, 3) := by decide +kernel
theorem dX11_law_260 : decode cX11_law 260 = .ok (.sipush 1000, 3) := by decide +kernel
theorem dX11_law_263 : decode cX11_law 263 = .ok (.iload_n 2, 1) := by decide +kernel
theorem dX11_law_264 : decode cX11_law 264 = .ok (.iadd, 1) := by decide +kernel
theorem dX11_law_265 : decode cX11_law 265 = .ok (.iaload, 1) := by decide +kernel
theorem dX11_law_266 : decode cX11_law 266 = .ok (.iastore, 1) := by decide +kernel
theorem dX11_law_267 : decode cX11_law 267 = .ok (.aload_n 0, 1) := by decide +kernel
theorem dX11_law_268 : decode cX11_law 268 = .ok (.getfield 98, 3) := by decide +kernel
theorem dX11_law_271 : decode cX11_law 271 = .ok (.iload_n 2, 1) := by decide +kernel
theorem dX11_law_272 : decode cX11_law 272 = .ok (.aload_n 0, 1) := by decide +kernel
theorem dX11_law_273 : decode cX11_law 273 = .ok (.getfield 98, 3) := by decide +kernel
theorem dX11_law_276 : decode cX11_law 276 = .ok (.sipush 1000, 3) := by decide +kernel
theorem dX11_law_279 : decode cX11_law 279 = .ok (.iload_n 2, 1) := by decide +kernel
theorem dX11_law_280 : decode cX11_law 280 = .ok (.iadd, 1) := by decide +kernel
theorem dX11_law_281 : decode cX11_law 281 = .ok (.iaload, 1) := by decide +kernel
theorem dX11_law_282 : decode cX11_law 282 = .ok (.iastore, 1) := by decide +kernel
theorem dX11_law_283 : decode cX11_law 283 = .ok (.aload_n 0, 1) := by decide +kernel
theorem dX11_law_284 : decode cX11_law 284 = .ok (.getfield 101, 3) := by decide +kernel
theorem dX11_law_287 : decode cX11_law 287 = .ok (.iload_n 2, 1) := by decide +kernel
theorem dX11_law_288 : decode cX11_law 288 = .ok (.aload_n 0, 1) := by decide +kernel
theorem dX11_law_289 : decode cX11_law 289 = .ok (.getfield 101, 3) := by decide +kernel
theorem dX11_law_292 : decode cX11_law 292 = .ok (.sipush 1000, 3) := by decide +kernel
theorem dX11_law_295 : decode cX11_law 295 = .ok (.iload_n 2, 1) := by decide +kernel
theorem dX11_law_296 : decode cX11_law 296 = .ok (.iadd, 1) := by decide +kernel
theorem dX11_law_297 : decode cX11_law 297 = .ok (.iaload, 1) := by decide +kernel
theorem dX11_law_298 : decode cX11_law 298 = .ok (.iastore, 1) := by decide +kernel
theorem dX11_law_299 : decode cX11_law 299 = .ok (.iinc 2 1, 3) := by decide +kernel
theorem dX11_law_302 : decode cX11_law 302 = .ok (.goto (-74), 3) := by decide +kernel
theorem dX11_law_305 : decode cX11_law 305 = .ok (.aload_n 0, 1) := by decide +kernel
theorem dX11_law_306 : decode cX11_law 306 = .ok (.getfield 71, 3) := by decide +kernel
theorem dX11_law_309 : decode cX11_law 309 = .ok (.iconst 0, 1) := by decide +kernel
theorem dX11_law_310 : decode cX11_law 310 = .ok (.iaload, 1) := by decide +kernel
theorem dX11_law_311 : decode cX11_law 311 = .ok (.ireturn, 1) := by decide +kernel
theorem dX11_fault_0 : decode cX11_fault 0 = .ok (.aload_n 0, 1) := by decide +kernel
theorem dX11_fault_1 : decode cX11_fault 1 = .ok (.getfield 108, 3) := by decide +kernel
theorem dX11_fault_4 : decode cX11_fault 4 = .ok (.ireturn, 1) := by decide +kernel
theorem dX11_holds_0 : decode cX11_holds 0 = .ok (.iconst 0, 1) := by decide +kernel
theorem dX11_holds_1 : decode cX11_holds 1 = .ok (.istore_n 2, 1) := by decide +kernel
theorem dX11_holds_2 : decode cX11_holds 2 = .ok (.aload_n 0, 1) := by decide +kernel
theorem dX11_holds_3 : decode cX11_holds 3 = .ok (.getfield 86, 3) := by decide +kernel
theorem dX11_holds_6 : decode cX11_holds 6 = .ok (.iload_n 1, 1) := by decide +kernel
theorem dX11_holds_7 : decode cX11_holds 7 = .ok (.iaload, 1) := by decide +kernel
theorem dX11_holds_8 : decode cX11_holds 8 = .ok (.istore_n 3, 1) := by decide +kernel
theorem dX11_holds_9 : decode cX11_holds 9 = .ok (.iload_n 3, 1) := by decide +kernel
theorem dX11_holds_10 : decode cX11_holds 10 = .ok (.aload_n 0, 1) := by decide +kernel
theorem dX11_holds_11 : decode cX11_holds 11 = .ok (.getfield 89, 3) := by decide +kernel
theorem dX11_holds_14 : decode cX11_holds 14 = .ok (.iload_n 1, 1) := by decide +kernel
theorem dX11_holds_15 : decode cX11_holds 15 = .ok (.iaload, 1) := by decide +kernel
theorem dX11_holds_16 : decode cX11_holds 16 = .ok (.if_icmp .ge 230, 3) := by decide +kernel
theorem dX11_holds_19 : decode cX11_holds 19 = .ok (.aload_n 0, 1) := by decide +kernel
theorem dX11_holds_20 : decode cX11_holds 20 = .ok (.getfield 92, 3) := by decide +kernel
theorem dX11_holds_23 : decode cX11_holds 23 = .ok (.iload_n 3, 1) := by decide +kernel
theorem dX11_holds_24 : decode cX11_holds 24 = .ok (.iaload, 1) := by decide +kernel
theorem dX11_holds_25 : decode cX11_holds 25 = .ok (.ifCond .ne 104, 3) := by decide +kernel
theorem dX11_holds_28 : decode cX11_holds 28 = .ok (.aload_n 0, 1) := by decide +kernel
theorem dX11_holds_29 : decode cX11_holds 29 = .ok (.getfield 118, 3) := by decide +kernel
theorem dX11_holds_32 : decode cX11_holds 32 = .ok (.aload_n 0, 1) := by decide +kernel
theorem dX11_holds_33 : decode cX11_holds 33 = .ok (.getfield 95, 3) := by decide +kernel
theorem dX11_holds_36 : decode cX11_holds 36 = .ok (.iload_n 3, 1) := by decide +kernel
theorem dX11_holds_37 : decode cX11_holds 37 = .ok (.iaload, 1) := by decide +kernel
theorem dX11_holds_38 : decode cX11_holds 38 = .ok (.iaload, 1) := by decide +kernel
theorem dX11_holds_39 : decode cX11_holds 39 = .ok (.istore 4, 2) := by decide +kernel
theorem dX11_holds_41 : decode cX11_holds 41 = .ok (.aload_n 0, 1) := by decide +kernel
theorem dX11_holds_42 : decode cX11_holds 42 = .ok (.getfield 121, 3) := by decide +kernel
theorem dX11_holds_45 : decode cX11_holds 45 = .ok (.iload_n 2, 1) := by decide +kernel
theorem dX11_holds_46 : decode cX11_holds 46 = .ok (.aload_n 0, 1) := by decide +kernel
theorem dX11_holds_47 : decode cX11_holds 47 = .ok (.getfield 98, 3) := by decide +kernel
theorem dX11_holds_50 : decode cX11_holds 50 = .ok (.iload_n 3, 1) := by decide +kernel
theorem dX11_holds_51 : decode cX11_holds 51 = .ok (.iaload, 1) := by decide +kernel
theorem dX11_holds_52 : decode cX11_holds 52 = .ok (.bipush 60, 2) := by decide +kernel
theorem dX11_holds_54 : decode cX11_holds 54 = .ok (.if_icmp .ne 22, 3) := by decide +kernel
theorem dX11_holds_57 : decode cX11_holds 57 = .ok (.iload 4, 2) := by decide +kernel
theorem dX11_holds_59 : decode cX11_holds 59 = .ok (.aload_n 0, 1) := by decide +kernel
theorem dX11_holds_60 : decode cX11_holds 60 = .ok (.getfield 101, 3) := by decide +kernel
theorem dX11_holds_63 : decode cX11_holds 63 = .ok (.iload_n 3, 1) := by decide +kernel
theorem dX11_holds_64 : decode cX11_holds 64 = .ok (.iaload, 1) := by decide +kernel
theorem dX11_holds_65 : decode cX11_holds 65 = .ok (.if_icmp .ge 7, 3) := by decide +kernel
theorem dX11_holds_68 : decode cX11_holds 68 = .ok (.iconst 1, 1) := by decide +kernel
theorem dX11_holds_69 : decode cX11_holds 69 = .ok (.goto 53, 3) := by decide +kernel
theorem dX11_holds_72 : decode cX11_holds 72 = .ok (.iconst 0, 1) := by decide +kernel
theorem dX11_holds_73 : decode cX11_holds 73 = .ok (.goto 49, 3) := by decide +kernel
theorem dX11_holds_76 : decode cX11_holds 76 = .ok (.aload_n 0, 1) := by decide +kernel
theorem dX11_holds_77 : decode cX11_holds 77 = .ok (.getfield 98, 3) := by decide +kernel
theorem dX11_holds_80 : decode cX11_holds 80 = .ok (.iload_n 3, 1) := by decide +kernel
theorem dX11_holds_81 : decode cX11_holds 81 = .ok (.iaload, 1) := by decide +kernel
theorem dX11_holds_82 : decode cX11_holds 82 = .ok (.bipush 62, 2) := by decide +kernel
theorem dX11_holds_84 : decode cX11_holds 84 = .ok (.if_icmp .ne 22, 3) := by decide +kernel
theorem dX11_holds_87 : decode cX11_holds 87 = .ok (.iload 4, 2) := by decide +kernel
theorem dX11_holds_89 : decode cX11_holds 89 = .ok (.aload_n 0, 1) := by decide +kernel
theorem dX11_holds_90 : decode cX11_holds 90 = .ok (.getfield 101, 3) := by decide +kernel
theorem dX11_holds_93 : decode cX11_holds 93 = .ok (.iload_n 3, 1) := by decide +kernel
theorem dX11_holds_94 : decode cX11_holds 94 = .ok (.iaload, 1) := by decide +kernel
theorem dX11_holds_95 : decode cX11_holds 95 = .ok (.if_icmp .le 7, 3) := by decide +kernel
theorem dX11_holds_98 : decode cX11_holds 98 = .ok (.iconst 1, 1) := by decide +kernel
theorem dX11_holds_99 : decode cX11_holds 99 = .ok (.goto 23, 3) := by decide +kernel
theorem dX11_holds_102 : decode cX11_holds 102 = .ok (.iconst 0, 1) := by decide +kernel
theorem dX11_holds_103 : decode cX11_holds 103 = .ok (.goto 19, 3) := by decide +kernel
theorem dX11_holds_106 : decode cX11_holds 106 = .ok (.iload 4, 2) := by decide +kernel
theorem dX11_holds_108 : decode cX11_holds 108 = .ok (.aload_n 0, 1) := by decide +kernel
theorem dX11_holds_109 : decode cX11_holds 109 = .ok (.getfield 101, 3) := by decide +kernel
theorem dX11_holds_112 : decode cX11_holds 112 = .ok (.iload_n 3, 1) := by decide +kernel
theorem dX11_holds_113 : decode cX11_holds 113 = .ok (.iaload, 1) := by decide +kernel
theorem dX11_holds_114 : decode cX11_holds 114 = .ok (.if_icmp .ne 7, 3) := by decide +kernel
theorem dX11_holds_117 : decode cX11_holds 117 = .ok (.iconst 1, 1) := by decide +kernel
theorem dX11_holds_118 : decode cX11_holds 118 = .ok (.goto 4, 3) := by decide +kernel
theorem dX11_holds_121 : decode cX11_holds 121 = .ok (.iconst 0, 1) := by decide +kernel
theorem dX11_holds_122 : decode cX11_holds 122 = .ok (.bastore, 1) := by decide +kernel
theorem dX11_holds_123 : decode cX11_holds 123 = .ok (.iinc 2 1, 3) := by decide +kernel
theorem dX11_holds_126 : decode cX11_holds 126 = .ok (.goto 114, 3) := by decide +kernel
theorem dX11_holds_129 : decode cX11_holds 129 = .ok (.aload_n 0, 1) := by decide +kernel
theorem dX11_holds_130 : decode cX11_holds 130 = .ok (.getfield 92, 3) := by decide +kernel
theorem dX11_holds_133 : decode cX11_holds 133 = .ok (.iload_n 3, 1) := by decide +kernel
theorem dX11_holds_134 : decode cX11_holds 134 = .ok (.iaload, 1) := by decide +kernel
theorem dX11_holds_135 : decode cX11_holds 135 = .ok (.iconst 1, 1) := by decide +kernel
theorem dX11_holds_136 : decode cX11_holds 136 = .ok (.if_icmp .ne 30, 3) := by decide +kernel
theorem dX11_holds_139 : decode cX11_holds 139 = .ok (.aload_n 0, 1) := by decide +kernel
theorem dX11_holds_140 : decode cX11_holds 140 = .ok (.getfield 121, 3) := by decide +kernel
theorem dX11_holds_143 : decode cX11_holds 143 = .ok (.iload_n 2, 1) := by decide +kernel
theorem dX11_holds_144 : decode cX11_holds 144 = .ok (.iconst 1, 1) := by decide +kernel
theorem dX11_holds_145 : decode cX11_holds 145 = .ok (.isub, 1) := by decide +kernel
theorem dX11_holds_146 : decode cX11_holds 146 = .ok (.aload_n 0, 1) := by decide +kernel
theorem dX11_holds_147 : decode cX11_holds 147 = .ok (.getfield 121, 3) := by decide +kernel
theorem dX11_holds_150 : decode cX11_holds 150 = .ok (.iload_n 2, 1) := by decide +kernel
theorem dX11_holds_151 : decode cX11_holds 151 = .ok (.iconst 1, 1) := by decide +kernel
theorem dX11_holds_152 : decode cX11_holds 152 = .ok (.isub, 1) := by decide +kernel
theorem dX11_holds_153 : decode cX11_holds 153 = .ok (.baload, 1) := by decide +kernel
theorem dX11_holds_154 : decode cX11_holds 154 = .ok (.ifCond .ne 7, 3) := by decide +kernel
theorem dX11_holds_157 : decode cX11_holds 157 = .ok (.iconst 1, 1) := by decide +kernel
theorem dX11_holds_158 : decode cX11_holds 158 = .ok (.goto 4, 3) := by decide +kernel
theorem dX11_holds_161 : decode cX11_holds 161 = .ok (.iconst 0, 1) := by decide +kernel
theorem dX11_holds_162 : decode cX11_holds 162 = .ok (.bastore, 1) := by decide +kernel
theorem dX11_holds_163 : decode cX11_holds 163 = .ok (.goto 77, 3) := by decide +kernel
theorem dX11_holds_166 : decode cX11_holds 166 = .ok (.iinc 2 (-1), 3) := by decide +kernel
theorem dX11_holds_169 : decode cX11_holds 169 = .ok (.aload_n 0, 1) := by decide +kernel
theorem dX11_holds_170 : decode cX11_holds 170 = .ok (.getfield 121, 3) := by decide +kernel
theorem dX11_holds_173 : decode cX11_holds 173 = .ok (.iload_n 2, 1) := by decide +kernel
theorem dX11_holds_174 : decode cX11_holds 174 = .ok (.iconst 1, 1) := by decide +kernel
theorem dX11_holds_175 : decode cX11_holds 175 = .ok (.isub, 1) := by decide +kernel
theorem dX11_holds_176 : decode cX11_holds 176 = .ok (.aload_n 0, 1) := by decide +kernel
theorem dX11_holds_177 : decode cX11_holds 177 = .ok (.getfield 92, 3) := by decide +kernel
theorem dX11_holds_180 : decode cX11_holds 180 = .ok (.iload_n 3, 1) := by decide +kernel
theorem dX11_holds_181 : decode cX11_holds 181 = .ok (.iaload, 1) := by decide +kernel
theorem dX11_holds_182 : decode cX11_holds 182 = .ok (.iconst 2, 1) := by decide +kernel
theorem dX11_holds_183 : decode cX11_holds 183 = .ok (.if_icmp .ne 31, 3) := by decide +kernel
theorem dX11_holds_186 : decode cX11_holds 186 = .ok (.aload_n 0, 1) := by decide +kernel
theorem dX11_holds_187 : decode cX11_holds 187 = .ok (.getfield 121, 3) := by decide +kernel
theorem dX11_holds_190 : decode cX11_holds 190 = .ok (.iload_n 2, 1) := by decide +kernel
theorem dX11_holds_191 : decode cX11_holds 191 = .ok (.iconst 1, 1) := by decide +kernel
theorem dX11_holds_192 : decode cX11_holds 192 = .ok (.isub, 1) := by decide +kernel
theorem dX11_holds_193 : decode cX11_holds 193 = .ok (.baload, 1) := by decide +kernel
theorem dX11_holds_194 : decode cX11_holds 194 = .ok (.ifCond .eq 16, 3) := by decide +kernel
theorem dX11_holds_197 : decode cX11_holds 197 = .ok (.aload_n 0, 1) := by decide +kernel
theorem dX11_holds_198 : decode cX11_holds 198 = .ok (.getfield 121, 3) := by decide +kernel
theorem dX11_holds_201 : decode cX11_holds 201 = .ok (.iload_n 2, 1) := by decide +kernel
theorem dX11_holds_202 : decode cX11_holds 202 = .ok (.baload, 1) := by decide +kernel
theorem dX11_holds_203 : decode cX11_holds 203 = .ok (.ifCond .eq 7, 3) := by decide +kernel
theorem dX11_holds_206 : decode cX11_holds 206 = .ok (.iconst 1, 1) := by decide +kernel
theorem dX11_holds_207 : decode cX11_holds 207 = .ok (.goto 32, 3) := by decide +kernel
theorem dX11_holds_210 : decode cX11_holds 210 = .ok (.iconst 0, 1) := by decide +kernel
theorem dX11_holds_211 : decode cX11_holds 211 = .ok (.goto 28, 3) := by decide +kernel
theorem dX11_holds_214 : decode cX11_holds 214 = .ok (.aload_n 0, 1) := by decide +kernel
theorem dX11_holds_215 : decode cX11_holds 215 = .ok (.getfield 121, 3) := by decide +kernel
theorem dX11_holds_218 : decode cX11_holds 218 = .ok (.iload_n 2, 1) := by decide +kernel
theorem dX11_holds_219 : decode cX11_holds 219 = .ok (.iconst 1, 1) := by decide +kernel
theorem dX11_holds_220 : decode cX11_holds 220 = .ok (.isub, 1) := by decide +kernel
theorem dX11_holds_221 : decode cX11_holds 221 = .ok (.baload, 1) := by decide +kernel
theorem dX11_holds_222 : decode cX11_holds 222 = .ok (.ifCond .ne 12, 3) := by decide +kernel
theorem dX11_holds_225 : decode cX11_holds 225 = .ok (.aload_n 0, 1) := by decide +kernel
theorem dX11_holds_226 : decode cX11_holds 226 = .ok (.getfield 121, 3) := by decide +kernel
theorem dX11_holds_229 : decode cX11_holds 229 = .ok (.iload_n 2, 1) := by decide +kernel
theorem dX11_holds_230 : decode cX11_holds 230 = .ok (.baload, 1) := by decide +kernel
theorem dX11_holds_231 : decode cX11_holds 231 = .ok (.ifCond .eq 7, 3) := by decide +kernel
theorem dX11_holds_234 : decode cX11_holds 234 = .ok (.iconst 1, 1) := by decide +kernel
theorem dX11_holds_235 : decode cX11_holds 235 = .ok (.goto 4, 3) := by decide +kernel
theorem dX11_holds_238 : decode cX11_holds 238 = .ok (.iconst 0, 1) := by decide +kernel
theorem dX11_holds_239 : decode cX11_holds 239 = .ok (.bastore, 1) := by decide +kernel
theorem dX11_holds_240 : decode cX11_holds 240 = .ok (.iinc 3 1, 3) := by decide +kernel
theorem dX11_holds_243 : decode cX11_holds 243 = .ok (.goto (-234), 3) := by decide +kernel
theorem dX11_holds_246 : decode cX11_holds 246 = .ok (.iload_n 2, 1) := by decide +kernel
theorem dX11_holds_247 : decode cX11_holds 247 = .ok (.ifCond .eq 12, 3) := by decide +kernel
theorem dX11_holds_250 : decode cX11_holds 250 = .ok (.aload_n 0, 1) := by decide +kernel
theorem dX11_holds_251 : decode cX11_holds 251 = .ok (.getfield 121, 3) := by decide +kernel
theorem dX11_holds_254 : decode cX11_holds 254 = .ok (.iconst 0, 1) := by decide +kernel
theorem dX11_holds_255 : decode cX11_holds 255 = .ok (.baload, 1) := by decide +kernel
theorem dX11_holds_256 : decode cX11_holds 256 = .ok (.ifCond .eq 7, 3) := by decide +kernel
theorem dX11_holds_259 : decode cX11_holds 259 = .ok (.iconst 1, 1) := by decide +kernel
theorem dX11_holds_260 : decode cX11_holds 260 = .ok (.goto 4, 3) := by decide +kernel
theorem dX11_holds_263 : decode cX11_holds 263 = .ok (.iconst 0, 1) := by decide +kernel
theorem dX11_holds_264 : decode cX11_holds 264 = .ok (.ireturn, 1) := by decide +kernel
theorem dX11_first_0 : decode cX11_first 0 = .ok (.iconst 0, 1) := by decide +kernel
theorem dX11_first_1 : decode cX11_first 1 = .ok (.istore_n 3, 1) := by decide +kernel
theorem dX11_first_2 : decode cX11_first 2 = .ok (.iload_n 3, 1) := by decide +kernel
theorem dX11_first_3 : decode cX11_first 3 = .ok (.aload_n 0, 1) := by decide +kernel
theorem dX11_first_4 : decode cX11_first 4 = .ok (.getfield 71, 3) := by decide +kernel
theorem dX11_first_7 : decode cX11_first 7 = .ok (.iconst 0, 1) := by decide +kernel
theorem dX11_first_8 : decode cX11_first 8 = .ok (.iaload, 1) := by decide +kernel
theorem dX11_first_9 : decode cX11_first 9 = .ok (.if_icmp .ge 34, 3) := by decide +kernel
theorem dX11_first_12 : decode cX11_first 12 = .ok (.aload_n 0, 1) := by decide +kernel
theorem dX11_first_13 : decode cX11_first 13 = .ok (.getfield 74, 3) := by decide +kernel
theorem dX11_first_16 : decode cX11_first 16 = .ok (.iload_n 3, 1) := by decide +kernel
theorem dX11_first_17 : decode cX11_first 17 = .ok (.iaload, 1) := by decide +kernel
theorem dX11_first_18 : decode cX11_first 18 = .ok (.iload_n 1, 1) := by decide +kernel
theorem dX11_first_19 : decode cX11_first 19 = .ok (.if_icmp .ne 18, 3) := by decide +kernel
theorem dX11_first_22 : decode cX11_first 22 = .ok (.aload_n 0, 1) := by decide +kernel
theorem dX11_first_23 : decode cX11_first 23 = .ok (.iload_n 3, 1) := by decide +kernel
theorem dX11_first_24 : decode cX11_first 24 = .ok (.invokevirtual 323, 3) := by decide +kernel
theorem dX11_first_27 : decode cX11_first 27 = .ok (.ifCond .eq 10, 3) := by decide +kernel
theorem dX11_first_30 : decode cX11_first 30 = .ok (.aload_n 0, 1) := by decide +kernel
theorem dX11_first_31 : decode cX11_first 31 = .ok (.getfield 77, 3) := by decide +kernel
theorem dX11_first_34 : decode cX11_first 34 = .ok (.iload_n 3, 1) := by decide +kernel
theorem dX11_first_35 : decode cX11_first 35 = .ok (.iaload, 1) := by decide +kernel
theorem dX11_first_36 : decode cX11_first 36 = .ok (.ireturn, 1) := by decide +kernel
theorem dX11_first_37 : decode cX11_first 37 = .ok (.iinc 3 1, 3) := by decide +kernel
theorem dX11_first_40 : decode cX11_first 40 = .ok (.goto (-38), 3) := by decide +kernel
theorem dX11_first_43 : decode cX11_first 43 = .ok (.iload_n 2, 1) := by decide +kernel
theorem dX11_first_44 : decode cX11_first 44 = .ok (.ireturn, 1) := by decide +kernel
theorem dX11_last_0 : decode cX11_last 0 = .ok (.iconst 0, 1) := by decide +kernel
theorem dX11_last_1 : decode cX11_last 1 = .ok (.istore_n 3, 1) := by decide +kernel
theorem dX11_last_2 : decode cX11_last 2 = .ok (.iconst 0, 1) := by decide +kernel
theorem dX11_last_3 : decode cX11_last 3 = .ok (.istore 4, 2) := by decide +kernel
theorem dX11_last_5 : decode cX11_last 5 = .ok (.iload 4, 2) := by decide +kernel
theorem dX11_last_7 : decode cX11_last 7 = .ok (.aload_n 0, 1) := by decide +kernel
theorem dX11_last_8 : decode cX11_last 8 = .ok (.getfield 71, 3) := by decide +kernel
theorem dX11_last_11 : decode cX11_last 11 = .ok (.iconst 0, 1) := by decide +kernel
theorem dX11_last_12 : decode cX11_last 12 = .ok (.iaload, 1) := by decide +kernel
theorem dX11_last_13 : decode cX11_last 13 = .ok (.if_icmp .ge 43, 3) := by decide +kernel
theorem dX11_last_16 : decode cX11_last 16 = .ok (.aload_n 0, 1) := by decide +kernel
theorem dX11_last_17 : decode cX11_last 17 = .ok (.getfield 74, 3) := by decide +kernel
theorem dX11_last_20 : decode cX11_last 20 = .ok (.iload 4, 2) := by decide +kernel
theorem dX11_last_22 : decode cX11_last 22 = .ok (.iaload, 1) := by decide +kernel
theorem dX11_last_23 : decode cX11_last 23 = .ok (.iload_n 1, 1) := by decide +kernel
theorem dX11_last_24 : decode cX11_last 24 = .ok (.if_icmp .ne 26, 3) := by decide +kernel
theorem dX11_last_27 : decode cX11_last 27 = .ok (.iload_n 2, 1) := by decide +kernel
theorem dX11_last_28 : decode cX11_last 28 = .ok (.ifCond .lt 14, 3) := by decide +kernel
theorem dX11_last_31 : decode cX11_last 31 = .ok (.aload_n 0, 1) := by decide +kernel
theorem dX11_last_32 : decode cX11_last 32 = .ok (.getfield 80, 3) := by decide +kernel
theorem dX11_last_35 : decode cX11_last 35 = .ok (.iload 4, 2) := by decide +kernel
theorem dX11_last_37 : decode cX11_last 37 = .ok (.iaload, 1) := by decide +kernel
theorem dX11_last_38 : decode cX11_last 38 = .ok (.iload_n 2, 1) := by decide +kernel
theorem dX11_last_39 : decode cX11_last 39 = .ok (.if_icmp .ne 11, 3) := by decide +kernel
theorem dX11_last_42 : decode cX11_last 42 = .ok (.aload_n 0, 1) := by decide +kernel
theorem dX11_last_43 : decode cX11_last 43 = .ok (.getfield 77, 3) := by decide +kernel
theorem dX11_last_46 : decode cX11_last 46 = .ok (.iload 4, 2) := by decide +kernel
theorem dX11_last_48 : decode cX11_last 48 = .ok (.iaload, 1) := by decide +kernel
theorem dX11_last_49 : decode cX11_last 49 = .ok (.istore_n 3, 1) := by decide +kernel
theorem dX11_last_50 : decode cX11_last 50 = .ok (.iinc 4 1, 3) := by decide +kernel
theorem dX11_last_53 : decode cX11_last 53 = .ok (.goto (-48), 3) := by decide +kernel
theorem dX11_last_56 : decode cX11_last 56 = .ok (.iload_n 3, 1) := by decide +kernel
theorem dX11_last_57 : decode cX11_last 57 = .ok (.ireturn, 1) := by decide +kernel
theorem dX11_catches_0 : decode cX11_catches 0 = .ok (.aload_n 0, 1) := by decide +kernel
theorem dX11_catches_1 : decode cX11_catches 1 = .ok (.bipush 6, 2) := by decide +kernel
theorem dX11_catches_3 : decode cX11_catches 3 = .ok (.iconst (-1), 1) := by decide +kernel
theorem dX11_catches_4 : decode cX11_catches 4 = .ok (.invokevirtual 326, 3) := by decide +kernel
theorem dX11_catches_7 : decode cX11_catches 7 = .ok (.ireturn, 1) := by decide +kernel
theorem dX11_findSea_0 : decode cX11_findSea 0 = .ok (.iconst (-1), 1) := by decide +kernel
theorem dX11_findSea_1 : decode cX11_findSea 1 = .ok (.istore_n 2, 1) := by decide +kernel
theorem dX11_findSea_2 : decode cX11_findSea 2 = .ok (.iconst 0, 1) := by decide +kernel
theorem dX11_findSea_3 : decode cX11_findSea 3 = .ok (.istore_n 3, 1) := by decide +kernel
theorem dX11_findSea_4 : decode cX11_findSea 4 = .ok (.iload_n 3, 1) := by decide +kernel
theorem dX11_findSea_5 : decode cX11_findSea 5 = .ok (.aload_n 0, 1) := by decide +kernel
theorem dX11_findSea_6 : decode cX11_findSea 6 = .ok (.getfield 71, 3) := by decide +kernel
theorem dX11_findSea_9 : decode cX11_findSea 9 = .ok (.iconst 0, 1) := by decide +kernel
theorem dX11_findSea_10 : decode cX11_findSea 10 = .ok (.iaload, 1) := by decide +kernel
theorem dX11_findSea_11 : decode cX11_findSea 11 = .ok (.if_icmp .ge 49, 3) := by decide +kernel
theorem dX11_findSea_14 : decode cX11_findSea 14 = .ok (.aload_n 0, 1) := by decide +kernel
theorem dX11_findSea_15 : decode cX11_findSea 15 = .ok (.getfield 74, 3) := by decide +kernel
theorem dX11_findSea_18 : decode cX11_findSea 18 = .ok (.iload_n 3, 1) := by decide +kernel
theorem dX11_findSea_19 : decode cX11_findSea 19 = .ok (.iaload, 1) := by decide +kernel
theorem dX11_findSea_20 : decode cX11_findSea 20 = .ok (.ifCond .ne 34, 3) := by decide +kernel
theorem dX11_findSea_23 : decode cX11_findSea 23 = .ok (.aload_n 0, 1) := by decide +kernel
theorem dX11_findSea_24 : decode cX11_findSea 24 = .ok (.getfield 77, 3) := by decide +kernel
theorem dX11_findSea_27 : decode cX11_findSea 27 = .ok (.iload_n 3, 1) := by decide +kernel
theorem dX11_findSea_28 : decode cX11_findSea 28 = .ok (.iaload, 1) := by decide +kernel
theorem dX11_findSea_29 : decode cX11_findSea 29 = .ok (.iload_n 1, 1) := by decide +kernel
theorem dX11_findSea_30 : decode cX11_findSea 30 = .ok (.if_icmp .gt 24, 3) := by decide +kernel
theorem dX11_findSea_33 : decode cX11_findSea 33 = .ok (.iload_n 2, 1) := by decide +kernel
theorem dX11_findSea_34 : decode cX11_findSea 34 = .ok (.ifCond .lt 18, 3) := by decide +kernel
theorem dX11_findSea_37 : decode cX11_findSea 37 = .ok (.aload_n 0, 1) := by decide +kernel
theorem dX11_findSea_38 : decode cX11_findSea 38 = .ok (.getfield 77, 3) := by decide +kernel
theorem dX11_findSea_41 : decode cX11_findSea 41 = .ok (.iload_n 3, 1) := by decide +kernel
theorem dX11_findSea_42 : decode cX11_findSea 42 = .ok (.iaload, 1) := by decide +kernel
theorem dX11_findSea_43 : decode cX11_findSea 43 = .ok (.aload_n 0, 1) := by decide +kernel
theorem dX11_findSea_44 : decode cX11_findSea 44 = .ok (.getfield 77, 3) := by decide +kernel
theorem dX11_findSea_47 : decode cX11_findSea 47 = .ok (.iload_n 2, 1) := by decide +kernel
theorem dX11_findSea_48 : decode cX11_findSea 48 = .ok (.iaload, 1) := by decide +kernel
theorem dX11_findSea_49 : decode cX11_findSea 49 = .ok (.if_icmp .lt 5, 3) := by decide +kernel
theorem dX11_findSea_52 : decode cX11_findSea 52 = .ok (.iload_n 3, 1) := by decide +kernel
theorem dX11_findSea_53 : decode cX11_findSea 53 = .ok (.istore_n 2, 1) := by decide +kernel
theorem dX11_findSea_54 : decode cX11_findSea 54 = .ok (.iinc 3 1, 3) := by decide +kernel
theorem dX11_findSea_57 : decode cX11_findSea 57 = .ok (.goto (-53), 3) := by decide +kernel
theorem dX11_findSea_60 : decode cX11_findSea 60 = .ok (.aload_n 0, 1) := by decide +kernel
theorem dX11_findSea_61 : decode cX11_findSea 61 = .ok (.iload_n 2, 1) := by decide +kernel
theorem dX11_findSea_62 : decode cX11_findSea 62 = .ok (.ifCond .ge 7, 3) := by decide +kernel
theorem dX11_findSea_65 : decode cX11_findSea 65 = .ok (.iconst 0, 1) := by decide +kernel
theorem dX11_findSea_66 : decode cX11_findSea 66 = .ok (.goto 9, 3) := by decide +kernel
theorem dX11_findSea_69 : decode cX11_findSea 69 = .ok (.aload_n 0, 1) := by decide +kernel
theorem dX11_findSea_70 : decode cX11_findSea 70 = .ok (.getfield 80, 3) := by decide +kernel
theorem dX11_findSea_73 : decode cX11_findSea 73 = .ok (.iload_n 2, 1) := by decide +kernel
theorem dX11_findSea_74 : decode cX11_findSea 74 = .ok (.iaload, 1) := by decide +kernel
theorem dX11_findSea_75 : decode cX11_findSea 75 = .ok (.putfield 329, 3) := by decide +kernel
theorem dX11_findSea_78 : decode cX11_findSea 78 = .ok (.aload_n 0, 1) := by decide +kernel
theorem dX11_findSea_79 : decode cX11_findSea 79 = .ok (.iload_n 2, 1) := by decide +kernel
theorem dX11_findSea_80 : decode cX11_findSea 80 = .ok (.ifCond .ge 7, 3) := by decide +kernel
theorem dX11_findSea_83 : decode cX11_findSea 83 = .ok (.iconst 0, 1) := by decide +kernel
theorem dX11_findSea_84 : decode cX11_findSea 84 = .ok (.goto 9, 3) := by decide +kernel
theorem dX11_findSea_87 : decode cX11_findSea 87 = .ok (.aload_n 0, 1) := by decide +kernel
theorem dX11_findSea_88 : decode cX11_findSea 88 = .ok (.getfield 83, 3) := by decide +kernel
theorem dX11_findSea_91 : decode cX11_findSea 91 = .ok (.iload_n 2, 1) := by decide +kernel
theorem dX11_findSea_92 : decode cX11_findSea 92 = .ok (.iaload, 1) := by decide +kernel
theorem dX11_findSea_93 : decode cX11_findSea 93 = .ok (.putfield 332, 3) := by decide +kernel
theorem dX11_findSea_96 : decode cX11_findSea 96 = .ok (.return_, 1) := by decide +kernel
theorem dX11_sea_0 : decode cX11_sea 0 = .ok (.iload_n 1, 1) := by decide +kernel
theorem dX11_sea_1 : decode cX11_sea 1 = .ok (.invokestatic 335, 3) := by decide +kernel
theorem dX11_sea_4 : decode cX11_sea 4 = .ok (.ifCond .eq 12, 3) := by decide +kernel
theorem dX11_sea_7 : decode cX11_sea 7 = .ok (.iload_n 2, 1) := by decide +kernel
theorem dX11_sea_8 : decode cX11_sea 8 = .ok (.iconst 0, 1) := by decide +kernel
theorem dX11_sea_9 : decode cX11_sea 9 = .ok (.iconst 1, 1) := by decide +kernel
theorem dX11_sea_10 : decode cX11_sea 10 = .ok (.invokestatic 183, 3) := by decide +kernel
theorem dX11_sea_13 : decode cX11_sea 13 = .ok (.ifCond .ne 5, 3) := by decide +kernel
theorem dX11_sea_16 : decode cX11_sea 16 = .ok (.iconst (-1), 1) := by decide +kernel
theorem dX11_sea_17 : decode cX11_sea 17 = .ok (.ireturn, 1) := by decide +kernel
theorem dX11_sea_18 : decode cX11_sea 18 = .ok (.aload_n 0, 1) := by decide +kernel
theorem dX11_sea_19 : decode cX11_sea 19 = .ok (.iload_n 1, 1) := by decide +kernel
theorem dX11_sea_20 : decode cX11_sea 20 = .ok (.invokevirtual 338, 3) := by decide +kernel
theorem dX11_sea_23 : decode cX11_sea 23 = .ok (.iload_n 2, 1) := by decide +kernel
theorem dX11_sea_24 : decode cX11_sea 24 = .ok (.ifCond .ne 10, 3) := by decide +kernel
theorem dX11_sea_27 : decode cX11_sea 27 = .ok (.aload_n 0, 1) := by decide +kernel
theorem dX11_sea_28 : decode cX11_sea 28 = .ok (.getfield 329, 3) := by decide +kernel
theorem dX11_sea_31 : decode cX11_sea 31 = .ok (.goto 7, 3) := by decide +kernel
theorem dX11_sea_34 : decode cX11_sea 34 = .ok (.aload_n 0, 1) := by decide +kernel
theorem dX11_sea_35 : decode cX11_sea 35 = .ok (.getfield 332, 3) := by decide +kernel
theorem dX11_sea_38 : decode cX11_sea 38 = .ok (.ireturn, 1) := by decide +kernel
theorem dX11_beside_0 : decode cX11_beside 0 = .ok (.iload_n 1, 1) := by decide +kernel
theorem dX11_beside_1 : decode cX11_beside 1 = .ok (.ifCond .ne 18, 3) := by decide +kernel
theorem dX11_beside_4 : decode cX11_beside 4 = .ok (.iload_n 0, 1) := by decide +kernel
theorem dX11_beside_5 : decode cX11_beside 5 = .ok (.bipush 16, 2) := by decide +kernel
theorem dX11_beside_7 : decode cX11_beside 7 = .ok (.irem, 1) := by decide +kernel
theorem dX11_beside_8 : decode cX11_beside 8 = .ok (.ifCond .le 9, 3) := by decide +kernel
theorem dX11_beside_11 : decode cX11_beside 11 = .ok (.iload_n 0, 1) := by decide +kernel
theorem dX11_beside_12 : decode cX11_beside 12 = .ok (.iconst 1, 1) := by decide +kernel
theorem dX11_beside_13 : decode cX11_beside 13 = .ok (.isub, 1) := by decide +kernel
theorem dX11_beside_14 : decode cX11_beside 14 = .ok (.goto 4, 3) := by decide +kernel
theorem dX11_beside_17 : decode cX11_beside 17 = .ok (.iconst (-1), 1) := by decide +kernel
theorem dX11_beside_18 : decode cX11_beside 18 = .ok (.ireturn, 1) := by decide +kernel
theorem dX11_beside_19 : decode cX11_beside 19 = .ok (.iload_n 1, 1) := by decide +kernel
theorem dX11_beside_20 : decode cX11_beside 20 = .ok (.iconst 1, 1) := by decide +kernel
theorem dX11_beside_21 : decode cX11_beside 21 = .ok (.if_icmp .ne 20, 3) := by decide +kernel
theorem dX11_beside_24 : decode cX11_beside 24 = .ok (.iload_n 0, 1) := by decide +kernel
theorem dX11_beside_25 : decode cX11_beside 25 = .ok (.bipush 16, 2) := by decide +kernel
theorem dX11_beside_27 : decode cX11_beside 27 = .ok (.irem, 1) := by decide +kernel
theorem dX11_beside_28 : decode cX11_beside 28 = .ok (.bipush 15, 2) := by decide +kernel
theorem dX11_beside_30 : decode cX11_beside 30 = .ok (.if_icmp .ge 9, 3) := by decide +kernel
theorem dX11_beside_33 : decode cX11_beside 33 = .ok (.iload_n 0, 1) := by decide +kernel
theorem dX11_beside_34 : decode cX11_beside 34 = .ok (.iconst 1, 1) := by decide +kernel
theorem dX11_beside_35 : decode cX11_beside 35 = .ok (.iadd, 1) := by decide +kernel
theorem dX11_beside_36 : decode cX11_beside 36 = .ok (.goto 4, 3) := by decide +kernel
theorem dX11_beside_39 : decode cX11_beside 39 = .ok (.iconst (-1), 1) := by decide +kernel
theorem dX11_beside_40 : decode cX11_beside 40 = .ok (.ireturn, 1) := by decide +kernel
theorem dX11_beside_41 : decode cX11_beside 41 = .ok (.iload_n 1, 1) := by decide +kernel
theorem dX11_beside_42 : decode cX11_beside 42 = .ok (.iconst 2, 1) := by decide +kernel
theorem dX11_beside_43 : decode cX11_beside 43 = .ok (.if_icmp .ne 18, 3) := by decide +kernel
theorem dX11_beside_46 : decode cX11_beside 46 = .ok (.iload_n 0, 1) := by decide +kernel
theorem dX11_beside_47 : decode cX11_beside 47 = .ok (.bipush 15, 2) := by decide +kernel
theorem dX11_beside_49 : decode cX11_beside 49 = .ok (.if_icmp .le 10, 3) := by decide +kernel
theorem dX11_beside_52 : decode cX11_beside 52 = .ok (.iload_n 0, 1) := by decide +kernel
theorem dX11_beside_53 : decode cX11_beside 53 = .ok (.bipush 16, 2) := by decide +kernel
theorem dX11_beside_55 : decode cX11_beside 55 = .ok (.isub, 1) := by decide +kernel
theorem dX11_beside_56 : decode cX11_beside 56 = .ok (.goto 4, 3) := by decide +kernel
theorem dX11_beside_59 : decode cX11_beside 59 = .ok (.iconst (-1), 1) := by decide +kernel
theorem dX11_beside_60 : decode cX11_beside 60 = .ok (.ireturn, 1) := by decide +kernel
theorem dX11_beside_61 : decode cX11_beside 61 = .ok (.iload_n 0, 1) := by decide +kernel
theorem dX11_beside_62 : decode cX11_beside 62 = .ok (.sipush 240, 3) := by decide +kernel
theorem dX11_beside_65 : decode cX11_beside 65 = .ok (.if_icmp .ge 10, 3) := by decide +kernel
theorem dX11_beside_68 : decode cX11_beside 68 = .ok (.iload_n 0, 1) := by decide +kernel
theorem dX11_beside_69 : decode cX11_beside 69 = .ok (.bipush 16, 2) := by decide +kernel
theorem dX11_beside_71 : decode cX11_beside 71 = .ok (.iadd, 1) := by decide +kernel
theorem dX11_beside_72 : decode cX11_beside 72 = .ok (.goto 4, 3) := by decide +kernel
theorem dX11_beside_75 : decode cX11_beside 75 = .ok (.iconst (-1), 1) := by decide +kernel
theorem dX11_beside_76 : decode cX11_beside 76 = .ok (.ireturn, 1) := by decide +kernel
theorem dX11_heldTo99_0 : decode cX11_heldTo99 0 = .ok (.iload_n 0, 1) := by decide +kernel
theorem dX11_heldTo99_1 : decode cX11_heldTo99 1 = .ok (.bipush 99, 2) := by decide +kernel
theorem dX11_heldTo99_3 : decode cX11_heldTo99 3 = .ok (.if_icmp .le 8, 3) := by decide +kernel
