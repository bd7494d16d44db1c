theorem dX11_heldTo99_6 : decode cX11_heldTo99 6 = .ok (.bipush 99, 2) := by decide +kernel
theorem dX11_heldTo99_8 : decode cX11_heldTo99 8 = .ok (.goto 4, 3) := by decide +kernel
theorem dX11_heldTo99_11 : decode cX11_heldTo99 11 = .ok (.iload_n 0, 1) := by decide +kernel
theorem dX11_heldTo99_12 : decode cX11_heldTo99 12 = .ok (.ireturn, 1) := by decide +kernel
theorem dX11_lowOf_0 : decode cX11_lowOf 0 = .ok (.aload_n 0, 1) := by decide +kernel
theorem dX11_lowOf_1 : decode cX11_lowOf 1 = .ok (.getfield 25, 3) := by decide +kernel
theorem dX11_lowOf_4 : decode cX11_lowOf 4 = .ok (.iload_n 1, 1) := by decide +kernel
theorem dX11_lowOf_5 : decode cX11_lowOf 5 = .ok (.iaload, 1) := by decide +kernel
theorem dX11_lowOf_6 : decode cX11_lowOf 6 = .ok (.aload_n 0, 1) := by decide +kernel
theorem dX11_lowOf_7 : decode cX11_lowOf 7 = .ok (.getfield 124, 3) := by decide +kernel
theorem dX11_lowOf_10 : decode cX11_lowOf 10 = .ok (.iload_n 1, 1) := by decide +kernel
theorem dX11_lowOf_11 : decode cX11_lowOf 11 = .ok (.iaload, 1) := by decide +kernel
theorem dX11_lowOf_12 : decode cX11_lowOf 12 = .ok (.iadd, 1) := by decide +kernel
theorem dX11_lowOf_13 : decode cX11_lowOf 13 = .ok (.invokestatic 341, 3) := by decide +kernel
theorem dX11_lowOf_16 : decode cX11_lowOf 16 = .ok (.ireturn, 1) := by decide +kernel
theorem dX11_highOf_0 : decode cX11_highOf 0 = .ok (.aload_n 0, 1) := by decide +kernel
theorem dX11_highOf_1 : decode cX11_highOf 1 = .ok (.getfield 28, 3) := by decide +kernel
theorem dX11_highOf_4 : decode cX11_highOf 4 = .ok (.iload_n 1, 1) := by decide +kernel
theorem dX11_highOf_5 : decode cX11_highOf 5 = .ok (.iaload, 1) := by decide +kernel
theorem dX11_highOf_6 : decode cX11_highOf 6 = .ok (.aload_n 0, 1) := by decide +kernel
theorem dX11_highOf_7 : decode cX11_highOf 7 = .ok (.getfield 124, 3) := by decide +kernel
theorem dX11_highOf_10 : decode cX11_highOf 10 = .ok (.iload_n 1, 1) := by decide +kernel
theorem dX11_highOf_11 : decode cX11_highOf 11 = .ok (.iaload, 1) := by decide +kernel
theorem dX11_highOf_12 : decode cX11_highOf 12 = .ok (.iadd, 1) := by decide +kernel
theorem dX11_highOf_13 : decode cX11_highOf 13 = .ok (.invokestatic 341, 3) := by decide +kernel
theorem dX11_highOf_16 : decode cX11_highOf 16 = .ok (.ireturn, 1) := by decide +kernel
theorem dX11_findGround_0 : decode cX11_findGround 0 = .ok (.iconst 0, 1) := by decide +kernel
theorem dX11_findGround_1 : decode cX11_findGround 1 = .ok (.istore_n 1, 1) := by decide +kernel
theorem dX11_findGround_2 : decode cX11_findGround 2 = .ok (.iload_n 1, 1) := by decide +kernel
theorem dX11_findGround_3 : decode cX11_findGround 3 = .ok (.sipush 256, 3) := by decide +kernel
theorem dX11_findGround_6 : decode cX11_findGround 6 = .ok (.if_icmp .ge 79, 3) := by decide +kernel
theorem dX11_findGround_9 : decode cX11_findGround 9 = .ok (.iconst 0, 1) := by decide +kernel
theorem dX11_findGround_10 : decode cX11_findGround 10 = .ok (.istore_n 2, 1) := by decide +kernel
theorem dX11_findGround_11 : decode cX11_findGround 11 = .ok (.iload_n 2, 1) := by decide +kernel
theorem dX11_findGround_12 : decode cX11_findGround 12 = .ok (.bipush 7, 2) := by decide +kernel
theorem dX11_findGround_14 : decode cX11_findGround 14 = .ok (.if_icmp .ge 16, 3) := by decide +kernel
theorem dX11_findGround_17 : decode cX11_findGround 17 = .ok (.aload_n 0, 1) := by decide +kernel
theorem dX11_findGround_18 : decode cX11_findGround 18 = .ok (.getfield 118, 3) := by decide +kernel
theorem dX11_findGround_21 : decode cX11_findGround 21 = .ok (.iload_n 2, 1) := by decide +kernel
theorem dX11_findGround_22 : decode cX11_findGround 22 = .ok (.iconst 0, 1) := by decide +kernel
theorem dX11_findGround_23 : decode cX11_findGround 23 = .ok (.iastore, 1) := by decide +kernel
theorem dX11_findGround_24 : decode cX11_findGround 24 = .ok (.iinc 2 1, 3) := by decide +kernel
theorem dX11_findGround_27 : decode cX11_findGround 27 = .ok (.goto (-16), 3) := by decide +kernel
theorem dX11_findGround_30 : decode cX11_findGround 30 = .ok (.aload_n 0, 1) := by decide +kernel
theorem dX11_findGround_31 : decode cX11_findGround 31 = .ok (.getfield 118, 3) := by decide +kernel
theorem dX11_findGround_34 : decode cX11_findGround 34 = .ok (.iconst 0, 1) := by decide +kernel
theorem dX11_findGround_35 : decode cX11_findGround 35 = .ok (.iload_n 1, 1) := by decide +kernel
theorem dX11_findGround_36 : decode cX11_findGround 36 = .ok (.bipush 16, 2) := by decide +kernel
theorem dX11_findGround_38 : decode cX11_findGround 38 = .ok (.irem, 1) := by decide +kernel
theorem dX11_findGround_39 : decode cX11_findGround 39 = .ok (.iastore, 1) := by decide +kernel
theorem dX11_findGround_40 : decode cX11_findGround 40 = .ok (.aload_n 0, 1) := by decide +kernel
theorem dX11_findGround_41 : decode cX11_findGround 41 = .ok (.getfield 118, 3) := by decide +kernel
theorem dX11_findGround_44 : decode cX11_findGround 44 = .ok (.iconst 1, 1) := by decide +kernel
theorem dX11_findGround_45 : decode cX11_findGround 45 = .ok (.iload_n 1, 1) := by decide +kernel
theorem dX11_findGround_46 : decode cX11_findGround 46 = .ok (.bipush 16, 2) := by decide +kernel
theorem dX11_findGround_48 : decode cX11_findGround 48 = .ok (.idiv, 1) := by decide +kernel
theorem dX11_findGround_49 : decode cX11_findGround 49 = .ok (.iastore, 1) := by decide +kernel
theorem dX11_findGround_50 : decode cX11_findGround 50 = .ok (.aload_n 0, 1) := by decide +kernel
theorem dX11_findGround_51 : decode cX11_findGround 51 = .ok (.getfield 124, 3) := by decide +kernel
theorem dX11_findGround_54 : decode cX11_findGround 54 = .ok (.iload_n 1, 1) := by decide +kernel
theorem dX11_findGround_55 : decode cX11_findGround 55 = .ok (.aload_n 0, 1) := by decide +kernel
theorem dX11_findGround_56 : decode cX11_findGround 56 = .ok (.iconst 1, 1) := by decide +kernel
theorem dX11_findGround_57 : decode cX11_findGround 57 = .ok (.iconst 0, 1) := by decide +kernel
theorem dX11_findGround_58 : decode cX11_findGround 58 = .ok (.invokevirtual 344, 3) := by decide +kernel
theorem dX11_findGround_61 : decode cX11_findGround 61 = .ok (.iastore, 1) := by decide +kernel
theorem dX11_findGround_62 : decode cX11_findGround 62 = .ok (.aload_n 0, 1) := by decide +kernel
theorem dX11_findGround_63 : decode cX11_findGround 63 = .ok (.getfield 127, 3) := by decide +kernel
theorem dX11_findGround_66 : decode cX11_findGround 66 = .ok (.iload_n 1, 1) := by decide +kernel
theorem dX11_findGround_67 : decode cX11_findGround 67 = .ok (.aload_n 0, 1) := by decide +kernel
theorem dX11_findGround_68 : decode cX11_findGround 68 = .ok (.iload_n 1, 1) := by decide +kernel
theorem dX11_findGround_69 : decode cX11_findGround 69 = .ok (.invokevirtual 347, 3) := by decide +kernel
theorem dX11_findGround_72 : decode cX11_findGround 72 = .ok (.aload_n 0, 1) := by decide +kernel
theorem dX11_findGround_73 : decode cX11_findGround 73 = .ok (.iload_n 1, 1) := by decide +kernel
theorem dX11_findGround_74 : decode cX11_findGround 74 = .ok (.invokevirtual 350, 3) := by decide +kernel
theorem dX11_findGround_77 : decode cX11_findGround 77 = .ok (.iadd, 1) := by decide +kernel
theorem dX11_findGround_78 : decode cX11_findGround 78 = .ok (.iastore, 1) := by decide +kernel
theorem dX11_findGround_79 : decode cX11_findGround 79 = .ok (.iinc 1 1, 3) := by decide +kernel
theorem dX11_findGround_82 : decode cX11_findGround 82 = .ok (.goto (-80), 3) := by decide +kernel
theorem dX11_findGround_85 : decode cX11_findGround 85 = .ok (.iconst 0, 1) := by decide +kernel
theorem dX11_findGround_86 : decode cX11_findGround 86 = .ok (.istore_n 1, 1) := by decide +kernel
theorem dX11_findGround_87 : decode cX11_findGround 87 = .ok (.iload_n 1, 1) := by decide +kernel
theorem dX11_findGround_88 : decode cX11_findGround 88 = .ok (.sipush 256, 3) := by decide +kernel
theorem dX11_findGround_91 : decode cX11_findGround 91 = .ok (.if_icmp .ge 226, 3) := by decide +kernel
theorem dX11_findGround_94 : decode cX11_findGround 94 = .ok (.aload_n 0, 1) := by decide +kernel
theorem dX11_findGround_95 : decode cX11_findGround 95 = .ok (.getfield 130, 3) := by decide +kernel
theorem dX11_findGround_98 : decode cX11_findGround 98 = .ok (.iload_n 1, 1) := by decide +kernel
theorem dX11_findGround_99 : decode cX11_findGround 99 = .ok (.iconst (-1), 1) := by decide +kernel
theorem dX11_findGround_100 : decode cX11_findGround 100 = .ok (.iastore, 1) := by decide +kernel
theorem dX11_findGround_101 : decode cX11_findGround 101 = .ok (.aload_n 0, 1) := by decide +kernel
theorem dX11_findGround_102 : decode cX11_findGround 102 = .ok (.getfield 133, 3) := by decide +kernel
theorem dX11_findGround_105 : decode cX11_findGround 105 = .ok (.iload_n 1, 1) := by decide +kernel
theorem dX11_findGround_106 : decode cX11_findGround 106 = .ok (.iconst 0, 1) := by decide +kernel
theorem dX11_findGround_107 : decode cX11_findGround 107 = .ok (.iastore, 1) := by decide +kernel
theorem dX11_findGround_108 : decode cX11_findGround 108 = .ok (.aload_n 0, 1) := by decide +kernel
theorem dX11_findGround_109 : decode cX11_findGround 109 = .ok (.getfield 136, 3) := by decide +kernel
theorem dX11_findGround_112 : decode cX11_findGround 112 = .ok (.iload_n 1, 1) := by decide +kernel
theorem dX11_findGround_113 : decode cX11_findGround 113 = .ok (.iconst 0, 1) := by decide +kernel
theorem dX11_findGround_114 : decode cX11_findGround 114 = .ok (.iastore, 1) := by decide +kernel
theorem dX11_findGround_115 : decode cX11_findGround 115 = .ok (.iconst 0, 1) := by decide +kernel
theorem dX11_findGround_116 : decode cX11_findGround 116 = .ok (.istore_n 2, 1) := by decide +kernel
theorem dX11_findGround_117 : decode cX11_findGround 117 = .ok (.iload_n 2, 1) := by decide +kernel
theorem dX11_findGround_118 : decode cX11_findGround 118 = .ok (.iconst 4, 1) := by decide +kernel
theorem dX11_findGround_119 : decode cX11_findGround 119 = .ok (.if_icmp .ge 103, 3) := by decide +kernel
theorem dX11_findGround_122 : decode cX11_findGround 122 = .ok (.iload_n 1, 1) := by decide +kernel
theorem dX11_findGround_123 : decode cX11_findGround 123 = .ok (.iload_n 2, 1) := by decide +kernel
theorem dX11_findGround_124 : decode cX11_findGround 124 = .ok (.invokestatic 353, 3) := by decide +kernel
theorem dX11_findGround_127 : decode cX11_findGround 127 = .ok (.istore_n 3, 1) := by decide +kernel
theorem dX11_findGround_128 : decode cX11_findGround 128 = .ok (.iload_n 3, 1) := by decide +kernel
theorem dX11_findGround_129 : decode cX11_findGround 129 = .ok (.ifCond .lt 87, 3) := by decide +kernel
theorem dX11_findGround_132 : decode cX11_findGround 132 = .ok (.aload_n 0, 1) := by decide +kernel
theorem dX11_findGround_133 : decode cX11_findGround 133 = .ok (.getfield 127, 3) := by decide +kernel
theorem dX11_findGround_136 : decode cX11_findGround 136 = .ok (.iload_n 3, 1) := by decide +kernel
theorem dX11_findGround_137 : decode cX11_findGround 137 = .ok (.iaload, 1) := by decide +kernel
theorem dX11_findGround_138 : decode cX11_findGround 138 = .ok (.aload_n 0, 1) := by decide +kernel
theorem dX11_findGround_139 : decode cX11_findGround 139 = .ok (.getfield 127, 3) := by decide +kernel
theorem dX11_findGround_142 : decode cX11_findGround 142 = .ok (.iload_n 1, 1) := by decide +kernel
theorem dX11_findGround_143 : decode cX11_findGround 143 = .ok (.iaload, 1) := by decide +kernel
theorem dX11_findGround_144 : decode cX11_findGround 144 = .ok (.if_icmp .lt 6, 3) := by decide +kernel
theorem dX11_findGround_147 : decode cX11_findGround 147 = .ok (.goto 69, 3) := by decide +kernel
theorem dX11_findGround_150 : decode cX11_findGround 150 = .ok (.aload_n 0, 1) := by decide +kernel
theorem dX11_findGround_151 : decode cX11_findGround 151 = .ok (.getfield 130, 3) := by decide +kernel
theorem dX11_findGround_154 : decode cX11_findGround 154 = .ok (.iload_n 1, 1) := by decide +kernel
theorem dX11_findGround_155 : decode cX11_findGround 155 = .ok (.iaload, 1) := by decide +kernel
theorem dX11_findGround_156 : decode cX11_findGround 156 = .ok (.ifCond .lt 53, 3) := by decide +kernel
theorem dX11_findGround_159 : decode cX11_findGround 159 = .ok (.aload_n 0, 1) := by decide +kernel
theorem dX11_findGround_160 : decode cX11_findGround 160 = .ok (.getfield 127, 3) := by decide +kernel
theorem dX11_findGround_163 : decode cX11_findGround 163 = .ok (.iload_n 3, 1) := by decide +kernel
theorem dX11_findGround_164 : decode cX11_findGround 164 = .ok (.iaload, 1) := by decide +kernel
theorem dX11_findGround_165 : decode cX11_findGround 165 = .ok (.aload_n 0, 1) := by decide +kernel
theorem dX11_findGround_166 : decode cX11_findGround 166 = .ok (.getfield 127, 3) := by decide +kernel
theorem dX11_findGround_169 : decode cX11_findGround 169 = .ok (.aload_n 0, 1) := by decide +kernel
theorem dX11_findGround_170 : decode cX11_findGround 170 = .ok (.getfield 130, 3) := by decide +kernel
theorem dX11_findGround_173 : decode cX11_findGround 173 = .ok (.iload_n 1, 1) := by decide +kernel
theorem dX11_findGround_174 : decode cX11_findGround 174 = .ok (.iaload, 1) := by decide +kernel
theorem dX11_findGround_175 : decode cX11_findGround 175 = .ok (.iaload, 1) := by decide +kernel
theorem dX11_findGround_176 : decode cX11_findGround 176 = .ok (.if_icmp .lt 33, 3) := by decide +kernel
theorem dX11_findGround_179 : decode cX11_findGround 179 = .ok (.aload_n 0, 1) := by decide +kernel
theorem dX11_findGround_180 : decode cX11_findGround 180 = .ok (.getfield 127, 3) := by decide +kernel
theorem dX11_findGround_183 : decode cX11_findGround 183 = .ok (.iload_n 3, 1) := by decide +kernel
theorem dX11_findGround_184 : decode cX11_findGround 184 = .ok (.iaload, 1) := by decide +kernel
theorem dX11_findGround_185 : decode cX11_findGround 185 = .ok (.aload_n 0, 1) := by decide +kernel
theorem dX11_findGround_186 : decode cX11_findGround 186 = .ok (.getfield 127, 3) := by decide +kernel
theorem dX11_findGround_189 : decode cX11_findGround 189 = .ok (.aload_n 0, 1) := by decide +kernel
theorem dX11_findGround_190 : decode cX11_findGround 190 = .ok (.getfield 130, 3) := by decide +kernel
theorem dX11_findGround_193 : decode cX11_findGround 193 = .ok (.iload_n 1, 1) := by decide +kernel
theorem dX11_findGround_194 : decode cX11_findGround 194 = .ok (.iaload, 1) := by decide +kernel
theorem dX11_findGround_195 : decode cX11_findGround 195 = .ok (.iaload, 1) := by decide +kernel
theorem dX11_findGround_196 : decode cX11_findGround 196 = .ok (.if_icmp .ne 20, 3) := by decide +kernel
theorem dX11_findGround_199 : decode cX11_findGround 199 = .ok (.iload_n 3, 1) := by decide +kernel
theorem dX11_findGround_200 : decode cX11_findGround 200 = .ok (.aload_n 0, 1) := by decide +kernel
theorem dX11_findGround_201 : decode cX11_findGround 201 = .ok (.getfield 130, 3) := by decide +kernel
theorem dX11_findGround_204 : decode cX11_findGround 204 = .ok (.iload_n 1, 1) := by decide +kernel
theorem dX11_findGround_205 : decode cX11_findGround 205 = .ok (.iaload, 1) := by decide +kernel
theorem dX11_findGround_206 : decode cX11_findGround 206 = .ok (.if_icmp .ge 10, 3) := by decide +kernel
theorem dX11_findGround_209 : decode cX11_findGround 209 = .ok (.aload_n 0, 1) := by decide +kernel
theorem dX11_findGround_210 : decode cX11_findGround 210 = .ok (.getfield 130, 3) := by decide +kernel
theorem dX11_findGround_213 : decode cX11_findGround 213 = .ok (.iload_n 1, 1) := by decide +kernel
theorem dX11_findGround_214 : decode cX11_findGround 214 = .ok (.iload_n 3, 1) := by decide +kernel
theorem dX11_findGround_215 : decode cX11_findGround 215 = .ok (.iastore, 1) := by decide +kernel
theorem dX11_findGround_216 : decode cX11_findGround 216 = .ok (.iinc 2 1, 3) := by decide +kernel
theorem dX11_findGround_219 : decode cX11_findGround 219 = .ok (.goto (-102), 3) := by decide +kernel
theorem dX11_findGround_222 : decode cX11_findGround 222 = .ok (.iconst 0, 1) := by decide +kernel
theorem dX11_findGround_223 : decode cX11_findGround 223 = .ok (.istore_n 2, 1) := by decide +kernel
theorem dX11_findGround_224 : decode cX11_findGround 224 = .ok (.iload_n 2, 1) := by decide +kernel
theorem dX11_findGround_225 : decode cX11_findGround 225 = .ok (.bipush 9, 2) := by decide +kernel
theorem dX11_findGround_227 : decode cX11_findGround 227 = .ok (.if_icmp .ge 84, 3) := by decide +kernel
theorem dX11_findGround_230 : decode cX11_findGround 230 = .ok (.iload_n 1, 1) := by decide +kernel
theorem dX11_findGround_231 : decode cX11_findGround 231 = .ok (.bipush 16, 2) := by decide +kernel
theorem dX11_findGround_233 : decode cX11_findGround 233 = .ok (.irem, 1) := by decide +kernel
theorem dX11_findGround_234 : decode cX11_findGround 234 = .ok (.iload_n 2, 1) := by decide +kernel
theorem dX11_findGround_235 : decode cX11_findGround 235 = .ok (.iconst 3, 1) := by decide +kernel
theorem dX11_findGround_236 : decode cX11_findGround 236 = .ok (.irem, 1) := by decide +kernel
theorem dX11_findGround_237 : decode cX11_findGround 237 = .ok (.iadd, 1) := by decide +kernel
theorem dX11_findGround_238 : decode cX11_findGround 238 = .ok (.iconst 1, 1) := by decide +kernel
theorem dX11_findGround_239 : decode cX11_findGround 239 = .ok (.isub, 1) := by decide +kernel
theorem dX11_findGround_240 : decode cX11_findGround 240 = .ok (.istore_n 3, 1) := by decide +kernel
theorem dX11_findGround_241 : decode cX11_findGround 241 = .ok (.iload_n 1, 1) := by decide +kernel
theorem dX11_findGround_242 : decode cX11_findGround 242 = .ok (.bipush 16, 2) := by decide +kernel
theorem dX11_findGround_244 : decode cX11_findGround 244 = .ok (.idiv, 1) := by decide +kernel
theorem dX11_findGround_245 : decode cX11_findGround 245 = .ok (.iload_n 2, 1) := by decide +kernel
theorem dX11_findGround_246 : decode cX11_findGround 246 = .ok (.iconst 3, 1) := by decide +kernel
theorem dX11_findGround_247 : decode cX11_findGround 247 = .ok (.idiv, 1) := by decide +kernel
theorem dX11_findGround_248 : decode cX11_findGround 248 = .ok (.iadd, 1) := by decide +kernel
theorem dX11_findGround_249 : decode cX11_findGround 249 = .ok (.iconst 1, 1) := by decide +kernel
theorem dX11_findGround_250 : decode cX11_findGround 250 = .ok (.isub, 1) := by decide +kernel
theorem dX11_findGround_251 : decode cX11_findGround 251 = .ok (.istore 4, 2) := by decide +kernel
theorem dX11_findGround_253 : decode cX11_findGround 253 = .ok (.iload_n 3, 1) := by decide +kernel
theorem dX11_findGround_254 : decode cX11_findGround 254 = .ok (.iconst 0, 1) := by decide +kernel
theorem dX11_findGround_255 : decode cX11_findGround 255 = .ok (.bipush 15, 2) := by decide +kernel
theorem dX11_findGround_257 : decode cX11_findGround 257 = .ok (.invokestatic 183, 3) := by decide +kernel
theorem dX11_findGround_260 : decode cX11_findGround 260 = .ok (.ifCond .eq 45, 3) := by decide +kernel
theorem dX11_findGround_263 : decode cX11_findGround 263 = .ok (.iload 4, 2) := by decide +kernel
theorem dX11_findGround_265 : decode cX11_findGround 265 = .ok (.iconst 0, 1) := by decide +kernel
theorem dX11_findGround_266 : decode cX11_findGround 266 = .ok (.bipush 15, 2) := by decide +kernel
theorem dX11_findGround_268 : decode cX11_findGround 268 = .ok (.invokestatic 183, 3) := by decide +kernel
theorem dX11_findGround_271 : decode cX11_findGround 271 = .ok (.ifCond .eq 34, 3) := by decide +kernel
theorem dX11_findGround_274 : decode cX11_findGround 274 = .ok (.aload_n 0, 1) := by decide +kernel
theorem dX11_findGround_275 : decode cX11_findGround 275 = .ok (.getfield 127, 3) := by decide +kernel
theorem dX11_findGround_278 : decode cX11_findGround 278 = .ok (.bipush 16, 2) := by decide +kernel
theorem dX11_findGround_280 : decode cX11_findGround 280 = .ok (.iload 4, 2) := by decide +kernel
theorem dX11_findGround_282 : decode cX11_findGround 282 = .ok (.imul, 1) := by decide +kernel
theorem dX11_findGround_283 : decode cX11_findGround 283 = .ok (.iload_n 3, 1) := by decide +kernel
theorem dX11_findGround_284 : decode cX11_findGround 284 = .ok (.iadd, 1) := by decide +kernel
theorem dX11_findGround_285 : decode cX11_findGround 285 = .ok (.iaload, 1) := by decide +kernel
theorem dX11_findGround_286 : decode cX11_findGround 286 = .ok (.aload_n 0, 1) := by decide +kernel
theorem dX11_findGround_287 : decode cX11_findGround 287 = .ok (.getfield 127, 3) := by decide +kernel
theorem dX11_findGround_290 : decode cX11_findGround 290 = .ok (.iload_n 1, 1) := by decide +kernel
theorem dX11_findGround_291 : decode cX11_findGround 291 = .ok (.iaload, 1) := by decide +kernel
theorem dX11_findGround_292 : decode cX11_findGround 292 = .ok (.if_icmp .le 13, 3) := by decide +kernel
theorem dX11_findGround_295 : decode cX11_findGround 295 = .ok (.aload_n 0, 1) := by decide +kernel
theorem dX11_findGround_296 : decode cX11_findGround 296 = .ok (.getfield 136, 3) := by decide +kernel
theorem dX11_findGround_299 : decode cX11_findGround 299 = .ok (.iload_n 1, 1) := by decide +kernel
theorem dX11_findGround_300 : decode cX11_findGround 300 = .ok (.dup2, 1) := by decide +kernel
theorem dX11_findGround_301 : decode cX11_findGround 301 = .ok (.iaload, 1) := by decide +kernel
theorem dX11_findGround_302 : decode cX11_findGround 302 = .ok (.iconst 1, 1) := by decide +kernel
theorem dX11_findGround_303 : decode cX11_findGround 303 = .ok (.iadd, 1) := by decide +kernel
theorem dX11_findGround_304 : decode cX11_findGround 304 = .ok (.iastore, 1) := by decide +kernel
theorem dX11_findGround_305 : decode cX11_findGround 305 = .ok (.iinc 2 1, 3) := by decide +kernel
theorem dX11_findGround_308 : decode cX11_findGround 308 = .ok (.goto (-84), 3) := by decide +kernel
theorem dX11_findGround_311 : decode cX11_findGround 311 = .ok (.iinc 1 1, 3) := by decide +kernel
theorem dX11_findGround_314 : decode cX11_findGround 314 = .ok (.goto (-227), 3) := by decide +kernel
theorem dX11_findGround_317 : decode cX11_findGround 317 = .ok (.iconst 0, 1) := by decide +kernel
theorem dX11_findGround_318 : decode cX11_findGround 318 = .ok (.istore_n 1, 1) := by decide +kernel
theorem dX11_findGround_319 : decode cX11_findGround 319 = .ok (.iload_n 1, 1) := by decide +kernel
theorem dX11_findGround_320 : decode cX11_findGround 320 = .ok (.sipush 256, 3) := by decide +kernel
theorem dX11_findGround_323 : decode cX11_findGround 323 = .ok (.if_icmp .ge 46, 3) := by decide +kernel
theorem dX11_findGround_326 : decode cX11_findGround 326 = .ok (.iload_n 1, 1) := by decide +kernel
theorem dX11_findGround_327 : decode cX11_findGround 327 = .ok (.istore_n 2, 1) := by decide +kernel
theorem dX11_findGround_328 : decode cX11_findGround 328 = .ok (.iload_n 2, 1) := by decide +kernel
theorem dX11_findGround_329 : decode cX11_findGround 329 = .ok (.ifCond .lt 34, 3) := by decide +kernel
theorem dX11_findGround_332 : decode cX11_findGround 332 = .ok (.aload_n 0, 1) := by decide +kernel
theorem dX11_findGround_333 : decode cX11_findGround 333 = .ok (.getfield 133, 3) := by decide +kernel
theorem dX11_findGround_336 : decode cX11_findGround 336 = .ok (.iload_n 2, 1) := by decide +kernel
theorem dX11_findGround_337 : decode cX11_findGround 337 = .ok (.iaload, 1) := by decide +kernel
theorem dX11_findGround_338 : decode cX11_findGround 338 = .ok (.bipush 99, 2) := by decide +kernel
theorem dX11_findGround_340 : decode cX11_findGround 340 = .ok (.if_icmp .ge 13, 3) := by decide +kernel
theorem dX11_findGround_343 : decode cX11_findGround 343 = .ok (.aload_n 0, 1) := by decide +kernel
theorem dX11_findGround_344 : decode cX11_findGround 344 = .ok (.getfield 133, 3) := by decide +kernel
theorem dX11_findGround_347 : decode cX11_findGround 347 = .ok (.iload_n 2, 1) := by decide +kernel
theorem dX11_findGround_348 : decode cX11_findGround 348 = .ok (.dup2, 1) := by decide +kernel
theorem dX11_findGround_349 : decode cX11_findGround 349 = .ok (.iaload, 1) := by decide +kernel
theorem dX11_findGround_350 : decode cX11_findGround 350 = .ok (.iconst 1, 1) := by decide +kernel
theorem dX11_findGround_351 : decode cX11_findGround 351 = .ok (.iadd, 1) := by decide +kernel
theorem dX11_findGround_352 : decode cX11_findGround 352 = .ok (.iastore, 1) := by decide +kernel
theorem dX11_findGround_353 : decode cX11_findGround 353 = .ok (.aload_n 0, 1) := by decide +kernel
theorem dX11_findGround_354 : decode cX11_findGround 354 = .ok (.getfield 130, 3) := by decide +kernel
theorem dX11_findGround_357 : decode cX11_findGround 357 = .ok (.iload_n 2, 1) := by decide +kernel
theorem dX11_findGround_358 : decode cX11_findGround 358 = .ok (.iaload, 1) := by decide +kernel
theorem dX11_findGround_359 : decode cX11_findGround 359 = .ok (.istore_n 2, 1) := by decide +kernel
theorem dX11_findGround_360 : decode cX11_findGround 360 = .ok (.goto (-32), 3) := by decide +kernel
theorem dX11_findGround_363 : decode cX11_findGround 363 = .ok (.iinc 1 1, 3) := by decide +kernel
theorem dX11_findGround_366 : decode cX11_findGround 366 = .ok (.goto (-47), 3) := by decide +kernel
theorem dX11_findGround_369 : decode cX11_findGround 369 = .ok (.return_, 1) := by decide +kernel
theorem dX11_findLand_0 : decode cX11_findLand 0 = .ok (.aload_n 0, 1) := by decide +kernel
theorem dX11_findLand_1 : decode cX11_findLand 1 = .ok (.iload_n 1, 1) := by decide +kernel
theorem dX11_findLand_2 : decode cX11_findLand 2 = .ok (.invokevirtual 338, 3) := by decide +kernel
theorem dX11_findLand_5 : decode cX11_findLand 5 = .ok (.iconst 0, 1) := by decide +kernel
theorem dX11_findLand_6 : decode cX11_findLand 6 = .ok (.istore_n 2, 1) := by decide +kernel
theorem dX11_findLand_7 : decode cX11_findLand 7 = .ok (.iconst 0, 1) := by decide +kernel
theorem dX11_findLand_8 : decode cX11_findLand 8 = .ok (.istore_n 3, 1) := by decide +kernel
theorem dX11_findLand_9 : decode cX11_findLand 9 = .ok (.iload_n 3, 1) := by decide +kernel
theorem dX11_findLand_10 : decode cX11_findLand 10 = .ok (.sipush 256, 3) := by decide +kernel
theorem dX11_findLand_13 : decode cX11_findLand 13 = .ok (.if_icmp .ge 81, 3) := by decide +kernel
theorem dX11_findLand_16 : decode cX11_findLand 16 = .ok (.aload_n 0, 1) := by decide +kernel
theorem dX11_findLand_17 : decode cX11_findLand 17 = .ok (.getfield 139, 3) := by decide +kernel
theorem dX11_findLand_20 : decode cX11_findLand 20 = .ok (.iload_n 3, 1) := by decide +kernel
theorem dX11_findLand_21 : decode cX11_findLand 21 = .ok (.aload_n 0, 1) := by decide +kernel
theorem dX11_findLand_22 : decode cX11_findLand 22 = .ok (.getfield 127, 3) := by decide +kernel
theorem dX11_findLand_25 : decode cX11_findLand 25 = .ok (.iload_n 3, 1) := by decide +kernel
theorem dX11_findLand_26 : decode cX11_findLand 26 = .ok (.iaload, 1) := by decide +kernel
theorem dX11_findLand_27 : decode cX11_findLand 27 = .ok (.aload_n 0, 1) := by decide +kernel
theorem dX11_findLand_28 : decode cX11_findLand 28 = .ok (.getfield 329, 3) := by decide +kernel
theorem dX11_findLand_31 : decode cX11_findLand 31 = .ok (.aload_n 0, 1) := by decide +kernel
theorem dX11_findLand_32 : decode cX11_findLand 32 = .ok (.getfield 332, 3) := by decide +kernel
theorem dX11_findLand_35 : decode cX11_findLand 35 = .ok (.iadd, 1) := by decide +kernel
theorem dX11_findLand_36 : decode cX11_findLand 36 = .ok (.if_icmp .le 7, 3) := by decide +kernel
theorem dX11_findLand_39 : decode cX11_findLand 39 = .ok (.iconst 1, 1) := by decide +kernel
theorem dX11_findLand_40 : decode cX11_findLand 40 = .ok (.goto 4, 3) := by decide +kernel
theorem dX11_findLand_43 : decode cX11_findLand 43 = .ok (.iconst 0, 1) := by decide +kernel
theorem dX11_findLand_44 : decode cX11_findLand 44 = .ok (.bastore, 1) := by decide +kernel
theorem dX11_findLand_45 : decode cX11_findLand 45 = .ok (.aload_n 0, 1) := by decide +kernel
theorem dX11_findLand_46 : decode cX11_findLand 46 = .ok (.getfield 145, 3) := by decide +kernel
theorem dX11_findLand_49 : decode cX11_findLand 49 = .ok (.iload_n 3, 1) := by decide +kernel
theorem dX11_findLand_50 : decode cX11_findLand 50 = .ok (.aload_n 0, 1) := by decide +kernel
theorem dX11_findLand_51 : decode cX11_findLand 51 = .ok (.getfield 139, 3) := by decide +kernel
theorem dX11_findLand_54 : decode cX11_findLand 54 = .ok (.iload_n 3, 1) := by decide +kernel
theorem dX11_findLand_55 : decode cX11_findLand 55 = .ok (.baload, 1) := by decide +kernel
theorem dX11_findLand_56 : decode cX11_findLand 56 = .ok (.ifCond .eq 8, 3) := by decide +kernel
theorem dX11_findLand_59 : decode cX11_findLand 59 = .ok (.bipush 99, 2) := by decide +kernel
theorem dX11_findLand_61 : decode cX11_findLand 61 = .ok (.goto 4, 3) := by decide +kernel
theorem dX11_findLand_64 : decode cX11_findLand 64 = .ok (.iconst 0, 1) := by decide +kernel
theorem dX11_findLand_65 : decode cX11_findLand 65 = .ok (.iastore, 1) := by decide +kernel
theorem dX11_findLand_66 : decode cX11_findLand 66 = .ok (.aload_n 0, 1) := by decide +kernel
theorem dX11_findLand_67 : decode cX11_findLand 67 = .ok (.getfield 139, 3) := by decide +kernel
theorem dX11_findLand_70 : decode cX11_findLand 70 = .ok (.iload_n 3, 1) := by decide +kernel
theorem dX11_findLand_71 : decode cX11_findLand 71 = .ok (.baload, 1) := by decide +kernel
theorem dX11_findLand_72 : decode cX11_findLand 72 = .ok (.ifCond .eq 6, 3) := by decide +kernel
theorem dX11_findLand_75 : decode cX11_findLand 75 = .ok (.goto 13, 3) := by decide +kernel
theorem dX11_findLand_78 : decode cX11_findLand 78 = .ok (.aload_n 0, 1) := by decide +kernel
theorem dX11_findLand_79 : decode cX11_findLand 79 = .ok (.getfield 148, 3) := by decide +kernel
theorem dX11_findLand_82 : decode cX11_findLand 82 = .ok (.iload_n 2, 1) := by decide +kernel
theorem dX11_findLand_83 : decode cX11_findLand 83 = .ok (.iload_n 3, 1) := by decide +kernel
theorem dX11_findLand_84 : decode cX11_findLand 84 = .ok (.iastore, 1) := by decide +kernel
theorem dX11_findLand_85 : decode cX11_findLand 85 = .ok (.iinc 2 1, 3) := by decide +kernel
theorem dX11_findLand_88 : decode cX11_findLand 88 = .ok (.iinc 3 1, 3) := by decide +kernel
theorem dX11_findLand_91 : decode cX11_findLand 91 = .ok (.goto (-82), 3) := by decide +kernel
theorem dX11_findLand_94 : decode cX11_findLand 94 = .ok (.iconst 0, 1) := by decide +kernel
theorem dX11_findLand_95 : decode cX11_findLand 95 = .ok (.istore_n 3, 1) := by decide +kernel
theorem dX11_findLand_96 : decode cX11_findLand 96 = .ok (.iload_n 3, 1) := by decide +kernel
theorem dX11_findLand_97 : decode cX11_findLand 97 = .ok (.iload_n 2, 1) := by decide +kernel
theorem dX11_findLand_98 : decode cX11_findLand 98 = .ok (.if_icmp .ge 88, 3) := by decide +kernel
theorem dX11_findLand_101 : decode cX11_findLand 101 = .ok (.iconst 0, 1) := by decide +kernel
theorem dX11_findLand_102 : decode cX11_findLand 102 = .ok (.istore 4, 2) := by decide +kernel
theorem dX11_findLand_104 : decode cX11_findLand 104 = .ok (.iload 4, 2) := by decide +kernel
theorem dX11_findLand_106 : decode cX11_findLand 106 = .ok (.iconst 4, 1) := by decide +kernel
theorem dX11_findLand_107 : decode cX11_findLand 107 = .ok (.if_icmp .ge 73, 3) := by decide +kernel
theorem dX11_findLand_110 : decode cX11_findLand 110 = .ok (.aload_n 0, 1) := by decide +kernel
theorem dX11_findLand_111 : decode cX11_findLand 111 = .ok (.getfield 148, 3) := by decide +kernel
theorem dX11_findLand_114 : decode cX11_findLand 114 = .ok (.iload_n 3, 1) := by decide +kernel
theorem dX11_findLand_115 : decode cX11_findLand 115 = .ok (.iaload, 1) := by decide +kernel
theorem dX11_findLand_116 : decode cX11_findLand 116 = .ok (.iload 4, 2) := by decide +kernel
theorem dX11_findLand_118 : decode cX11_findLand 118 = .ok (.invokestatic 353, 3) := by decide +kernel
theorem dX11_findLand_121 : decode cX11_findLand 121 = .ok (.istore 5, 2) := by decide +kernel
theorem dX11_findLand_123 : decode cX11_findLand 123 = .ok (.iload 5, 2) := by decide +kernel
theorem dX11_findLand_125 : decode cX11_findLand 125 = .ok (.ifCond .lt 49, 3) := by decide +kernel
theorem dX11_findLand_128 : decode cX11_findLand 128 = .ok (.aload_n 0, 1) := by decide +kernel
theorem dX11_findLand_129 : decode cX11_findLand 129 = .ok (.getfield 145, 3) := by decide +kernel
theorem dX11_findLand_132 : decode cX11_findLand 132 = .ok (.iload 5, 2) := by decide +kernel
theorem dX11_findLand_134 : decode cX11_findLand 134 = .ok (.iaload, 1) := by decide +kernel
theorem dX11_findLand_135 : decode cX11_findLand 135 = .ok (.bipush 99, 2) := by decide +kernel
theorem dX11_findLand_137 : decode cX11_findLand 137 = .ok (.if_icmp .ge 6, 3) := by decide +kernel
theorem dX11_findLand_140 : decode cX11_findLand 140 = .ok (.goto 34, 3) := by decide +kernel
theorem dX11_findLand_143 : decode cX11_findLand 143 = .ok (.aload_n 0, 1) := by decide +kernel
theorem dX11_findLand_144 : decode cX11_findLand 144 = .ok (.getfield 145, 3) := by decide +kernel
theorem dX11_findLand_147 : decode cX11_findLand 147 = .ok (.iload 5, 2) := by decide +kernel
theorem dX11_findLand_149 : decode cX11_findLand 149 = .ok (.aload_n 0, 1) := by decide +kernel
theorem dX11_findLand_150 : decode cX11_findLand 150 = .ok (.getfield 145, 3) := by decide +kernel
theorem dX11_findLand_153 : decode cX11_findLand 153 = .ok (.aload_n 0, 1) := by decide +kernel
theorem dX11_findLand_154 : decode cX11_findLand 154 = .ok (.getfield 148, 3) := by decide +kernel
theorem dX11_findLand_157 : decode cX11_findLand 157 = .ok (.iload_n 3, 1) := by decide +kernel
theorem dX11_findLand_158 : decode cX11_findLand 158 = .ok (.iaload, 1) := by decide +kernel
theorem dX11_findLand_159 : decode cX11_findLand 159 = .ok (.iaload, 1) := by decide +kernel
theorem dX11_findLand_160 : decode cX11_findLand 160 = .ok (.iconst 1, 1) := by decide +kernel
theorem dX11_findLand_161 : decode cX11_findLand 161 = .ok (.iadd, 1) := by decide +kernel
theorem dX11_findLand_162 : decode cX11_findLand 162 = .ok (.iastore, 1) := by decide +kernel
theorem dX11_findLand_163 : decode cX11_findLand 163 = .ok (.aload_n 0, 1) := by decide +kernel
theorem dX11_findLand_164 : decode cX11_findLand 164 = .ok (.getfield 148, 3) := by decide +kernel
theorem dX11_findLand_167 : decode cX11_findLand 167 = .ok (.iload_n 2, 1) := by decide +kernel
theorem dX11_findLand_168 : decode cX11_findLand 168 = .ok (.iload 5, 2) := by decide +kernel
theorem dX11_findLand_170 : decode cX11_findLand 170 = .ok (.iastore, 1) := by decide +kernel
theorem dX11_findLand_171 : decode cX11_findLand 171 = .ok (.iinc 2 1, 3) := by decide +kernel
theorem dX11_findLand_174 : decode cX11_findLand 174 = .ok (.iinc 4 1, 3) := by decide +kernel
theorem dX11_findLand_177 : decode cX11_findLand 177 = .ok (.goto (-73), 3) := by decide +kernel
theorem dX11_findLand_180 : decode cX11_findLand 180 = .ok (.iinc 3 1, 3) := by decide +kernel
theorem dX11_findLand_183 : decode cX11_findLand 183 = .ok (.goto (-87), 3) := by decide +kernel
theorem dX11_findLand_186 : decode cX11_findLand 186 = .ok (.return_, 1) := by decide +kernel
theorem dX11_heightOf_0 : decode cX11_heightOf 0 = .ok (.aload_n 0, 1) := by decide +kernel
theorem dX11_heightOf_1 : decode cX11_heightOf 1 = .ok (.getfield 139, 3) := by decide +kernel
theorem dX11_heightOf_4 : decode cX11_heightOf 4 = .ok (.iload_n 1, 1) := by decide +kernel
theorem dX11_heightOf_5 : decode cX11_heightOf 5 = .ok (.baload, 1) := by decide +kernel
theorem dX11_heightOf_6 : decode cX11_heightOf 6 = .ok (.ifCond .eq 24, 3) := by decide +kernel
theorem dX11_heightOf_9 : decode cX11_heightOf 9 = .ok (.aload_n 0, 1) := by decide +kernel
theorem dX11_heightOf_10 : decode cX11_heightOf 10 = .ok (.getfield 127, 3) := by decide +kernel
theorem dX11_heightOf_13 : decode cX11_heightOf 13 = .ok (.iload_n 1, 1) := by decide +kernel
theorem dX11_heightOf_14 : decode cX11_heightOf 14 = .ok (.iaload, 1) := by decide +kernel
theorem dX11_heightOf_15 : decode cX11_heightOf 15 = .ok (.aload_n 0, 1) := by decide +kernel
theorem dX11_heightOf_16 : decode cX11_heightOf 16 = .ok (.getfield 329, 3) := by decide +kernel
theorem dX11_heightOf_19 : decode cX11_heightOf 19 = .ok (.isub, 1) := by decide +kernel
theorem dX11_heightOf_20 : decode cX11_heightOf 20 = .ok (.aload_n 0, 1) := by decide +kernel
theorem dX11_heightOf_21 : decode cX11_heightOf 21 = .ok (.getfield 332, 3) := by decide +kernel
theorem dX11_heightOf_24 : decode cX11_heightOf 24 = .ok (.isub, 1) := by decide +kernel
theorem dX11_heightOf_25 : decode cX11_heightOf 25 = .ok (.iconst 2, 1) := by decide +kernel
theorem dX11_heightOf_26 : decode cX11_heightOf 26 = .ok (.idiv, 1) := by decide +kernel
theorem dX11_heightOf_27 : decode cX11_heightOf 27 = .ok (.goto 4, 3) := by decide +kernel
theorem dX11_heightOf_30 : decode cX11_heightOf 30 = .ok (.iconst 0, 1) := by decide +kernel
theorem dX11_heightOf_31 : decode cX11_heightOf 31 = .ok (.ireturn, 1) := by decide +kernel
theorem dX11_asked_0 : decode cX11_asked 0 = .ok (.aload_n 0, 1) := by decide +kernel
theorem dX11_asked_1 : decode cX11_asked 1 = .ok (.getfield 118, 3) := by decide +kernel
theorem dX11_asked_4 : decode cX11_asked 4 = .ok (.iconst 0, 1) := by decide +kernel
theorem dX11_asked_5 : decode cX11_asked 5 = .ok (.iload_n 1, 1) := by decide +kernel
theorem dX11_asked_6 : decode cX11_asked 6 = .ok (.bipush 16, 2) := by decide +kernel
theorem dX11_asked_8 : decode cX11_asked 8 = .ok (.irem, 1) := by decide +kernel
theorem dX11_asked_9 : decode cX11_asked 9 = .ok (.iastore, 1) := by decide +kernel
theorem dX11_asked_10 : decode cX11_asked 10 = .ok (.aload_n 0, 1) := by decide +kernel
theorem dX11_asked_11 : decode cX11_asked 11 = .ok (.getfield 118, 3) := by decide +kernel
theorem dX11_asked_14 : decode cX11_asked 14 = .ok (.iconst 1, 1) := by decide +kernel
theorem dX11_asked_15 : decode cX11_asked 15 = .ok (.iload_n 1, 1) := by decide +kernel
theorem dX11_asked_16 : decode cX11_asked 16 = .ok (.bipush 16, 2) := by decide +kernel
theorem dX11_asked_18 : decode cX11_asked 18 = .ok (.idiv, 1) := by decide +kernel
theorem dX11_asked_19 : decode cX11_asked 19 = .ok (.iastore, 1) := by decide +kernel
theorem dX11_asked_20 : decode cX11_asked 20 = .ok (.aload_n 0, 1) := by decide +kernel
theorem dX11_asked_21 : decode cX11_asked 21 = .ok (.getfield 118, 3) := by decide +kernel
theorem dX11_asked_24 : decode cX11_asked 24 = .ok (.iconst 2, 1) := by decide +kernel
theorem dX11_asked_25 : decode cX11_asked 25 = .ok (.iload_n 2, 1) := by decide +kernel
theorem dX11_asked_26 : decode cX11_asked 26 = .ok (.iastore, 1) := by decide +kernel
theorem dX11_asked_27 : decode cX11_asked 27 = .ok (.aload_n 0, 1) := by decide +kernel
theorem dX11_asked_28 : decode cX11_asked 28 = .ok (.getfield 118, 3) := by decide +kernel
theorem dX11_asked_31 : decode cX11_asked 31 = .ok (.iconst 3, 1) := by decide +kernel
theorem dX11_asked_32 : decode cX11_asked 32 = .ok (.aload_n 0, 1) := by decide +kernel
theorem dX11_asked_33 : decode cX11_asked 33 = .ok (.iload_n 1, 1) := by decide +kernel
theorem dX11_asked_34 : decode cX11_asked 34 = .ok (.invokevirtual 356, 3) := by decide +kernel
theorem dX11_asked_37 : decode cX11_asked 37 = .ok (.iastore, 1) := by decide +kernel
theorem dX11_asked_38 : decode cX11_asked 38 = .ok (.aload_n 0, 1) := by decide +kernel
theorem dX11_asked_39 : decode cX11_asked 39 = .ok (.getfield 118, 3) := by decide +kernel
theorem dX11_asked_42 : decode cX11_asked 42 = .ok (.iconst 4, 1) := by decide +kernel
theorem dX11_asked_43 : decode cX11_asked 43 = .ok (.aload_n 0, 1) := by decide +kernel
theorem dX11_asked_44 : decode cX11_asked 44 = .ok (.getfield 133, 3) := by decide +kernel
theorem dX11_asked_47 : decode cX11_asked 47 = .ok (.iload_n 1, 1) := by decide +kernel
theorem dX11_asked_48 : decode cX11_asked 48 = .ok (.iaload, 1) := by decide +kernel
theorem dX11_asked_49 : decode cX11_asked 49 = .ok (.iastore, 1) := by decide +kernel
theorem dX11_asked_50 : decode cX11_asked 50 = .ok (.aload_n 0, 1) := by decide +kernel
theorem dX11_asked_51 : decode cX11_asked 51 = .ok (.getfield 118, 3) := by decide +kernel
theorem dX11_asked_54 : decode cX11_asked 54 = .ok (.iconst 5, 1) := by decide +kernel
theorem dX11_asked_55 : decode cX11_asked 55 = .ok (.aload_n 0, 1) := by decide +kernel
theorem dX11_asked_56 : decode cX11_asked 56 = .ok (.getfield 145, 3) := by decide +kernel
theorem dX11_asked_59 : decode cX11_asked 59 = .ok (.iload_n 1, 1) := by decide +kernel
theorem dX11_asked_60 : decode cX11_asked 60 = .ok (.iaload, 1) := by decide +kernel
theorem dX11_asked_61 : decode cX11_asked 61 = .ok (.iastore, 1) := by decide +kernel
theorem dX11_asked_62 : decode cX11_asked 62 = .ok (.aload_n 0, 1) := by decide +kernel
theorem dX11_asked_63 : decode cX11_asked 63 = .ok (.getfield 118, 3) := by decide +kernel
theorem dX11_asked_66 : decode cX11_asked 66 = .ok (.bipush 6, 2) := by decide +kernel
theorem dX11_asked_68 : decode cX11_asked 68 = .ok (.aload_n 0, 1) := by decide +kernel
theorem dX11_asked_69 : decode cX11_asked 69 = .ok (.getfield 136, 3) := by decide +kernel
theorem dX11_asked_72 : decode cX11_asked 72 = .ok (.iload_n 1, 1) := by decide +kernel
theorem dX11_asked_73 : decode cX11_asked 73 = .ok (.iaload, 1) := by decide +kernel
theorem dX11_asked_74 : decode cX11_asked 74 = .ok (.iastore, 1) := by decide +kernel
theorem dX11_asked_75 : decode cX11_asked 75 = .ok (.return_, 1) := by decide +kernel
theorem dX11_by_0 : decode cX11_by 0 = .ok (.iload_n 1, 1) := by decide +kernel
theorem dX11_by_1 : decode cX11_by 1 = .ok (.iconst 2, 1) := by decide +kernel
theorem dX11_by_2 : decode cX11_by 2 = .ok (.if_icmp .ne 14, 3) := by decide +kernel
theorem dX11_by_5 : decode cX11_by 5 = .ok (.aload_n 0, 1) := by decide +kernel
theorem dX11_by_6 : decode cX11_by 6 = .ok (.getfield 139, 3) := by decide +kernel
theorem dX11_by_9 : decode cX11_by 9 = .ok (.iload_n 2, 1) := by decide +kernel
theorem dX11_by_10 : decode cX11_by 10 = .ok (.baload, 1) := by decide +kernel
theorem dX11_by_11 : decode cX11_by 11 = .ok (.ifCond .ne 5, 3) := by decide +kernel
theorem dX11_by_14 : decode cX11_by 14 = .ok (.iconst 0, 1) := by decide +kernel
theorem dX11_by_15 : decode cX11_by 15 = .ok (.ireturn, 1) := by decide +kernel
theorem dX11_by_16 : decode cX11_by 16 = .ok (.aload_n 0, 1) := by decide +kernel
theorem dX11_by_17 : decode cX11_by 17 = .ok (.iload_n 2, 1) := by decide +kernel
theorem dX11_by_18 : decode cX11_by 18 = .ok (.iload_n 3, 1) := by decide +kernel
theorem dX11_by_19 : decode cX11_by 19 = .ok (.invokevirtual 359, 3) := by decide +kernel
theorem dX11_by_22 : decode cX11_by 22 = .ok (.aload_n 0, 1) := by decide +kernel
theorem dX11_by_23 : decode cX11_by 23 = .ok (.iload_n 1, 1) := by decide +kernel
theorem dX11_by_24 : decode cX11_by 24 = .ok (.iload_n 1, 1) := by decide +kernel
theorem dX11_by_25 : decode cX11_by 25 = .ok (.iconst 4, 1) := by decide +kernel
theorem dX11_by_26 : decode cX11_by 26 = .ok (.if_icmp .ne 8, 3) := by decide +kernel
theorem dX11_by_29 : decode cX11_by 29 = .ok (.bipush 100, 2) := by decide +kernel
theorem dX11_by_31 : decode cX11_by 31 = .ok (.goto 4, 3) := by decide +kernel
theorem dX11_by_34 : decode cX11_by 34 = .ok (.iconst 0, 1) := by decide +kernel
theorem dX11_by_35 : decode cX11_by 35 = .ok (.invokevirtual 344, 3) := by decide +kernel
theorem dX11_by_38 : decode cX11_by 38 = .ok (.ireturn, 1) := by decide +kernel
theorem dX11_kindOf_0 : decode cX11_kindOf 0 = .ok (.aload_n 0, 1) := by decide +kernel
theorem dX11_kindOf_1 : decode cX11_kindOf 1 = .ok (.getfield 133, 3) := by decide +kernel
theorem dX11_kindOf_4 : decode cX11_kindOf 4 = .ok (.iload_n 1, 1) := by decide +kernel
theorem dX11_kindOf_5 : decode cX11_kindOf 5 = .ok (.iaload, 1) := by decide +kernel
theorem dX11_kindOf_6 : decode cX11_kindOf 6 = .ok (.bipush 9, 2) := by decide +kernel
theorem dX11_kindOf_8 : decode cX11_kindOf 8 = .ok (.if_icmp .le 7, 3) := by decide +kernel
theorem dX11_kindOf_11 : decode cX11_kindOf 11 = .ok (.iconst 1, 1) := by decide +kernel
theorem dX11_kindOf_12 : decode cX11_kindOf 12 = .ok (.goto 4, 3) := by decide +kernel
theorem dX11_kindOf_15 : decode cX11_kindOf 15 = .ok (.iconst 0, 1) := by decide +kernel
theorem dX11_kindOf_16 : decode cX11_kindOf 16 = .ok (.aload_n 0, 1) := by decide +kernel
theorem dX11_kindOf_17 : decode cX11_kindOf 17 = .ok (.getfield 145, 3) := by decide +kernel
theorem dX11_kindOf_20 : decode cX11_kindOf 20 = .ok (.iload_n 1, 1) := by decide +kernel
theorem dX11_kindOf_21 : decode cX11_kindOf 21 = .ok (.iaload, 1) := by decide +kernel
theorem dX11_kindOf_22 : decode cX11_kindOf 22 = .ok (.iconst 3, 1) := by decide +kernel
theorem dX11_kindOf_23 : decode cX11_kindOf 23 = .ok (.if_icmp .ge 7, 3) := by decide +kernel
theorem dX11_kindOf_26 : decode cX11_kindOf 26 = .ok (.iconst 2, 1) := by decide +kernel
theorem dX11_kindOf_27 : decode cX11_kindOf 27 = .ok (.goto 4, 3) := by decide +kernel
theorem dX11_kindOf_30 : decode cX11_kindOf 30 = .ok (.iconst 0, 1) := by decide +kernel
theorem dX11_kindOf_31 : decode cX11_kindOf 31 = .ok (.iadd, 1) := by decide +kernel
theorem dX11_kindOf_32 : decode cX11_kindOf 32 = .ok (.aload_n 0, 1) := by decide +kernel
theorem dX11_kindOf_33 : decode cX11_kindOf 33 = .ok (.getfield 136, 3) := by decide +kernel
theorem dX11_kindOf_36 : decode cX11_kindOf 36 = .ok (.iload_n 1, 1) := by decide +kernel
theorem dX11_kindOf_37 : decode cX11_kindOf 37 = .ok (.iaload, 1) := by decide +kernel
theorem dX11_kindOf_38 : decode cX11_kindOf 38 = .ok (.iconst 3, 1) := by decide +kernel
theorem dX11_kindOf_39 : decode cX11_kindOf 39 = .ok (.if_icmp .le 7, 3) := by decide +kernel
theorem dX11_kindOf_42 : decode cX11_kindOf 42 = .ok (.iconst 4, 1) := by decide +kernel
theorem dX11_kindOf_43 : decode cX11_kindOf 43 = .ok (.goto 4, 3) := by decide +kernel
theorem dX11_kindOf_46 : decode cX11_kindOf 46 = .ok (.iconst 0, 1) := by decide +kernel
theorem dX11_kindOf_47 : decode cX11_kindOf 47 = .ok (.iadd, 1) := by decide +kernel
theorem dX11_kindOf_48 : decode cX11_kindOf 48 = .ok (.aload_n 0, 1) := by decide +kernel
theorem dX11_kindOf_49 : decode cX11_kindOf 49 = .ok (.iload_n 1, 1) := by decide +kernel
theorem dX11_kindOf_50 : decode cX11_kindOf 50 = .ok (.invokevirtual 356, 3) := by decide +kernel
theorem dX11_kindOf_53 : decode cX11_kindOf 53 = .ok (.bipush 20, 2) := by decide +kernel
theorem dX11_kindOf_55 : decode cX11_kindOf 55 = .ok (.if_icmp .ge 8, 3) := by decide +kernel
theorem dX11_kindOf_58 : decode cX11_kindOf 58 = .ok (.bipush 8, 2) := by decide +kernel
theorem dX11_kindOf_60 : decode cX11_kindOf 60 = .ok (.goto 4, 3) := by decide +kernel
theorem dX11_kindOf_63 : decode cX11_kindOf 63 = .ok (.iconst 0, 1) := by decide +kernel
theorem dX11_kindOf_64 : decode cX11_kindOf 64 = .ok (.iadd, 1) := by decide +kernel
theorem dX11_kindOf_65 : decode cX11_kindOf 65 = .ok (.ireturn, 1) := by decide +kernel
theorem dX11_finds_0 : decode cX11_finds 0 = .ok (.aload_n 0, 1) := by decide +kernel
theorem dX11_finds_1 : decode cX11_finds 1 = .ok (.invokevirtual 362, 3) := by decide +kernel
theorem dX11_finds_4 : decode cX11_finds 4 = .ok (.aload_n 0, 1) := by decide +kernel
theorem dX11_finds_5 : decode cX11_finds 5 = .ok (.iload_n 1, 1) := by decide +kernel
theorem dX11_finds_6 : decode cX11_finds 6 = .ok (.invokevirtual 365, 3) := by decide +kernel
theorem dX11_finds_9 : decode cX11_finds 9 = .ok (.return_, 1) := by decide +kernel
theorem dX11_spread_0 : decode cX11_spread 0 = .ok (.iconst 1, 1) := by decide +kernel
theorem dX11_spread_1 : decode cX11_spread 1 = .ok (.istore_n 3, 1) := by decide +kernel
theorem dX11_spread_2 : decode cX11_spread 2 = .ok (.aload_n 0, 1) := by decide +kernel
theorem dX11_spread_3 : decode cX11_spread 3 = .ok (.getfield 148, 3) := by decide +kernel
theorem dX11_spread_6 : decode cX11_spread 6 = .ok (.iconst 0, 1) := by decide +kernel
theorem dX11_spread_7 : decode cX11_spread 7 = .ok (.iload_n 1, 1) := by decide +kernel
theorem dX11_spread_8 : decode cX11_spread 8 = .ok (.iastore, 1) := by decide +kernel
theorem dX11_spread_9 : decode cX11_spread 9 = .ok (.aload_n 0, 1) := by decide +kernel
theorem dX11_spread_10 : decode cX11_spread 10 = .ok (.getfield 142, 3) := by decide +kernel
theorem dX11_spread_13 : decode cX11_spread 13 = .ok (.iload_n 1, 1) := by decide +kernel
theorem dX11_spread_14 : decode cX11_spread 14 = .ok (.iconst 1, 1) := by decide +kernel
theorem dX11_spread_15 : decode cX11_spread 15 = .ok (.bastore, 1) := by decide +kernel
theorem dX11_spread_16 : decode cX11_spread 16 = .ok (.iconst 0, 1) := by decide +kernel
theorem dX11_spread_17 : decode cX11_spread 17 = .ok (.istore 4, 2) := by decide +kernel
theorem dX11_spread_19 : decode cX11_spread 19 = .ok (.iload 4, 2) := by decide +kernel
theorem dX11_spread_21 : decode cX11_spread 21 = .ok (.iload_n 3, 1) := by decide +kernel
theorem dX11_spread_22 : decode cX11_spread 22 = .ok (.if_icmp .ge 82, 3) := by decide +kernel
theorem dX11_spread_25 : decode cX11_spread 25 = .ok (.iconst 0, 1) := by decide +kernel
theorem dX11_spread_26 : decode cX11_spread 26 = .ok (.istore 5, 2) := by decide +kernel
theorem dX11_spread_28 : decode cX11_spread 28 = .ok (.iload 5, 2) := by decide +kernel
theorem dX11_spread_30 : decode cX11_spread 30 = .ok (.iconst 4, 1) := by decide +kernel
theorem dX11_spread_31 : decode cX11_spread 31 = .ok (.if_icmp .ge 67, 3) := by decide +kernel
theorem dX11_spread_34 : decode cX11_spread 34 = .ok (.aload_n 0, 1) := by decide +kernel
theorem dX11_spread_35 : decode cX11_spread 35 = .ok (.getfield 148, 3) := by decide +kernel
theorem dX11_spread_38 : decode cX11_spread 38 = .ok (.iload 4, 2) := by decide +kernel
theorem dX11_spread_40 : decode cX11_spread 40 = .ok (.iaload, 1) := by decide +kernel
theorem dX11_spread_41 : decode cX11_spread 41 = .ok (.iload 5, 2) := by decide +kernel
theorem dX11_spread_43 : decode cX11_spread 43 = .ok (.invokestatic 353, 3) := by decide +kernel
theorem dX11_spread_46 : decode cX11_spread 46 = .ok (.istore 6, 2) := by decide +kernel
theorem dX11_spread_48 : decode cX11_spread 48 = .ok (.iload 6, 2) := by decide +kernel
theorem dX11_spread_50 : decode cX11_spread 50 = .ok (.ifCond .lt 42, 3) := by decide +kernel
theorem dX11_spread_53 : decode cX11_spread 53 = .ok (.aload_n 0, 1) := by decide +kernel
theorem dX11_spread_54 : decode cX11_spread 54 = .ok (.getfield 142, 3) := by decide +kernel
theorem dX11_spread_57 : decode cX11_spread 57 = .ok (.iload 6, 2) := by decide +kernel
theorem dX11_spread_59 : decode cX11_spread 59 = .ok (.baload, 1) := by decide +kernel
theorem dX11_spread_60 : decode cX11_spread 60 = .ok (.ifCond .ne 32, 3) := by decide +kernel
theorem dX11_spread_63 : decode cX11_spread 63 = .ok (.aload_n 2, 1) := by decide +kernel
theorem dX11_spread_64 : decode cX11_spread 64 = .ok (.iload 6, 2) := by decide +kernel
theorem dX11_spread_66 : decode cX11_spread 66 = .ok (.baload, 1) := by decide +kernel
theorem dX11_spread_67 : decode cX11_spread 67 = .ok (.ifCond .ne 6, 3) := by decide +kernel
theorem dX11_spread_70 : decode cX11_spread 70 = .ok (.goto 22, 3) := by decide +kernel
theorem dX11_spread_73 : decode cX11_spread 73 = .ok (.aload_n 0, 1) := by decide +kernel
theorem dX11_spread_74 : decode cX11_spread 74 = .ok (.getfield 142, 3) := by decide +kernel
theorem dX11_spread_77 : decode cX11_spread 77 = .ok (.iload 6, 2) := by decide +kernel
theorem dX11_spread_79 : decode cX11_spread 79 = .ok (.iconst 1, 1) := by decide +kernel
theorem dX11_spread_80 : decode cX11_spread 80 = .ok (.bastore, 1) := by decide +kernel
theorem dX11_spread_81 : decode cX11_spread 81 = .ok (.aload_n 0, 1) := by decide +kernel
theorem dX11_spread_82 : decode cX11_spread 82 = .ok (.getfield 148, 3) := by decide +kernel
theorem dX11_spread_85 : decode cX11_spread 85 = .ok (.iload_n 3, 1) := by decide +kernel
theorem dX11_spread_86 : decode cX11_spread 86 = .ok (.iload 6, 2) := by decide +kernel
theorem dX11_spread_88 : decode cX11_spread 88 = .ok (.iastore, 1) := by decide +kernel
theorem dX11_spread_89 : decode cX11_spread 89 = .ok (.iinc 3 1, 3) := by decide +kernel
theorem dX11_spread_92 : decode cX11_spread 92 = .ok (.iinc 5 1, 3) := by decide +kernel
theorem dX11_spread_95 : decode cX11_spread 95 = .ok (.goto (-67), 3) := by decide +kernel
theorem dX11_spread_98 : decode cX11_spread 98 = .ok (.iinc 4 1, 3) := by decide +kernel
theorem dX11_spread_101 : decode cX11_spread 101 = .ok (.goto (-82), 3) := by decide +kernel
theorem dX11_spread_104 : decode cX11_spread 104 = .ok (.iload_n 3, 1) := by decide +kernel
theorem dX11_spread_105 : decode cX11_spread 105 = .ok (.ireturn, 1) := by decide +kernel
theorem dX11_unsees_0 : decode cX11_unsees 0 = .ok (.iconst 0, 1) := by decide +kernel
theorem dX11_unsees_1 : decode cX11_unsees 1 = .ok (.istore_n 1, 1) := by decide +kernel
theorem dX11_unsees_2 : decode cX11_unsees 2 = .ok (.iload_n 1, 1) := by decide +kernel
theorem dX11_unsees_3 : decode cX11_unsees 3 = .ok (.sipush 256, 3) := by decide +kernel
theorem dX11_unsees_6 : decode cX11_unsees 6 = .ok (.if_icmp .ge 16, 3) := by decide +kernel
theorem dX11_unsees_9 : decode cX11_unsees 9 = .ok (.aload_n 0, 1) := by decide +kernel
theorem dX11_unsees_10 : decode cX11_unsees 10 = .ok (.getfield 142, 3) := by decide +kernel
theorem dX11_unsees_13 : decode cX11_unsees 13 = .ok (.iload_n 1, 1) := by decide +kernel
theorem dX11_unsees_14 : decode cX11_unsees 14 = .ok (.iconst 0, 1) := by decide +kernel
theorem dX11_unsees_15 : decode cX11_unsees 15 = .ok (.bastore, 1) := by decide +kernel
theorem dX11_unsees_16 : decode cX11_unsees 16 = .ok (.iinc 1 1, 3) := by decide +kernel
theorem dX11_unsees_19 : decode cX11_unsees 19 = .ok (.goto (-17), 3) := by decide +kernel
theorem dX11_unsees_22 : decode cX11_unsees 22 = .ok (.return_, 1) := by decide +kernel
theorem dX11_islandOf_0 : decode cX11_islandOf 0 = .ok (.aload_n 0, 1) := by decide +kernel
theorem dX11_islandOf_1 : decode cX11_islandOf 1 = .ok (.getfield 139, 3) := by decide +kernel
theorem dX11_islandOf_4 : decode cX11_islandOf 4 = .ok (.iload_n 1, 1) := by decide +kernel
theorem dX11_islandOf_5 : decode cX11_islandOf 5 = .ok (.baload, 1) := by decide +kernel
theorem dX11_islandOf_6 : decode cX11_islandOf 6 = .ok (.ifCond .ne 5, 3) := by decide +kernel
theorem dX11_islandOf_9 : decode cX11_islandOf 9 = .ok (.iconst 0, 1) := by decide +kernel
theorem dX11_islandOf_10 : decode cX11_islandOf 10 = .ok (.ireturn, 1) := by decide +kernel
theorem dX11_islandOf_11 : decode cX11_islandOf 11 = .ok (.aload_n 0, 1) := by decide +kernel
theorem dX11_islandOf_12 : decode cX11_islandOf 12 = .ok (.invokevirtual 368, 3) := by decide +kernel
theorem dX11_islandOf_15 : decode cX11_islandOf 15 = .ok (.aload_n 0, 1) := by decide +kernel
theorem dX11_islandOf_16 : decode cX11_islandOf 16 = .ok (.iload_n 1, 1) := by decide +kernel
theorem dX11_islandOf_17 : decode cX11_islandOf 17 = .ok (.aload_n 0, 1) := by decide +kernel
theorem dX11_islandOf_18 : decode cX11_islandOf 18 = .ok (.getfield 139, 3) := by decide +kernel
theorem dX11_islandOf_21 : decode cX11_islandOf 21 = .ok (.invokevirtual 371, 3) := by decide +kernel
theorem dX11_islandOf_24 : decode cX11_islandOf 24 = .ok (.ireturn, 1) := by decide +kernel
theorem dX11_underOf_0 : decode cX11_underOf 0 = .ok (.iconst 0, 1) := by decide +kernel
theorem dX11_underOf_1 : decode cX11_underOf 1 = .ok (.istore_n 3, 1) := by decide +kernel
theorem dX11_underOf_2 : decode cX11_underOf 2 = .ok (.iload_n 3, 1) := by decide +kernel
theorem dX11_underOf_3 : decode cX11_underOf 3 = .ok (.bipush 99, 2) := by decide +kernel
theorem dX11_underOf_5 : decode cX11_underOf 5 = .ok (.if_icmp .gt 47, 3) := by decide +kernel
theorem dX11_underOf_8 : decode cX11_underOf 8 = .ok (.aload_n 0, 1) := by decide +kernel
theorem dX11_underOf_9 : decode cX11_underOf 9 = .ok (.iload_n 3, 1) := by decide +kernel
theorem dX11_underOf_10 : decode cX11_underOf 10 = .ok (.invokevirtual 338, 3) := by decide +kernel
theorem dX11_underOf_13 : decode cX11_underOf 13 = .ok (.iload_n 2, 1) := by decide +kernel
theorem dX11_underOf_14 : decode cX11_underOf 14 = .ok (.ifCond .eq 18, 3) := by decide +kernel
theorem dX11_underOf_17 : decode cX11_underOf 17 = .ok (.aload_n 0, 1) := by decide +kernel
theorem dX11_underOf_18 : decode cX11_underOf 18 = .ok (.getfield 329, 3) := by decide +kernel
theorem dX11_underOf_21 : decode cX11_underOf 21 = .ok (.aload_n 0, 1) := by decide +kernel
theorem dX11_underOf_22 : decode cX11_underOf 22 = .ok (.iload_n 1, 1) := by decide +kernel
theorem dX11_underOf_23 : decode cX11_underOf 23 = .ok (.invokevirtual 350, 3) := by decide +kernel
theorem dX11_underOf_26 : decode cX11_underOf 26 = .ok (.if_icmp .lt 20, 3) := by decide +kernel
theorem dX11_underOf_29 : decode cX11_underOf 29 = .ok (.goto 15, 3) := by decide +kernel
theorem dX11_underOf_32 : decode cX11_underOf 32 = .ok (.aload_n 0, 1) := by decide +kernel
theorem dX11_underOf_33 : decode cX11_underOf 33 = .ok (.getfield 332, 3) := by decide +kernel
theorem dX11_underOf_36 : decode cX11_underOf 36 = .ok (.aload_n 0, 1) := by decide +kernel
theorem dX11_underOf_37 : decode cX11_underOf 37 = .ok (.iload_n 1, 1) := by decide +kernel
theorem dX11_underOf_38 : decode cX11_underOf 38 = .ok (.invokevirtual 347, 3) := by decide +kernel
theorem dX11_underOf_41 : decode cX11_underOf 41 = .ok (.if_icmp .lt 5, 3) := by decide +kernel
theorem dX11_underOf_44 : decode cX11_underOf 44 = .ok (.iload_n 3, 1) := by decide +kernel
theorem dX11_underOf_45 : decode cX11_underOf 45 = .ok (.ireturn, 1) := by decide +kernel
theorem dX11_underOf_46 : decode cX11_underOf 46 = .ok (.iinc 3 1, 3) := by decide +kernel
theorem dX11_underOf_49 : decode cX11_underOf 49 = .ok (.goto (-47), 3) := by decide +kernel
theorem dX11_underOf_52 : decode cX11_underOf 52 = .ok (.bipush 100, 2) := by decide +kernel
theorem dX11_underOf_54 : decode cX11_underOf 54 = .ok (.ireturn, 1) := by decide +kernel
theorem dX11_isSure_0 : decode cX11_isSure 0 = .ok (.aload_n 0, 1) := by decide +kernel
theorem dX11_isSure_1 : decode cX11_isSure 1 = .ok (.getfield 130, 3) := by decide +kernel
theorem dX11_isSure_4 : decode cX11_isSure 4 = .ok (.iload_n 1, 1) := by decide +kernel
theorem dX11_isSure_5 : decode cX11_isSure 5 = .ok (.iaload, 1) := by decide +kernel
theorem dX11_isSure_6 : decode cX11_isSure 6 = .ok (.istore_n 2, 1) := by decide +kernel
theorem dX11_isSure_7 : decode cX11_isSure 7 = .ok (.iload_n 2, 1) := by decide +kernel
theorem dX11_isSure_8 : decode cX11_isSure 8 = .ok (.ifCond .ge 5, 3) := by decide +kernel
theorem dX11_isSure_11 : decode cX11_isSure 11 = .ok (.iconst 0, 1) := by decide +kernel
theorem dX11_isSure_12 : decode cX11_isSure 12 = .ok (.ireturn, 1) := by decide +kernel
theorem dX11_isSure_13 : decode cX11_isSure 13 = .ok (.aload_n 0, 1) := by decide +kernel
theorem dX11_isSure_14 : decode cX11_isSure 14 = .ok (.iload_n 2, 1) := by decide +kernel
theorem dX11_isSure_15 : decode cX11_isSure 15 = .ok (.invokevirtual 350, 3) := by decide +kernel
theorem dX11_isSure_18 : decode cX11_isSure 18 = .ok (.istore_n 3, 1) := by decide +kernel
theorem dX11_isSure_19 : decode cX11_isSure 19 = .ok (.iload_n 3, 1) := by decide +kernel
theorem dX11_isSure_20 : decode cX11_isSure 20 = .ok (.aload_n 0, 1) := by decide +kernel
theorem dX11_isSure_21 : decode cX11_isSure 21 = .ok (.iload_n 1, 1) := by decide +kernel
theorem dX11_isSure_22 : decode cX11_isSure 22 = .ok (.invokevirtual 347, 3) := by decide +kernel
theorem dX11_isSure_25 : decode cX11_isSure 25 = .ok (.if_icmp .lt 5, 3) := by decide +kernel
theorem dX11_isSure_28 : decode cX11_isSure 28 = .ok (.iconst 0, 1) := by decide +kernel
theorem dX11_isSure_29 : decode cX11_isSure 29 = .ok (.ireturn, 1) := by decide +kernel
theorem dX11_isSure_30 : decode cX11_isSure 30 = .ok (.iconst 0, 1) := by decide +kernel
theorem dX11_isSure_31 : decode cX11_isSure 31 = .ok (.istore 4, 2) := by decide +kernel
theorem dX11_isSure_33 : decode cX11_isSure 33 = .ok (.iload 4, 2) := by decide +kernel
theorem dX11_isSure_35 : decode cX11_isSure 35 = .ok (.iconst 4, 1) := by decide +kernel
theorem dX11_isSure_36 : decode cX11_isSure 36 = .ok (.if_icmp .ge 40, 3) := by decide +kernel
theorem dX11_isSure_39 : decode cX11_isSure 39 = .ok (.iload_n 1, 1) := by decide +kernel
theorem dX11_isSure_40 : decode cX11_isSure 40 = .ok (.iload 4, 2) := by decide +kernel
theorem dX11_isSure_42 : decode cX11_isSure 42 = .ok (.invokestatic 353, 3) := by decide +kernel
theorem dX11_isSure_45 : decode cX11_isSure 45 = .ok (.istore 5, 2) := by decide +kernel
theorem dX11_isSure_47 : decode cX11_isSure 47 = .ok (.iload 5, 2) := by decide +kernel
theorem dX11_isSure_49 : decode cX11_isSure 49 = .ok (.ifCond .lt 21, 3) := by decide +kernel
theorem dX11_isSure_52 : decode cX11_isSure 52 = .ok (.iload 5, 2) := by decide +kernel
theorem dX11_isSure_54 : decode cX11_isSure 54 = .ok (.iload_n 2, 1) := by decide +kernel
theorem dX11_isSure_55 : decode cX11_isSure 55 = .ok (.if_icmp .eq 15, 3) := by decide +kernel
theorem dX11_isSure_58 : decode cX11_isSure 58 = .ok (.aload_n 0, 1) := by decide +kernel
theorem dX11_isSure_59 : decode cX11_isSure 59 = .ok (.iload 5, 2) := by decide +kernel
theorem dX11_isSure_61 : decode cX11_isSure 61 = .ok (.invokevirtual 347, 3) := by decide +kernel
theorem dX11_isSure_64 : decode cX11_isSure 64 = .ok (.iload_n 3, 1) := by decide +kernel
theorem dX11_isSure_65 : decode cX11_isSure 65 = .ok (.if_icmp .ge 5, 3) := by decide +kernel
theorem dX11_isSure_68 : decode cX11_isSure 68 = .ok (.iconst 0, 1) := by decide +kernel
theorem dX11_isSure_69 : decode cX11_isSure 69 = .ok (.ireturn, 1) := by decide +kernel
theorem dX11_isSure_70 : decode cX11_isSure 70 = .ok (.iinc 4 1, 3) := by decide +kernel
theorem dX11_isSure_73 : decode cX11_isSure 73 = .ok (.goto (-40), 3) := by decide +kernel
theorem dX11_isSure_76 : decode cX11_isSure 76 = .ok (.iconst 1, 1) := by decide +kernel
theorem dX11_isSure_77 : decode cX11_isSure 77 = .ok (.ireturn, 1) := by decide +kernel
theorem dX11_isPlace_0 : decode cX11_isPlace 0 = .ok (.iconst 0, 1) := by decide +kernel
theorem dX11_isPlace_1 : decode cX11_isPlace 1 = .ok (.istore_n 2, 1) := by decide +kernel
theorem dX11_isPlace_2 : decode cX11_isPlace 2 = .ok (.iload_n 2, 1) := by decide +kernel
theorem dX11_isPlace_3 : decode cX11_isPlace 3 = .ok (.aload_n 0, 1) := by decide +kernel
theorem dX11_isPlace_4 : decode cX11_isPlace 4 = .ok (.getfield 19, 3) := by decide +kernel
theorem dX11_isPlace_7 : decode cX11_isPlace 7 = .ok (.iconst 0, 1) := by decide +kernel
theorem dX11_isPlace_8 : decode cX11_isPlace 8 = .ok (.iaload, 1) := by decide +kernel
theorem dX11_isPlace_9 : decode cX11_isPlace 9 = .ok (.if_icmp .ge 21, 3) := by decide +kernel
theorem dX11_isPlace_12 : decode cX11_isPlace 12 = .ok (.aload_n 0, 1) := by decide +kernel
theorem dX11_isPlace_13 : decode cX11_isPlace 13 = .ok (.getfield 52, 3) := by decide +kernel
theorem dX11_isPlace_16 : decode cX11_isPlace 16 = .ok (.iload_n 2, 1) := by decide +kernel
theorem dX11_isPlace_17 : decode cX11_isPlace 17 = .ok (.iaload, 1) := by decide +kernel
theorem dX11_isPlace_18 : decode cX11_isPlace 18 = .ok (.iload_n 1, 1) := by decide +kernel
theorem dX11_isPlace_19 : decode cX11_isPlace 19 = .ok (.if_icmp .ne 5, 3) := by decide +kernel
theorem dX11_isPlace_22 : decode cX11_isPlace 22 = .ok (.iconst 1, 1) := by decide +kernel
theorem dX11_isPlace_23 : decode cX11_isPlace 23 = .ok (.ireturn, 1) := by decide +kernel
theorem dX11_isPlace_24 : decode cX11_isPlace 24 = .ok (.iinc 2 1, 3) := by decide +kernel
theorem dX11_isPlace_27 : decode cX11_isPlace 27 = .ok (.goto (-25), 3) := by decide +kernel
theorem dX11_isPlace_30 : decode cX11_isPlace 30 = .ok (.iconst 0, 1) := by decide +kernel
theorem dX11_isPlace_31 : decode cX11_isPlace 31 = .ok (.ireturn, 1) := by decide +kernel
theorem dX11_cell_0 : decode cX11_cell 0 = .ok (.iload_n 1, 1) := by decide +kernel
theorem dX11_cell_1 : decode cX11_cell 1 = .ok (.invokestatic 191, 3) := by decide +kernel
theorem dX11_cell_4 : decode cX11_cell 4 = .ok (.ifCond .eq 13, 3) := by decide +kernel
theorem dX11_cell_7 : decode cX11_cell 7 = .ok (.iload_n 2, 1) := by decide +kernel
theorem dX11_cell_8 : decode cX11_cell 8 = .ok (.iconst 0, 1) := by decide +kernel
theorem dX11_cell_9 : decode cX11_cell 9 = .ok (.bipush 10, 2) := by decide +kernel
theorem dX11_cell_11 : decode cX11_cell 11 = .ok (.invokestatic 183, 3) := by decide +kernel
theorem dX11_cell_14 : decode cX11_cell 14 = .ok (.ifCond .ne 5, 3) := by decide +kernel
theorem dX11_cell_17 : decode cX11_cell 17 = .ok (.iconst (-1), 1) := by decide +kernel
theorem dX11_cell_18 : decode cX11_cell 18 = .ok (.ireturn, 1) := by decide +kernel
theorem dX11_cell_19 : decode cX11_cell 19 = .ok (.aload_n 0, 1) := by decide +kernel
theorem dX11_cell_20 : decode cX11_cell 20 = .ok (.invokevirtual 362, 3) := by decide +kernel
theorem dX11_cell_23 : decode cX11_cell 23 = .ok (.iload_n 2, 1) := by decide +kernel
theorem dX11_cell_24 : decode cX11_cell 24 = .ok (.tableswitch 130 0 9 #[56, 62, 68, 75, 82, 89, 95, 102, 109, 116], 56) := by decide +kernel
theorem dX11_cell_80 : decode cX11_cell 80 = .ok (.aload_n 0, 1) := by decide +kernel
theorem dX11_cell_81 : decode cX11_cell 81 = .ok (.iload_n 1, 1) := by decide +kernel
theorem dX11_cell_82 : decode cX11_cell 82 = .ok (.invokevirtual 347, 3) := by decide +kernel
theorem dX11_cell_85 : decode cX11_cell 85 = .ok (.ireturn, 1) := by decide +kernel
theorem dX11_cell_86 : decode cX11_cell 86 = .ok (.aload_n 0, 1) := by decide +kernel
theorem dX11_cell_87 : decode cX11_cell 87 = .ok (.iload_n 1, 1) := by decide +kernel
theorem dX11_cell_88 : decode cX11_cell 88 = .ok (.invokevirtual 350, 3) := by decide +kernel
theorem dX11_cell_91 : decode cX11_cell 91 = .ok (.ireturn, 1) := by decide +kernel
theorem dX11_cell_92 : decode cX11_cell 92 = .ok (.aload_n 0, 1) := by decide +kernel
theorem dX11_cell_93 : decode cX11_cell 93 = .ok (.getfield 124, 3) := by decide +kernel
theorem dX11_cell_96 : decode cX11_cell 96 = .ok (.iload_n 1, 1) := by decide +kernel
theorem dX11_cell_97 : decode cX11_cell 97 = .ok (.iaload, 1) := by decide +kernel
theorem dX11_cell_98 : decode cX11_cell 98 = .ok (.ireturn, 1) := by decide +kernel
theorem dX11_cell_99 : decode cX11_cell 99 = .ok (.aload_n 0, 1) := by decide +kernel
theorem dX11_cell_100 : decode cX11_cell 100 = .ok (.getfield 130, 3) := by decide +kernel
theorem dX11_cell_103 : decode cX11_cell 103 = .ok (.iload_n 1, 1) := by decide +kernel
theorem dX11_cell_104 : decode cX11_cell 104 = .ok (.iaload, 1) := by decide +kernel
theorem dX11_cell_105 : decode cX11_cell 105 = .ok (.ireturn, 1) := by decide +kernel
theorem dX11_cell_106 : decode cX11_cell 106 = .ok (.aload_n 0, 1) := by decide +kernel
theorem dX11_cell_107 : decode cX11_cell 107 = .ok (.getfield 133, 3) := by decide +kernel
theorem dX11_cell_110 : decode cX11_cell 110 = .ok (.iload_n 1, 1) := by decide +kernel
theorem dX11_cell_111 : decode cX11_cell 111 = .ok (.iaload, 1) := by decide +kernel
theorem dX11_cell_112 : decode cX11_cell 112 = .ok (.ireturn, 1) := by decide +kernel
theorem dX11_cell_113 : decode cX11_cell 113 = .ok (.aload_n 0, 1) := by decide +kernel
theorem dX11_cell_114 : decode cX11_cell 114 = .ok (.iload_n 1, 1) := by decide +kernel
theorem dX11_cell_115 : decode cX11_cell 115 = .ok (.invokevirtual 375, 3) := by decide +kernel
theorem dX11_cell_118 : decode cX11_cell 118 = .ok (.ireturn, 1) := by decide +kernel
theorem dX11_cell_119 : decode cX11_cell 119 = .ok (.aload_n 0, 1) := by decide +kernel
theorem dX11_cell_120 : decode cX11_cell 120 = .ok (.iload_n 1, 1) := by decide +kernel
theorem dX11_cell_121 : decode cX11_cell 121 = .ok (.iconst 0, 1) := by decide +kernel
theorem dX11_cell_122 : decode cX11_cell 122 = .ok (.invokevirtual 378, 3) := by decide +kernel
theorem dX11_cell_125 : decode cX11_cell 125 = .ok (.ireturn, 1) := by decide +kernel
theorem dX11_cell_126 : decode cX11_cell 126 = .ok (.aload_n 0, 1) := by decide +kernel
theorem dX11_cell_127 : decode cX11_cell 127 = .ok (.iload_n 1, 1) := by decide +kernel
theorem dX11_cell_128 : decode cX11_cell 128 = .ok (.iconst 1, 1) := by decide +kernel
theorem dX11_cell_129 : decode cX11_cell 129 = .ok (.invokevirtual 378, 3) := by decide +kernel
theorem dX11_cell_132 : decode cX11_cell 132 = .ok (.ireturn, 1) := by decide +kernel
theorem dX11_cell_133 : decode cX11_cell 133 = .ok (.aload_n 0, 1) := by decide +kernel
theorem dX11_cell_134 : decode cX11_cell 134 = .ok (.getfield 31, 3) := by decide +kernel
theorem dX11_cell_137 : decode cX11_cell 137 = .ok (.iload_n 1, 1) := by decide +kernel
theorem dX11_cell_138 : decode cX11_cell 138 = .ok (.iaload, 1) := by decide +kernel
theorem dX11_cell_139 : decode cX11_cell 139 = .ok (.ireturn, 1) := by decide +kernel
theorem dX11_cell_140 : decode cX11_cell 140 = .ok (.aload_n 0, 1) := by decide +kernel
theorem dX11_cell_141 : decode cX11_cell 141 = .ok (.iload_n 1, 1) := by decide +kernel
theorem dX11_cell_142 : decode cX11_cell 142 = .ok (.invokevirtual 382, 3) := by decide +kernel
theorem dX11_cell_145 : decode cX11_cell 145 = .ok (.ifCond .eq 7, 3) := by decide +kernel
theorem dX11_cell_148 : decode cX11_cell 148 = .ok (.iconst 1, 1) := by decide +kernel
theorem dX11_cell_149 : decode cX11_cell 149 = .ok (.goto 4, 3) := by decide +kernel
theorem dX11_cell_152 : decode cX11_cell 152 = .ok (.iconst 0, 1) := by decide +kernel
theorem dX11_cell_153 : decode cX11_cell 153 = .ok (.ireturn, 1) := by decide +kernel
theorem dX11_cell_154 : decode cX11_cell 154 = .ok (.aload_n 0, 1) := by decide +kernel
theorem dX11_cell_155 : decode cX11_cell 155 = .ok (.getfield 34, 3) := by decide +kernel
theorem dX11_cell_158 : decode cX11_cell 158 = .ok (.iload_n 1, 1) := by decide +kernel
theorem dX11_cell_159 : decode cX11_cell 159 = .ok (.iaload, 1) := by decide +kernel
theorem dX11_cell_160 : decode cX11_cell 160 = .ok (.ireturn, 1) := by decide +kernel
theorem dX11_asked__0 : decode cX11_asked_ 0 = .ok (.iload_n 1, 1) := by decide +kernel
theorem dX11_asked__1 : decode cX11_asked_ 1 = .ok (.invokestatic 191, 3) := by decide +kernel
theorem dX11_asked__4 : decode cX11_asked_ 4 = .ok (.ifCond .eq 20, 3) := by decide +kernel
theorem dX11_asked__7 : decode cX11_asked_ 7 = .ok (.iload_n 2, 1) := by decide +kernel
theorem dX11_asked__8 : decode cX11_asked_ 8 = .ok (.invokestatic 335, 3) := by decide +kernel
theorem dX11_asked__11 : decode cX11_asked_ 11 = .ok (.ifCond .eq 13, 3) := by decide +kernel
theorem dX11_asked__14 : decode cX11_asked_ 14 = .ok (.iload_n 3, 1) := by decide +kernel
theorem dX11_asked__15 : decode cX11_asked_ 15 = .ok (.iconst 0, 1) := by decide +kernel
theorem dX11_asked__16 : decode cX11_asked_ 16 = .ok (.bipush 8, 2) := by decide +kernel
theorem dX11_asked__18 : decode cX11_asked_ 18 = .ok (.invokestatic 183, 3) := by decide +kernel
theorem dX11_asked__21 : decode cX11_asked_ 21 = .ok (.ifCond .ne 5, 3) := by decide +kernel
theorem dX11_asked__24 : decode cX11_asked_ 24 = .ok (.iconst (-1), 1) := by decide +kernel
theorem dX11_asked__25 : decode cX11_asked_ 25 = .ok (.ireturn, 1) := by decide +kernel
theorem dX11_asked__26 : decode cX11_asked_ 26 = .ok (.aload_n 0, 1) := by decide +kernel
theorem dX11_asked__27 : decode cX11_asked_ 27 = .ok (.iload_n 2, 1) := by decide +kernel
theorem dX11_asked__28 : decode cX11_asked_ 28 = .ok (.invokevirtual 385, 3) := by decide +kernel
theorem dX11_asked__31 : decode cX11_asked_ 31 = .ok (.iload_n 3, 1) := by decide +kernel
theorem dX11_asked__32 : decode cX11_asked_ 32 = .ok (.tableswitch 99 0 8 #[52, 67, 73, 80, 87, 99, 99, 99, 93], 52) := by decide +kernel
theorem dX11_asked__84 : decode cX11_asked_ 84 = .ok (.aload_n 0, 1) := by decide +kernel
theorem dX11_asked__85 : decode cX11_asked_ 85 = .ok (.getfield 139, 3) := by decide +kernel
theorem dX11_asked__88 : decode cX11_asked_ 88 = .ok (.iload_n 1, 1) := by decide +kernel
theorem dX11_asked__89 : decode cX11_asked_ 89 = .ok (.baload, 1) := by decide +kernel
theorem dX11_asked__90 : decode cX11_asked_ 90 = .ok (.ifCond .eq 7, 3) := by decide +kernel
theorem dX11_asked__93 : decode cX11_asked_ 93 = .ok (.iconst 1, 1) := by decide +kernel
theorem dX11_asked__94 : decode cX11_asked_ 94 = .ok (.goto 4, 3) := by decide +kernel
theorem dX11_asked__97 : decode cX11_asked_ 97 = .ok (.iconst 0, 1) := by decide +kernel
theorem dX11_asked__98 : decode cX11_asked_ 98 = .ok (.ireturn, 1) := by decide +kernel
theorem dX11_asked__99 : decode cX11_asked_ 99 = .ok (.aload_n 0, 1) := by decide +kernel
theorem dX11_asked__100 : decode cX11_asked_ 100 = .ok (.iload_n 1, 1) := by decide +kernel
theorem dX11_asked__101 : decode cX11_asked_ 101 = .ok (.invokevirtual 356, 3) := by decide +kernel
theorem dX11_asked__104 : decode cX11_asked_ 104 = .ok (.ireturn, 1) := by decide +kernel
theorem dX11_asked__105 : decode cX11_asked_ 105 = .ok (.aload_n 0, 1) := by decide +kernel
theorem dX11_asked__106 : decode cX11_asked_ 106 = .ok (.getfield 145, 3) := by decide +kernel
theorem dX11_asked__109 : decode cX11_asked_ 109 = .ok (.iload_n 1, 1) := by decide +kernel
theorem dX11_asked__110 : decode cX11_asked_ 110 = .ok (.iaload, 1) := by decide +kernel
theorem dX11_asked__111 : decode cX11_asked_ 111 = .ok (.ireturn, 1) := by decide +kernel
theorem dX11_asked__112 : decode cX11_asked_ 112 = .ok (.aload_n 0, 1) := by decide +kernel
theorem dX11_asked__113 : decode cX11_asked_ 113 = .ok (.getfield 136, 3) := by decide +kernel
theorem dX11_asked__116 : decode cX11_asked_ 116 = .ok (.iload_n 1, 1) := by decide +kernel
theorem dX11_asked__117 : decode cX11_asked_ 117 = .ok (.iaload, 1) := by decide +kernel
theorem dX11_asked__118 : decode cX11_asked_ 118 = .ok (.ireturn, 1) := by decide +kernel
theorem dX11_asked__119 : decode cX11_asked_ 119 = .ok (.aload_n 0, 1) := by decide +kernel
theorem dX11_asked__120 : decode cX11_asked_ 120 = .ok (.iload_n 1, 1) := by decide +kernel
theorem dX11_asked__121 : decode cX11_asked_ 121 = .ok (.invokevirtual 387, 3) := by decide +kernel
theorem dX11_asked__124 : decode cX11_asked_ 124 = .ok (.ireturn, 1) := by decide +kernel
theorem dX11_asked__125 : decode cX11_asked_ 125 = .ok (.aload_n 0, 1) := by decide +kernel
theorem dX11_asked__126 : decode cX11_asked_ 126 = .ok (.iload_n 1, 1) := by decide +kernel
theorem dX11_asked__127 : decode cX11_asked_ 127 = .ok (.invokevirtual 390, 3) := by decide +kernel
theorem dX11_asked__130 : decode cX11_asked_ 130 = .ok (.ireturn, 1) := by decide +kernel
theorem dX11_asked__131 : decode cX11_asked_ 131 = .ok (.aload_n 0, 1) := by decide +kernel
theorem dX11_asked__132 : decode cX11_asked_ 132 = .ok (.iload_n 3, 1) := by decide +kernel
theorem dX11_asked__133 : decode cX11_asked_ 133 = .ok (.iconst 3, 1) := by decide +kernel
theorem dX11_asked__134 : decode cX11_asked_ 134 = .ok (.isub, 1) := by decide +kernel
theorem dX11_asked__135 : decode cX11_asked_ 135 = .ok (.iload_n 1, 1) := by decide +kernel
theorem dX11_asked__136 : decode cX11_asked_ 136 = .ok (.iload_n 2, 1) := by decide +kernel
theorem dX11_asked__137 : decode cX11_asked_ 137 = .ok (.invokevirtual 393, 3) := by decide +kernel
theorem dX11_asked__140 : decode cX11_asked_ 140 = .ok (.ireturn, 1) := by decide +kernel
theorem dX11_shore_0 : decode cX11_shore 0 = .ok (.iload_n 1, 1) := by decide +kernel
theorem dX11_shore_1 : decode cX11_shore 1 = .ok (.invokestatic 335, 3) := by decide +kernel
theorem dX11_shore_4 : decode cX11_shore 4 = .ok (.ifCond .ne 5, 3) := by decide +kernel
theorem dX11_shore_7 : decode cX11_shore 7 = .ok (.iconst (-1), 1) := by decide +kernel
theorem dX11_shore_8 : decode cX11_shore 8 = .ok (.ireturn, 1) := by decide +kernel
theorem dX11_shore_9 : decode cX11_shore 9 = .ok (.aload_n 0, 1) := by decide +kernel
theorem dX11_shore_10 : decode cX11_shore 10 = .ok (.iload_n 1, 1) := by decide +kernel
theorem dX11_shore_11 : decode cX11_shore 11 = .ok (.invokevirtual 385, 3) := by decide +kernel
theorem dX11_shore_14 : decode cX11_shore 14 = .ok (.iconst 0, 1) := by decide +kernel
theorem dX11_shore_15 : decode cX11_shore 15 = .ok (.istore_n 2, 1) := by decide +kernel
theorem dX11_shore_16 : decode cX11_shore 16 = .ok (.iconst 0, 1) := by decide +kernel
theorem dX11_shore_17 : decode cX11_shore 17 = .ok (.istore_n 3, 1) := by decide +kernel
theorem dX11_shore_18 : decode cX11_shore 18 = .ok (.iload_n 3, 1) := by decide +kernel
theorem dX11_shore_19 : decode cX11_shore 19 = .ok (.sipush 256, 3) := by decide +kernel
theorem dX11_shore_22 : decode cX11_shore 22 = .ok (.if_icmp .ge 56, 3) := by decide +kernel
theorem dX11_shore_25 : decode cX11_shore 25 = .ok (.iconst 1, 1) := by decide +kernel
theorem dX11_shore_26 : decode cX11_shore 26 = .ok (.istore 4, 2) := by decide +kernel
theorem dX11_shore_28 : decode cX11_shore 28 = .ok (.iload 4, 2) := by decide +kernel
theorem dX11_shore_30 : decode cX11_shore 30 = .ok (.iconst 4, 1) := by decide +kernel
theorem dX11_shore_31 : decode cX11_shore 31 = .ok (.if_icmp .ge 41, 3) := by decide +kernel
theorem dX11_shore_34 : decode cX11_shore 34 = .ok (.iload_n 3, 1) := by decide +kernel
theorem dX11_shore_35 : decode cX11_shore 35 = .ok (.iload 4, 2) := by decide +kernel
theorem dX11_shore_37 : decode cX11_shore 37 = .ok (.invokestatic 353, 3) := by decide +kernel
theorem dX11_shore_40 : decode cX11_shore 40 = .ok (.ifCond .lt 26, 3) := by decide +kernel
theorem dX11_shore_43 : decode cX11_shore 43 = .ok (.aload_n 0, 1) := by decide +kernel
theorem dX11_shore_44 : decode cX11_shore 44 = .ok (.getfield 139, 3) := by decide +kernel
theorem dX11_shore_47 : decode cX11_shore 47 = .ok (.iload_n 3, 1) := by decide +kernel
theorem dX11_shore_48 : decode cX11_shore 48 = .ok (.baload, 1) := by decide +kernel
theorem dX11_shore_49 : decode cX11_shore 49 = .ok (.aload_n 0, 1) := by decide +kernel
theorem dX11_shore_50 : decode cX11_shore 50 = .ok (.getfield 139, 3) := by decide +kernel
theorem dX11_shore_53 : decode cX11_shore 53 = .ok (.iload_n 3, 1) := by decide +kernel
theorem dX11_shore_54 : decode cX11_shore 54 = .ok (.iload 4, 2) := by decide +kernel
theorem dX11_shore_56 : decode cX11_shore 56 = .ok (.invokestatic 353, 3) := by decide +kernel
theorem dX11_shore_59 : decode cX11_shore 59 = .ok (.baload, 1) := by decide +kernel
theorem dX11_shore_60 : decode cX11_shore 60 = .ok (.if_icmp .eq 6, 3) := by decide +kernel
theorem dX11_shore_63 : decode cX11_shore 63 = .ok (.iinc 2 1, 3) := by decide +kernel
theorem dX11_shore_66 : decode cX11_shore 66 = .ok (.iinc 4 2, 3) := by decide +kernel
theorem dX11_shore_69 : decode cX11_shore 69 = .ok (.goto (-41), 3) := by decide +kernel
theorem dX11_shore_72 : decode cX11_shore 72 = .ok (.iinc 3 1, 3) := by decide +kernel
theorem dX11_shore_75 : decode cX11_shore 75 = .ok (.goto (-57), 3) := by decide +kernel
theorem dX11_shore_78 : decode cX11_shore 78 = .ok (.iload_n 2, 1) := by decide +kernel
theorem dX11_shore_79 : decode cX11_shore 79 = .ok (.ireturn, 1) := by decide +kernel
theorem dX11_alone_0 : decode cX11_alone 0 = .ok (.iload_n 1, 1) := by decide +kernel
theorem dX11_alone_1 : decode cX11_alone 1 = .ok (.invokestatic 191, 3) := by decide +kernel
theorem dX11_alone_4 : decode cX11_alone 4 = .ok (.ifCond .eq 23, 3) := by decide +kernel
theorem dX11_alone_7 : decode cX11_alone 7 = .ok (.iload_n 2, 1) := by decide +kernel
theorem dX11_alone_8 : decode cX11_alone 8 = .ok (.iconst 1, 1) := by decide +kernel
theorem dX11_alone_9 : decode cX11_alone 9 = .ok (.sipush 256, 3) := by decide +kernel
theorem dX11_alone_12 : decode cX11_alone 12 = .ok (.invokestatic 183, 3) := by decide +kernel
theorem dX11_alone_15 : decode cX11_alone 15 = .ok (.ifCond .eq 12, 3) := by decide +kernel
theorem dX11_alone_18 : decode cX11_alone 18 = .ok (.iload_n 3, 1) := by decide +kernel
theorem dX11_alone_19 : decode cX11_alone 19 = .ok (.iconst 0, 1) := by decide +kernel
theorem dX11_alone_20 : decode cX11_alone 20 = .ok (.iconst 1, 1) := by decide +kernel
theorem dX11_alone_21 : decode cX11_alone 21 = .ok (.invokestatic 183, 3) := by decide +kernel
theorem dX11_alone_24 : decode cX11_alone 24 = .ok (.ifCond .ne 5, 3) := by decide +kernel
theorem dX11_alone_27 : decode cX11_alone 27 = .ok (.iconst (-1), 1) := by decide +kernel
theorem dX11_alone_28 : decode cX11_alone 28 = .ok (.ireturn, 1) := by decide +kernel
theorem dX11_alone_29 : decode cX11_alone 29 = .ok (.aload_n 0, 1) := by decide +kernel
theorem dX11_alone_30 : decode cX11_alone 30 = .ok (.invokevirtual 362, 3) := by decide +kernel
theorem dX11_alone_33 : decode cX11_alone 33 = .ok (.iconst 0, 1) := by decide +kernel
theorem dX11_alone_34 : decode cX11_alone 34 = .ok (.istore 4, 2) := by decide +kernel
theorem dX11_alone_36 : decode cX11_alone 36 = .ok (.iconst 0, 1) := by decide +kernel
theorem dX11_alone_37 : decode cX11_alone 37 = .ok (.istore 5, 2) := by decide +kernel
theorem dX11_alone_39 : decode cX11_alone 39 = .ok (.iconst (-1), 1) := by decide +kernel
theorem dX11_alone_40 : decode cX11_alone 40 = .ok (.istore 6, 2) := by decide +kernel
theorem dX11_alone_42 : decode cX11_alone 42 = .ok (.iconst 0, 1) := by decide +kernel
theorem dX11_alone_43 : decode cX11_alone 43 = .ok (.istore 7, 2) := by decide +kernel
theorem dX11_alone_45 : decode cX11_alone 45 = .ok (.iload 7, 2) := by decide +kernel
theorem dX11_alone_47 : decode cX11_alone 47 = .ok (.bipush 99, 2) := by decide +kernel
theorem dX11_alone_49 : decode cX11_alone 49 = .ok (.if_icmp .gt 61, 3) := by decide +kernel
theorem dX11_alone_52 : decode cX11_alone 52 = .ok (.aload_n 0, 1) := by decide +kernel
theorem dX11_alone_53 : decode cX11_alone 53 = .ok (.iload 7, 2) := by decide +kernel
theorem dX11_alone_55 : decode cX11_alone 55 = .ok (.invokevirtual 365, 3) := by decide +kernel
theorem dX11_alone_58 : decode cX11_alone 58 = .ok (.aload_n 0, 1) := by decide +kernel
theorem dX11_alone_59 : decode cX11_alone 59 = .ok (.iload_n 1, 1) := by decide +kernel
theorem dX11_alone_60 : decode cX11_alone 60 = .ok (.invokevirtual 387, 3) := by decide +kernel
theorem dX11_alone_63 : decode cX11_alone 63 = .ok (.iconst 1, 1) := by decide +kernel
theorem dX11_alone_64 : decode cX11_alone 64 = .ok (.iload_n 2, 1) := by decide +kernel
theorem dX11_alone_65 : decode cX11_alone 65 = .ok (.invokestatic 183, 3) := by decide +kernel
theorem dX11_alone_68 : decode cX11_alone 68 = .ok (.ifCond .eq 10, 3) := by decide +kernel
theorem dX11_alone_71 : decode cX11_alone 71 = .ok (.iload 4, 2) := by decide +kernel
theorem dX11_alone_73 : decode cX11_alone 73 = .ok (.iconst 1, 1) := by decide +kernel
theorem dX11_alone_74 : decode cX11_alone 74 = .ok (.iadd, 1) := by decide +kernel
theorem dX11_alone_75 : decode cX11_alone 75 = .ok (.goto 4, 3) := by decide +kernel
theorem dX11_alone_78 : decode cX11_alone 78 = .ok (.iconst 0, 1) := by decide +kernel
theorem dX11_alone_79 : decode cX11_alone 79 = .ok (.istore 4, 2) := by decide +kernel
theorem dX11_alone_81 : decode cX11_alone 81 = .ok (.iload 4, 2) := by decide +kernel
theorem dX11_alone_83 : decode cX11_alone 83 = .ok (.iload 5, 2) := by decide +kernel
theorem dX11_alone_85 : decode cX11_alone 85 = .ok (.if_icmp .gt 6, 3) := by decide +kernel
theorem dX11_alone_88 : decode cX11_alone 88 = .ok (.goto 16, 3) := by decide +kernel
theorem dX11_alone_91 : decode cX11_alone 91 = .ok (.iload 4, 2) := by decide +kernel
theorem dX11_alone_93 : decode cX11_alone 93 = .ok (.istore 5, 2) := by decide +kernel
theorem dX11_alone_95 : decode cX11_alone 95 = .ok (.iload 7, 2) := by decide +kernel
theorem dX11_alone_97 : decode cX11_alone 97 = .ok (.iload 4, 2) := by decide +kernel
theorem dX11_alone_99 : decode cX11_alone 99 = .ok (.isub, 1) := by decide +kernel
theorem dX11_alone_100 : decode cX11_alone 100 = .ok (.iconst 1, 1) := by decide +kernel
theorem dX11_alone_101 : decode cX11_alone 101 = .ok (.iadd, 1) := by decide +kernel
theorem dX11_alone_102 : decode cX11_alone 102 = .ok (.istore 6, 2) := by decide +kernel
theorem dX11_alone_104 : decode cX11_alone 104 = .ok (.iinc 7 1, 3) := by decide +kernel
theorem dX11_alone_107 : decode cX11_alone 107 = .ok (.goto (-62), 3) := by decide +kernel
theorem dX11_alone_110 : decode cX11_alone 110 = .ok (.iload_n 3, 1) := by decide +kernel
theorem dX11_alone_111 : decode cX11_alone 111 = .ok (.ifCond .ne 8, 3) := by decide +kernel
theorem dX11_alone_114 : decode cX11_alone 114 = .ok (.iload 5, 2) := by decide +kernel
theorem dX11_alone_116 : decode cX11_alone 116 = .ok (.goto 5, 3) := by decide +kernel
theorem dX11_alone_119 : decode cX11_alone 119 = .ok (.iload 6, 2) := by decide +kernel
theorem dX11_alone_121 : decode cX11_alone 121 = .ok (.ireturn, 1) := by decide +kernel
theorem dX11_divisor_0 : decode cX11_divisor 0 = .ok (.lload_n 0, 1) := by decide +kernel
theorem dX11_divisor_1 : decode cX11_divisor 1 = .ok (.lconst 0, 1) := by decide +kernel
theorem dX11_divisor_2 : decode cX11_divisor 2 = .ok (.lcmp, 1) := by decide +kernel
theorem dX11_divisor_3 : decode cX11_divisor 3 = .ok (.ifCond .ge 8, 3) := by decide +kernel
theorem dX11_divisor_6 : decode cX11_divisor 6 = .ok (.lload_n 0, 1) := by decide +kernel
theorem dX11_divisor_7 : decode cX11_divisor 7 = .ok (.lneg, 1) := by decide +kernel
theorem dX11_divisor_8 : decode cX11_divisor 8 = .ok (.goto 4, 3) := by decide +kernel
theorem dX11_divisor_11 : decode cX11_divisor 11 = .ok (.lload_n 0, 1) := by decide +kernel
theorem dX11_divisor_12 : decode cX11_divisor 12 = .ok (.lstore 4, 2) := by decide +kernel
theorem dX11_divisor_14 : decode cX11_divisor 14 = .ok (.lload_n 2, 1) := by decide +kernel
theorem dX11_divisor_15 : decode cX11_divisor 15 = .ok (.lstore 6, 2) := by decide +kernel
theorem dX11_divisor_17 : decode cX11_divisor 17 = .ok (.lload 6, 2) := by decide +kernel
theorem dX11_divisor_19 : decode cX11_divisor 19 = .ok (.lconst 0, 1) := by decide +kernel
theorem dX11_divisor_20 : decode cX11_divisor 20 = .ok (.lcmp, 1) := by decide +kernel
theorem dX11_divisor_21 : decode cX11_divisor 21 = .ok (.ifCond .le 21, 3) := by decide +kernel
theorem dX11_divisor_24 : decode cX11_divisor 24 = .ok (.lload 4, 2) := by decide +kernel
theorem dX11_divisor_26 : decode cX11_divisor 26 = .ok (.lload 6, 2) := by decide +kernel
theorem dX11_divisor_28 : decode cX11_divisor 28 = .ok (.lrem, 1) := by decide +kernel
theorem dX11_divisor_29 : decode cX11_divisor 29 = .ok (.lstore 8, 2) := by decide +kernel
theorem dX11_divisor_31 : decode cX11_divisor 31 = .ok (.lload 6, 2) := by decide +kernel
theorem dX11_divisor_33 : decode cX11_divisor 33 = .ok (.lstore 4, 2) := by decide +kernel
theorem dX11_divisor_35 : decode cX11_divisor 35 = .ok (.lload 8, 2) := by decide +kernel
theorem dX11_divisor_37 : decode cX11_divisor 37 = .ok (.lstore 6, 2) := by decide +kernel
theorem dX11_divisor_39 : decode cX11_divisor 39 = .ok (.goto (-22), 3) := by decide +kernel
theorem dX11_divisor_42 : decode cX11_divisor 42 = .ok (.lload 4, 2) := by decide +kernel
theorem dX11_divisor_44 : decode cX11_divisor 44 = .ok (.lreturn, 1) := by decide +kernel
theorem dX11_lowest_0 : decode cX11_lowest 0 = .ok (.lload_n 0, 1) := by decide +kernel
theorem dX11_lowest_1 : decode cX11_lowest 1 = .ok (.lload_n 2, 1) := by decide +kernel
theorem dX11_lowest_2 : decode cX11_lowest 2 = .ok (.invokestatic 397, 3) := by decide +kernel
theorem dX11_lowest_5 : decode cX11_lowest 5 = .ok (.lstore 5, 2) := by decide +kernel
theorem dX11_lowest_7 : decode cX11_lowest 7 = .ok (.iload 4, 2) := by decide +kernel
theorem dX11_lowest_9 : decode cX11_lowest 9 = .ok (.ifCond .ne 10, 3) := by decide +kernel
theorem dX11_lowest_12 : decode cX11_lowest 12 = .ok (.lload_n 0, 1) := by decide +kernel
theorem dX11_lowest_13 : decode cX11_lowest 13 = .ok (.lload 5, 2) := by decide +kernel
theorem dX11_lowest_15 : decode cX11_lowest 15 = .ok (.ldiv, 1) := by decide +kernel
theorem dX11_lowest_16 : decode cX11_lowest 16 = .ok (.goto 7, 3) := by decide +kernel
theorem dX11_lowest_19 : decode cX11_lowest 19 = .ok (.lload_n 2, 1) := by decide +kernel
theorem dX11_lowest_20 : decode cX11_lowest 20 = .ok (.lload 5, 2) := by decide +kernel
theorem dX11_lowest_22 : decode cX11_lowest 22 = .ok (.ldiv, 1) := by decide +kernel
theorem dX11_lowest_23 : decode cX11_lowest 23 = .ok (.lreturn, 1) := by decide +kernel
theorem dX11_findLive_0 : decode cX11_findLive 0 = .ok (.aload_n 0, 1) := by decide +kernel
theorem dX11_findLive_1 : decode cX11_findLive 1 = .ok (.invokevirtual 362, 3) := by decide +kernel
theorem dX11_findLive_4 : decode cX11_findLive 4 = .ok (.aload_n 0, 1) := by decide +kernel
theorem dX11_findLive_5 : decode cX11_findLive 5 = .ok (.lconst 0, 1) := by decide +kernel
theorem dX11_findLive_6 : decode cX11_findLive 6 = .ok (.putfield 401, 3) := by decide +kernel
theorem dX11_findLive_9 : decode cX11_findLive 9 = .ok (.aload_n 0, 1) := by decide +kernel
theorem dX11_findLive_10 : decode cX11_findLive 10 = .ok (.lconst 0, 1) := by decide +kernel
theorem dX11_findLive_11 : decode cX11_findLive 11 = .ok (.putfield 404, 3) := by decide +kernel
theorem dX11_findLive_14 : decode cX11_findLive 14 = .ok (.iload_n 2, 1) := by decide +kernel
theorem dX11_findLive_15 : decode cX11_findLive 15 = .ok (.istore 4, 2) := by decide +kernel
theorem dX11_findLive_17 : decode cX11_findLive 17 = .ok (.iload 4, 2) := by decide +kernel
theorem dX11_findLive_19 : decode cX11_findLive 19 = .ok (.iload_n 3, 1) := by decide +kernel
theorem dX11_findLive_20 : decode cX11_findLive 20 = .ok (.if_icmp .gt 77, 3) := by decide +kernel
theorem dX11_findLive_23 : decode cX11_findLive 23 = .ok (.aload_n 0, 1) := by decide +kernel
theorem dX11_findLive_24 : decode cX11_findLive 24 = .ok (.iload 4, 2) := by decide +kernel
theorem dX11_findLive_26 : decode cX11_findLive 26 = .ok (.invokevirtual 365, 3) := by decide +kernel
theorem dX11_findLive_29 : decode cX11_findLive 29 = .ok (.iconst 0, 1) := by decide +kernel
theorem dX11_findLive_30 : decode cX11_findLive 30 = .ok (.istore 5, 2) := by decide +kernel
theorem dX11_findLive_32 : decode cX11_findLive 32 = .ok (.iload 5, 2) := by decide +kernel
theorem dX11_findLive_34 : decode cX11_findLive 34 = .ok (.sipush 256, 3) := by decide +kernel
theorem dX11_findLive_37 : decode cX11_findLive 37 = .ok (.if_icmp .ge 54, 3) := by decide +kernel
theorem dX11_findLive_40 : decode cX11_findLive 40 = .ok (.aload_n 0, 1) := by decide +kernel
theorem dX11_findLive_41 : decode cX11_findLive 41 = .ok (.iconst 2, 1) := by decide +kernel
theorem dX11_findLive_42 : decode cX11_findLive 42 = .ok (.iload 5, 2) := by decide +kernel
theorem dX11_findLive_44 : decode cX11_findLive 44 = .ok (.iload 4, 2) := by decide +kernel
theorem dX11_findLive_46 : decode cX11_findLive 46 = .ok (.invokevirtual 393, 3) := by decide +kernel
theorem dX11_findLive_49 : decode cX11_findLive 49 = .ok (.istore 6, 2) := by decide +kernel
theorem dX11_findLive_51 : decode cX11_findLive 51 = .ok (.aload_n 0, 1) := by decide +kernel
theorem dX11_findLive_52 : decode cX11_findLive 52 = .ok (.dup, 1) := by decide +kernel
theorem dX11_findLive_53 : decode cX11_findLive 53 = .ok (.getfield 404, 3) := by decide +kernel
theorem dX11_findLive_56 : decode cX11_findLive 56 = .ok (.iload 6, 2) := by decide +kernel
theorem dX11_findLive_58 : decode cX11_findLive 58 = .ok (.i2l, 1) := by decide +kernel
theorem dX11_findLive_59 : decode cX11_findLive 59 = .ok (.ladd, 1) := by decide +kernel
theorem dX11_findLive_60 : decode cX11_findLive 60 = .ok (.putfield 404, 3) := by decide +kernel
theorem dX11_findLive_63 : decode cX11_findLive 63 = .ok (.aload_n 0, 1) := by decide +kernel
theorem dX11_findLive_64 : decode cX11_findLive 64 = .ok (.dup, 1) := by decide +kernel
theorem dX11_findLive_65 : decode cX11_findLive 65 = .ok (.getfield 401, 3) := by decide +kernel
theorem dX11_findLive_68 : decode cX11_findLive 68 = .ok (.iload 5, 2) := by decide +kernel
theorem dX11_findLive_70 : decode cX11_findLive 70 = .ok (.iload_n 1, 1) := by decide +kernel
theorem dX11_findLive_71 : decode cX11_findLive 71 = .ok (.if_icmp .ne 9, 3) := by decide +kernel
theorem dX11_findLive_74 : decode cX11_findLive 74 = .ok (.iload 6, 2) := by decide +kernel
theorem dX11_findLive_76 : decode cX11_findLive 76 = .ok (.i2l, 1) := by decide +kernel
theorem dX11_findLive_77 : decode cX11_findLive 77 = .ok (.goto 4, 3) := by decide +kernel
theorem dX11_findLive_80 : decode cX11_findLive 80 = .ok (.lconst 0, 1) := by decide +kernel
theorem dX11_findLive_81 : decode cX11_findLive 81 = .ok (.ladd, 1) := by decide +kernel
theorem dX11_findLive_82 : decode cX11_findLive 82 = .ok (.putfield 401, 3) := by decide +kernel
theorem dX11_findLive_85 : decode cX11_findLive 85 = .ok (.iinc 5 1, 3) := by decide +kernel
theorem dX11_findLive_88 : decode cX11_findLive 88 = .ok (.goto (-56), 3) := by decide +kernel
theorem dX11_findLive_91 : decode cX11_findLive 91 = .ok (.iinc 4 1, 3) := by decide +kernel
theorem dX11_findLive_94 : decode cX11_findLive 94 = .ok (.goto (-77), 3) := by decide +kernel
theorem dX11_findLive_97 : decode cX11_findLive 97 = .ok (.return_, 1) := by decide +kernel
theorem dX11_areAges_0 : decode cX11_areAges 0 = .ok (.iload_n 0, 1) := by decide +kernel
theorem dX11_areAges_1 : decode cX11_areAges 1 = .ok (.invokestatic 335, 3) := by decide +kernel
theorem dX11_areAges_4 : decode cX11_areAges 4 = .ok (.ifCond .eq 19, 3) := by decide +kernel
theorem dX11_areAges_7 : decode cX11_areAges 7 = .ok (.iload_n 1, 1) := by decide +kernel
theorem dX11_areAges_8 : decode cX11_areAges 8 = .ok (.invokestatic 335, 3) := by decide +kernel
theorem dX11_areAges_11 : decode cX11_areAges 11 = .ok (.ifCond .eq 12, 3) := by decide +kernel
theorem dX11_areAges_14 : decode cX11_areAges 14 = .ok (.iload_n 0, 1) := by decide +kernel
theorem dX11_areAges_15 : decode cX11_areAges 15 = .ok (.iload_n 1, 1) := by decide +kernel
theorem dX11_areAges_16 : decode cX11_areAges 16 = .ok (.if_icmp .gt 7, 3) := by decide +kernel
theorem dX11_areAges_19 : decode cX11_areAges 19 = .ok (.iconst 1, 1) := by decide +kernel
theorem dX11_areAges_20 : decode cX11_areAges 20 = .ok (.goto 4, 3) := by decide +kernel
theorem dX11_areAges_23 : decode cX11_areAges 23 = .ok (.iconst 0, 1) := by decide +kernel
theorem dX11_areAges_24 : decode cX11_areAges 24 = .ok (.ireturn, 1) := by decide +kernel
theorem dX11_lived_0 : decode cX11_lived 0 = .ok (.iload_n 1, 1) := by decide +kernel
theorem dX11_lived_1 : decode cX11_lived 1 = .ok (.invokestatic 191, 3) := by decide +kernel
theorem dX11_lived_4 : decode cX11_lived 4 = .ok (.ifCond .eq 21, 3) := by decide +kernel
theorem dX11_lived_7 : decode cX11_lived 7 = .ok (.iload_n 2, 1) := by decide +kernel
theorem dX11_lived_8 : decode cX11_lived 8 = .ok (.iload_n 3, 1) := by decide +kernel
theorem dX11_lived_9 : decode cX11_lived 9 = .ok (.invokestatic 407, 3) := by decide +kernel
theorem dX11_lived_12 : decode cX11_lived 12 = .ok (.ifCond .eq 13, 3) := by decide +kernel
theorem dX11_lived_15 : decode cX11_lived 15 = .ok (.iload 4, 2) := by decide +kernel
theorem dX11_lived_17 : decode cX11_lived 17 = .ok (.iconst 0, 1) := by decide +kernel
theorem dX11_lived_18 : decode cX11_lived 18 = .ok (.iconst 1, 1) := by decide +kernel
theorem dX11_lived_19 : decode cX11_lived 19 = .ok (.invokestatic 183, 3) := by decide +kernel
theorem dX11_lived_22 : decode cX11_lived 22 = .ok (.ifCond .ne 7, 3) := by decide +kernel
theorem dX11_lived_25 : decode cX11_lived 25 = .ok (.ldc2_w 211, 3) := by decide +kernel
theorem dX11_lived_28 : decode cX11_lived 28 = .ok (.lreturn, 1) := by decide +kernel
theorem dX11_lived_29 : decode cX11_lived 29 = .ok (.aload_n 0, 1) := by decide +kernel
theorem dX11_lived_30 : decode cX11_lived 30 = .ok (.iload_n 1, 1) := by decide +kernel
theorem dX11_lived_31 : decode cX11_lived 31 = .ok (.iload_n 2, 1) := by decide +kernel
theorem dX11_lived_32 : decode cX11_lived 32 = .ok (.iload_n 3, 1) := by decide +kernel
theorem dX11_lived_33 : decode cX11_lived 33 = .ok (.invokevirtual 411, 3) := by decide +kernel
theorem dX11_lived_36 : decode cX11_lived 36 = .ok (.aload_n 0, 1) := by decide +kernel
theorem dX11_lived_37 : decode cX11_lived 37 = .ok (.getfield 404, 3) := by decide +kernel
theorem dX11_lived_40 : decode cX11_lived 40 = .ok (.lconst 0, 1) := by decide +kernel
theorem dX11_lived_41 : decode cX11_lived 41 = .ok (.lcmp, 1) := by decide +kernel
theorem dX11_lived_42 : decode cX11_lived 42 = .ok (.ifCond .ne 9, 3) := by decide +kernel
theorem dX11_lived_45 : decode cX11_lived 45 = .ok (.ldc2_w 211, 3) := by decide +kernel
theorem dX11_lived_48 : decode cX11_lived 48 = .ok (.goto 16, 3) := by decide +kernel
theorem dX11_lived_51 : decode cX11_lived 51 = .ok (.aload_n 0, 1) := by decide +kernel
theorem dX11_lived_52 : decode cX11_lived 52 = .ok (.getfield 401, 3) := by decide +kernel
theorem dX11_lived_55 : decode cX11_lived 55 = .ok (.aload_n 0, 1) := by decide +kernel
theorem dX11_lived_56 : decode cX11_lived 56 = .ok (.getfield 404, 3) := by decide +kernel
theorem dX11_lived_59 : decode cX11_lived 59 = .ok (.iload 4, 2) := by decide +kernel
theorem dX11_lived_61 : decode cX11_lived 61 = .ok (.invokestatic 415, 3) := by decide +kernel
theorem dX11_lived_64 : decode cX11_lived 64 = .ok (.lreturn, 1) := by decide +kernel
theorem dX11_dry_0 : decode cX11_dry 0 = .ok (.iload_n 1, 1) := by decide +kernel
theorem dX11_dry_1 : decode cX11_dry 1 = .ok (.iconst 0, 1) := by decide +kernel
theorem dX11_dry_2 : decode cX11_dry 2 = .ok (.bipush 15, 2) := by decide +kernel
theorem dX11_dry_4 : decode cX11_dry 4 = .ok (.invokestatic 183, 3) := by decide +kernel
theorem dX11_dry_7 : decode cX11_dry 7 = .ok (.ifCond .ne 9, 3) := by decide +kernel
theorem dX11_dry_10 : decode cX11_dry 10 = .ok (.aload_n 0, 1) := by decide +kernel
theorem dX11_dry_11 : decode cX11_dry 11 = .ok (.iconst 0, 1) := by decide +kernel
theorem dX11_dry_12 : decode cX11_dry 12 = .ok (.invokevirtual 175, 3) := by decide +kernel
theorem dX11_dry_15 : decode cX11_dry 15 = .ok (.ireturn, 1) := by decide +kernel
theorem dX11_dry_16 : decode cX11_dry 16 = .ok (.aload_n 0, 1) := by decide +kernel
theorem dX11_dry_17 : decode cX11_dry 17 = .ok (.getfield 13, 3) := by decide +kernel
theorem dX11_dry_20 : decode cX11_dry 20 = .ok (.iconst 0, 1) := by decide +kernel
theorem dX11_dry_21 : decode cX11_dry 21 = .ok (.iaload, 1) := by decide +kernel
theorem dX11_dry_22 : decode cX11_dry 22 = .ok (.bipush 80, 2) := by decide +kernel
theorem dX11_dry_24 : decode cX11_dry 24 = .ok (.if_icmp .ne 9, 3) := by decide +kernel
theorem dX11_dry_27 : decode cX11_dry 27 = .ok (.aload_n 0, 1) := by decide +kernel
theorem dX11_dry_28 : decode cX11_dry 28 = .ok (.iconst 1, 1) := by decide +kernel
theorem dX11_dry_29 : decode cX11_dry 29 = .ok (.invokevirtual 175, 3) := by decide +kernel
theorem dX11_dry_32 : decode cX11_dry 32 = .ok (.ireturn, 1) := by decide +kernel
theorem dX11_dry_33 : decode cX11_dry 33 = .ok (.aload_n 0, 1) := by decide +kernel
theorem dX11_dry_34 : decode cX11_dry 34 = .ok (.getfield 37, 3) := by decide +kernel
theorem dX11_dry_37 : decode cX11_dry 37 = .ok (.aload_n 0, 1) := by decide +kernel
theorem dX11_dry_38 : decode cX11_dry 38 = .ok (.getfield 13, 3) := by decide +kernel
theorem dX11_dry_41 : decode cX11_dry 41 = .ok (.iconst 0, 1) := by decide +kernel
theorem dX11_dry_42 : decode cX11_dry 42 = .ok (.iaload, 1) := by decide +kernel
theorem dX11_dry_43 : decode cX11_dry 43 = .ok (.iload_n 1, 1) := by decide +kernel
theorem dX11_dry_44 : decode cX11_dry 44 = .ok (.iastore, 1) := by decide +kernel
theorem dX11_dry_45 : decode cX11_dry 45 = .ok (.aload_n 0, 1) := by decide +kernel
theorem dX11_dry_46 : decode cX11_dry 46 = .ok (.getfield 64, 3) := by decide +kernel
theorem dX11_dry_49 : decode cX11_dry 49 = .ok (.aload_n 0, 1) := by decide +kernel
theorem dX11_dry_50 : decode cX11_dry 50 = .ok (.getfield 13, 3) := by decide +kernel
theorem dX11_dry_53 : decode cX11_dry 53 = .ok (.iconst 0, 1) := by decide +kernel
theorem dX11_dry_54 : decode cX11_dry 54 = .ok (.iaload, 1) := by decide +kernel
theorem dX11_dry_55 : decode cX11_dry 55 = .ok (.iload_n 2, 1) := by decide +kernel
theorem dX11_dry_56 : decode cX11_dry 56 = .ok (.bastore, 1) := by decide +kernel
theorem dX11_dry_57 : decode cX11_dry 57 = .ok (.aload_n 0, 1) := by decide +kernel
theorem dX11_dry_58 : decode cX11_dry 58 = .ok (.getfield 13, 3) := by decide +kernel
theorem dX11_dry_61 : decode cX11_dry 61 = .ok (.iconst 0, 1) := by decide +kernel
theorem dX11_dry_62 : decode cX11_dry 62 = .ok (.dup2, 1) := by decide +kernel
theorem dX11_dry_63 : decode cX11_dry 63 = .ok (.iaload, 1) := by decide +kernel
theorem dX11_dry_64 : decode cX11_dry 64 = .ok (.iconst 1, 1) := by decide +kernel
theorem dX11_dry_65 : decode cX11_dry 65 = .ok (.iadd, 1) := by decide +kernel
theorem dX11_dry_66 : decode cX11_dry 66 = .ok (.iastore, 1) := by decide +kernel
theorem dX11_dry_67 : decode cX11_dry 67 = .ok (.aload_n 0, 1) := by decide +kernel
theorem dX11_dry_68 : decode cX11_dry 68 = .ok (.getfield 13, 3) := by decide +kernel
theorem dX11_dry_71 : decode cX11_dry 71 = .ok (.iconst 0, 1) := by decide +kernel
theorem dX11_dry_72 : decode cX11_dry 72 = .ok (.iaload, 1) := by decide +kernel
theorem dX11_dry_73 : decode cX11_dry 73 = .ok (.ireturn, 1) := by decide +kernel
theorem dX11_learn_0 : decode cX11_learn 0 = .ok (.aload_n 0, 1) := by decide +kernel
theorem dX11_learn_1 : decode cX11_learn 1 = .ok (.iconst 1, 1) := by decide +kernel
theorem dX11_learn_2 : decode cX11_learn 2 = .ok (.putfield 419, 3) := by decide +kernel
theorem dX11_learn_5 : decode cX11_learn 5 = .ok (.aload_n 0, 1) := by decide +kernel
theorem dX11_learn_6 : decode cX11_learn 6 = .ok (.iconst 2, 1) := by decide +kernel
theorem dX11_learn_7 : decode cX11_learn 7 = .ok (.putfield 422, 3) := by decide +kernel
theorem dX11_learn_10 : decode cX11_learn 10 = .ok (.iconst 0, 1) := by decide +kernel
theorem dX11_learn_11 : decode cX11_learn 11 = .ok (.istore_n 3, 1) := by decide +kernel
theorem dX11_learn_12 : decode cX11_learn 12 = .ok (.iload_n 3, 1) := by decide +kernel
theorem dX11_learn_13 : decode cX11_learn 13 = .ok (.aload_n 0, 1) := by decide +kernel
theorem dX11_learn_14 : decode cX11_learn 14 = .ok (.getfield 13, 3) := by decide +kernel
theorem dX11_learn_17 : decode cX11_learn 17 = .ok (.iconst 0, 1) := by decide +kernel
theorem dX11_learn_18 : decode cX11_learn 18 = .ok (.iaload, 1) := by decide +kernel
theorem dX11_learn_19 : decode cX11_learn 19 = .ok (.if_icmp .ge 64, 3) := by decide +kernel
theorem dX11_learn_22 : decode cX11_learn 22 = .ok (.iload_n 3, 1) := by decide +kernel
theorem dX11_learn_23 : decode cX11_learn 23 = .ok (.iload_n 2, 1) := by decide +kernel
theorem dX11_learn_24 : decode cX11_learn 24 = .ok (.if_icmp .eq 53, 3) := by decide +kernel
theorem dX11_learn_27 : decode cX11_learn 27 = .ok (.iload_n 1, 1) := by decide +kernel
theorem dX11_learn_28 : decode cX11_learn 28 = .ok (.ifCond .lt 16, 3) := by decide +kernel
theorem dX11_learn_31 : decode cX11_learn 31 = .ok (.aload_n 0, 1) := by decide +kernel
theorem dX11_learn_32 : decode cX11_learn 32 = .ok (.getfield 37, 3) := by decide +kernel
theorem dX11_learn_35 : decode cX11_learn 35 = .ok (.iload_n 3, 1) := by decide +kernel
theorem dX11_learn_36 : decode cX11_learn 36 = .ok (.iaload, 1) := by decide +kernel
theorem dX11_learn_37 : decode cX11_learn 37 = .ok (.iload_n 1, 1) := by decide +kernel
theorem dX11_learn_38 : decode cX11_learn 38 = .ok (.if_icmp .eq 6, 3) := by decide +kernel
theorem dX11_learn_41 : decode cX11_learn 41 = .ok (.goto 36, 3) := by decide +kernel
theorem dX11_learn_44 : decode cX11_learn 44 = .ok (.aload_n 0, 1) := by decide +kernel
theorem dX11_learn_45 : decode cX11_learn 45 = .ok (.dup, 1) := by decide +kernel
theorem dX11_learn_46 : decode cX11_learn 46 = .ok (.getfield 422, 3) := by decide +kernel
theorem dX11_learn_49 : decode cX11_learn 49 = .ok (.iconst 1, 1) := by decide +kernel
theorem dX11_learn_50 : decode cX11_learn 50 = .ok (.iadd, 1) := by decide +kernel
theorem dX11_learn_51 : decode cX11_learn 51 = .ok (.putfield 422, 3) := by decide +kernel
theorem dX11_learn_54 : decode cX11_learn 54 = .ok (.aload_n 0, 1) := by decide +kernel
theorem dX11_learn_55 : decode cX11_learn 55 = .ok (.dup, 1) := by decide +kernel
theorem dX11_learn_56 : decode cX11_learn 56 = .ok (.getfield 419, 3) := by decide +kernel
theorem dX11_learn_59 : decode cX11_learn 59 = .ok (.aload_n 0, 1) := by decide +kernel
theorem dX11_learn_60 : decode cX11_learn 60 = .ok (.getfield 64, 3) := by decide +kernel
theorem dX11_learn_63 : decode cX11_learn 63 = .ok (.iload_n 3, 1) := by decide +kernel
theorem dX11_learn_64 : decode cX11_learn 64 = .ok (.baload, 1) := by decide +kernel
theorem dX11_learn_65 : decode cX11_learn 65 = .ok (.ifCond .eq 7, 3) := by decide +kernel
theorem dX11_learn_68 : decode cX11_learn 68 = .ok (.iconst 1, 1) := by decide +kernel
theorem dX11_learn_69 : decode cX11_learn 69 = .ok (.goto 4, 3) := by decide +kernel
theorem dX11_learn_72 : decode cX11_learn 72 = .ok (.iconst 0, 1) := by decide +kernel
theorem dX11_learn_73 : decode cX11_learn 73 = .ok (.iadd, 1) := by decide +kernel
theorem dX11_learn_74 : decode cX11_learn 74 = .ok (.putfield 419, 3) := by decide +kernel
theorem dX11_learn_77 : decode cX11_learn 77 = .ok (.iinc 3 1, 3) := by decide +kernel
theorem dX11_learn_80 : decode cX11_learn 80 = .ok (.goto (-68), 3) := by decide +kernel
theorem dX11_learn_83 : decode cX11_learn 83 = .ok (.return_, 1) := by decide +kernel
theorem dX11_learnt_0 : decode cX11_learnt 0 = .ok (.iload_n 1, 1) := by decide +kernel
theorem dX11_learnt_1 : decode cX11_learnt 1 = .ok (.iconst 0, 1) := by decide +kernel
theorem dX11_learnt_2 : decode cX11_learnt 2 = .ok (.bipush 15, 2) := by decide +kernel
theorem dX11_learnt_4 : decode cX11_learnt 4 = .ok (.invokestatic 183, 3) := by decide +kernel
theorem dX11_learnt_7 : decode cX11_learnt 7 = .ok (.ifCond .eq 12, 3) := by decide +kernel
theorem dX11_learnt_10 : decode cX11_learnt 10 = .ok (.iload_n 2, 1) := by decide +kernel
theorem dX11_learnt_11 : decode cX11_learnt 11 = .ok (.iconst 0, 1) := by decide +kernel
theorem dX11_learnt_12 : decode cX11_learnt 12 = .ok (.iconst 1, 1) := by decide +kernel
theorem dX11_learnt_13 : decode cX11_learnt 13 = .ok (.invokestatic 183, 3) := by decide +kernel
theorem dX11_learnt_16 : decode cX11_learnt 16 = .ok (.ifCond .ne 5, 3) := by decide +kernel
theorem dX11_learnt_19 : decode cX11_learnt 19 = .ok (.iconst (-1), 1) := by decide +kernel
theorem dX11_learnt_20 : decode cX11_learnt 20 = .ok (.ireturn, 1) := by decide +kernel
theorem dX11_learnt_21 : decode cX11_learnt 21 = .ok (.aload_n 0, 1) := by decide +kernel
theorem dX11_learnt_22 : decode cX11_learnt 22 = .ok (.iload_n 1, 1) := by decide +kernel
theorem dX11_learnt_23 : decode cX11_learnt 23 = .ok (.iconst (-1), 1) := by decide +kernel
theorem dX11_learnt_24 : decode cX11_learnt 24 = .ok (.invokevirtual 425, 3) := by decide +kernel
theorem dX11_learnt_27 : decode cX11_learnt 27 = .ok (.iload_n 2, 1) := by decide +kernel
theorem dX11_learnt_28 : decode cX11_learnt 28 = .ok (.ifCond .ne 10, 3) := by decide +kernel
theorem dX11_learnt_31 : decode cX11_learnt 31 = .ok (.aload_n 0, 1) := by decide +kernel
theorem dX11_learnt_32 : decode cX11_learnt 32 = .ok (.getfield 419, 3) := by decide +kernel
theorem dX11_learnt_35 : decode cX11_learnt 35 = .ok (.goto 7, 3) := by decide +kernel
theorem dX11_learnt_38 : decode cX11_learnt 38 = .ok (.aload_n 0, 1) := by decide +kernel
theorem dX11_learnt_39 : decode cX11_learnt 39 = .ok (.getfield 422, 3) := by decide +kernel
theorem dX11_learnt_42 : decode cX11_learnt 42 = .ok (.ireturn, 1) := by decide +kernel
theorem dX11_tried_0 : decode cX11_tried 0 = .ok (.iload_n 1, 1) := by decide +kernel
theorem dX11_tried_1 : decode cX11_tried 1 = .ok (.iconst 0, 1) := by decide +kernel
theorem dX11_tried_2 : decode cX11_tried 2 = .ok (.iconst 1, 1) := by decide +kernel
theorem dX11_tried_3 : decode cX11_tried 3 = .ok (.invokestatic 183, 3) := by decide +kernel
theorem dX11_tried_6 : decode cX11_tried 6 = .ok (.ifCond .ne 5, 3) := by decide +kernel
theorem dX11_tried_9 : decode cX11_tried 9 = .ok (.iconst (-1), 1) := by decide +kernel
theorem dX11_tried_10 : decode cX11_tried 10 = .ok (.ireturn, 1) := by decide +kernel
theorem dX11_tried_11 : decode cX11_tried 11 = .ok (.iconst 0, 1) := by decide +kernel
theorem dX11_tried_12 : decode cX11_tried 12 = .ok (.istore_n 2, 1) := by decide +kernel
theorem dX11_tried_13 : decode cX11_tried 13 = .ok (.iconst 0, 1) := by decide +kernel
theorem dX11_tried_14 : decode cX11_tried 14 = .ok (.istore_n 3, 1) := by decide +kernel
theorem dX11_tried_15 : decode cX11_tried 15 = .ok (.iload_n 3, 1) := by decide +kernel
theorem dX11_tried_16 : decode cX11_tried 16 = .ok (.aload_n 0, 1) := by decide +kernel
theorem dX11_tried_17 : decode cX11_tried 17 = .ok (.getfield 13, 3) := by decide +kernel
theorem dX11_tried_20 : decode cX11_tried 20 = .ok (.iconst 0, 1) := by decide +kernel
theorem dX11_tried_21 : decode cX11_tried 21 = .ok (.iaload, 1) := by decide +kernel
theorem dX11_tried_22 : decode cX11_tried 22 = .ok (.if_icmp .ge 73, 3) := by decide +kernel
theorem dX11_tried_25 : decode cX11_tried 25 = .ok (.aload_n 0, 1) := by decide +kernel
theorem dX11_tried_26 : decode cX11_tried 26 = .ok (.iload_n 1, 1) := by decide +kernel
theorem dX11_tried_27 : decode cX11_tried 27 = .ok (.ifCond .ne 12, 3) := by decide +kernel
theorem dX11_tried_30 : decode cX11_tried 30 = .ok (.aload_n 0, 1) := by decide +kernel
theorem dX11_tried_31 : decode cX11_tried 31 = .ok (.getfield 37, 3) := by decide +kernel
theorem dX11_tried_34 : decode cX11_tried 34 = .ok (.iload_n 3, 1) := by decide +kernel
theorem dX11_tried_35 : decode cX11_tried 35 = .ok (.iaload, 1) := by decide +kernel
theorem dX11_tried_36 : decode cX11_tried 36 = .ok (.goto 4, 3) := by decide +kernel
theorem dX11_tried_39 : decode cX11_tried 39 = .ok (.iconst (-1), 1) := by decide +kernel
theorem dX11_tried_40 : decode cX11_tried 40 = .ok (.iload_n 3, 1) := by decide +kernel
theorem dX11_tried_41 : decode cX11_tried 41 = .ok (.invokevirtual 425, 3) := by decide +kernel
theorem dX11_tried_44 : decode cX11_tried 44 = .ok (.iload_n 2, 1) := by decide +kernel
theorem dX11_tried_45 : decode cX11_tried 45 = .ok (.aload_n 0, 1) := by decide +kernel
theorem dX11_tried_46 : decode cX11_tried 46 = .ok (.getfield 64, 3) := by decide +kernel
theorem dX11_tried_49 : decode cX11_tried 49 = .ok (.iload_n 3, 1) := by decide +kernel
theorem dX11_tried_50 : decode cX11_tried 50 = .ok (.baload, 1) := by decide +kernel
theorem dX11_tried_51 : decode cX11_tried 51 = .ok (.ifCond .eq 23, 3) := by decide +kernel
theorem dX11_tried_54 : decode cX11_tried 54 = .ok (.sipush 1000, 3) := by decide +kernel
theorem dX11_tried_57 : decode cX11_tried 57 = .ok (.sipush 1000, 3) := by decide +kernel
theorem dX11_tried_60 : decode cX11_tried 60 = .ok (.aload_n 0, 1) := by decide +kernel
theorem dX11_tried_61 : decode cX11_tried 61 = .ok (.getfield 419, 3) := by decide +kernel
theorem dX11_tried_64 : decode cX11_tried 64 = .ok (.imul, 1) := by decide +kernel
theorem dX11_tried_65 : decode cX11_tried 65 = .ok (.aload_n 0, 1) := by decide +kernel
theorem dX11_tried_66 : decode cX11_tried 66 = .ok (.getfield 422, 3) := by decide +kernel
theorem dX11_tried_69 : decode cX11_tried 69 = .ok (.idiv, 1) := by decide +kernel
theorem dX11_tried_70 : decode cX11_tried 70 = .ok (.isub, 1) := by decide +kernel
theorem dX11_tried_71 : decode cX11_tried 71 = .ok (.goto 16, 3) := by decide +kernel
theorem dX11_tried_74 : decode cX11_tried 74 = .ok (.sipush 1000, 3) := by decide +kernel
theorem dX11_tried_77 : decode cX11_tried 77 = .ok (.aload_n 0, 1) := by decide +kernel
theorem dX11_tried_78 : decode cX11_tried 78 = .ok (.getfield 419, 3) := by decide +kernel
theorem dX11_tried_81 : decode cX11_tried 81 = .ok (.imul, 1) := by decide +kernel
theorem dX11_tried_82 : decode cX11_tried 82 = .ok (.aload_n 0, 1) := by decide +kernel
theorem dX11_tried_83 : decode cX11_tried 83 = .ok (.getfield 422, 3) := by decide +kernel
theorem dX11_tried_86 : decode cX11_tried 86 = .ok (.idiv, 1) := by decide +kernel
theorem dX11_tried_87 : decode cX11_tried 87 = .ok (.iadd, 1) := by decide +kernel
theorem dX11_tried_88 : decode cX11_tried 88 = .ok (.istore_n 2, 1) := by decide +kernel
theorem dX11_tried_89 : decode cX11_tried 89 = .ok (.iinc 3 1, 3) := by decide +kernel
theorem dX11_tried_92 : decode cX11_tried 92 = .ok (.goto (-77), 3) := by decide +kernel
theorem dX11_tried_95 : decode cX11_tried 95 = .ok (.iload_n 2, 1) := by decide +kernel
theorem dX11_tried_96 : decode cX11_tried 96 = .ok (.ireturn, 1) := by decide +kernel
theorem dX11_bucket_0 : decode cX11_bucket 0 = .ok (.iload_n 1, 1) := by decide +kernel
theorem dX11_bucket_1 : decode cX11_bucket 1 = .ok (.invokestatic 191, 3) := by decide +kernel
theorem dX11_bucket_4 : decode cX11_bucket 4 = .ok (.ifCond .eq 13, 3) := by decide +kernel
theorem dX11_bucket_7 : decode cX11_bucket 7 = .ok (.iload_n 2, 1) := by decide +kernel
theorem dX11_bucket_8 : decode cX11_bucket 8 = .ok (.iconst 1, 1) := by decide +kernel
theorem dX11_bucket_9 : decode cX11_bucket 9 = .ok (.bipush 8, 2) := by decide +kernel
theorem dX11_bucket_11 : decode cX11_bucket 11 = .ok (.invokestatic 183, 3) := by decide +kernel
theorem dX11_bucket_14 : decode cX11_bucket 14 = .ok (.ifCond .ne 9, 3) := by decide +kernel
theorem dX11_bucket_17 : decode cX11_bucket 17 = .ok (.aload_n 0, 1) := by decide +kernel
theorem dX11_bucket_18 : decode cX11_bucket 18 = .ok (.iconst 0, 1) := by decide +kernel
theorem dX11_bucket_19 : decode cX11_bucket 19 = .ok (.invokevirtual 175, 3) := by decide +kernel
theorem dX11_bucket_22 : decode cX11_bucket 22 = .ok (.ireturn, 1) := by decide +kernel
theorem dX11_bucket_23 : decode cX11_bucket 23 = .ok (.aload_n 0, 1) := by decide +kernel
theorem dX11_bucket_24 : decode cX11_bucket 24 = .ok (.getfield 31, 3) := by decide +kernel
theorem dX11_bucket_27 : decode cX11_bucket 27 = .ok (.iload_n 1, 1) := by decide +kernel
theorem dX11_bucket_28 : decode cX11_bucket 28 = .ok (.iaload, 1) := by decide +kernel
theorem dX11_bucket_29 : decode cX11_bucket 29 = .ok (.iload_n 2, 1) := by decide +kernel
theorem dX11_bucket_30 : decode cX11_bucket 30 = .ok (.iadd, 1) := by decide +kernel
theorem dX11_bucket_31 : decode cX11_bucket 31 = .ok (.bipush 8, 2) := by decide +kernel
theorem dX11_bucket_33 : decode cX11_bucket 33 = .ok (.if_icmp .le 9, 3) := by decide +kernel
theorem dX11_bucket_36 : decode cX11_bucket 36 = .ok (.aload_n 0, 1) := by decide +kernel
theorem dX11_bucket_37 : decode cX11_bucket 37 = .ok (.iconst 1, 1) := by decide +kernel
theorem dX11_bucket_38 : decode cX11_bucket 38 = .ok (.invokevirtual 175, 3) := by decide +kernel
theorem dX11_bucket_41 : decode cX11_bucket 41 = .ok (.ireturn, 1) := by decide +kernel
theorem dX11_bucket_42 : decode cX11_bucket 42 = .ok (.aload_n 0, 1) := by decide +kernel
theorem dX11_bucket_43 : decode cX11_bucket 43 = .ok (.getfield 31, 3) := by decide +kernel
theorem dX11_bucket_46 : decode cX11_bucket 46 = .ok (.iload_n 1, 1) := by decide +kernel
theorem dX11_bucket_47 : decode cX11_bucket 47 = .ok (.dup2, 1) := by decide +kernel
theorem dX11_bucket_48 : decode cX11_bucket 48 = .ok (.iaload, 1) := by decide +kernel
theorem dX11_bucket_49 : decode cX11_bucket 49 = .ok (.iload_n 2, 1) := by decide +kernel
theorem dX11_bucket_50 : decode cX11_bucket 50 = .ok (.iadd, 1) := by decide +kernel
theorem dX11_bucket_51 : decode cX11_bucket 51 = .ok (.iastore, 1) := by decide +kernel
theorem dX11_bucket_52 : decode cX11_bucket 52 = .ok (.aload_n 0, 1) := by decide +kernel
theorem dX11_bucket_53 : decode cX11_bucket 53 = .ok (.getfield 31, 3) := by decide +kernel
theorem dX11_bucket_56 : decode cX11_bucket 56 = .ok (.iload_n 1, 1) := by decide +kernel
theorem dX11_bucket_57 : decode cX11_bucket 57 = .ok (.iaload, 1) := by decide +kernel
theorem dX11_bucket_58 : decode cX11_bucket 58 = .ok (.ireturn, 1) := by decide +kernel
theorem dX11_power_0 : decode cX11_power 0 = .ok (.lconst 1, 1) := by decide +kernel
theorem dX11_power_1 : decode cX11_power 1 = .ok (.lstore_n 3, 1) := by decide +kernel
theorem dX11_power_2 : decode cX11_power 2 = .ok (.iconst 0, 1) := by decide +kernel
theorem dX11_power_3 : decode cX11_power 3 = .ok (.istore 5, 2) := by decide +kernel
theorem dX11_power_5 : decode cX11_power 5 = .ok (.iload 5, 2) := by decide +kernel
theorem dX11_power_7 : decode cX11_power 7 = .ok (.iload_n 2, 1) := by decide +kernel
theorem dX11_power_8 : decode cX11_power 8 = .ok (.if_icmp .ge 13, 3) := by decide +kernel
theorem dX11_power_11 : decode cX11_power 11 = .ok (.lload_n 3, 1) := by decide +kernel
theorem dX11_power_12 : decode cX11_power 12 = .ok (.lload_n 0, 1) := by decide +kernel
theorem dX11_power_13 : decode cX11_power 13 = .ok (.lmul, 1) := by decide +kernel
theorem dX11_power_14 : decode cX11_power 14 = .ok (.lstore_n 3, 1) := by decide +kernel
theorem dX11_power_15 : decode cX11_power 15 = .ok (.iinc 5 1, 3) := by decide +kernel
theorem dX11_power_18 : decode cX11_power 18 = .ok (.goto (-13), 3) := by decide +kernel
theorem dX11_power_21 : decode cX11_power 21 = .ok (.lload_n 3, 1) := by decide +kernel
theorem dX11_power_22 : decode cX11_power 22 = .ok (.lreturn, 1) := by decide +kernel
theorem dX11_findLeft_0 : decode cX11_findLeft 0 = .ok (.aload_n 0, 1) := by decide +kernel
theorem dX11_findLeft_1 : decode cX11_findLeft 1 = .ok (.lconst 0, 1) := by decide +kernel
theorem dX11_findLeft_2 : decode cX11_findLeft 2 = .ok (.putfield 428, 3) := by decide +kernel
theorem dX11_findLeft_5 : decode cX11_findLeft 5 = .ok (.aload_n 0, 1) := by decide +kernel
theorem dX11_findLeft_6 : decode cX11_findLeft 6 = .ok (.lconst 1, 1) := by decide +kernel
theorem dX11_findLeft_7 : decode cX11_findLeft 7 = .ok (.putfield 431, 3) := by decide +kernel
theorem dX11_findLeft_10 : decode cX11_findLeft 10 = .ok (.aload_n 0, 1) := by decide +kernel
theorem dX11_findLeft_11 : decode cX11_findLeft 11 = .ok (.getfield 139, 3) := by decide +kernel
theorem dX11_findLeft_14 : decode cX11_findLeft 14 = .ok (.iload_n 1, 1) := by decide +kernel
theorem dX11_findLeft_15 : decode cX11_findLeft 15 = .ok (.baload, 1) := by decide +kernel
theorem dX11_findLeft_16 : decode cX11_findLeft 16 = .ok (.ifCond .ne 4, 3) := by decide +kernel
theorem dX11_findLeft_19 : decode cX11_findLeft 19 = .ok (.return_, 1) := by decide +kernel
theorem dX11_findLeft_20 : decode cX11_findLeft 20 = .ok (.aload_n 0, 1) := by decide +kernel
theorem dX11_findLeft_21 : decode cX11_findLeft 21 = .ok (.aload_n 0, 1) := by decide +kernel
theorem dX11_findLeft_22 : decode cX11_findLeft 22 = .ok (.iload_n 1, 1) := by decide +kernel
theorem dX11_findLeft_23 : decode cX11_findLeft 23 = .ok (.invokevirtual 390, 3) := by decide +kernel
theorem dX11_findLeft_26 : decode cX11_findLeft 26 = .ok (.iconst (-1), 1) := by decide +kernel
theorem dX11_findLeft_27 : decode cX11_findLeft 27 = .ok (.invokevirtual 425, 3) := by decide +kernel
theorem dX11_findLeft_30 : decode cX11_findLeft 30 = .ok (.aload_n 0, 1) := by decide +kernel
theorem dX11_findLeft_31 : decode cX11_findLeft 31 = .ok (.aload_n 0, 1) := by decide +kernel
theorem dX11_findLeft_32 : decode cX11_findLeft 32 = .ok (.getfield 419, 3) := by decide +kernel
theorem dX11_findLeft_35 : decode cX11_findLeft 35 = .ok (.i2l, 1) := by decide +kernel
theorem dX11_findLeft_36 : decode cX11_findLeft 36 = .ok (.bipush 10, 2) := by decide +kernel
theorem dX11_findLeft_38 : decode cX11_findLeft 38 = .ok (.aload_n 0, 1) := by decide +kernel
theorem dX11_findLeft_39 : decode cX11_findLeft 39 = .ok (.invokevirtual 434, 3) := by decide +kernel
theorem dX11_findLeft_42 : decode cX11_findLeft 42 = .ok (.isub, 1) := by decide +kernel
theorem dX11_findLeft_43 : decode cX11_findLeft 43 = .ok (.i2l, 1) := by decide +kernel
theorem dX11_findLeft_44 : decode cX11_findLeft 44 = .ok (.aload_n 0, 1) := by decide +kernel
theorem dX11_findLeft_45 : decode cX11_findLeft 45 = .ok (.getfield 31, 3) := by decide +kernel
theorem dX11_findLeft_48 : decode cX11_findLeft 48 = .ok (.iload_n 1, 1) := by decide +kernel
theorem dX11_findLeft_49 : decode cX11_findLeft 49 = .ok (.iaload, 1) := by decide +kernel
theorem dX11_findLeft_50 : decode cX11_findLeft 50 = .ok (.invokestatic 437, 3) := by decide +kernel
theorem dX11_findLeft_53 : decode cX11_findLeft 53 = .ok (.lmul, 1) := by decide +kernel
theorem dX11_findLeft_54 : decode cX11_findLeft 54 = .ok (.putfield 428, 3) := by decide +kernel
theorem dX11_findLeft_57 : decode cX11_findLeft 57 = .ok (.aload_n 0, 1) := by decide +kernel
theorem dX11_findLeft_58 : decode cX11_findLeft 58 = .ok (.aload_n 0, 1) := by decide +kernel
theorem dX11_findLeft_59 : decode cX11_findLeft 59 = .ok (.getfield 428, 3) := by decide +kernel
theorem dX11_findLeft_62 : decode cX11_findLeft 62 = .ok (.aload_n 0, 1) := by decide +kernel
theorem dX11_findLeft_63 : decode cX11_findLeft 63 = .ok (.getfield 422, 3) := by decide +kernel
theorem dX11_findLeft_66 : decode cX11_findLeft 66 = .ok (.aload_n 0, 1) := by decide +kernel
theorem dX11_findLeft_67 : decode cX11_findLeft 67 = .ok (.getfield 419, 3) := by decide +kernel
theorem dX11_findLeft_70 : decode cX11_findLeft 70 = .ok (.isub, 1) := by decide +kernel
theorem dX11_findLeft_71 : decode cX11_findLeft 71 = .ok (.i2l, 1) := by decide +kernel
theorem dX11_findLeft_72 : decode cX11_findLeft 72 = .ok (.ldc2_w 441, 3) := by decide +kernel
theorem dX11_findLeft_75 : decode cX11_findLeft 75 = .ok (.aload_n 0, 1) := by decide +kernel
theorem dX11_findLeft_76 : decode cX11_findLeft 76 = .ok (.getfield 31, 3) := by decide +kernel
theorem dX11_findLeft_79 : decode cX11_findLeft 79 = .ok (.iload_n 1, 1) := by decide +kernel
theorem dX11_findLeft_80 : decode cX11_findLeft 80 = .ok (.iaload, 1) := by decide +kernel
theorem dX11_findLeft_81 : decode cX11_findLeft 81 = .ok (.invokestatic 437, 3) := by decide +kernel
theorem dX11_findLeft_84 : decode cX11_findLeft 84 = .ok (.lmul, 1) := by decide +kernel
theorem dX11_findLeft_85 : decode cX11_findLeft 85 = .ok (.ladd, 1) := by decide +kernel
theorem dX11_findLeft_86 : decode cX11_findLeft 86 = .ok (.putfield 431, 3) := by decide +kernel
theorem dX11_findLeft_89 : decode cX11_findLeft 89 = .ok (.return_, 1) := by decide +kernel
theorem dX11_left_0 : decode cX11_left 0 = .ok (.iload_n 1, 1) := by decide +kernel
theorem dX11_left_1 : decode cX11_left 1 = .ok (.invokestatic 191, 3) := by decide +kernel
theorem dX11_left_4 : decode cX11_left 4 = .ok (.ifCond .eq 19, 3) := by decide +kernel
theorem dX11_left_7 : decode cX11_left 7 = .ok (.iload_n 2, 1) := by decide +kernel
theorem dX11_left_8 : decode cX11_left 8 = .ok (.invokestatic 335, 3) := by decide +kernel
theorem dX11_left_11 : decode cX11_left 11 = .ok (.ifCond .eq 12, 3) := by decide +kernel
theorem dX11_left_14 : decode cX11_left 14 = .ok (.iload_n 3, 1) := by decide +kernel
theorem dX11_left_15 : decode cX11_left 15 = .ok (.iconst 0, 1) := by decide +kernel
theorem dX11_left_16 : decode cX11_left 16 = .ok (.iconst 1, 1) := by decide +kernel
theorem dX11_left_17 : decode cX11_left 17 = .ok (.invokestatic 183, 3) := by decide +kernel
theorem dX11_left_20 : decode cX11_left 20 = .ok (.ifCond .ne 7, 3) := by decide +kernel
theorem dX11_left_23 : decode cX11_left 23 = .ok (.ldc2_w 211, 3) := by decide +kernel
theorem dX11_left_26 : decode cX11_left 26 = .ok (.lreturn, 1) := by decide +kernel
theorem dX11_left_27 : decode cX11_left 27 = .ok (.aload_n 0, 1) := by decide +kernel
theorem dX11_left_28 : decode cX11_left 28 = .ok (.iload_n 2, 1) := by decide +kernel
theorem dX11_left_29 : decode cX11_left 29 = .ok (.invokevirtual 385, 3) := by decide +kernel
theorem dX11_left_32 : decode cX11_left 32 = .ok (.aload_n 0, 1) := by decide +kernel
theorem dX11_left_33 : decode cX11_left 33 = .ok (.iload_n 1, 1) := by decide +kernel
theorem dX11_left_34 : decode cX11_left 34 = .ok (.invokevirtual 443, 3) := by decide +kernel
theorem dX11_left_37 : decode cX11_left 37 = .ok (.aload_n 0, 1) := by decide +kernel
theorem dX11_left_38 : decode cX11_left 38 = .ok (.getfield 428, 3) := by decide +kernel
theorem dX11_left_41 : decode cX11_left 41 = .ok (.aload_n 0, 1) := by decide +kernel
theorem dX11_left_42 : decode cX11_left 42 = .ok (.getfield 431, 3) := by decide +kernel
theorem dX11_left_45 : decode cX11_left 45 = .ok (.iload_n 3, 1) := by decide +kernel
theorem dX11_left_46 : decode cX11_left 46 = .ok (.invokestatic 415, 3) := by decide +kernel
theorem dX11_left_49 : decode cX11_left 49 = .ok (.lreturn, 1) := by decide +kernel
theorem dX11_find_0 : decode cX11_find 0 = .ok (.iload_n 1, 1) := by decide +kernel
theorem dX11_find_1 : decode cX11_find 1 = .ok (.invokestatic 191, 3) := by decide +kernel
theorem dX11_find_4 : decode cX11_find 4 = .ok (.ifCond .eq 21, 3) := by decide +kernel
theorem dX11_find_7 : decode cX11_find 7 = .ok (.iload_n 2, 1) := by decide +kernel
theorem dX11_find_8 : decode cX11_find 8 = .ok (.iconst 0, 1) := by decide +kernel
theorem dX11_find_9 : decode cX11_find 9 = .ok (.iconst 2, 1) := by decide +kernel
theorem dX11_find_10 : decode cX11_find 10 = .ok (.invokestatic 183, 3) := by decide +kernel
theorem dX11_find_13 : decode cX11_find 13 = .ok (.ifCond .eq 12, 3) := by decide +kernel
theorem dX11_find_16 : decode cX11_find 16 = .ok (.iload_n 3, 1) := by decide +kernel
theorem dX11_find_17 : decode cX11_find 17 = .ok (.iload 4, 2) := by decide +kernel
theorem dX11_find_19 : decode cX11_find 19 = .ok (.invokestatic 407, 3) := by decide +kernel
theorem dX11_find_22 : decode cX11_find 22 = .ok (.ifCond .ne 9, 3) := by decide +kernel
theorem dX11_find_25 : decode cX11_find 25 = .ok (.aload_n 0, 1) := by decide +kernel
theorem dX11_find_26 : decode cX11_find 26 = .ok (.iconst 0, 1) := by decide +kernel
theorem dX11_find_27 : decode cX11_find 27 = .ok (.invokevirtual 175, 3) := by decide +kernel
theorem dX11_find_30 : decode cX11_find 30 = .ok (.ireturn, 1) := by decide +kernel
theorem dX11_find_31 : decode cX11_find 31 = .ok (.aload_n 0, 1) := by decide +kernel
theorem dX11_find_32 : decode cX11_find 32 = .ok (.getfield 16, 3) := by decide +kernel
theorem dX11_find_35 : decode cX11_find 35 = .ok (.iconst 0, 1) := by decide +kernel
theorem dX11_find_36 : decode cX11_find 36 = .ok (.iaload, 1) := by decide +kernel
theorem dX11_find_37 : decode cX11_find 37 = .ok (.bipush 60, 2) := by decide +kernel
theorem dX11_find_39 : decode cX11_find 39 = .ok (.if_icmp .ne 9, 3) := by decide +kernel
theorem dX11_find_42 : decode cX11_find 42 = .ok (.aload_n 0, 1) := by decide +kernel
theorem dX11_find_43 : decode cX11_find 43 = .ok (.iconst 1, 1) := by decide +kernel
theorem dX11_find_44 : decode cX11_find 44 = .ok (.invokevirtual 175, 3) := by decide +kernel
theorem dX11_find_47 : decode cX11_find 47 = .ok (.ireturn, 1) := by decide +kernel
theorem dX11_find_48 : decode cX11_find 48 = .ok (.aload_n 0, 1) := by decide +kernel
theorem dX11_find_49 : decode cX11_find 49 = .ok (.getfield 16, 3) := by decide +kernel
theorem dX11_find_52 : decode cX11_find 52 = .ok (.iconst 0, 1) := by decide +kernel
theorem dX11_find_53 : decode cX11_find 53 = .ok (.iaload, 1) := by decide +kernel
theorem dX11_find_54 : decode cX11_find 54 = .ok (.istore 5, 2) := by decide +kernel
theorem dX11_find_56 : decode cX11_find 56 = .ok (.aload_n 0, 1) := by decide +kernel
theorem dX11_find_57 : decode cX11_find 57 = .ok (.getfield 40, 3) := by decide +kernel
theorem dX11_find_60 : decode cX11_find 60 = .ok (.iload 5, 2) := by decide +kernel
theorem dX11_find_62 : decode cX11_find 62 = .ok (.iload_n 1, 1) := by decide +kernel
theorem dX11_find_63 : decode cX11_find 63 = .ok (.iastore, 1) := by decide +kernel
theorem dX11_find_64 : decode cX11_find 64 = .ok (.aload_n 0, 1) := by decide +kernel
theorem dX11_find_65 : decode cX11_find 65 = .ok (.getfield 43, 3) := by decide +kernel
theorem dX11_find_68 : decode cX11_find 68 = .ok (.iload 5, 2) := by decide +kernel
theorem dX11_find_70 : decode cX11_find 70 = .ok (.iload_n 2, 1) := by decide +kernel
theorem dX11_find_71 : decode cX11_find 71 = .ok (.iastore, 1) := by decide +kernel
theorem dX11_find_72 : decode cX11_find 72 = .ok (.aload_n 0, 1) := by decide +kernel
theorem dX11_find_73 : decode cX11_find 73 = .ok (.getfield 46, 3) := by decide +kernel
theorem dX11_find_76 : decode cX11_find 76 = .ok (.iload 5, 2) := by decide +kernel
theorem dX11_find_78 : decode cX11_find 78 = .ok (.iload_n 3, 1) := by decide +kernel
theorem dX11_find_79 : decode cX11_find 79 = .ok (.iastore, 1) := by decide +kernel
theorem dX11_find_80 : decode cX11_find 80 = .ok (.aload_n 0, 1) := by decide +kernel
theorem dX11_find_81 : decode cX11_find 81 = .ok (.getfield 49, 3) := by decide +kernel
theorem dX11_find_84 : decode cX11_find 84 = .ok (.iload 5, 2) := by decide +kernel
theorem dX11_find_86 : decode cX11_find 86 = .ok (.iload 4, 2) := by decide +kernel
theorem dX11_find_88 : decode cX11_find 88 = .ok (.iastore, 1) := by decide +kernel
theorem dX11_find_89 : decode cX11_find 89 = .ok (.aload_n 0, 1) := by decide +kernel
theorem dX11_find_90 : decode cX11_find 90 = .ok (.getfield 16, 3) := by decide +kernel
theorem dX11_find_93 : decode cX11_find 93 = .ok (.iconst 0, 1) := by decide +kernel
theorem dX11_find_94 : decode cX11_find 94 = .ok (.dup2, 1) := by decide +kernel
theorem dX11_find_95 : decode cX11_find 95 = .ok (.iaload, 1) := by decide +kernel
theorem dX11_find_96 : decode cX11_find 96 = .ok (.iconst 1, 1) := by decide +kernel
theorem dX11_find_97 : decode cX11_find 97 = .ok (.iadd, 1) := by decide +kernel
theorem dX11_find_98 : decode cX11_find 98 = .ok (.iastore, 1) := by decide +kernel
theorem dX11_find_99 : decode cX11_find 99 = .ok (.iload 5, 2) := by decide +kernel
theorem dX11_find_101 : decode cX11_find 101 = .ok (.ireturn, 1) := by decide +kernel
theorem dX11_isFind_0 : decode cX11_isFind 0 = .ok (.iload_n 1, 1) := by decide +kernel
theorem dX11_isFind_1 : decode cX11_isFind 1 = .ok (.ifCond .lt 17, 3) := by decide +kernel
theorem dX11_isFind_4 : decode cX11_isFind 4 = .ok (.iload_n 1, 1) := by decide +kernel
theorem dX11_isFind_5 : decode cX11_isFind 5 = .ok (.aload_n 0, 1) := by decide +kernel
theorem dX11_isFind_6 : decode cX11_isFind 6 = .ok (.getfield 16, 3) := by decide +kernel
theorem dX11_isFind_9 : decode cX11_isFind 9 = .ok (.iconst 0, 1) := by decide +kernel
theorem dX11_isFind_10 : decode cX11_isFind 10 = .ok (.iaload, 1) := by decide +kernel
theorem dX11_isFind_11 : decode cX11_isFind 11 = .ok (.if_icmp .ge 7, 3) := by decide +kernel
theorem dX11_isFind_14 : decode cX11_isFind 14 = .ok (.iconst 1, 1) := by decide +kernel
theorem dX11_isFind_15 : decode cX11_isFind 15 = .ok (.goto 4, 3) := by decide +kernel
theorem dX11_isFind_18 : decode cX11_isFind 18 = .ok (.iconst 0, 1) := by decide +kernel
theorem dX11_isFind_19 : decode cX11_isFind 19 = .ok (.ireturn, 1) := by decide +kernel
theorem dX11_found_0 : decode cX11_found 0 = .ok (.aload_n 0, 1) := by decide +kernel
theorem dX11_found_1 : decode cX11_found 1 = .ok (.iload_n 1, 1) := by decide +kernel
theorem dX11_found_2 : decode cX11_found 2 = .ok (.invokevirtual 446, 3) := by decide +kernel
theorem dX11_found_5 : decode cX11_found 5 = .ok (.ifCond .eq 12, 3) := by decide +kernel
theorem dX11_found_8 : decode cX11_found 8 = .ok (.iload_n 2, 1) := by decide +kernel
theorem dX11_found_9 : decode cX11_found 9 = .ok (.iconst 0, 1) := by decide +kernel
theorem dX11_found_10 : decode cX11_found 10 = .ok (.iconst 3, 1) := by decide +kernel
theorem dX11_found_11 : decode cX11_found 11 = .ok (.invokestatic 183, 3) := by decide +kernel
theorem dX11_found_14 : decode cX11_found 14 = .ok (.ifCond .ne 5, 3) := by decide +kernel
theorem dX11_found_17 : decode cX11_found 17 = .ok (.iconst (-1), 1) := by decide +kernel
theorem dX11_found_18 : decode cX11_found 18 = .ok (.ireturn, 1) := by decide +kernel
theorem dX11_found_19 : decode cX11_found 19 = .ok (.iload_n 2, 1) := by decide +kernel
theorem dX11_found_20 : decode cX11_found 20 = .ok (.ifCond .ne 12, 3) := by decide +kernel
theorem dX11_found_23 : decode cX11_found 23 = .ok (.aload_n 0, 1) := by decide +kernel
theorem dX11_found_24 : decode cX11_found 24 = .ok (.getfield 40, 3) := by decide +kernel
theorem dX11_found_27 : decode cX11_found 27 = .ok (.iload_n 1, 1) := by decide +kernel
theorem dX11_found_28 : decode cX11_found 28 = .ok (.iaload, 1) := by decide +kernel
theorem dX11_found_29 : decode cX11_found 29 = .ok (.goto 37, 3) := by decide +kernel
theorem dX11_found_32 : decode cX11_found 32 = .ok (.iload_n 2, 1) := by decide +kernel
theorem dX11_found_33 : decode cX11_found 33 = .ok (.iconst 1, 1) := by decide +kernel
theorem dX11_found_34 : decode cX11_found 34 = .ok (.if_icmp .ne 12, 3) := by decide +kernel
theorem dX11_found_37 : decode cX11_found 37 = .ok (.aload_n 0, 1) := by decide +kernel
theorem dX11_found_38 : decode cX11_found 38 = .ok (.getfield 43, 3) := by decide +kernel
theorem dX11_found_41 : decode cX11_found 41 = .ok (.iload_n 1, 1) := by decide +kernel
theorem dX11_found_42 : decode cX11_found 42 = .ok (.iaload, 1) := by decide +kernel
theorem dX11_found_43 : decode cX11_found 43 = .ok (.goto 23, 3) := by decide +kernel
theorem dX11_found_46 : decode cX11_found 46 = .ok (.iload_n 2, 1) := by decide +kernel
theorem dX11_found_47 : decode cX11_found 47 = .ok (.iconst 2, 1) := by decide +kernel
theorem dX11_found_48 : decode cX11_found 48 = .ok (.if_icmp .ne 12, 3) := by decide +kernel
theorem dX11_found_51 : decode cX11_found 51 = .ok (.aload_n 0, 1) := by decide +kernel
theorem dX11_found_52 : decode cX11_found 52 = .ok (.getfield 46, 3) := by decide +kernel
theorem dX11_found_55 : decode cX11_found 55 = .ok (.iload_n 1, 1) := by decide +kernel
theorem dX11_found_56 : decode cX11_found 56 = .ok (.iaload, 1) := by decide +kernel
theorem dX11_found_57 : decode cX11_found 57 = .ok (.goto 9, 3) := by decide +kernel
theorem dX11_found_60 : decode cX11_found 60 = .ok (.aload_n 0, 1) := by decide +kernel
theorem dX11_found_61 : decode cX11_found 61 = .ok (.getfield 49, 3) := by decide +kernel
theorem dX11_found_64 : decode cX11_found 64 = .ok (.iload_n 1, 1) := by decide +kernel
theorem dX11_found_65 : decode cX11_found 65 = .ok (.iaload, 1) := by decide +kernel
theorem dX11_found_66 : decode cX11_found 66 = .ok (.ireturn, 1) := by decide +kernel
theorem dX11_carried_0 : decode cX11_carried 0 = .ok (.aload_n 0, 1) := by decide +kernel
theorem dX11_carried_1 : decode cX11_carried 1 = .ok (.iload_n 1, 1) := by decide +kernel
theorem dX11_carried_2 : decode cX11_carried 2 = .ok (.invokevirtual 446, 3) := by decide +kernel
theorem dX11_carried_5 : decode cX11_carried 5 = .ok (.ifCond .eq 12, 3) := by decide +kernel
theorem dX11_carried_8 : decode cX11_carried 8 = .ok (.iload_n 2, 1) := by decide +kernel
theorem dX11_carried_9 : decode cX11_carried 9 = .ok (.iconst 0, 1) := by decide +kernel
theorem dX11_carried_10 : decode cX11_carried 10 = .ok (.iconst 1, 1) := by decide +kernel
theorem dX11_carried_11 : decode cX11_carried 11 = .ok (.invokestatic 183, 3) := by decide +kernel
theorem dX11_carried_14 : decode cX11_carried 14 = .ok (.ifCond .ne 7, 3) := by decide +kernel
theorem dX11_carried_17 : decode cX11_carried 17 = .ok (.ldc2_w 211, 3) := by decide +kernel
theorem dX11_carried_20 : decode cX11_carried 20 = .ok (.lreturn, 1) := by decide +kernel
theorem dX11_carried_21 : decode cX11_carried 21 = .ok (.aload_n 0, 1) := by decide +kernel
theorem dX11_carried_22 : decode cX11_carried 22 = .ok (.aload_n 0, 1) := by decide +kernel
theorem dX11_carried_23 : decode cX11_carried 23 = .ok (.getfield 40, 3) := by decide +kernel
theorem dX11_carried_26 : decode cX11_carried 26 = .ok (.iload_n 1, 1) := by decide +kernel
theorem dX11_carried_27 : decode cX11_carried 27 = .ok (.iaload, 1) := by decide +kernel
theorem dX11_carried_28 : decode cX11_carried 28 = .ok (.aload_n 0, 1) := by decide +kernel
theorem dX11_carried_29 : decode cX11_carried 29 = .ok (.getfield 46, 3) := by decide +kernel
theorem dX11_carried_32 : decode cX11_carried 32 = .ok (.iload_n 1, 1) := by decide +kernel
theorem dX11_carried_33 : decode cX11_carried 33 = .ok (.iaload, 1) := by decide +kernel
theorem dX11_carried_34 : decode cX11_carried 34 = .ok (.aload_n 0, 1) := by decide +kernel
theorem dX11_carried_35 : decode cX11_carried 35 = .ok (.getfield 49, 3) := by decide +kernel
theorem dX11_carried_38 : decode cX11_carried 38 = .ok (.iload_n 1, 1) := by decide +kernel
theorem dX11_carried_39 : decode cX11_carried 39 = .ok (.iaload, 1) := by decide +kernel
theorem dX11_carried_40 : decode cX11_carried 40 = .ok (.invokevirtual 411, 3) := by decide +kernel
theorem dX11_carried_43 : decode cX11_carried 43 = .ok (.aload_n 0, 1) := by decide +kernel
theorem dX11_carried_44 : decode cX11_carried 44 = .ok (.iconst 5, 1) := by decide +kernel
theorem dX11_carried_45 : decode cX11_carried 45 = .ok (.aload_n 0, 1) := by decide +kernel
theorem dX11_carried_46 : decode cX11_carried 46 = .ok (.getfield 43, 3) := by decide +kernel
theorem dX11_carried_49 : decode cX11_carried 49 = .ok (.iload_n 1, 1) := by decide +kernel
theorem dX11_carried_50 : decode cX11_carried 50 = .ok (.iaload, 1) := by decide +kernel
theorem dX11_carried_51 : decode cX11_carried 51 = .ok (.invokevirtual 326, 3) := by decide +kernel
theorem dX11_carried_54 : decode cX11_carried 54 = .ok (.i2l, 1) := by decide +kernel
theorem dX11_carried_55 : decode cX11_carried 55 = .ok (.lstore_n 3, 1) := by decide +kernel
theorem dX11_carried_56 : decode cX11_carried 56 = .ok (.lload_n 3, 1) := by decide +kernel
theorem dX11_carried_57 : decode cX11_carried 57 = .ok (.aload_n 0, 1) := by decide +kernel
theorem dX11_carried_58 : decode cX11_carried 58 = .ok (.getfield 404, 3) := by decide +kernel
theorem dX11_carried_61 : decode cX11_carried 61 = .ok (.lmul, 1) := by decide +kernel
theorem dX11_carried_62 : decode cX11_carried 62 = .ok (.lstore 5, 2) := by decide +kernel
theorem dX11_carried_64 : decode cX11_carried 64 = .ok (.lload 5, 2) := by decide +kernel
theorem dX11_carried_66 : decode cX11_carried 66 = .ok (.ldc2_w 449, 3) := by decide +kernel
theorem dX11_carried_69 : decode cX11_carried 69 = .ok (.lload_n 3, 1) := by decide +kernel
theorem dX11_carried_70 : decode cX11_carried 70 = .ok (.lsub, 1) := by decide +kernel
theorem dX11_carried_71 : decode cX11_carried 71 = .ok (.ldc2_w 451, 3) := by decide +kernel
theorem dX11_carried_74 : decode cX11_carried 74 = .ok (.lmul, 1) := by decide +kernel
theorem dX11_carried_75 : decode cX11_carried 75 = .ok (.aload_n 0, 1) := by decide +kernel
theorem dX11_carried_76 : decode cX11_carried 76 = .ok (.getfield 401, 3) := by decide +kernel
theorem dX11_carried_79 : decode cX11_carried 79 = .ok (.lmul, 1) := by decide +kernel
theorem dX11_carried_80 : decode cX11_carried 80 = .ok (.ladd, 1) := by decide +kernel
theorem dX11_carried_81 : decode cX11_carried 81 = .ok (.lstore 7, 2) := by decide +kernel
theorem dX11_carried_83 : decode cX11_carried 83 = .ok (.lload 7, 2) := by decide +kernel
theorem dX11_carried_85 : decode cX11_carried 85 = .ok (.lconst 0, 1) := by decide +kernel
theorem dX11_carried_86 : decode cX11_carried 86 = .ok (.lcmp, 1) := by decide +kernel
theorem dX11_carried_87 : decode cX11_carried 87 = .ok (.ifCond .ne 8, 3) := by decide +kernel
theorem dX11_carried_90 : decode cX11_carried 90 = .ok (.iload_n 2, 1) := by decide +kernel
theorem dX11_carried_91 : decode cX11_carried 91 = .ok (.i2l, 1) := by decide +kernel
theorem dX11_carried_92 : decode cX11_carried 92 = .ok (.goto 11, 3) := by decide +kernel
theorem dX11_carried_95 : decode cX11_carried 95 = .ok (.lload 5, 2) := by decide +kernel
theorem dX11_carried_97 : decode cX11_carried 97 = .ok (.lload 7, 2) := by decide +kernel
theorem dX11_carried_99 : decode cX11_carried 99 = .ok (.iload_n 2, 1) := by decide +kernel
theorem dX11_carried_100 : decode cX11_carried 100 = .ok (.invokestatic 415, 3) := by decide +kernel
theorem dX11_carried_103 : decode cX11_carried 103 = .ok (.lreturn, 1) := by decide +kernel
theorem dX11_isGone_0 : decode cX11_isGone 0 = .ok (.aload_n 0, 1) := by decide +kernel
theorem dX11_isGone_1 : decode cX11_isGone 1 = .ok (.getfield 139, 3) := by decide +kernel
theorem dX11_isGone_4 : decode cX11_isGone 4 = .ok (.iload_n 1, 1) := by decide +kernel
theorem dX11_isGone_5 : decode cX11_isGone 5 = .ok (.baload, 1) := by decide +kernel
theorem dX11_isGone_6 : decode cX11_isGone 6 = .ok (.ifCond .eq 25, 3) := by decide +kernel
theorem dX11_isGone_9 : decode cX11_isGone 9 = .ok (.aload_n 0, 1) := by decide +kernel
theorem dX11_isGone_10 : decode cX11_isGone 10 = .ok (.iload_n 1, 1) := by decide +kernel
theorem dX11_isGone_11 : decode cX11_isGone 11 = .ok (.invokevirtual 356, 3) := by decide +kernel
theorem dX11_isGone_14 : decode cX11_isGone 14 = .ok (.iload_n 2, 1) := by decide +kernel
theorem dX11_isGone_15 : decode cX11_isGone 15 = .ok (.iload_n 3, 1) := by decide +kernel
theorem dX11_isGone_16 : decode cX11_isGone 16 = .ok (.aload_n 0, 1) := by decide +kernel
theorem dX11_isGone_17 : decode cX11_isGone 17 = .ok (.getfield 145, 3) := by decide +kernel
theorem dX11_isGone_20 : decode cX11_isGone 20 = .ok (.iload_n 1, 1) := by decide +kernel
theorem dX11_isGone_21 : decode cX11_isGone 21 = .ok (.iaload, 1) := by decide +kernel
theorem dX11_isGone_22 : decode cX11_isGone 22 = .ok (.imul, 1) := by decide +kernel
theorem dX11_isGone_23 : decode cX11_isGone 23 = .ok (.isub, 1) := by decide +kernel
theorem dX11_isGone_24 : decode cX11_isGone 24 = .ok (.if_icmp .ge 7, 3) := by decide +kernel
theorem dX11_isGone_27 : decode cX11_isGone 27 = .ok (.iconst 1, 1) := by decide +kernel
theorem dX11_isGone_28 : decode cX11_isGone 28 = .ok (.goto 4, 3) := by decide +kernel
theorem dX11_isGone_31 : decode cX11_isGone 31 = .ok (.iconst 0, 1) := by decide +kernel
theorem dX11_isGone_32 : decode cX11_isGone 32 = .ok (.ireturn, 1) := by decide +kernel
theorem dX11_isWave_0 : decode cX11_isWave 0 = .ok (.iload_n 0, 1) := by decide +kernel
theorem dX11_isWave_1 : decode cX11_isWave 1 = .ok (.invokestatic 335, 3) := by decide +kernel
theorem dX11_isWave_4 : decode cX11_isWave 4 = .ok (.ifCond .eq 27, 3) := by decide +kernel
theorem dX11_isWave_7 : decode cX11_isWave 7 = .ok (.iload_n 1, 1) := by decide +kernel
theorem dX11_isWave_8 : decode cX11_isWave 8 = .ok (.iconst 1, 1) := by decide +kernel
theorem dX11_isWave_9 : decode cX11_isWave 9 = .ok (.bipush 99, 2) := by decide +kernel
theorem dX11_isWave_11 : decode cX11_isWave 11 = .ok (.invokestatic 183, 3) := by decide +kernel
theorem dX11_isWave_14 : decode cX11_isWave 14 = .ok (.ifCond .eq 17, 3) := by decide +kernel
theorem dX11_isWave_17 : decode cX11_isWave 17 = .ok (.iload_n 2, 1) := by decide +kernel
theorem dX11_isWave_18 : decode cX11_isWave 18 = .ok (.iconst 0, 1) := by decide +kernel
theorem dX11_isWave_19 : decode cX11_isWave 19 = .ok (.bipush 20, 2) := by decide +kernel
theorem dX11_isWave_21 : decode cX11_isWave 21 = .ok (.invokestatic 183, 3) := by decide +kernel
theorem dX11_isWave_24 : decode cX11_isWave 24 = .ok (.ifCond .eq 7, 3) := by decide +kernel
theorem dX11_isWave_27 : decode cX11_isWave 27 = .ok (.iconst 1, 1) := by decide +kernel
theorem dX11_isWave_28 : decode cX11_isWave 28 = .ok (.goto 4, 3) := by decide +kernel
theorem dX11_isWave_31 : decode cX11_isWave 31 = .ok (.iconst 0, 1) := by decide +kernel
theorem dX11_isWave_32 : decode cX11_isWave 32 = .ok (.ireturn, 1) := by decide +kernel
theorem dX11_gone_0 : decode cX11_gone 0 = .ok (.iload_n 1, 1) := by decide +kernel
theorem dX11_gone_1 : decode cX11_gone 1 = .ok (.invokestatic 191, 3) := by decide +kernel
theorem dX11_gone_4 : decode cX11_gone 4 = .ok (.ifCond .eq 13, 3) := by decide +kernel
theorem dX11_gone_7 : decode cX11_gone 7 = .ok (.iload_n 2, 1) := by decide +kernel
theorem dX11_gone_8 : decode cX11_gone 8 = .ok (.iload_n 3, 1) := by decide +kernel
theorem dX11_gone_9 : decode cX11_gone 9 = .ok (.iload 4, 2) := by decide +kernel
theorem dX11_gone_11 : decode cX11_gone 11 = .ok (.invokestatic 453, 3) := by decide +kernel
theorem dX11_gone_14 : decode cX11_gone 14 = .ok (.ifCond .ne 6, 3) := by decide +kernel
theorem dX11_gone_17 : decode cX11_gone 17 = .ok (.bipush (-2), 2) := by decide +kernel
theorem dX11_gone_19 : decode cX11_gone 19 = .ok (.ireturn, 1) := by decide +kernel
theorem dX11_gone_20 : decode cX11_gone 20 = .ok (.aload_n 0, 1) := by decide +kernel
theorem dX11_gone_21 : decode cX11_gone 21 = .ok (.iload_n 2, 1) := by decide +kernel
theorem dX11_gone_22 : decode cX11_gone 22 = .ok (.invokevirtual 385, 3) := by decide +kernel
theorem dX11_gone_25 : decode cX11_gone 25 = .ok (.aload_n 0, 1) := by decide +kernel
theorem dX11_gone_26 : decode cX11_gone 26 = .ok (.getfield 139, 3) := by decide +kernel
theorem dX11_gone_29 : decode cX11_gone 29 = .ok (.iload_n 1, 1) := by decide +kernel
theorem dX11_gone_30 : decode cX11_gone 30 = .ok (.baload, 1) := by decide +kernel
theorem dX11_gone_31 : decode cX11_gone 31 = .ok (.ifCond .ne 7, 3) := by decide +kernel
theorem dX11_gone_34 : decode cX11_gone 34 = .ok (.iconst (-1), 1) := by decide +kernel
theorem dX11_gone_35 : decode cX11_gone 35 = .ok (.goto 19, 3) := by decide +kernel
theorem dX11_gone_38 : decode cX11_gone 38 = .ok (.aload_n 0, 1) := by decide +kernel
theorem dX11_gone_39 : decode cX11_gone 39 = .ok (.iload_n 1, 1) := by decide +kernel
theorem dX11_gone_40 : decode cX11_gone 40 = .ok (.iload_n 3, 1) := by decide +kernel
theorem dX11_gone_41 : decode cX11_gone 41 = .ok (.iload 4, 2) := by decide +kernel
theorem dX11_gone_43 : decode cX11_gone 43 = .ok (.invokevirtual 456, 3) := by decide +kernel
theorem dX11_gone_46 : decode cX11_gone 46 = .ok (.ifCond .eq 7, 3) := by decide +kernel
theorem dX11_gone_49 : decode cX11_gone 49 = .ok (.iconst 1, 1) := by decide +kernel
theorem dX11_gone_50 : decode cX11_gone 50 = .ok (.goto 4, 3) := by decide +kernel
theorem dX11_gone_53 : decode cX11_gone 53 = .ok (.iconst 0, 1) := by decide +kernel
theorem dX11_gone_54 : decode cX11_gone 54 = .ok (.ireturn, 1) := by decide +kernel
theorem dX11_rest_0 : decode cX11_rest 0 = .ok (.iload_n 1, 1) := by decide +kernel
theorem dX11_rest_1 : decode cX11_rest 1 = .ok (.iload_n 2, 1) := by decide +kernel
theorem dX11_rest_2 : decode cX11_rest 2 = .ok (.iload_n 3, 1) := by decide +kernel
theorem dX11_rest_3 : decode cX11_rest 3 = .ok (.invokestatic 453, 3) := by decide +kernel
theorem dX11_rest_6 : decode cX11_rest 6 = .ok (.ifCond .eq 13, 3) := by decide +kernel
theorem dX11_rest_9 : decode cX11_rest 9 = .ok (.iload 4, 2) := by decide +kernel
theorem dX11_rest_11 : decode cX11_rest 11 = .ok (.iconst 0, 1) := by decide +kernel
theorem dX11_rest_12 : decode cX11_rest 12 = .ok (.iconst 2, 1) := by decide +kernel
theorem dX11_rest_13 : decode cX11_rest 13 = .ok (.invokestatic 183, 3) := by decide +kernel
theorem dX11_rest_16 : decode cX11_rest 16 = .ok (.ifCond .ne 5, 3) := by decide +kernel
theorem dX11_rest_19 : decode cX11_rest 19 = .ok (.iconst (-1), 1) := by decide +kernel
theorem dX11_rest_20 : decode cX11_rest 20 = .ok (.ireturn, 1) := by decide +kernel
theorem dX11_rest_21 : decode cX11_rest 21 = .ok (.aload_n 0, 1) := by decide +kernel
theorem dX11_rest_22 : decode cX11_rest 22 = .ok (.iload_n 1, 1) := by decide +kernel
theorem dX11_rest_23 : decode cX11_rest 23 = .ok (.invokevirtual 385, 3) := by decide +kernel
theorem dX11_rest_26 : decode cX11_rest 26 = .ok (.iconst 0, 1) := by decide +kernel
theorem dX11_rest_27 : decode cX11_rest 27 = .ok (.istore 5, 2) := by decide +kernel
theorem dX11_rest_29 : decode cX11_rest 29 = .ok (.iconst 0, 1) := by decide +kernel
theorem dX11_rest_30 : decode cX11_rest 30 = .ok (.istore 6, 2) := by decide +kernel
theorem dX11_rest_32 : decode cX11_rest 32 = .ok (.iconst 0, 1) := by decide +kernel
theorem dX11_rest_33 : decode cX11_rest 33 = .ok (.istore 7, 2) := by decide +kernel
theorem dX11_rest_35 : decode cX11_rest 35 = .ok (.iload 7, 2) := by decide +kernel
theorem dX11_rest_37 : decode cX11_rest 37 = .ok (.sipush 256, 3) := by decide +kernel
theorem dX11_rest_40 : decode cX11_rest 40 = .ok (.if_icmp .ge 92, 3) := by decide +kernel
theorem dX11_rest_43 : decode cX11_rest 43 = .ok (.aload_n 0, 1) := by decide +kernel
theorem dX11_rest_44 : decode cX11_rest 44 = .ok (.getfield 151, 3) := by decide +kernel
theorem dX11_rest_47 : decode cX11_rest 47 = .ok (.iload 7, 2) := by decide +kernel
theorem dX11_rest_49 : decode cX11_rest 49 = .ok (.aload_n 0, 1) := by decide +kernel
theorem dX11_rest_50 : decode cX11_rest 50 = .ok (.getfield 139, 3) := by decide +kernel
theorem dX11_rest_53 : decode cX11_rest 53 = .ok (.iload 7, 2) := by decide +kernel
theorem dX11_rest_55 : decode cX11_rest 55 = .ok (.baload, 1) := by decide +kernel
theorem dX11_rest_56 : decode cX11_rest 56 = .ok (.ifCond .eq 18, 3) := by decide +kernel
theorem dX11_rest_59 : decode cX11_rest 59 = .ok (.aload_n 0, 1) := by decide +kernel
theorem dX11_rest_60 : decode cX11_rest 60 = .ok (.iload 7, 2) := by decide +kernel
theorem dX11_rest_62 : decode cX11_rest 62 = .ok (.iload_n 2, 1) := by decide +kernel
theorem dX11_rest_63 : decode cX11_rest 63 = .ok (.iload_n 3, 1) := by decide +kernel
theorem dX11_rest_64 : decode cX11_rest 64 = .ok (.invokevirtual 456, 3) := by decide +kernel
theorem dX11_rest_67 : decode cX11_rest 67 = .ok (.ifCond .ne 7, 3) := by decide +kernel
theorem dX11_rest_70 : decode cX11_rest 70 = .ok (.iconst 1, 1) := by decide +kernel
theorem dX11_rest_71 : decode cX11_rest 71 = .ok (.goto 4, 3) := by decide +kernel
theorem dX11_rest_74 : decode cX11_rest 74 = .ok (.iconst 0, 1) := by decide +kernel
theorem dX11_rest_75 : decode cX11_rest 75 = .ok (.bastore, 1) := by decide +kernel
theorem dX11_rest_76 : decode cX11_rest 76 = .ok (.iload 5, 2) := by decide +kernel
theorem dX11_rest_78 : decode cX11_rest 78 = .ok (.aload_n 0, 1) := by decide +kernel
theorem dX11_rest_79 : decode cX11_rest 79 = .ok (.getfield 151, 3) := by decide +kernel
theorem dX11_rest_82 : decode cX11_rest 82 = .ok (.iload 7, 2) := by decide +kernel
theorem dX11_rest_84 : decode cX11_rest 84 = .ok (.baload, 1) := by decide +kernel
theorem dX11_rest_85 : decode cX11_rest 85 = .ok (.ifCond .eq 7, 3) := by decide +kernel
theorem dX11_rest_88 : decode cX11_rest 88 = .ok (.iconst 1, 1) := by decide +kernel
theorem dX11_rest_89 : decode cX11_rest 89 = .ok (.goto 4, 3) := by decide +kernel
theorem dX11_rest_92 : decode cX11_rest 92 = .ok (.iconst 0, 1) := by decide +kernel
theorem dX11_rest_93 : decode cX11_rest 93 = .ok (.iadd, 1) := by decide +kernel
theorem dX11_rest_94 : decode cX11_rest 94 = .ok (.istore 5, 2) := by decide +kernel
theorem dX11_rest_96 : decode cX11_rest 96 = .ok (.iload 6, 2) := by decide +kernel
theorem dX11_rest_98 : decode cX11_rest 98 = .ok (.aload_n 0, 1) := by decide +kernel
theorem dX11_rest_99 : decode cX11_rest 99 = .ok (.getfield 139, 3) := by decide +kernel
theorem dX11_rest_102 : decode cX11_rest 102 = .ok (.iload 7, 2) := by decide +kernel
theorem dX11_rest_104 : decode cX11_rest 104 = .ok (.baload, 1) := by decide +kernel
theorem dX11_rest_105 : decode cX11_rest 105 = .ok (.ifCond .eq 17, 3) := by decide +kernel
theorem dX11_rest_108 : decode cX11_rest 108 = .ok (.aload_n 0, 1) := by decide +kernel
theorem dX11_rest_109 : decode cX11_rest 109 = .ok (.getfield 151, 3) := by decide +kernel
theorem dX11_rest_112 : decode cX11_rest 112 = .ok (.iload 7, 2) := by decide +kernel
theorem dX11_rest_114 : decode cX11_rest 114 = .ok (.baload, 1) := by decide +kernel
theorem dX11_rest_115 : decode cX11_rest 115 = .ok (.ifCond .ne 7, 3) := by decide +kernel
theorem dX11_rest_118 : decode cX11_rest 118 = .ok (.iconst 1, 1) := by decide +kernel
theorem dX11_rest_119 : decode cX11_rest 119 = .ok (.goto 4, 3) := by decide +kernel
theorem dX11_rest_122 : decode cX11_rest 122 = .ok (.iconst 0, 1) := by decide +kernel
theorem dX11_rest_123 : decode cX11_rest 123 = .ok (.iadd, 1) := by decide +kernel
theorem dX11_rest_124 : decode cX11_rest 124 = .ok (.istore 6, 2) := by decide +kernel
theorem dX11_rest_126 : decode cX11_rest 126 = .ok (.iinc 7 1, 3) := by decide +kernel
theorem dX11_rest_129 : decode cX11_rest 129 = .ok (.goto (-94), 3) := by decide +kernel
theorem dX11_rest_132 : decode cX11_rest 132 = .ok (.iload 4, 2) := by decide +kernel
theorem dX11_rest_134 : decode cX11_rest 134 = .ok (.iconst 1, 1) := by decide +kernel
theorem dX11_rest_135 : decode cX11_rest 135 = .ok (.if_icmp .eq 16, 3) := by decide +kernel
theorem dX11_rest_138 : decode cX11_rest 138 = .ok (.iload 4, 2) := by decide +kernel
theorem dX11_rest_140 : decode cX11_rest 140 = .ok (.ifCond .ne 8, 3) := by decide +kernel
theorem dX11_rest_143 : decode cX11_rest 143 = .ok (.iload 5, 2) := by decide +kernel
theorem dX11_rest_145 : decode cX11_rest 145 = .ok (.goto 5, 3) := by decide +kernel
theorem dX11_rest_148 : decode cX11_rest 148 = .ok (.iload 6, 2) := by decide +kernel
theorem dX11_rest_150 : decode cX11_rest 150 = .ok (.ireturn, 1) := by decide +kernel
theorem dX11_rest_151 : decode cX11_rest 151 = .ok (.aload_n 0, 1) := by decide +kernel
theorem dX11_rest_152 : decode cX11_rest 152 = .ok (.invokevirtual 368, 3) := by decide +kernel
theorem dX11_rest_155 : decode cX11_rest 155 = .ok (.iconst 0, 1) := by decide +kernel
theorem dX11_rest_156 : decode cX11_rest 156 = .ok (.istore 7, 2) := by decide +kernel
theorem dX11_rest_158 : decode cX11_rest 158 = .ok (.iconst 0, 1) := by decide +kernel
theorem dX11_rest_159 : decode cX11_rest 159 = .ok (.istore 8, 2) := by decide +kernel
theorem dX11_rest_161 : decode cX11_rest 161 = .ok (.iload 8, 2) := by decide +kernel
theorem dX11_rest_163 : decode cX11_rest 163 = .ok (.sipush 256, 3) := by decide +kernel
theorem dX11_rest_166 : decode cX11_rest 166 = .ok (.if_icmp .ge 55, 3) := by decide +kernel
theorem dX11_rest_169 : decode cX11_rest 169 = .ok (.aload_n 0, 1) := by decide +kernel
theorem dX11_rest_170 : decode cX11_rest 170 = .ok (.getfield 151, 3) := by decide +kernel
theorem dX11_rest_173 : decode cX11_rest 173 = .ok (.iload 8, 2) := by decide +kernel
theorem dX11_rest_175 : decode cX11_rest 175 = .ok (.baload, 1) := by decide +kernel
theorem dX11_rest_176 : decode cX11_rest 176 = .ok (.ifCond .eq 39, 3) := by decide +kernel
theorem dX11_rest_179 : decode cX11_rest 179 = .ok (.aload_n 0, 1) := by decide +kernel
theorem dX11_rest_180 : decode cX11_rest 180 = .ok (.getfield 142, 3) := by decide +kernel
theorem dX11_rest_183 : decode cX11_rest 183 = .ok (.iload 8, 2) := by decide +kernel
theorem dX11_rest_185 : decode cX11_rest 185 = .ok (.baload, 1) := by decide +kernel
theorem dX11_rest_186 : decode cX11_rest 186 = .ok (.ifCond .eq 6, 3) := by decide +kernel
theorem dX11_rest_189 : decode cX11_rest 189 = .ok (.goto 26, 3) := by decide +kernel
theorem dX11_rest_192 : decode cX11_rest 192 = .ok (.iload 7, 2) := by decide +kernel
theorem dX11_rest_194 : decode cX11_rest 194 = .ok (.aload_n 0, 1) := by decide +kernel
theorem dX11_rest_195 : decode cX11_rest 195 = .ok (.iload 8, 2) := by decide +kernel
theorem dX11_rest_197 : decode cX11_rest 197 = .ok (.aload_n 0, 1) := by decide +kernel
theorem dX11_rest_198 : decode cX11_rest 198 = .ok (.getfield 151, 3) := by decide +kernel
theorem dX11_rest_201 : decode cX11_rest 201 = .ok (.invokevirtual 371, 3) := by decide +kernel
theorem dX11_rest_204 : decode cX11_rest 204 = .ok (.ifCond .le 7, 3) := by decide +kernel
theorem dX11_rest_207 : decode cX11_rest 207 = .ok (.iconst 1, 1) := by decide +kernel
theorem dX11_rest_208 : decode cX11_rest 208 = .ok (.goto 4, 3) := by decide +kernel
theorem dX11_rest_211 : decode cX11_rest 211 = .ok (.iconst 0, 1) := by decide +kernel
theorem dX11_rest_212 : decode cX11_rest 212 = .ok (.iadd, 1) := by decide +kernel
theorem dX11_rest_213 : decode cX11_rest 213 = .ok (.istore 7, 2) := by decide +kernel
theorem dX11_rest_215 : decode cX11_rest 215 = .ok (.iinc 8 1, 3) := by decide +kernel
theorem dX11_rest_218 : decode cX11_rest 218 = .ok (.goto (-57), 3) := by decide +kernel
theorem dX11_rest_221 : decode cX11_rest 221 = .ok (.iload 7, 2) := by decide +kernel
theorem dX11_rest_223 : decode cX11_rest 223 = .ok (.ireturn, 1) := by decide +kernel
theorem dX11_mudMany_0 : decode cX11_mudMany 0 = .ok (.iconst 0, 1) := by decide +kernel
theorem dX11_mudMany_1 : decode cX11_mudMany 1 = .ok (.istore_n 1, 1) := by decide +kernel
theorem dX11_mudMany_2 : decode cX11_mudMany 2 = .ok (.iconst 0, 1) := by decide +kernel
theorem dX11_mudMany_3 : decode cX11_mudMany 3 = .ok (.istore_n 2, 1) := by decide +kernel
theorem dX11_mudMany_4 : decode cX11_mudMany 4 = .ok (.iload_n 2, 1) := by decide +kernel
theorem dX11_mudMany_5 : decode cX11_mudMany 5 = .ok (.sipush 256, 3) := by decide +kernel
theorem dX11_mudMany_8 : decode cX11_mudMany 8 = .ok (.if_icmp .ge 26, 3) := by decide +kernel
theorem dX11_mudMany_11 : decode cX11_mudMany 11 = .ok (.iload_n 1, 1) := by decide +kernel
theorem dX11_mudMany_12 : decode cX11_mudMany 12 = .ok (.aload_n 0, 1) := by decide +kernel
theorem dX11_mudMany_13 : decode cX11_mudMany 13 = .ok (.getfield 34, 3) := by decide +kernel
theorem dX11_mudMany_16 : decode cX11_mudMany 16 = .ok (.iload_n 2, 1) := by decide +kernel
theorem dX11_mudMany_17 : decode cX11_mudMany 17 = .ok (.iaload, 1) := by decide +kernel
theorem dX11_mudMany_18 : decode cX11_mudMany 18 = .ok (.ifCond .lt 7, 3) := by decide +kernel
theorem dX11_mudMany_21 : decode cX11_mudMany 21 = .ok (.iconst 1, 1) := by decide +kernel
theorem dX11_mudMany_22 : decode cX11_mudMany 22 = .ok (.goto 4, 3) := by decide +kernel
theorem dX11_mudMany_25 : decode cX11_mudMany 25 = .ok (.iconst 0, 1) := by decide +kernel
theorem dX11_mudMany_26 : decode cX11_mudMany 26 = .ok (.iadd, 1) := by decide +kernel
theorem dX11_mudMany_27 : decode cX11_mudMany 27 = .ok (.istore_n 1, 1) := by decide +kernel
theorem dX11_mudMany_28 : decode cX11_mudMany 28 = .ok (.iinc 2 1, 3) := by decide +kernel
theorem dX11_mudMany_31 : decode cX11_mudMany 31 = .ok (.goto (-27), 3) := by decide +kernel
theorem dX11_mudMany_34 : decode cX11_mudMany 34 = .ok (.iload_n 1, 1) := by decide +kernel
theorem dX11_mudMany_35 : decode cX11_mudMany 35 = .ok (.ireturn, 1) := by decide +kernel
theorem dX11_mud_0 : decode cX11_mud 0 = .ok (.iload_n 1, 1) := by decide +kernel
theorem dX11_mud_1 : decode cX11_mud 1 = .ok (.invokestatic 191, 3) := by decide +kernel
theorem dX11_mud_4 : decode cX11_mud 4 = .ok (.ifCond .ne 9, 3) := by decide +kernel
theorem dX11_mud_7 : decode cX11_mud 7 = .ok (.aload_n 0, 1) := by decide +kernel
theorem dX11_mud_8 : decode cX11_mud 8 = .ok (.iconst 0, 1) := by decide +kernel
theorem dX11_mud_9 : decode cX11_mud 9 = .ok (.invokevirtual 175, 3) := by decide +kernel
theorem dX11_mud_12 : decode cX11_mud 12 = .ok (.ireturn, 1) := by decide +kernel
theorem dX11_mud_13 : decode cX11_mud 13 = .ok (.aload_n 0, 1) := by decide +kernel
theorem dX11_mud_14 : decode cX11_mud 14 = .ok (.getfield 34, 3) := by decide +kernel
theorem dX11_mud_17 : decode cX11_mud 17 = .ok (.iload_n 1, 1) := by decide +kernel
theorem dX11_mud_18 : decode cX11_mud 18 = .ok (.iaload, 1) := by decide +kernel
theorem dX11_mud_19 : decode cX11_mud 19 = .ok (.ifCond .ge 18, 3) := by decide +kernel
theorem dX11_mud_22 : decode cX11_mud 22 = .ok (.aload_n 0, 1) := by decide +kernel
theorem dX11_mud_23 : decode cX11_mud 23 = .ok (.invokevirtual 459, 3) := by decide +kernel
theorem dX11_mud_26 : decode cX11_mud 26 = .ok (.bipush 40, 2) := by decide +kernel
theorem dX11_mud_28 : decode cX11_mud 28 = .ok (.if_icmp .ne 9, 3) := by decide +kernel
theorem dX11_mud_31 : decode cX11_mud 31 = .ok (.aload_n 0, 1) := by decide +kernel
theorem dX11_mud_32 : decode cX11_mud 32 = .ok (.iconst 1, 1) := by decide +kernel
theorem dX11_mud_33 : decode cX11_mud 33 = .ok (.invokevirtual 175, 3) := by decide +kernel
theorem dX11_mud_36 : decode cX11_mud 36 = .ok (.ireturn, 1) := by decide +kernel
theorem dX11_mud_37 : decode cX11_mud 37 = .ok (.aload_n 0, 1) := by decide +kernel
theorem dX11_mud_38 : decode cX11_mud 38 = .ok (.getfield 34, 3) := by decide +kernel
theorem dX11_mud_41 : decode cX11_mud 41 = .ok (.iload_n 1, 1) := by decide +kernel
theorem dX11_mud_42 : decode cX11_mud 42 = .ok (.iload_n 2, 1) := by decide +kernel
theorem dX11_mud_43 : decode cX11_mud 43 = .ok (.ifCond .eq 7, 3) := by decide +kernel
theorem dX11_mud_46 : decode cX11_mud 46 = .ok (.iconst 1, 1) := by decide +kernel
theorem dX11_mud_47 : decode cX11_mud 47 = .ok (.goto 4, 3) := by decide +kernel
theorem dX11_mud_50 : decode cX11_mud 50 = .ok (.iconst 0, 1) := by decide +kernel
theorem dX11_mud_51 : decode cX11_mud 51 = .ok (.iastore, 1) := by decide +kernel
theorem dX11_mud_52 : decode cX11_mud 52 = .ok (.aload_n 0, 1) := by decide +kernel
theorem dX11_mud_53 : decode cX11_mud 53 = .ok (.invokevirtual 459, 3) := by decide +kernel
theorem dX11_mud_56 : decode cX11_mud 56 = .ok (.ireturn, 1) := by decide +kernel
theorem dX11_height_0 : decode cX11_height 0 = .ok (.iload_n 1, 1) := by decide +kernel
theorem dX11_height_1 : decode cX11_height 1 = .ok (.iconst 1, 1) := by decide +kernel
theorem dX11_height_2 : decode cX11_height 2 = .ok (.iload_n 2, 1) := by decide +kernel
theorem dX11_height_3 : decode cX11_height 3 = .ok (.invokestatic 453, 3) := by decide +kernel
theorem dX11_height_6 : decode cX11_height 6 = .ok (.ifCond .eq 12, 3) := by decide +kernel
theorem dX11_height_9 : decode cX11_height 9 = .ok (.iload_n 3, 1) := by decide +kernel
theorem dX11_height_10 : decode cX11_height 10 = .ok (.iconst 0, 1) := by decide +kernel
theorem dX11_height_11 : decode cX11_height 11 = .ok (.iconst 2, 1) := by decide +kernel
theorem dX11_height_12 : decode cX11_height 12 = .ok (.invokestatic 183, 3) := by decide +kernel
theorem dX11_height_15 : decode cX11_height 15 = .ok (.ifCond .ne 5, 3) := by decide +kernel
theorem dX11_height_18 : decode cX11_height 18 = .ok (.iconst (-1), 1) := by decide +kernel
theorem dX11_height_19 : decode cX11_height 19 = .ok (.ireturn, 1) := by decide +kernel
theorem dX11_height_20 : decode cX11_height 20 = .ok (.aload_n 0, 1) := by decide +kernel
theorem dX11_height_21 : decode cX11_height 21 = .ok (.iload_n 1, 1) := by decide +kernel
theorem dX11_height_22 : decode cX11_height 22 = .ok (.invokevirtual 385, 3) := by decide +kernel
theorem dX11_height_25 : decode cX11_height 25 = .ok (.iconst (-1), 1) := by decide +kernel
theorem dX11_height_26 : decode cX11_height 26 = .ok (.istore 4, 2) := by decide +kernel
theorem dX11_height_28 : decode cX11_height 28 = .ok (.iconst (-1), 1) := by decide +kernel
theorem dX11_height_29 : decode cX11_height 29 = .ok (.istore 5, 2) := by decide +kernel
theorem dX11_height_31 : decode cX11_height 31 = .ok (.iconst 0, 1) := by decide +kernel
theorem dX11_height_32 : decode cX11_height 32 = .ok (.istore 6, 2) := by decide +kernel
theorem dX11_height_34 : decode cX11_height 34 = .ok (.iconst 1, 1) := by decide +kernel
theorem dX11_height_35 : decode cX11_height 35 = .ok (.istore 7, 2) := by decide +kernel
theorem dX11_height_37 : decode cX11_height 37 = .ok (.iload 7, 2) := by decide +kernel
theorem dX11_height_39 : decode cX11_height 39 = .ok (.bipush 99, 2) := by decide +kernel
theorem dX11_height_41 : decode cX11_height 41 = .ok (.if_icmp .gt 123, 3) := by decide +kernel
theorem dX11_height_44 : decode cX11_height 44 = .ok (.iconst 1, 1) := by decide +kernel
theorem dX11_height_45 : decode cX11_height 45 = .ok (.istore 8, 2) := by decide +kernel
theorem dX11_height_47 : decode cX11_height 47 = .ok (.iconst 0, 1) := by decide +kernel
theorem dX11_height_48 : decode cX11_height 48 = .ok (.istore 9, 2) := by decide +kernel
theorem dX11_height_50 : decode cX11_height 50 = .ok (.iload 9, 2) := by decide +kernel
theorem dX11_height_52 : decode cX11_height 52 = .ok (.sipush 256, 3) := by decide +kernel
theorem dX11_height_55 : decode cX11_height 55 = .ok (.if_icmp .ge 79, 3) := by decide +kernel
theorem dX11_height_58 : decode cX11_height 58 = .ok (.iload 8, 2) := by decide +kernel
theorem dX11_height_60 : decode cX11_height 60 = .ok (.ifCond .eq 74, 3) := by decide +kernel
theorem dX11_height_63 : decode cX11_height 63 = .ok (.aload_n 0, 1) := by decide +kernel
theorem dX11_height_64 : decode cX11_height 64 = .ok (.getfield 34, 3) := by decide +kernel
theorem dX11_height_67 : decode cX11_height 67 = .ok (.iload 9, 2) := by decide +kernel
theorem dX11_height_69 : decode cX11_height 69 = .ok (.iaload, 1) := by decide +kernel
theorem dX11_height_70 : decode cX11_height 70 = .ok (.ifCond .lt 51, 3) := by decide +kernel
theorem dX11_height_73 : decode cX11_height 73 = .ok (.aload_n 0, 1) := by decide +kernel
theorem dX11_height_74 : decode cX11_height 74 = .ok (.getfield 34, 3) := by decide +kernel
theorem dX11_height_77 : decode cX11_height 77 = .ok (.iload 9, 2) := by decide +kernel
theorem dX11_height_79 : decode cX11_height 79 = .ok (.iaload, 1) := by decide +kernel
theorem dX11_height_80 : decode cX11_height 80 = .ok (.iconst 1, 1) := by decide +kernel
theorem dX11_height_81 : decode cX11_height 81 = .ok (.if_icmp .ne 28, 3) := by decide +kernel
theorem dX11_height_84 : decode cX11_height 84 = .ok (.aload_n 0, 1) := by decide +kernel
theorem dX11_height_85 : decode cX11_height 85 = .ok (.getfield 139, 3) := by decide +kernel
theorem dX11_height_88 : decode cX11_height 88 = .ok (.iload 9, 2) := by decide +kernel
theorem dX11_height_90 : decode cX11_height 90 = .ok (.baload, 1) := by decide +kernel
theorem dX11_height_91 : decode cX11_height 91 = .ok (.ifCond .eq 30, 3) := by decide +kernel
theorem dX11_height_94 : decode cX11_height 94 = .ok (.aload_n 0, 1) := by decide +kernel
theorem dX11_height_95 : decode cX11_height 95 = .ok (.iload 9, 2) := by decide +kernel
theorem dX11_height_97 : decode cX11_height 97 = .ok (.iload 7, 2) := by decide +kernel
theorem dX11_height_99 : decode cX11_height 99 = .ok (.iload_n 2, 1) := by decide +kernel
theorem dX11_height_100 : decode cX11_height 100 = .ok (.invokevirtual 456, 3) := by decide +kernel
theorem dX11_height_103 : decode cX11_height 103 = .ok (.ifCond .eq 22, 3) := by decide +kernel
theorem dX11_height_106 : decode cX11_height 106 = .ok (.goto 15, 3) := by decide +kernel
theorem dX11_height_109 : decode cX11_height 109 = .ok (.aload_n 0, 1) := by decide +kernel
theorem dX11_height_110 : decode cX11_height 110 = .ok (.iload 9, 2) := by decide +kernel
theorem dX11_height_112 : decode cX11_height 112 = .ok (.iload 7, 2) := by decide +kernel
theorem dX11_height_114 : decode cX11_height 114 = .ok (.iload_n 2, 1) := by decide +kernel
theorem dX11_height_115 : decode cX11_height 115 = .ok (.invokevirtual 456, 3) := by decide +kernel
theorem dX11_height_118 : decode cX11_height 118 = .ok (.ifCond .ne 7, 3) := by decide +kernel
theorem dX11_height_121 : decode cX11_height 121 = .ok (.iconst 1, 1) := by decide +kernel
theorem dX11_height_122 : decode cX11_height 122 = .ok (.goto 4, 3) := by decide +kernel
theorem dX11_height_125 : decode cX11_height 125 = .ok (.iconst 0, 1) := by decide +kernel
theorem dX11_height_126 : decode cX11_height 126 = .ok (.istore 8, 2) := by decide +kernel
theorem dX11_height_128 : decode cX11_height 128 = .ok (.iinc 9 1, 3) := by decide +kernel
theorem dX11_height_131 : decode cX11_height 131 = .ok (.goto (-81), 3) := by decide +kernel
theorem dX11_height_134 : decode cX11_height 134 = .ok (.iload 8, 2) := by decide +kernel
theorem dX11_height_136 : decode cX11_height 136 = .ok (.ifCond .ne 6, 3) := by decide +kernel
theorem dX11_height_139 : decode cX11_height 139 = .ok (.goto 19, 3) := by decide +kernel
theorem dX11_height_142 : decode cX11_height 142 = .ok (.iload 4, 2) := by decide +kernel
theorem dX11_height_144 : decode cX11_height 144 = .ok (.ifCond .ge 7, 3) := by decide +kernel
theorem dX11_height_147 : decode cX11_height 147 = .ok (.iload 7, 2) := by decide +kernel
theorem dX11_height_149 : decode cX11_height 149 = .ok (.istore 4, 2) := by decide +kernel
theorem dX11_height_151 : decode cX11_height 151 = .ok (.iload 7, 2) := by decide +kernel
theorem dX11_height_153 : decode cX11_height 153 = .ok (.istore 5, 2) := by decide +kernel
theorem dX11_height_155 : decode cX11_height 155 = .ok (.iinc 6 1, 3) := by decide +kernel
theorem dX11_height_158 : decode cX11_height 158 = .ok (.iinc 7 1, 3) := by decide +kernel
theorem dX11_height_161 : decode cX11_height 161 = .ok (.goto (-124), 3) := by decide +kernel
theorem dX11_height_164 : decode cX11_height 164 = .ok (.iload_n 3, 1) := by decide +kernel
theorem dX11_height_165 : decode cX11_height 165 = .ok (.ifCond .ne 8, 3) := by decide +kernel
theorem dX11_height_168 : decode cX11_height 168 = .ok (.iload 4, 2) := by decide +kernel
theorem dX11_height_170 : decode cX11_height 170 = .ok (.goto 15, 3) := by decide +kernel
theorem dX11_height_173 : decode cX11_height 173 = .ok (.iload_n 3, 1) := by decide +kernel
theorem dX11_height_174 : decode cX11_height 174 = .ok (.iconst 1, 1) := by decide +kernel
theorem dX11_height_175 : decode cX11_height 175 = .ok (.if_icmp .ne 8, 3) := by decide +kernel
theorem dX11_height_178 : decode cX11_height 178 = .ok (.iload 5, 2) := by decide +kernel
theorem dX11_height_180 : decode cX11_height 180 = .ok (.goto 5, 3) := by decide +kernel
theorem dX11_height_183 : decode cX11_height 183 = .ok (.iload 6, 2) := by decide +kernel
theorem dX11_height_185 : decode cX11_height 185 = .ok (.ireturn, 1) := by decide +kernel
theorem dX11_place_0 : decode cX11_place 0 = .ok (.iload_n 1, 1) := by decide +kernel
theorem dX11_place_1 : decode cX11_place 1 = .ok (.invokestatic 191, 3) := by decide +kernel
theorem dX11_place_4 : decode cX11_place 4 = .ok (.ifCond .eq 11, 3) := by decide +kernel
theorem dX11_place_7 : decode cX11_place 7 = .ok (.aload_n 0, 1) := by decide +kernel
theorem dX11_place_8 : decode cX11_place 8 = .ok (.iload_n 1, 1) := by decide +kernel
theorem dX11_place_9 : decode cX11_place 9 = .ok (.invokevirtual 382, 3) := by decide +kernel
theorem dX11_place_12 : decode cX11_place 12 = .ok (.ifCond .eq 9, 3) := by decide +kernel
theorem dX11_place_15 : decode cX11_place 15 = .ok (.aload_n 0, 1) := by decide +kernel
theorem dX11_place_16 : decode cX11_place 16 = .ok (.iconst 0, 1) := by decide +kernel
theorem dX11_place_17 : decode cX11_place 17 = .ok (.invokevirtual 175, 3) := by decide +kernel
theorem dX11_place_20 : decode cX11_place 20 = .ok (.ireturn, 1) := by decide +kernel
theorem dX11_place_21 : decode cX11_place 21 = .ok (.aload_n 0, 1) := by decide +kernel
theorem dX11_place_22 : decode cX11_place 22 = .ok (.getfield 19, 3) := by decide +kernel
theorem dX11_place_25 : decode cX11_place 25 = .ok (.iconst 0, 1) := by decide +kernel
theorem dX11_place_26 : decode cX11_place 26 = .ok (.iaload, 1) := by decide +kernel
theorem dX11_place_27 : decode cX11_place 27 = .ok (.bipush 10, 2) := by decide +kernel
theorem dX11_place_29 : decode cX11_place 29 = .ok (.if_icmp .ne 9, 3) := by decide +kernel
theorem dX11_place_32 : decode cX11_place 32 = .ok (.aload_n 0, 1) := by decide +kernel
theorem dX11_place_33 : decode cX11_place 33 = .ok (.iconst 1, 1) := by decide +kernel
theorem dX11_place_34 : decode cX11_place 34 = .ok (.invokevirtual 175, 3) := by decide +kernel
theorem dX11_place_37 : decode cX11_place 37 = .ok (.ireturn, 1) := by decide +kernel
theorem dX11_place_38 : decode cX11_place 38 = .ok (.aload_n 0, 1) := by decide +kernel
theorem dX11_place_39 : decode cX11_place 39 = .ok (.getfield 52, 3) := by decide +kernel
theorem dX11_place_42 : decode cX11_place 42 = .ok (.aload_n 0, 1) := by decide +kernel
theorem dX11_place_43 : decode cX11_place 43 = .ok (.getfield 19, 3) := by decide +kernel
theorem dX11_place_46 : decode cX11_place 46 = .ok (.iconst 0, 1) := by decide +kernel
theorem dX11_place_47 : decode cX11_place 47 = .ok (.iaload, 1) := by decide +kernel
theorem dX11_place_48 : decode cX11_place 48 = .ok (.iload_n 1, 1) := by decide +kernel
theorem dX11_place_49 : decode cX11_place 49 = .ok (.iastore, 1) := by decide +kernel
theorem dX11_place_50 : decode cX11_place 50 = .ok (.aload_n 0, 1) := by decide +kernel
theorem dX11_place_51 : decode cX11_place 51 = .ok (.getfield 19, 3) := by decide +kernel
theorem dX11_place_54 : decode cX11_place 54 = .ok (.iconst 0, 1) := by decide +kernel
theorem dX11_place_55 : decode cX11_place 55 = .ok (.dup2, 1) := by decide +kernel
theorem dX11_place_56 : decode cX11_place 56 = .ok (.iaload, 1) := by decide +kernel
theorem dX11_place_57 : decode cX11_place 57 = .ok (.iconst 1, 1) := by decide +kernel
theorem dX11_place_58 : decode cX11_place 58 = .ok (.iadd, 1) := by decide +kernel
theorem dX11_place_59 : decode cX11_place 59 = .ok (.iastore, 1) := by decide +kernel
theorem dX11_place_60 : decode cX11_place 60 = .ok (.aload_n 0, 1) := by decide +kernel
theorem dX11_place_61 : decode cX11_place 61 = .ok (.getfield 19, 3) := by decide +kernel
theorem dX11_place_64 : decode cX11_place 64 = .ok (.iconst 0, 1) := by decide +kernel
theorem dX11_place_65 : decode cX11_place 65 = .ok (.iaload, 1) := by decide +kernel
theorem dX11_place_66 : decode cX11_place 66 = .ok (.iconst 1, 1) := by decide +kernel
theorem dX11_place_67 : decode cX11_place 67 = .ok (.isub, 1) := by decide +kernel
theorem dX11_place_68 : decode cX11_place 68 = .ok (.ireturn, 1) := by decide +kernel
theorem dX11_leaves_0 : decode cX11_leaves 0 = .ok (.ldc2_w 462, 3) := by decide +kernel
theorem dX11_leaves_3 : decode cX11_leaves 3 = .ok (.lstore_n 2, 1) := by decide +kernel
theorem dX11_leaves_4 : decode cX11_leaves 4 = .ok (.iconst 0, 1) := by decide +kernel
theorem dX11_leaves_5 : decode cX11_leaves 5 = .ok (.istore 4, 2) := by decide +kernel
theorem dX11_leaves_7 : decode cX11_leaves 7 = .ok (.iload 4, 2) := by decide +kernel
theorem dX11_leaves_9 : decode cX11_leaves 9 = .ok (.aload_n 0, 1) := by decide +kernel
theorem dX11_leaves_10 : decode cX11_leaves 10 = .ok (.getfield 19, 3) := by decide +kernel
theorem dX11_leaves_13 : decode cX11_leaves 13 = .ok (.iconst 0, 1) := by decide +kernel
theorem dX11_leaves_14 : decode cX11_leaves 14 = .ok (.iaload, 1) := by decide +kernel
theorem dX11_leaves_15 : decode cX11_leaves 15 = .ok (.if_icmp .ge 68, 3) := by decide +kernel
theorem dX11_leaves_18 : decode cX11_leaves 18 = .ok (.lload_n 2, 1) := by decide +kernel
theorem dX11_leaves_19 : decode cX11_leaves 19 = .ok (.ldc2_w 462, 3) := by decide +kernel
theorem dX11_leaves_22 : decode cX11_leaves 22 = .ok (.aload_n 0, 1) := by decide +kernel
theorem dX11_leaves_23 : decode cX11_leaves 23 = .ok (.getfield 154, 3) := by decide +kernel
theorem dX11_leaves_26 : decode cX11_leaves 26 = .ok (.iload 4, 2) := by decide +kernel
theorem dX11_leaves_28 : decode cX11_leaves 28 = .ok (.iaload, 1) := by decide +kernel
theorem dX11_leaves_29 : decode cX11_leaves 29 = .ok (.i2l, 1) := by decide +kernel
theorem dX11_leaves_30 : decode cX11_leaves 30 = .ok (.lsub, 1) := by decide +kernel
theorem dX11_leaves_31 : decode cX11_leaves 31 = .ok (.aload_n 0, 1) := by decide +kernel
theorem dX11_leaves_32 : decode cX11_leaves 32 = .ok (.getfield 154, 3) := by decide +kernel
theorem dX11_leaves_35 : decode cX11_leaves 35 = .ok (.iload 4, 2) := by decide +kernel
theorem dX11_leaves_37 : decode cX11_leaves 37 = .ok (.iaload, 1) := by decide +kernel
theorem dX11_leaves_38 : decode cX11_leaves 38 = .ok (.i2l, 1) := by decide +kernel
theorem dX11_leaves_39 : decode cX11_leaves 39 = .ok (.ldc2_w 441, 3) := by decide +kernel
theorem dX11_leaves_42 : decode cX11_leaves 42 = .ok (.iload_n 1, 1) := by decide +kernel
theorem dX11_leaves_43 : decode cX11_leaves 43 = .ok (.i2l, 1) := by decide +kernel
theorem dX11_leaves_44 : decode cX11_leaves 44 = .ok (.lsub, 1) := by decide +kernel
theorem dX11_leaves_45 : decode cX11_leaves 45 = .ok (.aload_n 0, 1) := by decide +kernel
theorem dX11_leaves_46 : decode cX11_leaves 46 = .ok (.getfield 157, 3) := by decide +kernel
theorem dX11_leaves_49 : decode cX11_leaves 49 = .ok (.iload 4, 2) := by decide +kernel
theorem dX11_leaves_51 : decode cX11_leaves 51 = .ok (.iaload, 1) := by decide +kernel
theorem dX11_leaves_52 : decode cX11_leaves 52 = .ok (.invokestatic 437, 3) := by decide +kernel
theorem dX11_leaves_55 : decode cX11_leaves 55 = .ok (.lmul, 1) := by decide +kernel
theorem dX11_leaves_56 : decode cX11_leaves 56 = .ok (.ldc2_w 441, 3) := by decide +kernel
theorem dX11_leaves_59 : decode cX11_leaves 59 = .ok (.aload_n 0, 1) := by decide +kernel
theorem dX11_leaves_60 : decode cX11_leaves 60 = .ok (.getfield 157, 3) := by decide +kernel
theorem dX11_leaves_63 : decode cX11_leaves 63 = .ok (.iload 4, 2) := by decide +kernel
theorem dX11_leaves_65 : decode cX11_leaves 65 = .ok (.iaload, 1) := by decide +kernel
theorem dX11_leaves_66 : decode cX11_leaves 66 = .ok (.invokestatic 437, 3) := by decide +kernel
theorem dX11_leaves_69 : decode cX11_leaves 69 = .ok (.ldiv, 1) := by decide +kernel
theorem dX11_leaves_70 : decode cX11_leaves 70 = .ok (.ladd, 1) := by decide +kernel
theorem dX11_leaves_71 : decode cX11_leaves 71 = .ok (.lmul, 1) := by decide +kernel
theorem dX11_leaves_72 : decode cX11_leaves 72 = .ok (.ldc2_w 462, 3) := by decide +kernel
theorem dX11_leaves_75 : decode cX11_leaves 75 = .ok (.ldiv, 1) := by decide +kernel
theorem dX11_leaves_76 : decode cX11_leaves 76 = .ok (.lstore_n 2, 1) := by decide +kernel
theorem dX11_leaves_77 : decode cX11_leaves 77 = .ok (.iinc 4 1, 3) := by decide +kernel
theorem dX11_leaves_80 : decode cX11_leaves 80 = .ok (.goto (-73), 3) := by decide +kernel
theorem dX11_leaves_83 : decode cX11_leaves 83 = .ok (.lload_n 2, 1) := by decide +kernel
theorem dX11_leaves_84 : decode cX11_leaves 84 = .ok (.lreturn, 1) := by decide +kernel
theorem dX11_goesOn_0 : decode cX11_goesOn 0 = .ok (.aload_n 0, 1) := by decide +kernel
theorem dX11_goesOn_1 : decode cX11_goesOn 1 = .ok (.getfield 19, 3) := by decide +kernel
theorem dX11_goesOn_4 : decode cX11_goesOn 4 = .ok (.iconst 0, 1) := by decide +kernel
theorem dX11_goesOn_5 : decode cX11_goesOn 5 = .ok (.iaload, 1) := by decide +kernel
theorem dX11_goesOn_6 : decode cX11_goesOn 6 = .ok (.iconst 1, 1) := by decide +kernel
theorem dX11_goesOn_7 : decode cX11_goesOn 7 = .ok (.isub, 1) := by decide +kernel
theorem dX11_goesOn_8 : decode cX11_goesOn 8 = .ok (.istore_n 1, 1) := by decide +kernel
theorem dX11_goesOn_9 : decode cX11_goesOn 9 = .ok (.iload_n 1, 1) := by decide +kernel
theorem dX11_goesOn_10 : decode cX11_goesOn 10 = .ok (.iconst 1, 1) := by decide +kernel
theorem dX11_goesOn_11 : decode cX11_goesOn 11 = .ok (.isub, 1) := by decide +kernel
theorem dX11_goesOn_12 : decode cX11_goesOn 12 = .ok (.istore_n 2, 1) := by decide +kernel
theorem dX11_goesOn_13 : decode cX11_goesOn 13 = .ok (.iload_n 2, 1) := by decide +kernel
theorem dX11_goesOn_14 : decode cX11_goesOn 14 = .ok (.ifCond .lt 18, 3) := by decide +kernel
theorem dX11_goesOn_17 : decode cX11_goesOn 17 = .ok (.aload_n 0, 1) := by decide +kernel
theorem dX11_goesOn_18 : decode cX11_goesOn 18 = .ok (.getfield 157, 3) := by decide +kernel
theorem dX11_goesOn_21 : decode cX11_goesOn 21 = .ok (.iload_n 2, 1) := by decide +kernel
theorem dX11_goesOn_22 : decode cX11_goesOn 22 = .ok (.iaload, 1) := by decide +kernel
theorem dX11_goesOn_23 : decode cX11_goesOn 23 = .ok (.ifCond .ne 9, 3) := by decide +kernel
theorem dX11_goesOn_26 : decode cX11_goesOn 26 = .ok (.iinc 2 (-1), 3) := by decide +kernel
theorem dX11_goesOn_29 : decode cX11_goesOn 29 = .ok (.goto (-16), 3) := by decide +kernel
theorem dX11_goesOn_32 : decode cX11_goesOn 32 = .ok (.iload_n 2, 1) := by decide +kernel
theorem dX11_goesOn_33 : decode cX11_goesOn 33 = .ok (.ifCond .ge 5, 3) := by decide +kernel
theorem dX11_goesOn_36 : decode cX11_goesOn 36 = .ok (.iconst 0, 1) := by decide +kernel
theorem dX11_goesOn_37 : decode cX11_goesOn 37 = .ok (.ireturn, 1) := by decide +kernel
theorem dX11_goesOn_38 : decode cX11_goesOn 38 = .ok (.aload_n 0, 1) := by decide +kernel
theorem dX11_goesOn_39 : decode cX11_goesOn 39 = .ok (.getfield 157, 3) := by decide +kernel
theorem dX11_goesOn_42 : decode cX11_goesOn 42 = .ok (.iload_n 1, 1) := by decide +kernel
theorem dX11_goesOn_43 : decode cX11_goesOn 43 = .ok (.iaload, 1) := by decide +kernel
theorem dX11_goesOn_44 : decode cX11_goesOn 44 = .ok (.istore_n 3, 1) := by decide +kernel
theorem dX11_goesOn_45 : decode cX11_goesOn 45 = .ok (.aload_n 0, 1) := by decide +kernel
theorem dX11_goesOn_46 : decode cX11_goesOn 46 = .ok (.getfield 157, 3) := by decide +kernel
theorem dX11_goesOn_49 : decode cX11_goesOn 49 = .ok (.iload_n 1, 1) := by decide +kernel
theorem dX11_goesOn_50 : decode cX11_goesOn 50 = .ok (.iconst 0, 1) := by decide +kernel
theorem dX11_goesOn_51 : decode cX11_goesOn 51 = .ok (.iastore, 1) := by decide +kernel
theorem dX11_goesOn_52 : decode cX11_goesOn 52 = .ok (.aload_n 0, 1) := by decide +kernel
theorem dX11_goesOn_53 : decode cX11_goesOn 53 = .ok (.getfield 157, 3) := by decide +kernel
theorem dX11_goesOn_56 : decode cX11_goesOn 56 = .ok (.iload_n 2, 1) := by decide +kernel
theorem dX11_goesOn_57 : decode cX11_goesOn 57 = .ok (.dup2, 1) := by decide +kernel
theorem dX11_goesOn_58 : decode cX11_goesOn 58 = .ok (.iaload, 1) := by decide +kernel
theorem dX11_goesOn_59 : decode cX11_goesOn 59 = .ok (.iconst 1, 1) := by decide +kernel
theorem dX11_goesOn_60 : decode cX11_goesOn 60 = .ok (.isub, 1) := by decide +kernel
theorem dX11_goesOn_61 : decode cX11_goesOn 61 = .ok (.iastore, 1) := by decide +kernel
theorem dX11_goesOn_62 : decode cX11_goesOn 62 = .ok (.aload_n 0, 1) := by decide +kernel
theorem dX11_goesOn_63 : decode cX11_goesOn 63 = .ok (.getfield 157, 3) := by decide +kernel
theorem dX11_goesOn_66 : decode cX11_goesOn 66 = .ok (.iload_n 2, 1) := by decide +kernel
theorem dX11_goesOn_67 : decode cX11_goesOn 67 = .ok (.iconst 1, 1) := by decide +kernel
theorem dX11_goesOn_68 : decode cX11_goesOn 68 = .ok (.iadd, 1) := by decide +kernel
theorem dX11_goesOn_69 : decode cX11_goesOn 69 = .ok (.iload_n 3, 1) := by decide +kernel
theorem dX11_goesOn_70 : decode cX11_goesOn 70 = .ok (.iconst 1, 1) := by decide +kernel
theorem dX11_goesOn_71 : decode cX11_goesOn 71 = .ok (.iadd, 1) := by decide +kernel
theorem dX11_goesOn_72 : decode cX11_goesOn 72 = .ok (.iastore, 1) := by decide +kernel
theorem dX11_goesOn_73 : decode cX11_goesOn 73 = .ok (.iconst 1, 1) := by decide +kernel
theorem dX11_goesOn_74 : decode cX11_goesOn 74 = .ok (.ireturn, 1) := by decide +kernel
theorem dX11_ship_0 : decode cX11_ship 0 = .ok (.iload_n 1, 1) := by decide +kernel
theorem dX11_ship_1 : decode cX11_ship 1 = .ok (.iconst 1, 1) := by decide +kernel
theorem dX11_ship_2 : decode cX11_ship 2 = .ok (.bipush 6, 2) := by decide +kernel
theorem dX11_ship_4 : decode cX11_ship 4 = .ok (.invokestatic 183, 3) := by decide +kernel
theorem dX11_ship_7 : decode cX11_ship 7 = .ok (.ifCond .eq 41, 3) := by decide +kernel
theorem dX11_ship_10 : decode cX11_ship 10 = .ok (.iload_n 2, 1) := by decide +kernel
theorem dX11_ship_11 : decode cX11_ship 11 = .ok (.invokestatic 335, 3) := by decide +kernel
theorem dX11_ship_14 : decode cX11_ship 14 = .ok (.ifCond .eq 34, 3) := by decide +kernel
theorem dX11_ship_17 : decode cX11_ship 17 = .ok (.aload_n 0, 1) := by decide +kernel
theorem dX11_ship_18 : decode cX11_ship 18 = .ok (.getfield 19, 3) := by decide +kernel
theorem dX11_ship_21 : decode cX11_ship 21 = .ok (.iconst 0, 1) := by decide +kernel
theorem dX11_ship_22 : decode cX11_ship 22 = .ok (.iaload, 1) := by decide +kernel
theorem dX11_ship_23 : decode cX11_ship 23 = .ok (.ifCond .eq 25, 3) := by decide +kernel
theorem dX11_ship_26 : decode cX11_ship 26 = .ok (.iload_n 3, 1) := by decide +kernel
theorem dX11_ship_27 : decode cX11_ship 27 = .ok (.ifCond .eq 23, 3) := by decide +kernel
theorem dX11_ship_30 : decode cX11_ship 30 = .ok (.iload_n 3, 1) := by decide +kernel
theorem dX11_ship_31 : decode cX11_ship 31 = .ok (.bipush 10, 2) := by decide +kernel
theorem dX11_ship_33 : decode cX11_ship 33 = .ok (.bipush 9, 2) := by decide +kernel
theorem dX11_ship_35 : decode cX11_ship 35 = .ok (.aload_n 0, 1) := by decide +kernel
theorem dX11_ship_36 : decode cX11_ship 36 = .ok (.getfield 19, 3) := by decide +kernel
theorem dX11_ship_39 : decode cX11_ship 39 = .ok (.iconst 0, 1) := by decide +kernel
theorem dX11_ship_40 : decode cX11_ship 40 = .ok (.iaload, 1) := by decide +kernel
theorem dX11_ship_41 : decode cX11_ship 41 = .ok (.iadd, 1) := by decide +kernel
theorem dX11_ship_42 : decode cX11_ship 42 = .ok (.invokestatic 183, 3) := by decide +kernel
theorem dX11_ship_45 : decode cX11_ship 45 = .ok (.ifCond .ne 5, 3) := by decide +kernel
theorem dX11_ship_48 : decode cX11_ship 48 = .ok (.iconst (-1), 1) := by decide +kernel
theorem dX11_ship_49 : decode cX11_ship 49 = .ok (.ireturn, 1) := by decide +kernel
theorem dX11_ship_50 : decode cX11_ship 50 = .ok (.aload_n 0, 1) := by decide +kernel
theorem dX11_ship_51 : decode cX11_ship 51 = .ok (.iload_n 2, 1) := by decide +kernel
theorem dX11_ship_52 : decode cX11_ship 52 = .ok (.invokevirtual 385, 3) := by decide +kernel
theorem dX11_ship_55 : decode cX11_ship 55 = .ok (.iconst 0, 1) := by decide +kernel
theorem dX11_ship_56 : decode cX11_ship 56 = .ok (.istore 4, 2) := by decide +kernel
theorem dX11_ship_58 : decode cX11_ship 58 = .ok (.iload 4, 2) := by decide +kernel
theorem dX11_ship_60 : decode cX11_ship 60 = .ok (.aload_n 0, 1) := by decide +kernel
theorem dX11_ship_61 : decode cX11_ship 61 = .ok (.getfield 19, 3) := by decide +kernel
theorem dX11_ship_64 : decode cX11_ship 64 = .ok (.iconst 0, 1) := by decide +kernel
theorem dX11_ship_65 : decode cX11_ship 65 = .ok (.iaload, 1) := by decide +kernel
theorem dX11_ship_66 : decode cX11_ship 66 = .ok (.if_icmp .ge 58, 3) := by decide +kernel
theorem dX11_ship_69 : decode cX11_ship 69 = .ok (.aload_n 0, 1) := by decide +kernel
theorem dX11_ship_70 : decode cX11_ship 70 = .ok (.aload_n 0, 1) := by decide +kernel
theorem dX11_ship_71 : decode cX11_ship 71 = .ok (.getfield 52, 3) := by decide +kernel
theorem dX11_ship_74 : decode cX11_ship 74 = .ok (.iload 4, 2) := by decide +kernel
theorem dX11_ship_76 : decode cX11_ship 76 = .ok (.iaload, 1) := by decide +kernel
theorem dX11_ship_77 : decode cX11_ship 77 = .ok (.invokevirtual 443, 3) := by decide +kernel
theorem dX11_ship_80 : decode cX11_ship 80 = .ok (.aload_n 0, 1) := by decide +kernel
theorem dX11_ship_81 : decode cX11_ship 81 = .ok (.getfield 154, 3) := by decide +kernel
theorem dX11_ship_84 : decode cX11_ship 84 = .ok (.iload 4, 2) := by decide +kernel
theorem dX11_ship_86 : decode cX11_ship 86 = .ok (.aload_n 0, 1) := by decide +kernel
theorem dX11_ship_87 : decode cX11_ship 87 = .ok (.getfield 428, 3) := by decide +kernel
theorem dX11_ship_90 : decode cX11_ship 90 = .ok (.ldc2_w 462, 3) := by decide +kernel
theorem dX11_ship_93 : decode cX11_ship 93 = .ok (.lmul, 1) := by decide +kernel
theorem dX11_ship_94 : decode cX11_ship 94 = .ok (.aload_n 0, 1) := by decide +kernel
theorem dX11_ship_95 : decode cX11_ship 95 = .ok (.getfield 431, 3) := by decide +kernel
theorem dX11_ship_98 : decode cX11_ship 98 = .ok (.ldiv, 1) := by decide +kernel
theorem dX11_ship_99 : decode cX11_ship 99 = .ok (.l2i, 1) := by decide +kernel
theorem dX11_ship_100 : decode cX11_ship 100 = .ok (.iastore, 1) := by decide +kernel
theorem dX11_ship_101 : decode cX11_ship 101 = .ok (.aload_n 0, 1) := by decide +kernel
theorem dX11_ship_102 : decode cX11_ship 102 = .ok (.getfield 157, 3) := by decide +kernel
theorem dX11_ship_105 : decode cX11_ship 105 = .ok (.iload 4, 2) := by decide +kernel
theorem dX11_ship_107 : decode cX11_ship 107 = .ok (.iload 4, 2) := by decide +kernel
theorem dX11_ship_109 : decode cX11_ship 109 = .ok (.ifCond .ne 7, 3) := by decide +kernel
theorem dX11_ship_112 : decode cX11_ship 112 = .ok (.iload_n 1, 1) := by decide +kernel
theorem dX11_ship_113 : decode cX11_ship 113 = .ok (.goto 4, 3) := by decide +kernel
theorem dX11_ship_116 : decode cX11_ship 116 = .ok (.iconst 0, 1) := by decide +kernel
theorem dX11_ship_117 : decode cX11_ship 117 = .ok (.iastore, 1) := by decide +kernel
theorem dX11_ship_118 : decode cX11_ship 118 = .ok (.iinc 4 1, 3) := by decide +kernel
theorem dX11_ship_121 : decode cX11_ship 121 = .ok (.goto (-63), 3) := by decide +kernel
theorem dX11_ship_124 : decode cX11_ship 124 = .ok (.ldc2_w 211, 3) := by decide +kernel
theorem dX11_ship_127 : decode cX11_ship 127 = .ok (.lstore 4, 2) := by decide +kernel
theorem dX11_ship_129 : decode cX11_ship 129 = .ok (.iconst 1, 1) := by decide +kernel
theorem dX11_ship_130 : decode cX11_ship 130 = .ok (.istore 6, 2) := by decide +kernel
theorem dX11_ship_132 : decode cX11_ship 132 = .ok (.iload 6, 2) := by decide +kernel
theorem dX11_ship_134 : decode cX11_ship 134 = .ok (.ifCond .eq 75, 3) := by decide +kernel
theorem dX11_ship_137 : decode cX11_ship 137 = .ok (.aload_n 0, 1) := by decide +kernel
theorem dX11_ship_138 : decode cX11_ship 138 = .ok (.aload_n 0, 1) := by decide +kernel
theorem dX11_ship_139 : decode cX11_ship 139 = .ok (.invokevirtual 434, 3) := by decide +kernel
theorem dX11_ship_142 : decode cX11_ship 142 = .ok (.invokevirtual 464, 3) := by decide +kernel
theorem dX11_ship_145 : decode cX11_ship 145 = .ok (.lstore 7, 2) := by decide +kernel
theorem dX11_ship_147 : decode cX11_ship 147 = .ok (.lload 4, 2) := by decide +kernel
theorem dX11_ship_149 : decode cX11_ship 149 = .ok (.lconst 0, 1) := by decide +kernel
theorem dX11_ship_150 : decode cX11_ship 150 = .ok (.lcmp, 1) := by decide +kernel
theorem dX11_ship_151 : decode cX11_ship 151 = .ok (.ifCond .lt 11, 3) := by decide +kernel
theorem dX11_ship_154 : decode cX11_ship 154 = .ok (.lload 7, 2) := by decide +kernel
theorem dX11_ship_156 : decode cX11_ship 156 = .ok (.lload 4, 2) := by decide +kernel
theorem dX11_ship_158 : decode cX11_ship 158 = .ok (.lcmp, 1) := by decide +kernel
theorem dX11_ship_159 : decode cX11_ship 159 = .ok (.ifCond .ge 41, 3) := by decide +kernel
theorem dX11_ship_162 : decode cX11_ship 162 = .ok (.lload 7, 2) := by decide +kernel
theorem dX11_ship_164 : decode cX11_ship 164 = .ok (.lstore 4, 2) := by decide +kernel
theorem dX11_ship_166 : decode cX11_ship 166 = .ok (.iconst 0, 1) := by decide +kernel
theorem dX11_ship_167 : decode cX11_ship 167 = .ok (.istore 9, 2) := by decide +kernel
theorem dX11_ship_169 : decode cX11_ship 169 = .ok (.iload 9, 2) := by decide +kernel
theorem dX11_ship_171 : decode cX11_ship 171 = .ok (.aload_n 0, 1) := by decide +kernel
theorem dX11_ship_172 : decode cX11_ship 172 = .ok (.getfield 19, 3) := by decide +kernel
theorem dX11_ship_175 : decode cX11_ship 175 = .ok (.iconst 0, 1) := by decide +kernel
theorem dX11_ship_176 : decode cX11_ship 176 = .ok (.iaload, 1) := by decide +kernel
theorem dX11_ship_177 : decode cX11_ship 177 = .ok (.if_icmp .ge 23, 3) := by decide +kernel
theorem dX11_ship_180 : decode cX11_ship 180 = .ok (.aload_n 0, 1) := by decide +kernel
theorem dX11_ship_181 : decode cX11_ship 181 = .ok (.getfield 160, 3) := by decide +kernel
theorem dX11_ship_184 : decode cX11_ship 184 = .ok (.iload 9, 2) := by decide +kernel
theorem dX11_ship_186 : decode cX11_ship 186 = .ok (.aload_n 0, 1) := by decide +kernel
theorem dX11_ship_187 : decode cX11_ship 187 = .ok (.getfield 157, 3) := by decide +kernel
theorem dX11_ship_190 : decode cX11_ship 190 = .ok (.iload 9, 2) := by decide +kernel
theorem dX11_ship_192 : decode cX11_ship 192 = .ok (.iaload, 1) := by decide +kernel
theorem dX11_ship_193 : decode cX11_ship 193 = .ok (.iastore, 1) := by decide +kernel
theorem dX11_ship_194 : decode cX11_ship 194 = .ok (.iinc 9 1, 3) := by decide +kernel
theorem dX11_ship_197 : decode cX11_ship 197 = .ok (.goto (-28), 3) := by decide +kernel
theorem dX11_ship_200 : decode cX11_ship 200 = .ok (.aload_n 0, 1) := by decide +kernel
theorem dX11_ship_201 : decode cX11_ship 201 = .ok (.invokevirtual 468, 3) := by decide +kernel
theorem dX11_ship_204 : decode cX11_ship 204 = .ok (.istore 6, 2) := by decide +kernel
theorem dX11_ship_206 : decode cX11_ship 206 = .ok (.goto (-74), 3) := by decide +kernel
theorem dX11_ship_209 : decode cX11_ship 209 = .ok (.iload_n 3, 1) := by decide +kernel
theorem dX11_ship_210 : decode cX11_ship 210 = .ok (.ifCond .ne 13, 3) := by decide +kernel
theorem dX11_ship_213 : decode cX11_ship 213 = .ok (.ldc2_w 462, 3) := by decide +kernel
theorem dX11_ship_216 : decode cX11_ship 216 = .ok (.lload 4, 2) := by decide +kernel
theorem dX11_ship_218 : decode cX11_ship 218 = .ok (.lsub, 1) := by decide +kernel
theorem dX11_ship_219 : decode cX11_ship 219 = .ok (.l2i, 1) := by decide +kernel
theorem dX11_ship_220 : decode cX11_ship 220 = .ok (.goto 12, 3) := by decide +kernel
theorem dX11_ship_223 : decode cX11_ship 223 = .ok (.aload_n 0, 1) := by decide +kernel
theorem dX11_ship_224 : decode cX11_ship 224 = .ok (.getfield 160, 3) := by decide +kernel
theorem dX11_ship_227 : decode cX11_ship 227 = .ok (.iload_n 3, 1) := by decide +kernel
theorem dX11_ship_228 : decode cX11_ship 228 = .ok (.bipush 10, 2) := by decide +kernel
theorem dX11_ship_230 : decode cX11_ship 230 = .ok (.isub, 1) := by decide +kernel
theorem dX11_ship_231 : decode cX11_ship 231 = .ok (.iaload, 1) := by decide +kernel
theorem dX11_ship_232 : decode cX11_ship 232 = .ok (.ireturn, 1) := by decide +kernel
theorem dX11_quarterOf_0 : decode cX11_quarterOf 0 = .ok (.iload_n 0, 1) := by decide +kernel
theorem dX11_quarterOf_1 : decode cX11_quarterOf 1 = .ok (.bipush 16, 2) := by decide +kernel
theorem dX11_quarterOf_3 : decode cX11_quarterOf 3 = .ok (.irem, 1) := by decide +kernel
theorem dX11_quarterOf_4 : decode cX11_quarterOf 4 = .ok (.bipush 7, 2) := by decide +kernel
theorem dX11_quarterOf_6 : decode cX11_quarterOf 6 = .ok (.if_icmp .le 7, 3) := by decide +kernel
theorem dX11_quarterOf_9 : decode cX11_quarterOf 9 = .ok (.iconst 1, 1) := by decide +kernel
theorem dX11_quarterOf_10 : decode cX11_quarterOf 10 = .ok (.goto 4, 3) := by decide +kernel
theorem dX11_quarterOf_13 : decode cX11_quarterOf 13 = .ok (.iconst 0, 1) := by decide +kernel
theorem dX11_quarterOf_14 : decode cX11_quarterOf 14 = .ok (.iload_n 0, 1) := by decide +kernel
theorem dX11_quarterOf_15 : decode cX11_quarterOf 15 = .ok (.bipush 16, 2) := by decide +kernel
theorem dX11_quarterOf_17 : decode cX11_quarterOf 17 = .ok (.idiv, 1) := by decide +kernel
theorem dX11_quarterOf_18 : decode cX11_quarterOf 18 = .ok (.bipush 7, 2) := by decide +kernel
theorem dX11_quarterOf_20 : decode cX11_quarterOf 20 = .ok (.if_icmp .le 7, 3) := by decide +kernel
theorem dX11_quarterOf_23 : decode cX11_quarterOf 23 = .ok (.iconst 2, 1) := by decide +kernel
theorem dX11_quarterOf_24 : decode cX11_quarterOf 24 = .ok (.goto 4, 3) := by decide +kernel
theorem dX11_quarterOf_27 : decode cX11_quarterOf 27 = .ok (.iconst 0, 1) := by decide +kernel
theorem dX11_quarterOf_28 : decode cX11_quarterOf 28 = .ok (.iadd, 1) := by decide +kernel
theorem dX11_quarterOf_29 : decode cX11_quarterOf 29 = .ok (.ireturn, 1) := by decide +kernel
theorem dX11_leanOf_0 : decode cX11_leanOf 0 = .ok (.iconst 0, 1) := by decide +kernel
theorem dX11_leanOf_1 : decode cX11_leanOf 1 = .ok (.istore_n 3, 1) := by decide +kernel
theorem dX11_leanOf_2 : decode cX11_leanOf 2 = .ok (.iconst 0, 1) := by decide +kernel
theorem dX11_leanOf_3 : decode cX11_leanOf 3 = .ok (.istore 4, 2) := by decide +kernel
theorem dX11_leanOf_5 : decode cX11_leanOf 5 = .ok (.iload 4, 2) := by decide +kernel
theorem dX11_leanOf_7 : decode cX11_leanOf 7 = .ok (.sipush 256, 3) := by decide +kernel
theorem dX11_leanOf_10 : decode cX11_leanOf 10 = .ok (.if_icmp .ge 33, 3) := by decide +kernel
theorem dX11_leanOf_13 : decode cX11_leanOf 13 = .ok (.iload_n 1, 1) := by decide +kernel
theorem dX11_leanOf_14 : decode cX11_leanOf 14 = .ok (.ifCond .lt 12, 3) := by decide +kernel
theorem dX11_leanOf_17 : decode cX11_leanOf 17 = .ok (.iload 4, 2) := by decide +kernel
theorem dX11_leanOf_19 : decode cX11_leanOf 19 = .ok (.invokestatic 471, 3) := by decide +kernel
theorem dX11_leanOf_22 : decode cX11_leanOf 22 = .ok (.iload_n 1, 1) := by decide +kernel
theorem dX11_leanOf_23 : decode cX11_leanOf 23 = .ok (.if_icmp .ne 14, 3) := by decide +kernel
theorem dX11_leanOf_26 : decode cX11_leanOf 26 = .ok (.iload_n 3, 1) := by decide +kernel
theorem dX11_leanOf_27 : decode cX11_leanOf 27 = .ok (.aload_n 0, 1) := by decide +kernel
theorem dX11_leanOf_28 : decode cX11_leanOf 28 = .ok (.iconst 3, 1) := by decide +kernel
theorem dX11_leanOf_29 : decode cX11_leanOf 29 = .ok (.iload 4, 2) := by decide +kernel
theorem dX11_leanOf_31 : decode cX11_leanOf 31 = .ok (.iload_n 2, 1) := by decide +kernel
theorem dX11_leanOf_32 : decode cX11_leanOf 32 = .ok (.invokevirtual 393, 3) := by decide +kernel
theorem dX11_leanOf_35 : decode cX11_leanOf 35 = .ok (.iadd, 1) := by decide +kernel
theorem dX11_leanOf_36 : decode cX11_leanOf 36 = .ok (.istore_n 3, 1) := by decide +kernel
theorem dX11_leanOf_37 : decode cX11_leanOf 37 = .ok (.iinc 4 1, 3) := by decide +kernel
theorem dX11_leanOf_40 : decode cX11_leanOf 40 = .ok (.goto (-35), 3) := by decide +kernel
theorem dX11_leanOf_43 : decode cX11_leanOf 43 = .ok (.iload_n 3, 1) := by decide +kernel
theorem dX11_leanOf_44 : decode cX11_leanOf 44 = .ok (.ireturn, 1) := by decide +kernel
theorem dX11_lean_0 : decode cX11_lean 0 = .ok (.iload_n 1, 1) := by decide +kernel
theorem dX11_lean_1 : decode cX11_lean 1 = .ok (.iconst 0, 1) := by decide +kernel
theorem dX11_lean_2 : decode cX11_lean 2 = .ok (.iconst 3, 1) := by decide +kernel
theorem dX11_lean_3 : decode cX11_lean 3 = .ok (.invokestatic 183, 3) := by decide +kernel
theorem dX11_lean_6 : decode cX11_lean 6 = .ok (.ifCond .eq 10, 3) := by decide +kernel
theorem dX11_lean_9 : decode cX11_lean 9 = .ok (.iload_n 2, 1) := by decide +kernel
theorem dX11_lean_10 : decode cX11_lean 10 = .ok (.invokestatic 335, 3) := by decide +kernel
theorem dX11_lean_13 : decode cX11_lean 13 = .ok (.ifCond .ne 5, 3) := by decide +kernel
theorem dX11_lean_16 : decode cX11_lean 16 = .ok (.iconst (-1), 1) := by decide +kernel
theorem dX11_lean_17 : decode cX11_lean 17 = .ok (.ireturn, 1) := by decide +kernel
theorem dX11_lean_18 : decode cX11_lean 18 = .ok (.aload_n 0, 1) := by decide +kernel
theorem dX11_lean_19 : decode cX11_lean 19 = .ok (.iload_n 2, 1) := by decide +kernel
theorem dX11_lean_20 : decode cX11_lean 20 = .ok (.invokevirtual 385, 3) := by decide +kernel
theorem dX11_lean_23 : decode cX11_lean 23 = .ok (.aload_n 0, 1) := by decide +kernel
theorem dX11_lean_24 : decode cX11_lean 24 = .ok (.iload_n 1, 1) := by decide +kernel
theorem dX11_lean_25 : decode cX11_lean 25 = .ok (.iload_n 2, 1) := by decide +kernel
theorem dX11_lean_26 : decode cX11_lean 26 = .ok (.invokevirtual 474, 3) := by decide +kernel
theorem dX11_lean_29 : decode cX11_lean 29 = .ok (.ireturn, 1) := by decide +kernel
theorem dX11_right_0 : decode cX11_right 0 = .ok (.iload_n 1, 1) := by decide +kernel
theorem dX11_right_1 : decode cX11_right 1 = .ok (.iconst 0, 1) := by decide +kernel
theorem dX11_right_2 : decode cX11_right 2 = .ok (.iconst 3, 1) := by decide +kernel
theorem dX11_right_3 : decode cX11_right 3 = .ok (.invokestatic 183, 3) := by decide +kernel
theorem dX11_right_6 : decode cX11_right 6 = .ok (.ifCond .eq 19, 3) := by decide +kernel
theorem dX11_right_9 : decode cX11_right 9 = .ok (.iload_n 2, 1) := by decide +kernel
theorem dX11_right_10 : decode cX11_right 10 = .ok (.invokestatic 335, 3) := by decide +kernel
theorem dX11_right_13 : decode cX11_right 13 = .ok (.ifCond .eq 12, 3) := by decide +kernel
theorem dX11_right_16 : decode cX11_right 16 = .ok (.iload_n 3, 1) := by decide +kernel
theorem dX11_right_17 : decode cX11_right 17 = .ok (.iconst 0, 1) := by decide +kernel
theorem dX11_right_18 : decode cX11_right 18 = .ok (.iconst 1, 1) := by decide +kernel
theorem dX11_right_19 : decode cX11_right 19 = .ok (.invokestatic 183, 3) := by decide +kernel
theorem dX11_right_22 : decode cX11_right 22 = .ok (.ifCond .ne 7, 3) := by decide +kernel
theorem dX11_right_25 : decode cX11_right 25 = .ok (.ldc2_w 211, 3) := by decide +kernel
theorem dX11_right_28 : decode cX11_right 28 = .ok (.lreturn, 1) := by decide +kernel
theorem dX11_right_29 : decode cX11_right 29 = .ok (.aload_n 0, 1) := by decide +kernel
theorem dX11_right_30 : decode cX11_right 30 = .ok (.iload_n 2, 1) := by decide +kernel
theorem dX11_right_31 : decode cX11_right 31 = .ok (.invokevirtual 385, 3) := by decide +kernel
theorem dX11_right_34 : decode cX11_right 34 = .ok (.lconst 0, 1) := by decide +kernel
theorem dX11_right_35 : decode cX11_right 35 = .ok (.lstore 4, 2) := by decide +kernel
theorem dX11_right_37 : decode cX11_right 37 = .ok (.lconst 0, 1) := by decide +kernel
theorem dX11_right_38 : decode cX11_right 38 = .ok (.lstore 6, 2) := by decide +kernel
theorem dX11_right_40 : decode cX11_right 40 = .ok (.iconst 0, 1) := by decide +kernel
theorem dX11_right_41 : decode cX11_right 41 = .ok (.istore 8, 2) := by decide +kernel
theorem dX11_right_43 : decode cX11_right 43 = .ok (.iload 8, 2) := by decide +kernel
theorem dX11_right_45 : decode cX11_right 45 = .ok (.aload_n 0, 1) := by decide +kernel
theorem dX11_right_46 : decode cX11_right 46 = .ok (.getfield 16, 3) := by decide +kernel
theorem dX11_right_49 : decode cX11_right 49 = .ok (.iconst 0, 1) := by decide +kernel
theorem dX11_right_50 : decode cX11_right 50 = .ok (.iaload, 1) := by decide +kernel
theorem dX11_right_51 : decode cX11_right 51 = .ok (.if_icmp .ge 52, 3) := by decide +kernel
theorem dX11_right_54 : decode cX11_right 54 = .ok (.aload_n 0, 1) := by decide +kernel
theorem dX11_right_55 : decode cX11_right 55 = .ok (.getfield 43, 3) := by decide +kernel
theorem dX11_right_58 : decode cX11_right 58 = .ok (.iload 8, 2) := by decide +kernel
theorem dX11_right_60 : decode cX11_right 60 = .ok (.iaload, 1) := by decide +kernel
theorem dX11_right_61 : decode cX11_right 61 = .ok (.ifCond .eq 6, 3) := by decide +kernel
theorem dX11_right_64 : decode cX11_right 64 = .ok (.goto 33, 3) := by decide +kernel
theorem dX11_right_67 : decode cX11_right 67 = .ok (.lload 6, 2) := by decide +kernel
theorem dX11_right_69 : decode cX11_right 69 = .ok (.lconst 1, 1) := by decide +kernel
theorem dX11_right_70 : decode cX11_right 70 = .ok (.ladd, 1) := by decide +kernel
theorem dX11_right_71 : decode cX11_right 71 = .ok (.lstore 6, 2) := by decide +kernel
theorem dX11_right_73 : decode cX11_right 73 = .ok (.lload 4, 2) := by decide +kernel
theorem dX11_right_75 : decode cX11_right 75 = .ok (.aload_n 0, 1) := by decide +kernel
theorem dX11_right_76 : decode cX11_right 76 = .ok (.getfield 40, 3) := by decide +kernel
theorem dX11_right_79 : decode cX11_right 79 = .ok (.iload 8, 2) := by decide +kernel
theorem dX11_right_81 : decode cX11_right 81 = .ok (.iaload, 1) := by decide +kernel
theorem dX11_right_82 : decode cX11_right 82 = .ok (.invokestatic 471, 3) := by decide +kernel
theorem dX11_right_85 : decode cX11_right 85 = .ok (.iload_n 1, 1) := by decide +kernel
theorem dX11_right_86 : decode cX11_right 86 = .ok (.if_icmp .ne 7, 3) := by decide +kernel
theorem dX11_right_89 : decode cX11_right 89 = .ok (.lconst 1, 1) := by decide +kernel
theorem dX11_right_90 : decode cX11_right 90 = .ok (.goto 4, 3) := by decide +kernel
theorem dX11_right_93 : decode cX11_right 93 = .ok (.lconst 0, 1) := by decide +kernel
theorem dX11_right_94 : decode cX11_right 94 = .ok (.ladd, 1) := by decide +kernel
theorem dX11_right_95 : decode cX11_right 95 = .ok (.lstore 4, 2) := by decide +kernel
theorem dX11_right_97 : decode cX11_right 97 = .ok (.iinc 8 1, 3) := by decide +kernel
theorem dX11_right_100 : decode cX11_right 100 = .ok (.goto (-57), 3) := by decide +kernel
theorem dX11_right_103 : decode cX11_right 103 = .ok (.aload_n 0, 1) := by decide +kernel
theorem dX11_right_104 : decode cX11_right 104 = .ok (.iload_n 1, 1) := by decide +kernel
theorem dX11_right_105 : decode cX11_right 105 = .ok (.iload_n 2, 1) := by decide +kernel
theorem dX11_right_106 : decode cX11_right 106 = .ok (.invokevirtual 474, 3) := by decide +kernel
theorem dX11_right_109 : decode cX11_right 109 = .ok (.i2l, 1) := by decide +kernel
theorem dX11_right_110 : decode cX11_right 110 = .ok (.lstore 8, 2) := by decide +kernel
theorem dX11_right_112 : decode cX11_right 112 = .ok (.lload 8, 2) := by decide +kernel
theorem dX11_right_114 : decode cX11_right 114 = .ok (.lconst 0, 1) := by decide +kernel
theorem dX11_right_115 : decode cX11_right 115 = .ok (.lcmp, 1) := by decide +kernel
theorem dX11_right_116 : decode cX11_right 116 = .ok (.ifCond .eq 10, 3) := by decide +kernel
theorem dX11_right_119 : decode cX11_right 119 = .ok (.lload 6, 2) := by decide +kernel
theorem dX11_right_121 : decode cX11_right 121 = .ok (.lconst 0, 1) := by decide +kernel
theorem dX11_right_122 : decode cX11_right 122 = .ok (.lcmp, 1) := by decide +kernel
theorem dX11_right_123 : decode cX11_right 123 = .ok (.ifCond .ne 9, 3) := by decide +kernel
theorem dX11_right_126 : decode cX11_right 126 = .ok (.ldc2_w 211, 3) := by decide +kernel
theorem dX11_right_129 : decode cX11_right 129 = .ok (.goto 22, 3) := by decide +kernel
theorem dX11_right_132 : decode cX11_right 132 = .ok (.lload 4, 2) := by decide +kernel
theorem dX11_right_134 : decode cX11_right 134 = .ok (.aload_n 0, 1) := by decide +kernel
theorem dX11_right_135 : decode cX11_right 135 = .ok (.iconst (-1), 1) := by decide +kernel
theorem dX11_right_136 : decode cX11_right 136 = .ok (.iload_n 2, 1) := by decide +kernel
theorem dX11_right_137 : decode cX11_right 137 = .ok (.invokevirtual 474, 3) := by decide +kernel
theorem dX11_right_140 : decode cX11_right 140 = .ok (.i2l, 1) := by decide +kernel
theorem dX11_right_141 : decode cX11_right 141 = .ok (.lmul, 1) := by decide +kernel
theorem dX11_right_142 : decode cX11_right 142 = .ok (.lload 8, 2) := by decide +kernel
theorem dX11_right_144 : decode cX11_right 144 = .ok (.lload 6, 2) := by decide +kernel
theorem dX11_right_146 : decode cX11_right 146 = .ok (.lmul, 1) := by decide +kernel
theorem dX11_right_147 : decode cX11_right 147 = .ok (.iload_n 3, 1) := by decide +kernel
theorem dX11_right_148 : decode cX11_right 148 = .ok (.invokestatic 415, 3) := by decide +kernel
theorem dX11_right_151 : decode cX11_right 151 = .ok (.lreturn, 1) := by decide +kernel
theorem dX11_findLives_0 : decode cX11_findLives 0 = .ok (.aload_n 0, 1) := by decide +kernel
theorem dX11_findLives_1 : decode cX11_findLives 1 = .ok (.iload_n 1, 1) := by decide +kernel
theorem dX11_findLives_2 : decode cX11_findLives 2 = .ok (.invokevirtual 385, 3) := by decide +kernel
theorem dX11_findLives_5 : decode cX11_findLives 5 = .ok (.iconst 0, 1) := by decide +kernel
theorem dX11_findLives_6 : decode cX11_findLives 6 = .ok (.istore_n 2, 1) := by decide +kernel
theorem dX11_findLives_7 : decode cX11_findLives 7 = .ok (.iload_n 2, 1) := by decide +kernel
theorem dX11_findLives_8 : decode cX11_findLives 8 = .ok (.sipush 256, 3) := by decide +kernel
theorem dX11_findLives_11 : decode cX11_findLives 11 = .ok (.if_icmp .ge 22, 3) := by decide +kernel
theorem dX11_findLives_14 : decode cX11_findLives 14 = .ok (.aload_n 0, 1) := by decide +kernel
theorem dX11_findLives_15 : decode cX11_findLives 15 = .ok (.getfield 163, 3) := by decide +kernel
theorem dX11_findLives_18 : decode cX11_findLives 18 = .ok (.iload_n 2, 1) := by decide +kernel
theorem dX11_findLives_19 : decode cX11_findLives 19 = .ok (.aload_n 0, 1) := by decide +kernel
theorem dX11_findLives_20 : decode cX11_findLives 20 = .ok (.iconst 2, 1) := by decide +kernel
theorem dX11_findLives_21 : decode cX11_findLives 21 = .ok (.iload_n 2, 1) := by decide +kernel
theorem dX11_findLives_22 : decode cX11_findLives 22 = .ok (.iload_n 1, 1) := by decide +kernel
theorem dX11_findLives_23 : decode cX11_findLives 23 = .ok (.invokevirtual 393, 3) := by decide +kernel
theorem dX11_findLives_26 : decode cX11_findLives 26 = .ok (.iastore, 1) := by decide +kernel
theorem dX11_findLives_27 : decode cX11_findLives 27 = .ok (.iinc 2 1, 3) := by decide +kernel
theorem dX11_findLives_30 : decode cX11_findLives 30 = .ok (.goto (-23), 3) := by decide +kernel
theorem dX11_findLives_33 : decode cX11_findLives 33 = .ok (.return_, 1) := by decide +kernel
theorem dX11_rankOf_0 : decode cX11_rankOf 0 = .ok (.iconst 0, 1) := by decide +kernel
theorem dX11_rankOf_1 : decode cX11_rankOf 1 = .ok (.istore_n 2, 1) := by decide +kernel
theorem dX11_rankOf_2 : decode cX11_rankOf 2 = .ok (.iconst 0, 1) := by decide +kernel
theorem dX11_rankOf_3 : decode cX11_rankOf 3 = .ok (.istore_n 3, 1) := by decide +kernel
theorem dX11_rankOf_4 : decode cX11_rankOf 4 = .ok (.iload_n 3, 1) := by decide +kernel
theorem dX11_rankOf_5 : decode cX11_rankOf 5 = .ok (.sipush 256, 3) := by decide +kernel
theorem dX11_rankOf_8 : decode cX11_rankOf 8 = .ok (.if_icmp .ge 52, 3) := by decide +kernel
theorem dX11_rankOf_11 : decode cX11_rankOf 11 = .ok (.iload_n 2, 1) := by decide +kernel
theorem dX11_rankOf_12 : decode cX11_rankOf 12 = .ok (.aload_n 0, 1) := by decide +kernel
theorem dX11_rankOf_13 : decode cX11_rankOf 13 = .ok (.getfield 163, 3) := by decide +kernel
theorem dX11_rankOf_16 : decode cX11_rankOf 16 = .ok (.iload_n 3, 1) := by decide +kernel
theorem dX11_rankOf_17 : decode cX11_rankOf 17 = .ok (.iaload, 1) := by decide +kernel
theorem dX11_rankOf_18 : decode cX11_rankOf 18 = .ok (.aload_n 0, 1) := by decide +kernel
theorem dX11_rankOf_19 : decode cX11_rankOf 19 = .ok (.getfield 163, 3) := by decide +kernel
theorem dX11_rankOf_22 : decode cX11_rankOf 22 = .ok (.iload_n 1, 1) := by decide +kernel
theorem dX11_rankOf_23 : decode cX11_rankOf 23 = .ok (.iaload, 1) := by decide +kernel
theorem dX11_rankOf_24 : decode cX11_rankOf 24 = .ok (.if_icmp .gt 23, 3) := by decide +kernel
theorem dX11_rankOf_27 : decode cX11_rankOf 27 = .ok (.aload_n 0, 1) := by decide +kernel
theorem dX11_rankOf_28 : decode cX11_rankOf 28 = .ok (.getfield 163, 3) := by decide +kernel
theorem dX11_rankOf_31 : decode cX11_rankOf 31 = .ok (.iload_n 3, 1) := by decide +kernel
theorem dX11_rankOf_32 : decode cX11_rankOf 32 = .ok (.iaload, 1) := by decide +kernel
theorem dX11_rankOf_33 : decode cX11_rankOf 33 = .ok (.aload_n 0, 1) := by decide +kernel
theorem dX11_rankOf_34 : decode cX11_rankOf 34 = .ok (.getfield 163, 3) := by decide +kernel
theorem dX11_rankOf_37 : decode cX11_rankOf 37 = .ok (.iload_n 1, 1) := by decide +kernel
theorem dX11_rankOf_38 : decode cX11_rankOf 38 = .ok (.iaload, 1) := by decide +kernel
theorem dX11_rankOf_39 : decode cX11_rankOf 39 = .ok (.if_icmp .ne 12, 3) := by decide +kernel
theorem dX11_rankOf_42 : decode cX11_rankOf 42 = .ok (.iload_n 3, 1) := by decide +kernel
theorem dX11_rankOf_43 : decode cX11_rankOf 43 = .ok (.iload_n 1, 1) := by decide +kernel
theorem dX11_rankOf_44 : decode cX11_rankOf 44 = .ok (.if_icmp .ge 7, 3) := by decide +kernel
theorem dX11_rankOf_47 : decode cX11_rankOf 47 = .ok (.iconst 1, 1) := by decide +kernel
theorem dX11_rankOf_48 : decode cX11_rankOf 48 = .ok (.goto 4, 3) := by decide +kernel
theorem dX11_rankOf_51 : decode cX11_rankOf 51 = .ok (.iconst 0, 1) := by decide +kernel
theorem dX11_rankOf_52 : decode cX11_rankOf 52 = .ok (.iadd, 1) := by decide +kernel
theorem dX11_rankOf_53 : decode cX11_rankOf 53 = .ok (.istore_n 2, 1) := by decide +kernel
theorem dX11_rankOf_54 : decode cX11_rankOf 54 = .ok (.iinc 3 1, 3) := by decide +kernel
theorem dX11_rankOf_57 : decode cX11_rankOf 57 = .ok (.goto (-53), 3) := by decide +kernel
theorem dX11_rankOf_60 : decode cX11_rankOf 60 = .ok (.iload_n 2, 1) := by decide +kernel
theorem dX11_rankOf_61 : decode cX11_rankOf 61 = .ok (.ireturn, 1) := by decide +kernel
theorem dX11_ahead_0 : decode cX11_ahead 0 = .ok (.iload_n 1, 1) := by decide +kernel
theorem dX11_ahead_1 : decode cX11_ahead 1 = .ok (.invokestatic 335, 3) := by decide +kernel
theorem dX11_ahead_4 : decode cX11_ahead 4 = .ok (.ifCond .eq 10, 3) := by decide +kernel
theorem dX11_ahead_7 : decode cX11_ahead 7 = .ok (.iload_n 2, 1) := by decide +kernel
theorem dX11_ahead_8 : decode cX11_ahead 8 = .ok (.invokestatic 191, 3) := by decide +kernel
theorem dX11_ahead_11 : decode cX11_ahead 11 = .ok (.ifCond .ne 5, 3) := by decide +kernel
theorem dX11_ahead_14 : decode cX11_ahead 14 = .ok (.iconst (-1), 1) := by decide +kernel
theorem dX11_ahead_15 : decode cX11_ahead 15 = .ok (.ireturn, 1) := by decide +kernel
theorem dX11_ahead_16 : decode cX11_ahead 16 = .ok (.aload_n 0, 1) := by decide +kernel
theorem dX11_ahead_17 : decode cX11_ahead 17 = .ok (.iload_n 1, 1) := by decide +kernel
theorem dX11_ahead_18 : decode cX11_ahead 18 = .ok (.invokevirtual 477, 3) := by decide +kernel
theorem dX11_ahead_21 : decode cX11_ahead 21 = .ok (.iconst 0, 1) := by decide +kernel
theorem dX11_ahead_22 : decode cX11_ahead 22 = .ok (.istore_n 3, 1) := by decide +kernel
theorem dX11_ahead_23 : decode cX11_ahead 23 = .ok (.iload_n 3, 1) := by decide +kernel
theorem dX11_ahead_24 : decode cX11_ahead 24 = .ok (.sipush 256, 3) := by decide +kernel
theorem dX11_ahead_27 : decode cX11_ahead 27 = .ok (.if_icmp .ge 20, 3) := by decide +kernel
theorem dX11_ahead_30 : decode cX11_ahead 30 = .ok (.aload_n 0, 1) := by decide +kernel
theorem dX11_ahead_31 : decode cX11_ahead 31 = .ok (.iload_n 3, 1) := by decide +kernel
theorem dX11_ahead_32 : decode cX11_ahead 32 = .ok (.invokevirtual 480, 3) := by decide +kernel
theorem dX11_ahead_35 : decode cX11_ahead 35 = .ok (.iload_n 2, 1) := by decide +kernel
theorem dX11_ahead_36 : decode cX11_ahead 36 = .ok (.if_icmp .ne 5, 3) := by decide +kernel
theorem dX11_ahead_39 : decode cX11_ahead 39 = .ok (.iload_n 3, 1) := by decide +kernel
theorem dX11_ahead_40 : decode cX11_ahead 40 = .ok (.ireturn, 1) := by decide +kernel
theorem dX11_ahead_41 : decode cX11_ahead 41 = .ok (.iinc 3 1, 3) := by decide +kernel
theorem dX11_ahead_44 : decode cX11_ahead 44 = .ok (.goto (-21), 3) := by decide +kernel
theorem dX11_ahead_47 : decode cX11_ahead 47 = .ok (.iconst (-1), 1) := by decide +kernel
theorem dX11_ahead_48 : decode cX11_ahead 48 = .ok (.ireturn, 1) := by decide +kernel
theorem dX11_held_0 : decode cX11_held 0 = .ok (.iload_n 1, 1) := by decide +kernel
theorem dX11_held_1 : decode cX11_held 1 = .ok (.invokestatic 335, 3) := by decide +kernel
theorem dX11_held_4 : decode cX11_held 4 = .ok (.ifCond .eq 23, 3) := by decide +kernel
theorem dX11_held_7 : decode cX11_held 7 = .ok (.iload_n 2, 1) := by decide +kernel
theorem dX11_held_8 : decode cX11_held 8 = .ok (.iconst 1, 1) := by decide +kernel
theorem dX11_held_9 : decode cX11_held 9 = .ok (.sipush 256, 3) := by decide +kernel
theorem dX11_held_12 : decode cX11_held 12 = .ok (.invokestatic 183, 3) := by decide +kernel
theorem dX11_held_15 : decode cX11_held 15 = .ok (.ifCond .eq 12, 3) := by decide +kernel
theorem dX11_held_18 : decode cX11_held 18 = .ok (.iload_n 3, 1) := by decide +kernel
theorem dX11_held_19 : decode cX11_held 19 = .ok (.iconst 0, 1) := by decide +kernel
theorem dX11_held_20 : decode cX11_held 20 = .ok (.iconst 1, 1) := by decide +kernel
theorem dX11_held_21 : decode cX11_held 21 = .ok (.invokestatic 183, 3) := by decide +kernel
theorem dX11_held_24 : decode cX11_held 24 = .ok (.ifCond .ne 5, 3) := by decide +kernel
theorem dX11_held_27 : decode cX11_held 27 = .ok (.iconst (-1), 1) := by decide +kernel
theorem dX11_held_28 : decode cX11_held 28 = .ok (.ireturn, 1) := by decide +kernel
theorem dX11_held_29 : decode cX11_held 29 = .ok (.aload_n 0, 1) := by decide +kernel
theorem dX11_held_30 : decode cX11_held 30 = .ok (.iload_n 1, 1) := by decide +kernel
theorem dX11_held_31 : decode cX11_held 31 = .ok (.invokevirtual 477, 3) := by decide +kernel
theorem dX11_held_34 : decode cX11_held 34 = .ok (.iconst 0, 1) := by decide +kernel
theorem dX11_held_35 : decode cX11_held 35 = .ok (.istore 4, 2) := by decide +kernel
theorem dX11_held_37 : decode cX11_held 37 = .ok (.iconst 0, 1) := by decide +kernel
theorem dX11_held_38 : decode cX11_held 38 = .ok (.istore 5, 2) := by decide +kernel
theorem dX11_held_40 : decode cX11_held 40 = .ok (.iload 5, 2) := by decide +kernel
theorem dX11_held_42 : decode cX11_held 42 = .ok (.aload_n 0, 1) := by decide +kernel
theorem dX11_held_43 : decode cX11_held 43 = .ok (.getfield 16, 3) := by decide +kernel
theorem dX11_held_46 : decode cX11_held 46 = .ok (.iconst 0, 1) := by decide +kernel
theorem dX11_held_47 : decode cX11_held 47 = .ok (.iaload, 1) := by decide +kernel
theorem dX11_held_48 : decode cX11_held 48 = .ok (.if_icmp .ge 34, 3) := by decide +kernel
theorem dX11_held_51 : decode cX11_held 51 = .ok (.iload 4, 2) := by decide +kernel
theorem dX11_held_53 : decode cX11_held 53 = .ok (.aload_n 0, 1) := by decide +kernel
theorem dX11_held_54 : decode cX11_held 54 = .ok (.aload_n 0, 1) := by decide +kernel
theorem dX11_held_55 : decode cX11_held 55 = .ok (.getfield 40, 3) := by decide +kernel
theorem dX11_held_58 : decode cX11_held 58 = .ok (.iload 5, 2) := by decide +kernel
theorem dX11_held_60 : decode cX11_held 60 = .ok (.iaload, 1) := by decide +kernel
theorem dX11_held_61 : decode cX11_held 61 = .ok (.invokevirtual 480, 3) := by decide +kernel
theorem dX11_held_64 : decode cX11_held 64 = .ok (.iload_n 2, 1) := by decide +kernel
theorem dX11_held_65 : decode cX11_held 65 = .ok (.if_icmp .ge 7, 3) := by decide +kernel
theorem dX11_held_68 : decode cX11_held 68 = .ok (.iconst 1, 1) := by decide +kernel
theorem dX11_held_69 : decode cX11_held 69 = .ok (.goto 4, 3) := by decide +kernel
theorem dX11_held_72 : decode cX11_held 72 = .ok (.iconst 0, 1) := by decide +kernel
theorem dX11_held_73 : decode cX11_held 73 = .ok (.iadd, 1) := by decide +kernel
theorem dX11_held_74 : decode cX11_held 74 = .ok (.istore 4, 2) := by decide +kernel
theorem dX11_held_76 : decode cX11_held 76 = .ok (.iinc 5 1, 3) := by decide +kernel
theorem dX11_held_79 : decode cX11_held 79 = .ok (.goto (-39), 3) := by decide +kernel
theorem dX11_held_82 : decode cX11_held 82 = .ok (.iload_n 3, 1) := by decide +kernel
theorem dX11_held_83 : decode cX11_held 83 = .ok (.ifCond .ne 8, 3) := by decide +kernel
theorem dX11_held_86 : decode cX11_held 86 = .ok (.iload 4, 2) := by decide +kernel
theorem dX11_held_88 : decode cX11_held 88 = .ok (.goto 9, 3) := by decide +kernel
theorem dX11_held_91 : decode cX11_held 91 = .ok (.aload_n 0, 1) := by decide +kernel
theorem dX11_held_92 : decode cX11_held 92 = .ok (.getfield 16, 3) := by decide +kernel
theorem dX11_held_95 : decode cX11_held 95 = .ok (.iconst 0, 1) := by decide +kernel
theorem dX11_held_96 : decode cX11_held 96 = .ok (.iaload, 1) := by decide +kernel
theorem dX11_held_97 : decode cX11_held 97 = .ok (.ireturn, 1) := by decide +kernel
theorem dX11_draw_0 : decode cX11_draw 0 = .ok (.aload_n 0, 1) := by decide +kernel
theorem dX11_draw_1 : decode cX11_draw 1 = .ok (.aload_n 0, 1) := by decide +kernel
theorem dX11_draw_2 : decode cX11_draw 2 = .ok (.getfield 483, 3) := by decide +kernel
theorem dX11_draw_5 : decode cX11_draw 5 = .ok (.ldc2_w 486, 3) := by decide +kernel
theorem dX11_draw_8 : decode cX11_draw 8 = .ok (.lmul, 1) := by decide +kernel
theorem dX11_draw_9 : decode cX11_draw 9 = .ok (.ldc2_w 488, 3) := by decide +kernel
theorem dX11_draw_12 : decode cX11_draw 12 = .ok (.ladd, 1) := by decide +kernel
theorem dX11_draw_13 : decode cX11_draw 13 = .ok (.putfield 483, 3) := by decide +kernel
theorem dX11_draw_16 : decode cX11_draw 16 = .ok (.aload_n 0, 1) := by decide +kernel
theorem dX11_draw_17 : decode cX11_draw 17 = .ok (.getfield 483, 3) := by decide +kernel
theorem dX11_draw_20 : decode cX11_draw 20 = .ok (.bipush 33, 2) := by decide +kernel
theorem dX11_draw_22 : decode cX11_draw 22 = .ok (.lushr, 1) := by decide +kernel
theorem dX11_draw_23 : decode cX11_draw 23 = .ok (.iload_n 1, 1) := by decide +kernel
theorem dX11_draw_24 : decode cX11_draw 24 = .ok (.i2l, 1) := by decide +kernel
theorem dX11_draw_25 : decode cX11_draw 25 = .ok (.lrem, 1) := by decide +kernel
theorem dX11_draw_26 : decode cX11_draw 26 = .ok (.l2i, 1) := by decide +kernel
theorem dX11_draw_27 : decode cX11_draw 27 = .ok (.ireturn, 1) := by decide +kernel
theorem dX11_world_0 : decode cX11_world 0 = .ok (.iload_n 1, 1) := by decide +kernel
theorem dX11_world_1 : decode cX11_world 1 = .ok (.iconst 0, 1) := by decide +kernel
theorem dX11_world_2 : decode cX11_world 2 = .ok (.ldc_w 490, 3) := by decide +kernel
theorem dX11_world_5 : decode cX11_world 5 = .ok (.invokestatic 183, 3) := by decide +kernel
theorem dX11_world_8 : decode cX11_world 8 = .ok (.ifCond .eq 40, 3) := by decide +kernel
theorem dX11_world_11 : decode cX11_world 11 = .ok (.iload_n 2, 1) := by decide +kernel
theorem dX11_world_12 : decode cX11_world 12 = .ok (.invokestatic 335, 3) := by decide +kernel
theorem dX11_world_15 : decode cX11_world 15 = .ok (.ifCond .eq 33, 3) := by decide +kernel
theorem dX11_world_18 : decode cX11_world 18 = .ok (.iload_n 3, 1) := by decide +kernel
theorem dX11_world_19 : decode cX11_world 19 = .ok (.iconst 1, 1) := by decide +kernel
theorem dX11_world_20 : decode cX11_world 20 = .ok (.sipush 200, 3) := by decide +kernel
theorem dX11_world_23 : decode cX11_world 23 = .ok (.invokestatic 183, 3) := by decide +kernel
theorem dX11_world_26 : decode cX11_world 26 = .ok (.ifCond .eq 22, 3) := by decide +kernel
theorem dX11_world_29 : decode cX11_world 29 = .ok (.iload 4, 2) := by decide +kernel
theorem dX11_world_31 : decode cX11_world 31 = .ok (.invokestatic 191, 3) := by decide +kernel
theorem dX11_world_34 : decode cX11_world 34 = .ok (.ifCond .eq 14, 3) := by decide +kernel
theorem dX11_world_37 : decode cX11_world 37 = .ok (.iload 5, 2) := by decide +kernel
theorem dX11_world_39 : decode cX11_world 39 = .ok (.iconst 0, 1) := by decide +kernel
theorem dX11_world_40 : decode cX11_world 40 = .ok (.bipush 99, 2) := by decide +kernel
theorem dX11_world_42 : decode cX11_world 42 = .ok (.invokestatic 183, 3) := by decide +kernel
theorem dX11_world_45 : decode cX11_world 45 = .ok (.ifCond .ne 5, 3) := by decide +kernel
theorem dX11_world_48 : decode cX11_world 48 = .ok (.iconst (-1), 1) := by decide +kernel
theorem dX11_world_49 : decode cX11_world 49 = .ok (.ireturn, 1) := by decide +kernel
theorem dX11_world_50 : decode cX11_world 50 = .ok (.aload_n 0, 1) := by decide +kernel
theorem dX11_world_51 : decode cX11_world 51 = .ok (.iload_n 2, 1) := by decide +kernel
theorem dX11_world_52 : decode cX11_world 52 = .ok (.invokevirtual 477, 3) := by decide +kernel
theorem dX11_world_55 : decode cX11_world 55 = .ok (.iconst 0, 1) := by decide +kernel
theorem dX11_world_56 : decode cX11_world 56 = .ok (.istore 6, 2) := by decide +kernel
theorem dX11_world_58 : decode cX11_world 58 = .ok (.iconst 0, 1) := by decide +kernel
theorem dX11_world_59 : decode cX11_world 59 = .ok (.istore 7, 2) := by decide +kernel
theorem dX11_world_61 : decode cX11_world 61 = .ok (.iload 7, 2) := by decide +kernel
theorem dX11_world_63 : decode cX11_world 63 = .ok (.sipush 256, 3) := by decide +kernel
theorem dX11_world_66 : decode cX11_world 66 = .ok (.if_icmp .ge 21, 3) := by decide +kernel
theorem dX11_world_69 : decode cX11_world 69 = .ok (.iload 6, 2) := by decide +kernel
theorem dX11_world_71 : decode cX11_world 71 = .ok (.aload_n 0, 1) := by decide +kernel
theorem dX11_world_72 : decode cX11_world 72 = .ok (.getfield 163, 3) := by decide +kernel
theorem dX11_world_75 : decode cX11_world 75 = .ok (.iload 7, 2) := by decide +kernel
theorem dX11_world_77 : decode cX11_world 77 = .ok (.iaload, 1) := by decide +kernel
theorem dX11_world_78 : decode cX11_world 78 = .ok (.iadd, 1) := by decide +kernel
theorem dX11_world_79 : decode cX11_world 79 = .ok (.istore 6, 2) := by decide +kernel
theorem dX11_world_81 : decode cX11_world 81 = .ok (.iinc 7 1, 3) := by decide +kernel
theorem dX11_world_84 : decode cX11_world 84 = .ok (.goto (-23), 3) := by decide +kernel
theorem dX11_world_87 : decode cX11_world 87 = .ok (.iload 6, 2) := by decide +kernel
theorem dX11_world_89 : decode cX11_world 89 = .ok (.ifCond .ne 5, 3) := by decide +kernel
theorem dX11_world_92 : decode cX11_world 92 = .ok (.iconst (-1), 1) := by decide +kernel
theorem dX11_world_93 : decode cX11_world 93 = .ok (.ireturn, 1) := by decide +kernel
theorem dX11_world_94 : decode cX11_world 94 = .ok (.aload_n 0, 1) := by decide +kernel
theorem dX11_world_95 : decode cX11_world 95 = .ok (.iload_n 1, 1) := by decide +kernel
theorem dX11_world_96 : decode cX11_world 96 = .ok (.i2l, 1) := by decide +kernel
theorem dX11_world_97 : decode cX11_world 97 = .ok (.putfield 483, 3) := by decide +kernel
theorem dX11_world_100 : decode cX11_world 100 = .ok (.iconst 0, 1) := by decide +kernel
theorem dX11_world_101 : decode cX11_world 101 = .ok (.istore 7, 2) := by decide +kernel
theorem dX11_world_103 : decode cX11_world 103 = .ok (.iconst 0, 1) := by decide +kernel
theorem dX11_world_104 : decode cX11_world 104 = .ok (.istore 8, 2) := by decide +kernel
theorem dX11_world_106 : decode cX11_world 106 = .ok (.iload 8, 2) := by decide +kernel
theorem dX11_world_108 : decode cX11_world 108 = .ok (.iload_n 3, 1) := by decide +kernel
theorem dX11_world_109 : decode cX11_world 109 = .ok (.if_icmp .ge 103, 3) := by decide +kernel
theorem dX11_world_112 : decode cX11_world 112 = .ok (.aload_n 0, 1) := by decide +kernel
theorem dX11_world_113 : decode cX11_world 113 = .ok (.iload 6, 2) := by decide +kernel
theorem dX11_world_115 : decode cX11_world 115 = .ok (.invokevirtual 491, 3) := by decide +kernel
theorem dX11_world_118 : decode cX11_world 118 = .ok (.istore 9, 2) := by decide +kernel
theorem dX11_world_120 : decode cX11_world 120 = .ok (.iconst 0, 1) := by decide +kernel
theorem dX11_world_121 : decode cX11_world 121 = .ok (.istore 10, 2) := by decide +kernel
theorem dX11_world_123 : decode cX11_world 123 = .ok (.aload_n 0, 1) := by decide +kernel
theorem dX11_world_124 : decode cX11_world 124 = .ok (.getfield 163, 3) := by decide +kernel
theorem dX11_world_127 : decode cX11_world 127 = .ok (.iconst 0, 1) := by decide +kernel
theorem dX11_world_128 : decode cX11_world 128 = .ok (.iaload, 1) := by decide +kernel
theorem dX11_world_129 : decode cX11_world 129 = .ok (.istore 11, 2) := by decide +kernel
theorem dX11_world_131 : decode cX11_world 131 = .ok (.iload 11, 2) := by decide +kernel
theorem dX11_world_133 : decode cX11_world 133 = .ok (.iload 9, 2) := by decide +kernel
theorem dX11_world_135 : decode cX11_world 135 = .ok (.if_icmp .gt 21, 3) := by decide +kernel
theorem dX11_world_138 : decode cX11_world 138 = .ok (.iinc 10 1, 3) := by decide +kernel
theorem dX11_world_141 : decode cX11_world 141 = .ok (.iload 11, 2) := by decide +kernel
theorem dX11_world_143 : decode cX11_world 143 = .ok (.aload_n 0, 1) := by decide +kernel
theorem dX11_world_144 : decode cX11_world 144 = .ok (.getfield 163, 3) := by decide +kernel
theorem dX11_world_147 : decode cX11_world 147 = .ok (.iload 10, 2) := by decide +kernel
theorem dX11_world_149 : decode cX11_world 149 = .ok (.iaload, 1) := by decide +kernel
theorem dX11_world_150 : decode cX11_world 150 = .ok (.iadd, 1) := by decide +kernel
theorem dX11_world_151 : decode cX11_world 151 = .ok (.istore 11, 2) := by decide +kernel
theorem dX11_world_153 : decode cX11_world 153 = .ok (.goto (-22), 3) := by decide +kernel
theorem dX11_world_156 : decode cX11_world 156 = .ok (.aload_n 0, 1) := by decide +kernel
theorem dX11_world_157 : decode cX11_world 157 = .ok (.iconst 4, 1) := by decide +kernel
theorem dX11_world_158 : decode cX11_world 158 = .ok (.iload 10, 2) := by decide +kernel
theorem dX11_world_160 : decode cX11_world 160 = .ok (.iload_n 2, 1) := by decide +kernel
theorem dX11_world_161 : decode cX11_world 161 = .ok (.invokevirtual 393, 3) := by decide +kernel
theorem dX11_world_164 : decode cX11_world 164 = .ok (.istore 12, 2) := by decide +kernel
theorem dX11_world_166 : decode cX11_world 166 = .ok (.aload_n 0, 1) := by decide +kernel
theorem dX11_world_167 : decode cX11_world 167 = .ok (.bipush 100, 2) := by decide +kernel
theorem dX11_world_169 : decode cX11_world 169 = .ok (.invokevirtual 491, 3) := by decide +kernel
theorem dX11_world_172 : decode cX11_world 172 = .ok (.iload 12, 2) := by decide +kernel
theorem dX11_world_174 : decode cX11_world 174 = .ok (.if_icmp .ge 7, 3) := by decide +kernel
theorem dX11_world_177 : decode cX11_world 177 = .ok (.iconst 1, 1) := by decide +kernel
theorem dX11_world_178 : decode cX11_world 178 = .ok (.goto 4, 3) := by decide +kernel
theorem dX11_world_181 : decode cX11_world 181 = .ok (.iconst 0, 1) := by decide +kernel
theorem dX11_world_182 : decode cX11_world 182 = .ok (.istore 13, 2) := by decide +kernel
theorem dX11_world_184 : decode cX11_world 184 = .ok (.iload 7, 2) := by decide +kernel
theorem dX11_world_186 : decode cX11_world 186 = .ok (.iload 13, 2) := by decide +kernel
theorem dX11_world_188 : decode cX11_world 188 = .ok (.ifCond .eq 14, 3) := by decide +kernel
theorem dX11_world_191 : decode cX11_world 191 = .ok (.iload 10, 2) := by decide +kernel
theorem dX11_world_193 : decode cX11_world 193 = .ok (.iload 4, 2) := by decide +kernel
theorem dX11_world_195 : decode cX11_world 195 = .ok (.if_icmp .ne 7, 3) := by decide +kernel
theorem dX11_world_198 : decode cX11_world 198 = .ok (.iconst 1, 1) := by decide +kernel
theorem dX11_world_199 : decode cX11_world 199 = .ok (.goto 4, 3) := by decide +kernel
theorem dX11_world_202 : decode cX11_world 202 = .ok (.iconst 0, 1) := by decide +kernel
theorem dX11_world_203 : decode cX11_world 203 = .ok (.ior, 1) := by decide +kernel
theorem dX11_world_204 : decode cX11_world 204 = .ok (.istore 7, 2) := by decide +kernel
theorem dX11_world_206 : decode cX11_world 206 = .ok (.iinc 8 1, 3) := by decide +kernel
theorem dX11_world_209 : decode cX11_world 209 = .ok (.goto (-103), 3) := by decide +kernel
theorem dX11_world_212 : decode cX11_world 212 = .ok (.iconst 0, 1) := by decide +kernel
theorem dX11_world_213 : decode cX11_world 213 = .ok (.istore 8, 2) := by decide +kernel
theorem dX11_world_215 : decode cX11_world 215 = .ok (.iconst 0, 1) := by decide +kernel
theorem dX11_world_216 : decode cX11_world 216 = .ok (.istore 9, 2) := by decide +kernel
theorem dX11_world_218 : decode cX11_world 218 = .ok (.iload 9, 2) := by decide +kernel
theorem dX11_world_220 : decode cX11_world 220 = .ok (.iload 5, 2) := by decide +kernel
theorem dX11_world_222 : decode cX11_world 222 = .ok (.if_icmp .ge 37, 3) := by decide +kernel
theorem dX11_world_225 : decode cX11_world 225 = .ok (.iload 8, 2) := by decide +kernel
theorem dX11_world_227 : decode cX11_world 227 = .ok (.aload_n 0, 1) := by decide +kernel
theorem dX11_world_228 : decode cX11_world 228 = .ok (.bipush 10, 2) := by decide +kernel
theorem dX11_world_230 : decode cX11_world 230 = .ok (.invokevirtual 491, 3) := by decide +kernel
theorem dX11_world_233 : decode cX11_world 233 = .ok (.aload_n 0, 1) := by decide +kernel
theorem dX11_world_234 : decode cX11_world 234 = .ok (.invokevirtual 434, 3) := by decide +kernel
theorem dX11_world_237 : decode cX11_world 237 = .ok (.if_icmp .ge 12, 3) := by decide +kernel
theorem dX11_world_240 : decode cX11_world 240 = .ok (.iload 7, 2) := by decide +kernel
theorem dX11_world_242 : decode cX11_world 242 = .ok (.ifCond .eq 7, 3) := by decide +kernel
theorem dX11_world_245 : decode cX11_world 245 = .ok (.iconst 1, 1) := by decide +kernel
theorem dX11_world_246 : decode cX11_world 246 = .ok (.goto 4, 3) := by decide +kernel
theorem dX11_world_249 : decode cX11_world 249 = .ok (.iconst 0, 1) := by decide +kernel
theorem dX11_world_250 : decode cX11_world 250 = .ok (.iadd, 1) := by decide +kernel
theorem dX11_world_251 : decode cX11_world 251 = .ok (.istore 8, 2) := by decide +kernel
theorem dX11_world_253 : decode cX11_world 253 = .ok (.iinc 9 1, 3) := by decide +kernel
theorem dX11_world_256 : decode cX11_world 256 = .ok (.goto (-38), 3) := by decide +kernel
theorem dX11_world_259 : decode cX11_world 259 = .ok (.iload 8, 2) := by decide +kernel
theorem dX11_world_261 : decode cX11_world 261 = .ok (.ireturn, 1) := by decide +kernel
theorem dX11_say_0 : decode cX11_say 0 = .ok (.iload_n 1, 1) := by decide +kernel
theorem dX11_say_1 : decode cX11_say 1 = .ok (.invokestatic 191, 3) := by decide +kernel
theorem dX11_say_4 : decode cX11_say 4 = .ok (.ifCond .eq 10, 3) := by decide +kernel
theorem dX11_say_7 : decode cX11_say 7 = .ok (.iload_n 2, 1) := by decide +kernel
theorem dX11_say_8 : decode cX11_say 8 = .ok (.invokestatic 335, 3) := by decide +kernel
theorem dX11_say_11 : decode cX11_say 11 = .ok (.ifCond .ne 6, 3) := by decide +kernel
theorem dX11_say_14 : decode cX11_say 14 = .ok (.bipush (-2), 2) := by decide +kernel
theorem dX11_say_16 : decode cX11_say 16 = .ok (.ireturn, 1) := by decide +kernel
theorem dX11_say_17 : decode cX11_say 17 = .ok (.aload_n 0, 1) := by decide +kernel
theorem dX11_say_18 : decode cX11_say 18 = .ok (.iload_n 2, 1) := by decide +kernel
theorem dX11_say_19 : decode cX11_say 19 = .ok (.invokevirtual 385, 3) := by decide +kernel
theorem dX11_say_22 : decode cX11_say 22 = .ok (.aload_n 0, 1) := by decide +kernel
theorem dX11_say_23 : decode cX11_say 23 = .ok (.getfield 139, 3) := by decide +kernel
theorem dX11_say_26 : decode cX11_say 26 = .ok (.iload_n 1, 1) := by decide +kernel
theorem dX11_say_27 : decode cX11_say 27 = .ok (.baload, 1) := by decide +kernel
theorem dX11_say_28 : decode cX11_say 28 = .ok (.ifCond .ne 5, 3) := by decide +kernel
theorem dX11_say_31 : decode cX11_say 31 = .ok (.iconst (-1), 1) := by decide +kernel
theorem dX11_say_32 : decode cX11_say 32 = .ok (.ireturn, 1) := by decide +kernel
theorem dX11_say_33 : decode cX11_say 33 = .ok (.iconst 0, 1) := by decide +kernel
theorem dX11_say_34 : decode cX11_say 34 = .ok (.istore_n 3, 1) := by decide +kernel
theorem dX11_say_35 : decode cX11_say 35 = .ok (.iconst 0, 1) := by decide +kernel
theorem dX11_say_36 : decode cX11_say 36 = .ok (.istore 4, 2) := by decide +kernel
theorem dX11_say_38 : decode cX11_say 38 = .ok (.iload 4, 2) := by decide +kernel
theorem dX11_say_40 : decode cX11_say 40 = .ok (.aload_n 0, 1) := by decide +kernel
theorem dX11_say_41 : decode cX11_say 41 = .ok (.getfield 16, 3) := by decide +kernel
theorem dX11_say_44 : decode cX11_say 44 = .ok (.iconst 0, 1) := by decide +kernel
theorem dX11_say_45 : decode cX11_say 45 = .ok (.iaload, 1) := by decide +kernel
theorem dX11_say_46 : decode cX11_say 46 = .ok (.if_icmp .ge 70, 3) := by decide +kernel
theorem dX11_say_49 : decode cX11_say 49 = .ok (.aload_n 0, 1) := by decide +kernel
theorem dX11_say_50 : decode cX11_say 50 = .ok (.getfield 40, 3) := by decide +kernel
theorem dX11_say_53 : decode cX11_say 53 = .ok (.iload 4, 2) := by decide +kernel
theorem dX11_say_55 : decode cX11_say 55 = .ok (.iaload, 1) := by decide +kernel
theorem dX11_say_56 : decode cX11_say 56 = .ok (.iload_n 1, 1) := by decide +kernel
theorem dX11_say_57 : decode cX11_say 57 = .ok (.if_icmp .ne 53, 3) := by decide +kernel
theorem dX11_say_60 : decode cX11_say 60 = .ok (.iload_n 2, 1) := by decide +kernel
theorem dX11_say_61 : decode cX11_say 61 = .ok (.aload_n 0, 1) := by decide +kernel
theorem dX11_say_62 : decode cX11_say 62 = .ok (.getfield 46, 3) := by decide +kernel
theorem dX11_say_65 : decode cX11_say 65 = .ok (.iload 4, 2) := by decide +kernel
theorem dX11_say_67 : decode cX11_say 67 = .ok (.iaload, 1) := by decide +kernel
