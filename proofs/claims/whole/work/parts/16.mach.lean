/-! contracts of the methods, by gen.py: X8_comesTo, X8_plays, X8_tries, X8_isValue, X8_sets, X8_setSound, X8_becomeHands, X8_setHands, X8_isHand, X8_send, X8_setCarrying -/
theorem dX8_comesTo_0 : decode cX8_comesTo 0 = .ok (.aload_n 0, 1) := by decide +kernel
theorem dX8_comesTo_1 : decode cX8_comesTo 1 = .ok (.iload_n 1, 1) := by decide +kernel
theorem dX8_comesTo_2 : decode cX8_comesTo 2 = .ok (.iconst 2, 1) := by decide +kernel
theorem dX8_comesTo_3 : decode cX8_comesTo 3 = .ok (.invokevirtual 77, 3) := by decide +kernel
theorem dX8_comesTo_6 : decode cX8_comesTo 6 = .ok (.istore_n 2, 1) := by decide +kernel
theorem dX8_comesTo_7 : decode cX8_comesTo 7 = .ok (.aload_n 0, 1) := by decide +kernel
theorem dX8_comesTo_8 : decode cX8_comesTo 8 = .ok (.getfield 7, 3) := by decide +kernel
theorem dX8_comesTo_11 : decode cX8_comesTo 11 = .ok (.iconst 0, 1) := by decide +kernel
theorem dX8_comesTo_12 : decode cX8_comesTo 12 = .ok (.iload_n 2, 1) := by decide +kernel
theorem dX8_comesTo_13 : decode cX8_comesTo 13 = .ok (.iadd, 1) := by decide +kernel
theorem dX8_comesTo_14 : decode cX8_comesTo 14 = .ok (.iaload, 1) := by decide +kernel
theorem dX8_comesTo_15 : decode cX8_comesTo 15 = .ok (.istore_n 3, 1) := by decide +kernel
theorem dX8_comesTo_16 : decode cX8_comesTo 16 = .ok (.aload_n 0, 1) := by decide +kernel
theorem dX8_comesTo_17 : decode cX8_comesTo 17 = .ok (.iload_n 3, 1) := by decide +kernel
theorem dX8_comesTo_18 : decode cX8_comesTo 18 = .ok (.aload_n 0, 1) := by decide +kernel
theorem dX8_comesTo_19 : decode cX8_comesTo 19 = .ok (.iload_n 1, 1) := by decide +kernel
theorem dX8_comesTo_20 : decode cX8_comesTo 20 = .ok (.iconst 1, 1) := by decide +kernel
theorem dX8_comesTo_21 : decode cX8_comesTo 21 = .ok (.invokevirtual 77, 3) := by decide +kernel
theorem dX8_comesTo_24 : decode cX8_comesTo 24 = .ok (.invokevirtual 92, 3) := by decide +kernel
theorem dX8_comesTo_27 : decode cX8_comesTo 27 = .ok (.istore 4, 2) := by decide +kernel
theorem dX8_comesTo_29 : decode cX8_comesTo 29 = .ok (.aload_n 0, 1) := by decide +kernel
theorem dX8_comesTo_30 : decode cX8_comesTo 30 = .ok (.getfield 25, 3) := by decide +kernel
theorem dX8_comesTo_33 : decode cX8_comesTo 33 = .ok (.iload_n 1, 1) := by decide +kernel
theorem dX8_comesTo_34 : decode cX8_comesTo 34 = .ok (.bipush (-5), 2) := by decide +kernel
theorem dX8_comesTo_36 : decode cX8_comesTo 36 = .ok (.iastore, 1) := by decide +kernel
theorem dX8_comesTo_37 : decode cX8_comesTo 37 = .ok (.aload_n 0, 1) := by decide +kernel
theorem dX8_comesTo_38 : decode cX8_comesTo 38 = .ok (.getfield 31, 3) := by decide +kernel
theorem dX8_comesTo_41 : decode cX8_comesTo 41 = .ok (.iload_n 1, 1) := by decide +kernel
theorem dX8_comesTo_42 : decode cX8_comesTo 42 = .ok (.bipush (-5), 2) := by decide +kernel
theorem dX8_comesTo_44 : decode cX8_comesTo 44 = .ok (.iastore, 1) := by decide +kernel
theorem dX8_comesTo_45 : decode cX8_comesTo 45 = .ok (.aload_n 0, 1) := by decide +kernel
theorem dX8_comesTo_46 : decode cX8_comesTo 46 = .ok (.getfield 34, 3) := by decide +kernel
theorem dX8_comesTo_49 : decode cX8_comesTo 49 = .ok (.iload_n 1, 1) := by decide +kernel
theorem dX8_comesTo_50 : decode cX8_comesTo 50 = .ok (.iconst 0, 1) := by decide +kernel
theorem dX8_comesTo_51 : decode cX8_comesTo 51 = .ok (.iastore, 1) := by decide +kernel
theorem dX8_comesTo_52 : decode cX8_comesTo 52 = .ok (.aload_n 0, 1) := by decide +kernel
theorem dX8_comesTo_53 : decode cX8_comesTo 53 = .ok (.getfield 28, 3) := by decide +kernel
theorem dX8_comesTo_56 : decode cX8_comesTo 56 = .ok (.iload_n 1, 1) := by decide +kernel
theorem dX8_comesTo_57 : decode cX8_comesTo 57 = .ok (.aload_n 0, 1) := by decide +kernel
theorem dX8_comesTo_58 : decode cX8_comesTo 58 = .ok (.getfield 7, 3) := by decide +kernel
theorem dX8_comesTo_61 : decode cX8_comesTo 61 = .ok (.bipush 10, 2) := by decide +kernel
theorem dX8_comesTo_63 : decode cX8_comesTo 63 = .ok (.iload_n 2, 1) := by decide +kernel
theorem dX8_comesTo_64 : decode cX8_comesTo 64 = .ok (.iadd, 1) := by decide +kernel
theorem dX8_comesTo_65 : decode cX8_comesTo 65 = .ok (.iaload, 1) := by decide +kernel
theorem dX8_comesTo_66 : decode cX8_comesTo 66 = .ok (.ifCond .ne 7, 3) := by decide +kernel
theorem dX8_comesTo_69 : decode cX8_comesTo 69 = .ok (.iconst 1, 1) := by decide +kernel
theorem dX8_comesTo_70 : decode cX8_comesTo 70 = .ok (.goto 27, 3) := by decide +kernel
theorem dX8_comesTo_73 : decode cX8_comesTo 73 = .ok (.aload_n 0, 1) := by decide +kernel
theorem dX8_comesTo_74 : decode cX8_comesTo 74 = .ok (.iload_n 1, 1) := by decide +kernel
theorem dX8_comesTo_75 : decode cX8_comesTo 75 = .ok (.invokevirtual 95, 3) := by decide +kernel
theorem dX8_comesTo_78 : decode cX8_comesTo 78 = .ok (.ifCond .ne 7, 3) := by decide +kernel
theorem dX8_comesTo_81 : decode cX8_comesTo 81 = .ok (.iconst 2, 1) := by decide +kernel
theorem dX8_comesTo_82 : decode cX8_comesTo 82 = .ok (.goto 15, 3) := by decide +kernel
theorem dX8_comesTo_85 : decode cX8_comesTo 85 = .ok (.iload 4, 2) := by decide +kernel
theorem dX8_comesTo_87 : decode cX8_comesTo 87 = .ok (.bipush (-5), 2) := by decide +kernel
theorem dX8_comesTo_89 : decode cX8_comesTo 89 = .ok (.if_icmp .ne 7, 3) := by decide +kernel
theorem dX8_comesTo_92 : decode cX8_comesTo 92 = .ok (.iconst 3, 1) := by decide +kernel
theorem dX8_comesTo_93 : decode cX8_comesTo 93 = .ok (.goto 4, 3) := by decide +kernel
theorem dX8_comesTo_96 : decode cX8_comesTo 96 = .ok (.iconst 0, 1) := by decide +kernel
theorem dX8_comesTo_97 : decode cX8_comesTo 97 = .ok (.iastore, 1) := by decide +kernel
theorem dX8_comesTo_98 : decode cX8_comesTo 98 = .ok (.aload_n 0, 1) := by decide +kernel
theorem dX8_comesTo_99 : decode cX8_comesTo 99 = .ok (.getfield 28, 3) := by decide +kernel
theorem dX8_comesTo_102 : decode cX8_comesTo 102 = .ok (.iload_n 1, 1) := by decide +kernel
theorem dX8_comesTo_103 : decode cX8_comesTo 103 = .ok (.iaload, 1) := by decide +kernel
theorem dX8_comesTo_104 : decode cX8_comesTo 104 = .ok (.ifCond .le 32, 3) := by decide +kernel
theorem dX8_comesTo_107 : decode cX8_comesTo 107 = .ok (.aload_n 0, 1) := by decide +kernel
theorem dX8_comesTo_108 : decode cX8_comesTo 108 = .ok (.dup, 1) := by decide +kernel
theorem dX8_comesTo_109 : decode cX8_comesTo 109 = .ok (.getfield 99, 3) := by decide +kernel
theorem dX8_comesTo_112 : decode cX8_comesTo 112 = .ok (.iconst 1, 1) := by decide +kernel
theorem dX8_comesTo_113 : decode cX8_comesTo 113 = .ok (.iadd, 1) := by decide +kernel
theorem dX8_comesTo_114 : decode cX8_comesTo 114 = .ok (.putfield 99, 3) := by decide +kernel
theorem dX8_comesTo_117 : decode cX8_comesTo 117 = .ok (.aload_n 0, 1) := by decide +kernel
theorem dX8_comesTo_118 : decode cX8_comesTo 118 = .ok (.dup, 1) := by decide +kernel
theorem dX8_comesTo_119 : decode cX8_comesTo 119 = .ok (.getfield 102, 3) := by decide +kernel
theorem dX8_comesTo_122 : decode cX8_comesTo 122 = .ok (.aload_n 0, 1) := by decide +kernel
theorem dX8_comesTo_123 : decode cX8_comesTo 123 = .ok (.getfield 7, 3) := by decide +kernel
theorem dX8_comesTo_126 : decode cX8_comesTo 126 = .ok (.bipush 20, 2) := by decide +kernel
theorem dX8_comesTo_128 : decode cX8_comesTo 128 = .ok (.iload_n 2, 1) := by decide +kernel
theorem dX8_comesTo_129 : decode cX8_comesTo 129 = .ok (.iadd, 1) := by decide +kernel
theorem dX8_comesTo_130 : decode cX8_comesTo 130 = .ok (.iaload, 1) := by decide +kernel
theorem dX8_comesTo_131 : decode cX8_comesTo 131 = .ok (.iadd, 1) := by decide +kernel
theorem dX8_comesTo_132 : decode cX8_comesTo 132 = .ok (.putfield 102, 3) := by decide +kernel
theorem dX8_comesTo_135 : decode cX8_comesTo 135 = .ok (.return_, 1) := by decide +kernel
theorem dX8_comesTo_136 : decode cX8_comesTo 136 = .ok (.aload_n 0, 1) := by decide +kernel
theorem dX8_comesTo_137 : decode cX8_comesTo 137 = .ok (.getfield 25, 3) := by decide +kernel
theorem dX8_comesTo_140 : decode cX8_comesTo 140 = .ok (.iload_n 1, 1) := by decide +kernel
theorem dX8_comesTo_141 : decode cX8_comesTo 141 = .ok (.iload 4, 2) := by decide +kernel
theorem dX8_comesTo_143 : decode cX8_comesTo 143 = .ok (.iastore, 1) := by decide +kernel
theorem dX8_comesTo_144 : decode cX8_comesTo 144 = .ok (.aload_n 0, 1) := by decide +kernel
theorem dX8_comesTo_145 : decode cX8_comesTo 145 = .ok (.getfield 31, 3) := by decide +kernel
theorem dX8_comesTo_148 : decode cX8_comesTo 148 = .ok (.iload_n 1, 1) := by decide +kernel
theorem dX8_comesTo_149 : decode cX8_comesTo 149 = .ok (.aload_n 0, 1) := by decide +kernel
theorem dX8_comesTo_150 : decode cX8_comesTo 150 = .ok (.getfield 7, 3) := by decide +kernel
theorem dX8_comesTo_153 : decode cX8_comesTo 153 = .ok (.bipush 31, 2) := by decide +kernel
theorem dX8_comesTo_155 : decode cX8_comesTo 155 = .ok (.iload 4, 2) := by decide +kernel
theorem dX8_comesTo_157 : decode cX8_comesTo 157 = .ok (.iadd, 1) := by decide +kernel
theorem dX8_comesTo_158 : decode cX8_comesTo 158 = .ok (.iaload, 1) := by decide +kernel
theorem dX8_comesTo_159 : decode cX8_comesTo 159 = .ok (.iload_n 3, 1) := by decide +kernel
theorem dX8_comesTo_160 : decode cX8_comesTo 160 = .ok (.invokestatic 89, 3) := by decide +kernel
theorem dX8_comesTo_163 : decode cX8_comesTo 163 = .ok (.iastore, 1) := by decide +kernel
theorem dX8_comesTo_164 : decode cX8_comesTo 164 = .ok (.aload_n 0, 1) := by decide +kernel
theorem dX8_comesTo_165 : decode cX8_comesTo 165 = .ok (.getfield 34, 3) := by decide +kernel
theorem dX8_comesTo_168 : decode cX8_comesTo 168 = .ok (.iload_n 1, 1) := by decide +kernel
theorem dX8_comesTo_169 : decode cX8_comesTo 169 = .ok (.aload_n 0, 1) := by decide +kernel
theorem dX8_comesTo_170 : decode cX8_comesTo 170 = .ok (.getfield 46, 3) := by decide +kernel
theorem dX8_comesTo_173 : decode cX8_comesTo 173 = .ok (.iload_n 2, 1) := by decide +kernel
theorem dX8_comesTo_174 : decode cX8_comesTo 174 = .ok (.iaload, 1) := by decide +kernel
theorem dX8_comesTo_175 : decode cX8_comesTo 175 = .ok (.bipush (-5), 2) := by decide +kernel
theorem dX8_comesTo_177 : decode cX8_comesTo 177 = .ok (.if_icmp .eq 22, 3) := by decide +kernel
theorem dX8_comesTo_180 : decode cX8_comesTo 180 = .ok (.aload_n 0, 1) := by decide +kernel
theorem dX8_comesTo_181 : decode cX8_comesTo 181 = .ok (.getfield 46, 3) := by decide +kernel
theorem dX8_comesTo_184 : decode cX8_comesTo 184 = .ok (.iload_n 2, 1) := by decide +kernel
theorem dX8_comesTo_185 : decode cX8_comesTo 185 = .ok (.iaload, 1) := by decide +kernel
theorem dX8_comesTo_186 : decode cX8_comesTo 186 = .ok (.aload_n 0, 1) := by decide +kernel
theorem dX8_comesTo_187 : decode cX8_comesTo 187 = .ok (.iload_n 1, 1) := by decide +kernel
theorem dX8_comesTo_188 : decode cX8_comesTo 188 = .ok (.iconst 0, 1) := by decide +kernel
theorem dX8_comesTo_189 : decode cX8_comesTo 189 = .ok (.invokevirtual 77, 3) := by decide +kernel
theorem dX8_comesTo_192 : decode cX8_comesTo 192 = .ok (.if_icmp .eq 7, 3) := by decide +kernel
theorem dX8_comesTo_195 : decode cX8_comesTo 195 = .ok (.iconst 1, 1) := by decide +kernel
theorem dX8_comesTo_196 : decode cX8_comesTo 196 = .ok (.goto 4, 3) := by decide +kernel
theorem dX8_comesTo_199 : decode cX8_comesTo 199 = .ok (.iconst 0, 1) := by decide +kernel
theorem dX8_comesTo_200 : decode cX8_comesTo 200 = .ok (.iastore, 1) := by decide +kernel
theorem dX8_comesTo_201 : decode cX8_comesTo 201 = .ok (.aload_n 0, 1) := by decide +kernel
theorem dX8_comesTo_202 : decode cX8_comesTo 202 = .ok (.getfield 40, 3) := by decide +kernel
theorem dX8_comesTo_205 : decode cX8_comesTo 205 = .ok (.iload 4, 2) := by decide +kernel
theorem dX8_comesTo_207 : decode cX8_comesTo 207 = .ok (.dup2, 1) := by decide +kernel
theorem dX8_comesTo_208 : decode cX8_comesTo 208 = .ok (.iaload, 1) := by decide +kernel
theorem dX8_comesTo_209 : decode cX8_comesTo 209 = .ok (.iconst 1, 1) := by decide +kernel
theorem dX8_comesTo_210 : decode cX8_comesTo 210 = .ok (.iadd, 1) := by decide +kernel
theorem dX8_comesTo_211 : decode cX8_comesTo 211 = .ok (.iastore, 1) := by decide +kernel
theorem dX8_comesTo_212 : decode cX8_comesTo 212 = .ok (.aload_n 0, 1) := by decide +kernel
theorem dX8_comesTo_213 : decode cX8_comesTo 213 = .ok (.getfield 43, 3) := by decide +kernel
theorem dX8_comesTo_216 : decode cX8_comesTo 216 = .ok (.iload 4, 2) := by decide +kernel
theorem dX8_comesTo_218 : decode cX8_comesTo 218 = .ok (.dup2, 1) := by decide +kernel
theorem dX8_comesTo_219 : decode cX8_comesTo 219 = .ok (.iaload, 1) := by decide +kernel
theorem dX8_comesTo_220 : decode cX8_comesTo 220 = .ok (.aload_n 0, 1) := by decide +kernel
theorem dX8_comesTo_221 : decode cX8_comesTo 221 = .ok (.getfield 31, 3) := by decide +kernel
theorem dX8_comesTo_224 : decode cX8_comesTo 224 = .ok (.iload_n 1, 1) := by decide +kernel
theorem dX8_comesTo_225 : decode cX8_comesTo 225 = .ok (.iaload, 1) := by decide +kernel
theorem dX8_comesTo_226 : decode cX8_comesTo 226 = .ok (.iadd, 1) := by decide +kernel
theorem dX8_comesTo_227 : decode cX8_comesTo 227 = .ok (.iastore, 1) := by decide +kernel
theorem dX8_comesTo_228 : decode cX8_comesTo 228 = .ok (.aload_n 0, 1) := by decide +kernel
theorem dX8_comesTo_229 : decode cX8_comesTo 229 = .ok (.getfield 7, 3) := by decide +kernel
theorem dX8_comesTo_232 : decode cX8_comesTo 232 = .ok (.bipush 31, 2) := by decide +kernel
theorem dX8_comesTo_234 : decode cX8_comesTo 234 = .ok (.iload 4, 2) := by decide +kernel
theorem dX8_comesTo_236 : decode cX8_comesTo 236 = .ok (.iadd, 1) := by decide +kernel
theorem dX8_comesTo_237 : decode cX8_comesTo 237 = .ok (.iload_n 3, 1) := by decide +kernel
theorem dX8_comesTo_238 : decode cX8_comesTo 238 = .ok (.iastore, 1) := by decide +kernel
theorem dX8_comesTo_239 : decode cX8_comesTo 239 = .ok (.aload_n 0, 1) := by decide +kernel
theorem dX8_comesTo_240 : decode cX8_comesTo 240 = .ok (.getfield 37, 3) := by decide +kernel
theorem dX8_comesTo_243 : decode cX8_comesTo 243 = .ok (.iload 4, 2) := by decide +kernel
theorem dX8_comesTo_245 : decode cX8_comesTo 245 = .ok (.aload_n 0, 1) := by decide +kernel
theorem dX8_comesTo_246 : decode cX8_comesTo 246 = .ok (.iload_n 1, 1) := by decide +kernel
theorem dX8_comesTo_247 : decode cX8_comesTo 247 = .ok (.iconst 1, 1) := by decide +kernel
theorem dX8_comesTo_248 : decode cX8_comesTo 248 = .ok (.invokevirtual 77, 3) := by decide +kernel
theorem dX8_comesTo_251 : decode cX8_comesTo 251 = .ok (.aload_n 0, 1) := by decide +kernel
theorem dX8_comesTo_252 : decode cX8_comesTo 252 = .ok (.iload_n 1, 1) := by decide +kernel
theorem dX8_comesTo_253 : decode cX8_comesTo 253 = .ok (.iconst 3, 1) := by decide +kernel
theorem dX8_comesTo_254 : decode cX8_comesTo 254 = .ok (.invokevirtual 77, 3) := by decide +kernel
theorem dX8_comesTo_257 : decode cX8_comesTo 257 = .ok (.iadd, 1) := by decide +kernel
theorem dX8_comesTo_258 : decode cX8_comesTo 258 = .ok (.iastore, 1) := by decide +kernel
theorem dX8_comesTo_259 : decode cX8_comesTo 259 = .ok (.aload_n 0, 1) := by decide +kernel
theorem dX8_comesTo_260 : decode cX8_comesTo 260 = .ok (.getfield 46, 3) := by decide +kernel
theorem dX8_comesTo_263 : decode cX8_comesTo 263 = .ok (.iload_n 2, 1) := by decide +kernel
theorem dX8_comesTo_264 : decode cX8_comesTo 264 = .ok (.aload_n 0, 1) := by decide +kernel
theorem dX8_comesTo_265 : decode cX8_comesTo 265 = .ok (.iload_n 1, 1) := by decide +kernel
theorem dX8_comesTo_266 : decode cX8_comesTo 266 = .ok (.iconst 0, 1) := by decide +kernel
theorem dX8_comesTo_267 : decode cX8_comesTo 267 = .ok (.invokevirtual 77, 3) := by decide +kernel
theorem dX8_comesTo_270 : decode cX8_comesTo 270 = .ok (.iastore, 1) := by decide +kernel
theorem dX8_comesTo_271 : decode cX8_comesTo 271 = .ok (.aload_n 0, 1) := by decide +kernel
theorem dX8_comesTo_272 : decode cX8_comesTo 272 = .ok (.getfield 49, 3) := by decide +kernel
theorem dX8_comesTo_275 : decode cX8_comesTo 275 = .ok (.iload_n 2, 1) := by decide +kernel
theorem dX8_comesTo_276 : decode cX8_comesTo 276 = .ok (.aload_n 0, 1) := by decide +kernel
theorem dX8_comesTo_277 : decode cX8_comesTo 277 = .ok (.getfield 37, 3) := by decide +kernel
theorem dX8_comesTo_280 : decode cX8_comesTo 280 = .ok (.iload 4, 2) := by decide +kernel
theorem dX8_comesTo_282 : decode cX8_comesTo 282 = .ok (.iaload, 1) := by decide +kernel
theorem dX8_comesTo_283 : decode cX8_comesTo 283 = .ok (.iastore, 1) := by decide +kernel
theorem dX8_comesTo_284 : decode cX8_comesTo 284 = .ok (.aload_n 0, 1) := by decide +kernel
theorem dX8_comesTo_285 : decode cX8_comesTo 285 = .ok (.getfield 7, 3) := by decide +kernel
theorem dX8_comesTo_288 : decode cX8_comesTo 288 = .ok (.bipush 10, 2) := by decide +kernel
theorem dX8_comesTo_290 : decode cX8_comesTo 290 = .ok (.iload_n 2, 1) := by decide +kernel
theorem dX8_comesTo_291 : decode cX8_comesTo 291 = .ok (.iadd, 1) := by decide +kernel
theorem dX8_comesTo_292 : decode cX8_comesTo 292 = .ok (.dup2, 1) := by decide +kernel
theorem dX8_comesTo_293 : decode cX8_comesTo 293 = .ok (.iaload, 1) := by decide +kernel
theorem dX8_comesTo_294 : decode cX8_comesTo 294 = .ok (.iconst 1, 1) := by decide +kernel
theorem dX8_comesTo_295 : decode cX8_comesTo 295 = .ok (.isub, 1) := by decide +kernel
theorem dX8_comesTo_296 : decode cX8_comesTo 296 = .ok (.iastore, 1) := by decide +kernel
theorem dX8_comesTo_297 : decode cX8_comesTo 297 = .ok (.return_, 1) := by decide +kernel
set_option maxRecDepth 20000 in
theorem ggX8_comesTo_X8_apart : GoodIn wsX8_comesTo wsX8_apart := goodIn_r _ [24] (by decide +kernel) (by decide +kernel)
set_option maxRecDepth 20000 in
theorem gX8_comesTo_X8_apart : GoodIn wsX8_comesTo (va_wsS RX8 89 yX8_apart wsX8_apart) := goodIn_app (goodIn_of _ (by decide +kernel)) ggX8_comesTo_X8_apart
set_option maxRecDepth 20000 in
theorem ggX8_comesTo_X8_handFor : GoodIn wsX8_comesTo wsX8_handFor := goodIn_r _ [21, 1, 11, 22, 23, 16, 24, 29, 30, 31, 32, 33, 34, 35, 36, 37, 38, 39, 40, 41, 42, 43, 44, 45, 46, 47, 48, 49, 50, 51, 52, 53] (by decide +kernel) (by decide +kernel)
set_option maxRecDepth 20000 in
theorem gX8_comesTo_X8_handFor : GoodIn wsX8_comesTo (wsV RX8 92 RX8 yX8_handFor wsX8_handFor) := goodIn_app (goodIn_of _ (by decide +kernel)) ggX8_comesTo_X8_handFor
set_option maxRecDepth 20000 in
theorem ggX8_comesTo_X8_isThere : GoodIn wsX8_comesTo wsX8_isThere := goodIn_r _ [28, 8, 12, 1, 13, 14, 15, 16, 17, 29, 30, 31, 32, 33, 34, 35, 36, 37, 38, 39, 40, 41, 42, 43, 44, 45, 46, 47, 48, 49, 50, 51, 52, 53] (by decide +kernel) (by decide +kernel)
set_option maxRecDepth 20000 in
theorem gX8_comesTo_X8_isThere : GoodIn wsX8_comesTo (wsV RX8 95 RX8 yX8_isThere wsX8_isThere) := goodIn_app (goodIn_of _ (by decide +kernel)) ggX8_comesTo_X8_isThere
set_option maxRecDepth 20000 in
theorem ggX8_comesTo_X8_of : GoodIn wsX8_comesTo wsX8_of := goodIn_r _ [17, 1, 29, 30, 31, 32, 33, 34, 35, 36, 37, 38, 39, 40, 41, 42, 43, 44, 45, 46, 47, 48, 49, 50, 51, 52, 53] (by decide +kernel) (by decide +kernel)
set_option maxRecDepth 20000 in
theorem gX8_comesTo_X8_of : GoodIn wsX8_comesTo (wsV RX8 77 RX8 yX8_of wsX8_of) := goodIn_app (goodIn_of _ (by decide +kernel)) ggX8_comesTo_X8_of
theorem iX8_comesTo_8 : ∀ w ∈ u_ws RX8 TX8 25, w ∈ wsX8_comesTo := fun w h => List.mem_cons_of_mem _ (List.mem_append_right _ (h))
set_option maxHeartbeats 4000000 in
set_option maxRecDepth 100000 in
theorem w_X8_comesTo_J200 {p : Program} {l : Launch} {e : Env} {s : State} {m : MethodId} {args : Array Value} {below : List Frame} {meth : Method} {c : Code} {E : EE} {g : GG} {ad : Nat → Nat} (hg : gwf g) (X : CallFix p m c cX8_comesTo 5 s args wsX8_comesTo RX8) (K : Kn E s) (hr : meth.sig.returnType = none) (hlk : meth.locks = false) {Q : Mm → Prop} : ∀ (o0 : Nat) (x1 : Int) (x2 : Int) (x3 : Int) (x4 : Int) (z0 : Nat) (y1 : Int) (y2 : Int) (M : Mm) (H : Heap) (locs : List Loc) (ls : Array Slot), gk g o0 = 8 → gk g z0 = 9 → Rw E g ad M s.heap H locs → lv_has ls 5 [(0, .ref (ad o0)), (1, cI x1), (2, cI x2), (3, cI x3), (4, cI x4)] → p_X8_comesTo_J200 g o0 x1 x2 x3 x4 z0 y1 y2 M Q → W p l e rmX8_comesTo s m args below meth c H locs 0 0 (MQ below (QV E g ad Q) args s 0 0 (Rg g ad)) (F0 m 200 ls [cI y2, cI y1, .ref (ad z0)]) := by
  intro o0 x1 x2 x3 x4 z0 y1 y2 M H locs ls k_o0 k_z0 w hl h
  unfold p_X8_comesTo_J200 at h
  obtain ⟨b0, b1, h⟩ := h
  refine r_iast X K w hg k_z0 b0 b1 dX8_comesTo_200 (fun M29 H locs e w => ?_)
  replace h := h M29 e
  refine lv_aload_n X.1 X.2.1 dX8_comesTo_201 rfl (lv_at hl 0 rfl) ?_
  refine r_getr (N := 25) (T := TX8) X K w iX8_comesTo_8 k_o0 rfl (by decide) 12 (by decide) rfl rfl (List.mem_of_getElem? (i := 9) rfl) dX8_comesTo_202 ?_
  have k30 : gk g (o0 + 11) = 9 := gch hg k_o0 (by decide) 12 (by decide) rfl rfl
  refine lv_iload X.1 X.2.1 dX8_comesTo_205 (lv_at hl 4 rfl) ?_
  refine lv_dup2_11 X.1 X.2.1 dX8_comesTo_207 rfl rfl ?_
  obtain ⟨b0, b1, h⟩ := h
  refine r_iald X K w hg k30 b0 b1 dX8_comesTo_208 ?_
  refine r_iconst X dX8_comesTo_209 ?_
  refine r_iadd X dX8_comesTo_210 ?_
  obtain ⟨b0, b1, h⟩ := h
  refine r_iast X K w hg k30 b0 b1 dX8_comesTo_211 (fun M31 H locs e w => ?_)
  replace h := h M31 e
  refine lv_aload_n X.1 X.2.1 dX8_comesTo_212 rfl (lv_at hl 0 rfl) ?_
  refine r_getr (N := 25) (T := TX8) X K w iX8_comesTo_8 k_o0 rfl (by decide) 13 (by decide) rfl rfl (List.mem_of_getElem? (i := 10) rfl) dX8_comesTo_213 ?_
  have k32 : gk g (o0 + 12) = 9 := gch hg k_o0 (by decide) 13 (by decide) rfl rfl
  refine lv_iload X.1 X.2.1 dX8_comesTo_216 (lv_at hl 4 rfl) ?_
  refine lv_dup2_11 X.1 X.2.1 dX8_comesTo_218 rfl rfl ?_
  obtain ⟨b0, b1, h⟩ := h
  refine r_iald X K w hg k32 b0 b1 dX8_comesTo_219 ?_
  refine lv_aload_n X.1 X.2.1 dX8_comesTo_220 rfl (lv_at hl 0 rfl) ?_
  refine r_getr (N := 25) (T := TX8) X K w iX8_comesTo_8 k_o0 rfl (by decide) 9 (by decide) rfl rfl (List.mem_of_getElem? (i := 3) rfl) dX8_comesTo_221 ?_
  have k33 : gk g (o0 + 8) = 9 := gch hg k_o0 (by decide) 9 (by decide) rfl rfl
  refine lv_iload_n X.1 X.2.1 dX8_comesTo_224 rfl (lv_at hl 1 rfl) ?_
  obtain ⟨b0, b1, h⟩ := h
  refine r_iald X K w hg k33 b0 b1 dX8_comesTo_225 ?_
  refine r_iadd X dX8_comesTo_226 ?_
  obtain ⟨b0, b1, h⟩ := h
  refine r_iast X K w hg k32 b0 b1 dX8_comesTo_227 (fun M34 H locs e w => ?_)
  replace h := h M34 e
  refine lv_aload_n X.1 X.2.1 dX8_comesTo_228 rfl (lv_at hl 0 rfl) ?_
  refine r_getr (N := 25) (T := TX8) X K w iX8_comesTo_8 k_o0 rfl (by decide) 0 (by decide) rfl rfl (List.mem_of_getElem? (i := 1) rfl) dX8_comesTo_229 ?_
  have k35 : gk g (o0 + 1) = 9 := gch hg k_o0 (by decide) 0 (by decide) rfl rfl
  refine r_bipush X dX8_comesTo_232 (by decide +kernel) ?_
  refine lv_iload X.1 X.2.1 dX8_comesTo_234 (lv_at hl 4 rfl) ?_
  refine r_iadd X dX8_comesTo_236 ?_
  refine lv_iload_n X.1 X.2.1 dX8_comesTo_237 rfl (lv_at hl 3 rfl) ?_
  obtain ⟨b0, b1, h⟩ := h
  refine r_iast X K w hg k35 b0 b1 dX8_comesTo_238 (fun M36 H locs e w => ?_)
  replace h := h M36 e
  refine lv_aload_n X.1 X.2.1 dX8_comesTo_239 rfl (lv_at hl 0 rfl) ?_
  refine r_getr (N := 25) (T := TX8) X K w iX8_comesTo_8 k_o0 rfl (by decide) 11 (by decide) rfl rfl (List.mem_of_getElem? (i := 11) rfl) dX8_comesTo_240 ?_
  have k37 : gk g (o0 + 10) = 9 := gch hg k_o0 (by decide) 11 (by decide) rfl rfl
  refine lv_iload X.1 X.2.1 dX8_comesTo_243 (lv_at hl 4 rfl) ?_
  refine lv_aload_n X.1 X.2.1 dX8_comesTo_245 rfl (lv_at hl 0 rfl) ?_
  refine lv_iload_n X.1 X.2.1 dX8_comesTo_246 rfl (lv_at hl 1 rfl) ?_
  refine r_iconst X dX8_comesTo_247 ?_
  refine q_i (x_V (As := [cI x1, cI 1]) (rest := [cI x4, .ref (ad (o0 + 10))]) X K w (c_X8_of hg k_o0 h) (cwV 2 X.2.2.2.2 gX8_comesTo_X8_of rfl rfl rfl (by decide +kernel) ⟨Nat.le_of_ble_eq_true rfl, Nat.le_of_ble_eq_true rfl⟩) k_o0 (by decide) rfl rfl hl rfl (Nat.le_of_ble_eq_true rfl) dX8_comesTo_248 ⟨Nat.le_of_ble_eq_true rfl, Nat.le_of_ble_eq_true rfl⟩) w (fun r39 M38 H locs h w => ?_)
  refine lv_aload_n X.1 X.2.1 dX8_comesTo_251 rfl (lv_at hl 0 rfl) ?_
  refine lv_iload_n X.1 X.2.1 dX8_comesTo_252 rfl (lv_at hl 1 rfl) ?_
  refine r_iconst X dX8_comesTo_253 ?_
  refine q_i (x_V (As := [cI x1, cI 3]) (rest := [cI r39, cI x4, .ref (ad (o0 + 10))]) X K w (c_X8_of hg k_o0 h) (cwV 2 X.2.2.2.2 gX8_comesTo_X8_of rfl rfl rfl (by decide +kernel) ⟨Nat.le_of_ble_eq_true rfl, Nat.le_of_ble_eq_true rfl⟩) k_o0 (by decide) rfl rfl hl rfl (Nat.le_of_ble_eq_true rfl) dX8_comesTo_254 ⟨Nat.le_of_ble_eq_true rfl, Nat.le_of_ble_eq_true rfl⟩) w (fun r41 M40 H locs h w => ?_)
  refine r_iadd X dX8_comesTo_257 ?_
  obtain ⟨b0, b1, h⟩ := h
  refine r_iast X K w hg k37 b0 b1 dX8_comesTo_258 (fun M42 H locs e w => ?_)
  replace h := h M42 e
  refine lv_aload_n X.1 X.2.1 dX8_comesTo_259 rfl (lv_at hl 0 rfl) ?_
  refine r_getr (N := 25) (T := TX8) X K w iX8_comesTo_8 k_o0 rfl (by decide) 14 (by decide) rfl rfl (List.mem_of_getElem? (i := 8) rfl) dX8_comesTo_260 ?_
  have k43 : gk g (o0 + 13) = 9 := gch hg k_o0 (by decide) 14 (by decide) rfl rfl
  refine lv_iload_n X.1 X.2.1 dX8_comesTo_263 rfl (lv_at hl 2 rfl) ?_
  refine lv_aload_n X.1 X.2.1 dX8_comesTo_264 rfl (lv_at hl 0 rfl) ?_
  refine lv_iload_n X.1 X.2.1 dX8_comesTo_265 rfl (lv_at hl 1 rfl) ?_
  refine r_iconst X dX8_comesTo_266 ?_
  refine q_i (x_V (As := [cI x1, cI 0]) (rest := [cI x2, .ref (ad (o0 + 13))]) X K w (c_X8_of hg k_o0 h) (cwV 2 X.2.2.2.2 gX8_comesTo_X8_of rfl rfl rfl (by decide +kernel) ⟨Nat.le_of_ble_eq_true rfl, Nat.le_of_ble_eq_true rfl⟩) k_o0 (by decide) rfl rfl hl rfl (Nat.le_of_ble_eq_true rfl) dX8_comesTo_267 ⟨Nat.le_of_ble_eq_true rfl, Nat.le_of_ble_eq_true rfl⟩) w (fun r45 M44 H locs h w => ?_)
  obtain ⟨b0, b1, h⟩ := h
  refine r_iast X K w hg k43 b0 b1 dX8_comesTo_270 (fun M46 H locs e w => ?_)
  replace h := h M46 e
  refine lv_aload_n X.1 X.2.1 dX8_comesTo_271 rfl (lv_at hl 0 rfl) ?_
  refine r_getr (N := 25) (T := TX8) X K w iX8_comesTo_8 k_o0 rfl (by decide) 15 (by decide) rfl rfl (List.mem_of_getElem? (i := 12) rfl) dX8_comesTo_272 ?_
  have k47 : gk g (o0 + 14) = 9 := gch hg k_o0 (by decide) 15 (by decide) rfl rfl
  refine lv_iload_n X.1 X.2.1 dX8_comesTo_275 rfl (lv_at hl 2 rfl) ?_
  refine lv_aload_n X.1 X.2.1 dX8_comesTo_276 rfl (lv_at hl 0 rfl) ?_
  refine r_getr (N := 25) (T := TX8) X K w iX8_comesTo_8 k_o0 rfl (by decide) 11 (by decide) rfl rfl (List.mem_of_getElem? (i := 11) rfl) dX8_comesTo_277 ?_
  have k48 : gk g (o0 + 10) = 9 := gch hg k_o0 (by decide) 11 (by decide) rfl rfl
  refine lv_iload X.1 X.2.1 dX8_comesTo_280 (lv_at hl 4 rfl) ?_
  obtain ⟨b0, b1, h⟩ := h
  refine r_iald X K w hg k48 b0 b1 dX8_comesTo_282 ?_
  obtain ⟨b0, b1, h⟩ := h
  refine r_iast X K w hg k47 b0 b1 dX8_comesTo_283 (fun M49 H locs e w => ?_)
  replace h := h M49 e
  refine lv_aload_n X.1 X.2.1 dX8_comesTo_284 rfl (lv_at hl 0 rfl) ?_
  refine r_getr (N := 25) (T := TX8) X K w iX8_comesTo_8 k_o0 rfl (by decide) 0 (by decide) rfl rfl (List.mem_of_getElem? (i := 1) rfl) dX8_comesTo_285 ?_
  have k50 : gk g (o0 + 1) = 9 := gch hg k_o0 (by decide) 0 (by decide) rfl rfl
  refine r_bipush X dX8_comesTo_288 (by decide +kernel) ?_
  refine lv_iload_n X.1 X.2.1 dX8_comesTo_290 rfl (lv_at hl 2 rfl) ?_
  refine r_iadd X dX8_comesTo_291 ?_
  refine lv_dup2_11 X.1 X.2.1 dX8_comesTo_292 rfl rfl ?_
  obtain ⟨b0, b1, h⟩ := h
  refine r_iald X K w hg k50 b0 b1 dX8_comesTo_293 ?_
  refine r_iconst X dX8_comesTo_294 ?_
  refine r_isub X dX8_comesTo_295 ?_
  obtain ⟨b0, b1, h⟩ := h
  refine r_iast X K w hg k50 b0 b1 dX8_comesTo_296 (fun M51 H locs e w => ?_)
  replace h := h M51 e
  exact r_return X hr hlk K w h dX8_comesTo_297
set_option maxHeartbeats 4000000 in
set_option maxRecDepth 100000 in
theorem w_X8_comesTo_J199 {p : Program} {l : Launch} {e : Env} {s : State} {m : MethodId} {args : Array Value} {below : List Frame} {meth : Method} {c : Code} {E : EE} {g : GG} {ad : Nat → Nat} (hg : gwf g) (X : CallFix p m c cX8_comesTo 5 s args wsX8_comesTo RX8) (K : Kn E s) (hr : meth.sig.returnType = none) (hlk : meth.locks = false) {Q : Mm → Prop} : ∀ (o0 : Nat) (x1 : Int) (x2 : Int) (x3 : Int) (x4 : Int) (z0 : Nat) (y1 : Int) (M : Mm) (H : Heap) (locs : List Loc) (ls : Array Slot), gk g o0 = 8 → gk g z0 = 9 → Rw E g ad M s.heap H locs → lv_has ls 5 [(0, .ref (ad o0)), (1, cI x1), (2, cI x2), (3, cI x3), (4, cI x4)] → p_X8_comesTo_J199 g o0 x1 x2 x3 x4 z0 y1 M Q → W p l e rmX8_comesTo s m args below meth c H locs 0 0 (MQ below (QV E g ad Q) args s 0 0 (Rg g ad)) (F0 m 199 ls [cI y1, .ref (ad z0)]) := by
  intro o0 x1 x2 x3 x4 z0 y1 M H locs ls k_o0 k_z0 w hl h
  unfold p_X8_comesTo_J199 at h
  refine r_iconst X dX8_comesTo_199 ?_
  exact w_X8_comesTo_J200 hg X K hr hlk o0 x1 x2 x3 x4 z0 y1 0 M _ _ _ k_o0 k_z0 w (lv_sub hl [0, 1, 2, 3, 4] rfl) h
set_option maxHeartbeats 4000000 in
set_option maxRecDepth 100000 in
theorem w_X8_comesTo_J97 {p : Program} {l : Launch} {e : Env} {s : State} {m : MethodId} {args : Array Value} {below : List Frame} {meth : Method} {c : Code} {E : EE} {g : GG} {ad : Nat → Nat} (hg : gwf g) (X : CallFix p m c cX8_comesTo 5 s args wsX8_comesTo RX8) (K : Kn E s) (hr : meth.sig.returnType = none) (hlk : meth.locks = false) {Q : Mm → Prop} : ∀ (o0 : Nat) (x1 : Int) (x2 : Int) (x3 : Int) (x4 : Int) (z0 : Nat) (y1 : Int) (y2 : Int) (M : Mm) (H : Heap) (locs : List Loc) (ls : Array Slot), gk g o0 = 8 → gk g z0 = 9 → Rw E g ad M s.heap H locs → lv_has ls 5 [(0, .ref (ad o0)), (1, cI x1), (2, cI x2), (3, cI x3), (4, cI x4)] → p_X8_comesTo_J97 g o0 x1 x2 x3 x4 z0 y1 y2 M Q → W p l e rmX8_comesTo s m args below meth c H locs 0 0 (MQ below (QV E g ad Q) args s 0 0 (Rg g ad)) (F0 m 97 ls [cI y2, cI y1, .ref (ad z0)]) := by
  intro o0 x1 x2 x3 x4 z0 y1 y2 M H locs ls k_o0 k_z0 w hl h
  unfold p_X8_comesTo_J97 at h
  obtain ⟨b0, b1, h⟩ := h
  refine r_iast X K w hg k_z0 b0 b1 dX8_comesTo_97 (fun M18 H locs e w => ?_)
  replace h := h M18 e
  refine lv_aload_n X.1 X.2.1 dX8_comesTo_98 rfl (lv_at hl 0 rfl) ?_
  refine r_getr (N := 25) (T := TX8) X K w iX8_comesTo_8 k_o0 rfl (by decide) 8 (by decide) rfl rfl (List.mem_of_getElem? (i := 5) rfl) dX8_comesTo_99 ?_
  have k19 : gk g (o0 + 7) = 9 := gch hg k_o0 (by decide) 8 (by decide) rfl rfl
  refine lv_iload_n X.1 X.2.1 dX8_comesTo_102 rfl (lv_at hl 1 rfl) ?_
  obtain ⟨b0, b1, h⟩ := h
  refine r_iald X K w hg k19 b0 b1 dX8_comesTo_103 ?_
  obtain ⟨i0, h1, h2⟩ := h
  refine r_if_le (tgt := 136) X i0 dX8_comesTo_104 (by decide) (fun cc => ?_) (fun cc => ?_)
  · have h := h1 cc
    refine lv_aload_n X.1 X.2.1 dX8_comesTo_136 rfl (lv_at hl 0 rfl) ?_
    refine r_getr (N := 25) (T := TX8) X K w iX8_comesTo_8 k_o0 rfl (by decide) 7 (by decide) rfl rfl (List.mem_of_getElem? (i := 2) rfl) dX8_comesTo_137 ?_
    have k20 : gk g (o0 + 6) = 9 := gch hg k_o0 (by decide) 7 (by decide) rfl rfl
    refine lv_iload_n X.1 X.2.1 dX8_comesTo_140 rfl (lv_at hl 1 rfl) ?_
    refine lv_iload X.1 X.2.1 dX8_comesTo_141 (lv_at hl 4 rfl) ?_
    obtain ⟨b0, b1, h⟩ := h
    refine r_iast X K w hg k20 b0 b1 dX8_comesTo_143 (fun M21 H locs e w => ?_)
    replace h := h M21 e
    refine lv_aload_n X.1 X.2.1 dX8_comesTo_144 rfl (lv_at hl 0 rfl) ?_
    refine r_getr (N := 25) (T := TX8) X K w iX8_comesTo_8 k_o0 rfl (by decide) 9 (by decide) rfl rfl (List.mem_of_getElem? (i := 3) rfl) dX8_comesTo_145 ?_
    have k22 : gk g (o0 + 8) = 9 := gch hg k_o0 (by decide) 9 (by decide) rfl rfl
    refine lv_iload_n X.1 X.2.1 dX8_comesTo_148 rfl (lv_at hl 1 rfl) ?_
    refine lv_aload_n X.1 X.2.1 dX8_comesTo_149 rfl (lv_at hl 0 rfl) ?_
    refine r_getr (N := 25) (T := TX8) X K w iX8_comesTo_8 k_o0 rfl (by decide) 0 (by decide) rfl rfl (List.mem_of_getElem? (i := 1) rfl) dX8_comesTo_150 ?_
    have k23 : gk g (o0 + 1) = 9 := gch hg k_o0 (by decide) 0 (by decide) rfl rfl
    refine r_bipush X dX8_comesTo_153 (by decide +kernel) ?_
    refine lv_iload X.1 X.2.1 dX8_comesTo_155 (lv_at hl 4 rfl) ?_
    refine r_iadd X dX8_comesTo_157 ?_
    obtain ⟨b0, b1, h⟩ := h
    refine r_iald X K w hg k23 b0 b1 dX8_comesTo_158 ?_
    refine lv_iload_n X.1 X.2.1 dX8_comesTo_159 rfl (lv_at hl 3 rfl) ?_
    refine q_i (x_S (As := [cI (M21 (o0 + 1) (31 + x4)), cI x3]) (rest := [cI x1, .ref (ad (o0 + 8))]) X K w (c_X8_apart hg h) (va_cwS 2 X.2.2.2.2 gX8_comesTo_X8_apart rfl rfl rfl (by decide +kernel) ⟨Nat.le_of_ble_eq_true rfl, Nat.le_of_ble_eq_true rfl⟩) rfl hl rfl (Nat.le_of_ble_eq_true rfl) dX8_comesTo_160 ⟨Nat.le_of_ble_eq_true rfl, Nat.le_of_ble_eq_true rfl⟩) w (fun r25 M24 H locs h w => ?_)
    obtain ⟨b0, b1, h⟩ := h
    refine r_iast X K w hg k22 b0 b1 dX8_comesTo_163 (fun M26 H locs e w => ?_)
    replace h := h M26 e
    refine lv_aload_n X.1 X.2.1 dX8_comesTo_164 rfl (lv_at hl 0 rfl) ?_
    refine r_getr (N := 25) (T := TX8) X K w iX8_comesTo_8 k_o0 rfl (by decide) 10 (by decide) rfl rfl (List.mem_of_getElem? (i := 4) rfl) dX8_comesTo_165 ?_
    have k27 : gk g (o0 + 9) = 9 := gch hg k_o0 (by decide) 10 (by decide) rfl rfl
    refine lv_iload_n X.1 X.2.1 dX8_comesTo_168 rfl (lv_at hl 1 rfl) ?_
    refine lv_aload_n X.1 X.2.1 dX8_comesTo_169 rfl (lv_at hl 0 rfl) ?_
    refine r_getr (N := 25) (T := TX8) X K w iX8_comesTo_8 k_o0 rfl (by decide) 14 (by decide) rfl rfl (List.mem_of_getElem? (i := 8) rfl) dX8_comesTo_170 ?_
    have k28 : gk g (o0 + 13) = 9 := gch hg k_o0 (by decide) 14 (by decide) rfl rfl
    refine lv_iload_n X.1 X.2.1 dX8_comesTo_173 rfl (lv_at hl 2 rfl) ?_
    obtain ⟨b0, b1, h⟩ := h
    refine r_iald X K w hg k28 b0 b1 dX8_comesTo_174 ?_
    refine r_bipush X dX8_comesTo_175 (by decide +kernel) ?_
    obtain ⟨i0, h1, h2⟩ := h
    refine r_icmp_eq (tgt := 199) X i0 ⟨by decide, by decide⟩ dX8_comesTo_177 (by decide) (fun cc => ?_) (fun cc => ?_)
    · have h := h1 cc
      exact w_X8_comesTo_J199 hg X K hr hlk o0 x1 x2 x3 x4 (o0 + 9) x1 M26 _ _ _ k_o0 k27 w (lv_sub hl [0, 1, 2, 3, 4] rfl) h
    · have h := h2 cc
      refine lv_aload_n X.1 X.2.1 dX8_comesTo_180 rfl (lv_at hl 0 rfl) ?_
      refine r_getr (N := 25) (T := TX8) X K w iX8_comesTo_8 k_o0 rfl (by decide) 14 (by decide) rfl rfl (List.mem_of_getElem? (i := 8) rfl) dX8_comesTo_181 ?_
      have k52 : gk g (o0 + 13) = 9 := gch hg k_o0 (by decide) 14 (by decide) rfl rfl
      refine lv_iload_n X.1 X.2.1 dX8_comesTo_184 rfl (lv_at hl 2 rfl) ?_
      obtain ⟨b0, b1, h⟩ := h
      refine r_iald X K w hg k52 b0 b1 dX8_comesTo_185 ?_
      refine lv_aload_n X.1 X.2.1 dX8_comesTo_186 rfl (lv_at hl 0 rfl) ?_
      refine lv_iload_n X.1 X.2.1 dX8_comesTo_187 rfl (lv_at hl 1 rfl) ?_
      refine r_iconst X dX8_comesTo_188 ?_
      refine q_i (x_V (As := [cI x1, cI 0]) (rest := [cI (M26 (o0 + 13) x2), cI x1, .ref (ad (o0 + 9))]) X K w (c_X8_of hg k_o0 h) (cwV 2 X.2.2.2.2 gX8_comesTo_X8_of rfl rfl rfl (by decide +kernel) ⟨Nat.le_of_ble_eq_true rfl, Nat.le_of_ble_eq_true rfl⟩) k_o0 (by decide) rfl rfl hl rfl (Nat.le_of_ble_eq_true rfl) dX8_comesTo_189 ⟨Nat.le_of_ble_eq_true rfl, Nat.le_of_ble_eq_true rfl⟩) w (fun r54 M53 H locs h w => ?_)
      obtain ⟨i0, i1, h1, h2⟩ := h
      refine r_icmp_eq (tgt := 199) X i0 i1 dX8_comesTo_192 (by decide) (fun cc => ?_) (fun cc => ?_)
      · have h := h1 cc
        exact w_X8_comesTo_J199 hg X K hr hlk o0 x1 x2 x3 x4 (o0 + 9) x1 M53 _ _ _ k_o0 k27 w (lv_sub hl [0, 1, 2, 3, 4] rfl) h
      · have h := h2 cc
        refine r_iconst X dX8_comesTo_195 ?_
        refine lv_goto (tgt := 200) X.1 X.2.1 dX8_comesTo_196 (by decide) ?_
        exact w_X8_comesTo_J200 hg X K hr hlk o0 x1 x2 x3 x4 (o0 + 9) x1 1 M53 _ _ _ k_o0 k27 w (lv_sub hl [0, 1, 2, 3, 4] rfl) h
  · have h := h2 cc
    refine lv_aload_n X.1 X.2.1 dX8_comesTo_107 rfl (lv_at hl 0 rfl) ?_
    refine lv_dup X.1 X.2.1 dX8_comesTo_108 rfl ?_
    refine r_geti (N := 25) (T := TX8) (kz := 16) X K w iX8_comesTo_8 k_o0 rfl (by decide) 16 (by decide) rfl rfl rfl (List.mem_of_getElem? (i := 6) rfl) dX8_comesTo_109 ?_
    refine r_iconst X dX8_comesTo_112 ?_
    refine r_iadd X dX8_comesTo_113 ?_
    refine r_puti (N := 25) (T := TX8) (kz := 16) (ty := .int) X K w iX8_comesTo_8 tyX8 tyX8_ok nmX8 k_o0 rfl (by decide) 16 (by decide) rfl rfl rfl rfl (by decide +kernel) rfl rfl (List.mem_of_getElem? (i := 6) rfl) dX8_comesTo_114 (fun M55 H locs e w => ?_)
    replace h := h M55 e
    refine lv_aload_n X.1 X.2.1 dX8_comesTo_117 rfl (lv_at hl 0 rfl) ?_
    refine lv_dup X.1 X.2.1 dX8_comesTo_118 rfl ?_
    refine r_geti (N := 25) (T := TX8) (kz := 17) X K w iX8_comesTo_8 k_o0 rfl (by decide) 17 (by decide) rfl rfl rfl (List.mem_of_getElem? (i := 7) rfl) dX8_comesTo_119 ?_
    refine lv_aload_n X.1 X.2.1 dX8_comesTo_122 rfl (lv_at hl 0 rfl) ?_
    refine r_getr (N := 25) (T := TX8) X K w iX8_comesTo_8 k_o0 rfl (by decide) 0 (by decide) rfl rfl (List.mem_of_getElem? (i := 1) rfl) dX8_comesTo_123 ?_
    have k56 : gk g (o0 + 1) = 9 := gch hg k_o0 (by decide) 0 (by decide) rfl rfl
    refine r_bipush X dX8_comesTo_126 (by decide +kernel) ?_
    refine lv_iload_n X.1 X.2.1 dX8_comesTo_128 rfl (lv_at hl 2 rfl) ?_
    refine r_iadd X dX8_comesTo_129 ?_
    obtain ⟨b0, b1, h⟩ := h
    refine r_iald X K w hg k56 b0 b1 dX8_comesTo_130 ?_
    refine r_iadd X dX8_comesTo_131 ?_
    refine r_puti (N := 25) (T := TX8) (kz := 17) (ty := .int) X K w iX8_comesTo_8 tyX8 tyX8_ok nmX8 k_o0 rfl (by decide) 17 (by decide) rfl rfl rfl rfl (by decide +kernel) rfl rfl (List.mem_of_getElem? (i := 7) rfl) dX8_comesTo_132 (fun M57 H locs e w => ?_)
    replace h := h M57 e
    exact r_return X hr hlk K w h dX8_comesTo_135
set_option maxHeartbeats 4000000 in
set_option maxRecDepth 100000 in
theorem c_X8_comesTo {E : EE} {l : Launch} {g : GG} {ad : Nat → Nat} (hg : gwf g) {o0 : Nat} {x1 : Int} {M : Mm} {Q : Mm → Prop} (k_o0 : gk g o0 = 8) (h : p_X8_comesTo g o0 x1 M Q) : Ct E l yX8_comesTo wsX8_comesTo rmX8_comesTo g ad [.ref (ad o0), cI x1] M (QV E g ad Q) := by
  refine ent (cc := cX8_comesTo) (maxL := 5) (ret := none) (own := RX8) (by decide +kernel) rfl rfl (Nat.le_of_ble_eq_true rfl) ?_
  intro p e s m below meth c ls X hr hlk K w hl
  have hl : lv_has ls 5 [(0, .ref (ad o0)), (1, cI x1)] := hl
  unfold p_X8_comesTo at h
  refine lv_aload_n X.1 X.2.1 dX8_comesTo_0 rfl (lv_at hl 0 rfl) ?_
  refine lv_iload_n X.1 X.2.1 dX8_comesTo_1 rfl (lv_at hl 1 rfl) ?_
  refine r_iconst X dX8_comesTo_2 ?_
  refine q_i (x_V (As := [cI x1, cI 2]) (rest := []) X K w (c_X8_of hg k_o0 h) (cwV 2 X.2.2.2.2 gX8_comesTo_X8_of rfl rfl rfl (by decide +kernel) ⟨Nat.le_of_ble_eq_true rfl, Nat.le_of_ble_eq_true rfl⟩) k_o0 (by decide) rfl rfl hl rfl (Nat.le_of_ble_eq_true rfl) dX8_comesTo_3 ⟨Nat.le_of_ble_eq_true rfl, Nat.le_of_ble_eq_true rfl⟩) w (fun r2 M1 H locs h w => ?_)
  refine lv_istore_n (lv' := [(2, cI r2), (0, .ref (ad o0)), (1, cI x1)]) X.1 X.2.1 dX8_comesTo_6 rfl hl (by decide) rfl (fun ls hl => ?_)
  refine lv_aload_n X.1 X.2.1 dX8_comesTo_7 rfl (lv_at hl 1 rfl) ?_
  refine r_getr (N := 25) (T := TX8) X K w iX8_comesTo_8 k_o0 rfl (by decide) 0 (by decide) rfl rfl (List.mem_of_getElem? (i := 1) rfl) dX8_comesTo_8 ?_
  have k3 : gk g (o0 + 1) = 9 := gch hg k_o0 (by decide) 0 (by decide) rfl rfl
  refine r_iconst X dX8_comesTo_11 ?_
  refine lv_iload_n X.1 X.2.1 dX8_comesTo_12 rfl (lv_at hl 0 rfl) ?_
  refine r_iadd X dX8_comesTo_13 ?_
  obtain ⟨b0, b1, h⟩ := h
  refine r_iald X K w hg k3 b0 b1 dX8_comesTo_14 ?_
  refine lv_istore_n (lv' := [(3, cI (M1 (o0 + 1) (0 + r2))), (2, cI r2), (0, .ref (ad o0)), (1, cI x1)]) X.1 X.2.1 dX8_comesTo_15 rfl hl (by decide) rfl (fun ls hl => ?_)
  refine lv_aload_n X.1 X.2.1 dX8_comesTo_16 rfl (lv_at hl 2 rfl) ?_
  refine lv_iload_n X.1 X.2.1 dX8_comesTo_17 rfl (lv_at hl 0 rfl) ?_
  refine lv_aload_n X.1 X.2.1 dX8_comesTo_18 rfl (lv_at hl 2 rfl) ?_
  refine lv_iload_n X.1 X.2.1 dX8_comesTo_19 rfl (lv_at hl 3 rfl) ?_
  refine r_iconst X dX8_comesTo_20 ?_
  refine q_i (x_V (As := [cI x1, cI 1]) (rest := [cI (M1 (o0 + 1) (0 + r2)), .ref (ad o0)]) X K w (c_X8_of hg k_o0 h) (cwV 2 X.2.2.2.2 gX8_comesTo_X8_of rfl rfl rfl (by decide +kernel) ⟨Nat.le_of_ble_eq_true rfl, Nat.le_of_ble_eq_true rfl⟩) k_o0 (by decide) rfl rfl hl rfl (Nat.le_of_ble_eq_true rfl) dX8_comesTo_21 ⟨Nat.le_of_ble_eq_true rfl, Nat.le_of_ble_eq_true rfl⟩) w (fun r5 M4 H locs h w => ?_)
  refine q_i (x_V (As := [cI (M1 (o0 + 1) (0 + r2)), cI r5]) (rest := []) X K w (c_X8_handFor hg k_o0 h) (cwV 2 X.2.2.2.2 gX8_comesTo_X8_handFor rfl rfl rfl (by decide +kernel) ⟨Nat.le_of_ble_eq_true rfl, Nat.le_of_ble_eq_true rfl⟩) k_o0 (by decide) rfl rfl hl rfl (Nat.le_of_ble_eq_true rfl) dX8_comesTo_24 ⟨Nat.le_of_ble_eq_true rfl, Nat.le_of_ble_eq_true rfl⟩) w (fun r7 M6 H locs h w => ?_)
  refine lv_istore (lv' := [(4, cI r7), (3, cI (M1 (o0 + 1) (0 + r2))), (2, cI r2), (0, .ref (ad o0)), (1, cI x1)]) X.1 X.2.1 dX8_comesTo_27 hl (by decide) rfl (fun ls hl => ?_)
  refine lv_aload_n X.1 X.2.1 dX8_comesTo_29 rfl (lv_at hl 3 rfl) ?_
  refine r_getr (N := 25) (T := TX8) X K w iX8_comesTo_8 k_o0 rfl (by decide) 7 (by decide) rfl rfl (List.mem_of_getElem? (i := 2) rfl) dX8_comesTo_30 ?_
  have k8 : gk g (o0 + 6) = 9 := gch hg k_o0 (by decide) 7 (by decide) rfl rfl
  refine lv_iload_n X.1 X.2.1 dX8_comesTo_33 rfl (lv_at hl 4 rfl) ?_
  refine r_bipush X dX8_comesTo_34 (by decide +kernel) ?_
  obtain ⟨b0, b1, h⟩ := h
  refine r_iast X K w hg k8 b0 b1 dX8_comesTo_36 (fun M9 H locs e w => ?_)
  replace h := h M9 e
  refine lv_aload_n X.1 X.2.1 dX8_comesTo_37 rfl (lv_at hl 3 rfl) ?_
  refine r_getr (N := 25) (T := TX8) X K w iX8_comesTo_8 k_o0 rfl (by decide) 9 (by decide) rfl rfl (List.mem_of_getElem? (i := 3) rfl) dX8_comesTo_38 ?_
  have k10 : gk g (o0 + 8) = 9 := gch hg k_o0 (by decide) 9 (by decide) rfl rfl
  refine lv_iload_n X.1 X.2.1 dX8_comesTo_41 rfl (lv_at hl 4 rfl) ?_
  refine r_bipush X dX8_comesTo_42 (by decide +kernel) ?_
  obtain ⟨b0, b1, h⟩ := h
  refine r_iast X K w hg k10 b0 b1 dX8_comesTo_44 (fun M11 H locs e w => ?_)
  replace h := h M11 e
  refine lv_aload_n X.1 X.2.1 dX8_comesTo_45 rfl (lv_at hl 3 rfl) ?_
  refine r_getr (N := 25) (T := TX8) X K w iX8_comesTo_8 k_o0 rfl (by decide) 10 (by decide) rfl rfl (List.mem_of_getElem? (i := 4) rfl) dX8_comesTo_46 ?_
  have k12 : gk g (o0 + 9) = 9 := gch hg k_o0 (by decide) 10 (by decide) rfl rfl
  refine lv_iload_n X.1 X.2.1 dX8_comesTo_49 rfl (lv_at hl 4 rfl) ?_
  refine r_iconst X dX8_comesTo_50 ?_
  obtain ⟨b0, b1, h⟩ := h
  refine r_iast X K w hg k12 b0 b1 dX8_comesTo_51 (fun M13 H locs e w => ?_)
  replace h := h M13 e
  refine lv_aload_n X.1 X.2.1 dX8_comesTo_52 rfl (lv_at hl 3 rfl) ?_
  refine r_getr (N := 25) (T := TX8) X K w iX8_comesTo_8 k_o0 rfl (by decide) 8 (by decide) rfl rfl (List.mem_of_getElem? (i := 5) rfl) dX8_comesTo_53 ?_
  have k14 : gk g (o0 + 7) = 9 := gch hg k_o0 (by decide) 8 (by decide) rfl rfl
  refine lv_iload_n X.1 X.2.1 dX8_comesTo_56 rfl (lv_at hl 4 rfl) ?_
  refine lv_aload_n X.1 X.2.1 dX8_comesTo_57 rfl (lv_at hl 3 rfl) ?_
  refine r_getr (N := 25) (T := TX8) X K w iX8_comesTo_8 k_o0 rfl (by decide) 0 (by decide) rfl rfl (List.mem_of_getElem? (i := 1) rfl) dX8_comesTo_58 ?_
  have k15 : gk g (o0 + 1) = 9 := gch hg k_o0 (by decide) 0 (by decide) rfl rfl
  refine r_bipush X dX8_comesTo_61 (by decide +kernel) ?_
  refine lv_iload_n X.1 X.2.1 dX8_comesTo_63 rfl (lv_at hl 2 rfl) ?_
  refine r_iadd X dX8_comesTo_64 ?_
  obtain ⟨b0, b1, h⟩ := h
  refine r_iald X K w hg k15 b0 b1 dX8_comesTo_65 ?_
  obtain ⟨i0, h1, h2⟩ := h
  refine r_if_ne (tgt := 73) X i0 dX8_comesTo_66 (by decide) (fun cc => ?_) (fun cc => ?_)
  · have h := h1 cc
    refine lv_aload_n X.1 X.2.1 dX8_comesTo_73 rfl (lv_at hl 3 rfl) ?_
    refine lv_iload_n X.1 X.2.1 dX8_comesTo_74 rfl (lv_at hl 4 rfl) ?_
    refine q_i (x_V (As := [cI x1]) (rest := [cI x1, .ref (ad (o0 + 7))]) X K w (c_X8_isThere hg k_o0 h) (cwV 1 X.2.2.2.2 gX8_comesTo_X8_isThere rfl rfl rfl (by decide +kernel) ⟨Nat.le_of_ble_eq_true rfl, Nat.le_of_ble_eq_true rfl⟩) k_o0 (by decide) rfl rfl hl rfl (Nat.le_of_ble_eq_true rfl) dX8_comesTo_75 ⟨Nat.le_of_ble_eq_true rfl, Nat.le_of_ble_eq_true rfl⟩) w (fun r17 M16 H locs h w => ?_)
    obtain ⟨i0, h1, h2⟩ := h
    refine r_if_ne (tgt := 85) X i0 dX8_comesTo_78 (by decide) (fun cc => ?_) (fun cc => ?_)
    · have h := h1 cc
      refine lv_iload X.1 X.2.1 dX8_comesTo_85 (lv_at hl 0 rfl) ?_
      refine r_bipush X dX8_comesTo_87 (by decide +kernel) ?_
      obtain ⟨i0, h1, h2⟩ := h
      refine r_icmp_ne (tgt := 96) X i0 ⟨by decide, by decide⟩ dX8_comesTo_89 (by decide) (fun cc => ?_) (fun cc => ?_)
      · have h := h1 cc
        refine r_iconst X dX8_comesTo_96 ?_
        exact w_X8_comesTo_J97 hg X K hr hlk o0 x1 r2 (M1 (o0 + 1) (0 + r2)) r7 (o0 + 7) x1 0 M16 _ _ _ k_o0 k14 w (lv_sub hl [3, 4, 2, 1, 0] rfl) h
      · have h := h2 cc
        refine r_iconst X dX8_comesTo_92 ?_
        refine lv_goto (tgt := 97) X.1 X.2.1 dX8_comesTo_93 (by decide) ?_
        exact w_X8_comesTo_J97 hg X K hr hlk o0 x1 r2 (M1 (o0 + 1) (0 + r2)) r7 (o0 + 7) x1 3 M16 _ _ _ k_o0 k14 w (lv_sub hl [3, 4, 2, 1, 0] rfl) h
    · have h := h2 cc
      refine r_iconst X dX8_comesTo_81 ?_
      refine lv_goto (tgt := 97) X.1 X.2.1 dX8_comesTo_82 (by decide) ?_
      exact w_X8_comesTo_J97 hg X K hr hlk o0 x1 r2 (M1 (o0 + 1) (0 + r2)) r7 (o0 + 7) x1 2 M16 _ _ _ k_o0 k14 w (lv_sub hl [3, 4, 2, 1, 0] rfl) h
  · have h := h2 cc
    refine r_iconst X dX8_comesTo_69 ?_
    refine lv_goto (tgt := 97) X.1 X.2.1 dX8_comesTo_70 (by decide) ?_
    exact w_X8_comesTo_J97 hg X K hr hlk o0 x1 r2 (M1 (o0 + 1) (0 + r2)) r7 (o0 + 7) x1 1 M13 _ _ _ k_o0 k14 w (lv_sub hl [3, 4, 2, 1, 0] rfl) h
theorem dX8_plays_0 : decode cX8_plays 0 = .ok (.aload_n 0, 1) := by decide +kernel
theorem dX8_plays_1 : decode cX8_plays 1 = .ok (.iconst 0, 1) := by decide +kernel
theorem dX8_plays_2 : decode cX8_plays 2 = .ok (.putfield 99, 3) := by decide +kernel
theorem dX8_plays_5 : decode cX8_plays 5 = .ok (.aload_n 0, 1) := by decide +kernel
theorem dX8_plays_6 : decode cX8_plays 6 = .ok (.iconst 0, 1) := by decide +kernel
theorem dX8_plays_7 : decode cX8_plays 7 = .ok (.putfield 102, 3) := by decide +kernel
theorem dX8_plays_10 : decode cX8_plays 10 = .ok (.iconst 0, 1) := by decide +kernel
theorem dX8_plays_11 : decode cX8_plays 11 = .ok (.istore_n 1, 1) := by decide +kernel
theorem dX8_plays_12 : decode cX8_plays 12 = .ok (.iload_n 1, 1) := by decide +kernel
theorem dX8_plays_13 : decode cX8_plays 13 = .ok (.iconst 4, 1) := by decide +kernel
theorem dX8_plays_14 : decode cX8_plays 14 = .ok (.if_icmp .ge 30, 3) := by decide +kernel
theorem dX8_plays_17 : decode cX8_plays 17 = .ok (.aload_n 0, 1) := by decide +kernel
theorem dX8_plays_18 : decode cX8_plays 18 = .ok (.getfield 37, 3) := by decide +kernel
theorem dX8_plays_21 : decode cX8_plays 21 = .ok (.iload_n 1, 1) := by decide +kernel
theorem dX8_plays_22 : decode cX8_plays 22 = .ok (.iconst 0, 1) := by decide +kernel
theorem dX8_plays_23 : decode cX8_plays 23 = .ok (.iastore, 1) := by decide +kernel
theorem dX8_plays_24 : decode cX8_plays 24 = .ok (.aload_n 0, 1) := by decide +kernel
theorem dX8_plays_25 : decode cX8_plays 25 = .ok (.getfield 40, 3) := by decide +kernel
theorem dX8_plays_28 : decode cX8_plays 28 = .ok (.iload_n 1, 1) := by decide +kernel
theorem dX8_plays_29 : decode cX8_plays 29 = .ok (.iconst 0, 1) := by decide +kernel
theorem dX8_plays_30 : decode cX8_plays 30 = .ok (.iastore, 1) := by decide +kernel
theorem dX8_plays_31 : decode cX8_plays 31 = .ok (.aload_n 0, 1) := by decide +kernel
theorem dX8_plays_32 : decode cX8_plays 32 = .ok (.getfield 43, 3) := by decide +kernel
theorem dX8_plays_35 : decode cX8_plays 35 = .ok (.iload_n 1, 1) := by decide +kernel
theorem dX8_plays_36 : decode cX8_plays 36 = .ok (.iconst 0, 1) := by decide +kernel
theorem dX8_plays_37 : decode cX8_plays 37 = .ok (.iastore, 1) := by decide +kernel
theorem dX8_plays_38 : decode cX8_plays 38 = .ok (.iinc 1 1, 3) := by decide +kernel
theorem dX8_plays_41 : decode cX8_plays 41 = .ok (.goto (-29), 3) := by decide +kernel
theorem dX8_plays_44 : decode cX8_plays 44 = .ok (.iconst 0, 1) := by decide +kernel
theorem dX8_plays_45 : decode cX8_plays 45 = .ok (.istore_n 1, 1) := by decide +kernel
theorem dX8_plays_46 : decode cX8_plays 46 = .ok (.iload_n 1, 1) := by decide +kernel
theorem dX8_plays_47 : decode cX8_plays 47 = .ok (.bipush 10, 2) := by decide +kernel
theorem dX8_plays_49 : decode cX8_plays 49 = .ok (.if_icmp .ge 24, 3) := by decide +kernel
theorem dX8_plays_52 : decode cX8_plays 52 = .ok (.aload_n 0, 1) := by decide +kernel
theorem dX8_plays_53 : decode cX8_plays 53 = .ok (.getfield 46, 3) := by decide +kernel
theorem dX8_plays_56 : decode cX8_plays 56 = .ok (.iload_n 1, 1) := by decide +kernel
theorem dX8_plays_57 : decode cX8_plays 57 = .ok (.bipush (-5), 2) := by decide +kernel
theorem dX8_plays_59 : decode cX8_plays 59 = .ok (.iastore, 1) := by decide +kernel
theorem dX8_plays_60 : decode cX8_plays 60 = .ok (.aload_n 0, 1) := by decide +kernel
theorem dX8_plays_61 : decode cX8_plays 61 = .ok (.getfield 49, 3) := by decide +kernel
theorem dX8_plays_64 : decode cX8_plays 64 = .ok (.iload_n 1, 1) := by decide +kernel
theorem dX8_plays_65 : decode cX8_plays 65 = .ok (.iconst 0, 1) := by decide +kernel
theorem dX8_plays_66 : decode cX8_plays 66 = .ok (.iastore, 1) := by decide +kernel
theorem dX8_plays_67 : decode cX8_plays 67 = .ok (.iinc 1 1, 3) := by decide +kernel
theorem dX8_plays_70 : decode cX8_plays 70 = .ok (.goto (-24), 3) := by decide +kernel
theorem dX8_plays_73 : decode cX8_plays 73 = .ok (.iconst 0, 1) := by decide +kernel
theorem dX8_plays_74 : decode cX8_plays 74 = .ok (.istore_n 1, 1) := by decide +kernel
theorem dX8_plays_75 : decode cX8_plays 75 = .ok (.iload_n 1, 1) := by decide +kernel
theorem dX8_plays_76 : decode cX8_plays 76 = .ok (.aload_n 0, 1) := by decide +kernel
theorem dX8_plays_77 : decode cX8_plays 77 = .ok (.getfield 7, 3) := by decide +kernel
theorem dX8_plays_80 : decode cX8_plays 80 = .ok (.bipush 36, 2) := by decide +kernel
theorem dX8_plays_82 : decode cX8_plays 82 = .ok (.iaload, 1) := by decide +kernel
theorem dX8_plays_83 : decode cX8_plays 83 = .ok (.if_icmp .ge 14, 3) := by decide +kernel
theorem dX8_plays_86 : decode cX8_plays 86 = .ok (.aload_n 0, 1) := by decide +kernel
theorem dX8_plays_87 : decode cX8_plays 87 = .ok (.iload_n 1, 1) := by decide +kernel
theorem dX8_plays_88 : decode cX8_plays 88 = .ok (.invokevirtual 105, 3) := by decide +kernel
theorem dX8_plays_91 : decode cX8_plays 91 = .ok (.iinc 1 1, 3) := by decide +kernel
theorem dX8_plays_94 : decode cX8_plays 94 = .ok (.goto (-19), 3) := by decide +kernel
theorem dX8_plays_97 : decode cX8_plays 97 = .ok (.return_, 1) := by decide +kernel
set_option maxRecDepth 20000 in
theorem ggX8_plays_X8_comesTo : GoodIn wsX8_plays wsX8_comesTo := goodIn_r _ [13, 8, 14, 15, 16, 17, 1, 2, 6, 4, 5, 3, 7, 18, 19, 20, 12, 21, 22, 23, 24, 25, 26, 27, 28, 29, 30, 31, 32, 33, 34, 35, 36, 37, 38, 39, 40, 41, 42, 43, 44, 45, 46, 47, 48, 49, 50, 51, 52, 53, 54, 55, 56, 57] (by decide +kernel) (by decide +kernel)
set_option maxRecDepth 20000 in
theorem gX8_plays_X8_comesTo : GoodIn wsX8_plays (wsV RX8 105 RX8 yX8_comesTo wsX8_comesTo) := goodIn_app (goodIn_of _ (by decide +kernel)) ggX8_plays_X8_comesTo
theorem iX8_plays_8 : ∀ w ∈ u_ws RX8 TX8 25, w ∈ wsX8_plays := fun w h => List.mem_cons_of_mem _ (List.mem_append_right _ (h))
set_option maxHeartbeats 4000000 in
set_option maxRecDepth 100000 in
theorem w_X8_plays_L75 {p : Program} {l : Launch} {e : Env} {s : State} {m : MethodId} {args : Array Value} {below : List Frame} {meth : Method} {c : Code} {E : EE} {g : GG} {ad : Nat → Nat} (hg : gwf g) (X : CallFix p m c cX8_plays 2 s args wsX8_plays RX8) (K : Kn E s) (hr : meth.sig.returnType = none) (hlk : meth.locks = false) {Q : Mm → Prop} : ∀ (n : Nat) (o0 : Nat) (x1 : Int) (M : Mm) (H : Heap) (locs : List Loc) (ls : Array Slot), gk g o0 = 8 → Rw E g ad M s.heap H locs → lv_has ls 2 [(0, .ref (ad o0)), (1, cI x1)] → p_X8_plays_L75 g n o0 x1 M Q → W p l e rmX8_plays s m args below meth c H locs 0 0 (MQ below (QV E g ad Q) args s 0 0 (Rg g ad)) (F0 m 75 ls []) := by
  intro n
  induction n with
  | zero =>
    intro o0 x1 M H locs ls k_o0 w hl h
    exact absurd h (by unfold p_X8_plays_L75; exact id)
  | succ n ih =>
    intro o0 x1 M H locs ls k_o0 w hl h
    unfold p_X8_plays_L75 at h
    refine lv_iload_n X.1 X.2.1 dX8_plays_75 rfl (lv_at hl 1 rfl) ?_
    refine lv_aload_n X.1 X.2.1 dX8_plays_76 rfl (lv_at hl 0 rfl) ?_
    refine r_getr (N := 25) (T := TX8) X K w iX8_plays_8 k_o0 rfl (by decide) 0 (by decide) rfl rfl (List.mem_of_getElem? (i := 8) rfl) dX8_plays_77 ?_
    have k3 : gk g (o0 + 1) = 9 := gch hg k_o0 (by decide) 0 (by decide) rfl rfl
    refine r_bipush X dX8_plays_80 (by decide +kernel) ?_
    obtain ⟨b1, h⟩ := h
    refine r_iald X K w hg k3 (by decide) b1 dX8_plays_82 ?_
    obtain ⟨i0, i1, h1, h2⟩ := h
    refine r_icmp_ge (tgt := 97) X i0 i1 dX8_plays_83 (by decide) (fun cc => ?_) (fun cc => ?_)
    · have h := h1 cc
      exact r_return X hr hlk K w h dX8_plays_97
    · have h := h2 cc
      refine lv_aload_n X.1 X.2.1 dX8_plays_86 rfl (lv_at hl 0 rfl) ?_
      refine lv_iload_n X.1 X.2.1 dX8_plays_87 rfl (lv_at hl 1 rfl) ?_
      refine q_v (x_V (As := [cI x1]) (rest := []) X K w (c_X8_comesTo hg k_o0 h) (cwV 1 X.2.2.2.2 gX8_plays_X8_comesTo rfl rfl rfl (by decide +kernel) ⟨Nat.le_of_ble_eq_true rfl, Nat.le_of_ble_eq_true rfl⟩) k_o0 (by decide) rfl rfl hl rfl (Nat.le_of_ble_eq_true rfl) dX8_plays_88 ⟨Nat.le_of_ble_eq_true rfl, Nat.le_of_ble_eq_true rfl⟩) w (fun M4 H locs h w => ?_)
      refine r_iinc (lv' := [(1, cI (x1 + 1)), (0, .ref (ad o0))]) X hl (k := 1) rfl (by decide) dX8_plays_91 rfl (fun ls hl => ?_)
      refine lv_goto (tgt := 75) X.1 X.2.1 dX8_plays_94 (by decide) ?_
      exact ih o0 (x1 + 1) M4 _ _ _ k_o0 w (lv_sub hl [1, 0] rfl) h
set_option maxHeartbeats 4000000 in
set_option maxRecDepth 100000 in
theorem w_X8_plays_L46 {p : Program} {l : Launch} {e : Env} {s : State} {m : MethodId} {args : Array Value} {below : List Frame} {meth : Method} {c : Code} {E : EE} {g : GG} {ad : Nat → Nat} (hg : gwf g) (X : CallFix p m c cX8_plays 2 s args wsX8_plays RX8) (K : Kn E s) (hr : meth.sig.returnType = none) (hlk : meth.locks = false) {Q : Mm → Prop} : ∀ (n : Nat) (o0 : Nat) (x1 : Int) (M : Mm) (H : Heap) (locs : List Loc) (ls : Array Slot), gk g o0 = 8 → Rw E g ad M s.heap H locs → lv_has ls 2 [(0, .ref (ad o0)), (1, cI x1)] → p_X8_plays_L46 g n o0 x1 M Q → W p l e rmX8_plays s m args below meth c H locs 0 0 (MQ below (QV E g ad Q) args s 0 0 (Rg g ad)) (F0 m 46 ls []) := by
  intro n
  induction n with
  | zero =>
    intro o0 x1 M H locs ls k_o0 w hl h
    exact absurd h (by unfold p_X8_plays_L46; exact id)
  | succ n ih =>
    intro o0 x1 M H locs ls k_o0 w hl h
    unfold p_X8_plays_L46 at h
    refine lv_iload_n X.1 X.2.1 dX8_plays_46 rfl (lv_at hl 1 rfl) ?_
    refine r_bipush X dX8_plays_47 (by decide +kernel) ?_
    obtain ⟨i0, h1, h2⟩ := h
    refine r_icmp_ge (tgt := 73) X i0 ⟨by decide, by decide⟩ dX8_plays_49 (by decide) (fun cc => ?_) (fun cc => ?_)
    · have h := h1 cc
      refine r_iconst X dX8_plays_73 ?_
      refine lv_istore_n (lv' := [(1, cI 0), (0, .ref (ad o0))]) X.1 X.2.1 dX8_plays_74 rfl hl (by decide) rfl (fun ls hl => ?_)
      obtain ⟨n5, h⟩ := h
      exact w_X8_plays_L75 hg X K hr hlk n5 o0 0 M _ _ _ k_o0 w (lv_sub hl [1, 0] rfl) h
    · have h := h2 cc
      refine lv_aload_n X.1 X.2.1 dX8_plays_52 rfl (lv_at hl 0 rfl) ?_
      refine r_getr (N := 25) (T := TX8) X K w iX8_plays_8 k_o0 rfl (by decide) 14 (by decide) rfl rfl (List.mem_of_getElem? (i := 6) rfl) dX8_plays_53 ?_
      have k6 : gk g (o0 + 13) = 9 := gch hg k_o0 (by decide) 14 (by decide) rfl rfl
      refine lv_iload_n X.1 X.2.1 dX8_plays_56 rfl (lv_at hl 1 rfl) ?_
      refine r_bipush X dX8_plays_57 (by decide +kernel) ?_
      obtain ⟨b0, b1, h⟩ := h
      refine r_iast X K w hg k6 b0 b1 dX8_plays_59 (fun M7 H locs e w => ?_)
      replace h := h M7 e
      refine lv_aload_n X.1 X.2.1 dX8_plays_60 rfl (lv_at hl 0 rfl) ?_
      refine r_getr (N := 25) (T := TX8) X K w iX8_plays_8 k_o0 rfl (by decide) 15 (by decide) rfl rfl (List.mem_of_getElem? (i := 7) rfl) dX8_plays_61 ?_
      have k8 : gk g (o0 + 14) = 9 := gch hg k_o0 (by decide) 15 (by decide) rfl rfl
      refine lv_iload_n X.1 X.2.1 dX8_plays_64 rfl (lv_at hl 1 rfl) ?_
      refine r_iconst X dX8_plays_65 ?_
      obtain ⟨b0, b1, h⟩ := h
      refine r_iast X K w hg k8 b0 b1 dX8_plays_66 (fun M9 H locs e w => ?_)
      replace h := h M9 e
      refine r_iinc (lv' := [(1, cI (x1 + 1)), (0, .ref (ad o0))]) X hl (k := 1) rfl (by decide) dX8_plays_67 rfl (fun ls hl => ?_)
      refine lv_goto (tgt := 46) X.1 X.2.1 dX8_plays_70 (by decide) ?_
      exact ih o0 (x1 + 1) M9 _ _ _ k_o0 w (lv_sub hl [1, 0] rfl) h
set_option maxHeartbeats 4000000 in
set_option maxRecDepth 100000 in
theorem w_X8_plays_L12 {p : Program} {l : Launch} {e : Env} {s : State} {m : MethodId} {args : Array Value} {below : List Frame} {meth : Method} {c : Code} {E : EE} {g : GG} {ad : Nat → Nat} (hg : gwf g) (X : CallFix p m c cX8_plays 2 s args wsX8_plays RX8) (K : Kn E s) (hr : meth.sig.returnType = none) (hlk : meth.locks = false) {Q : Mm → Prop} : ∀ (n : Nat) (o0 : Nat) (x1 : Int) (M : Mm) (H : Heap) (locs : List Loc) (ls : Array Slot), gk g o0 = 8 → Rw E g ad M s.heap H locs → lv_has ls 2 [(0, .ref (ad o0)), (1, cI x1)] → p_X8_plays_L12 g n o0 x1 M Q → W p l e rmX8_plays s m args below meth c H locs 0 0 (MQ below (QV E g ad Q) args s 0 0 (Rg g ad)) (F0 m 12 ls []) := by
  intro n
  induction n with
  | zero =>
    intro o0 x1 M H locs ls k_o0 w hl h
    exact absurd h (by unfold p_X8_plays_L12; exact id)
  | succ n ih =>
    intro o0 x1 M H locs ls k_o0 w hl h
    unfold p_X8_plays_L12 at h
    refine lv_iload_n X.1 X.2.1 dX8_plays_12 rfl (lv_at hl 1 rfl) ?_
    refine r_iconst X dX8_plays_13 ?_
    obtain ⟨i0, h1, h2⟩ := h
    refine r_icmp_ge (tgt := 44) X i0 ⟨by decide, by decide⟩ dX8_plays_14 (by decide) (fun cc => ?_) (fun cc => ?_)
    · have h := h1 cc
      refine r_iconst X dX8_plays_44 ?_
      refine lv_istore_n (lv' := [(1, cI 0), (0, .ref (ad o0))]) X.1 X.2.1 dX8_plays_45 rfl hl (by decide) rfl (fun ls hl => ?_)
      obtain ⟨n10, h⟩ := h
      exact w_X8_plays_L46 hg X K hr hlk n10 o0 0 M _ _ _ k_o0 w (lv_sub hl [1, 0] rfl) h
    · have h := h2 cc
      refine lv_aload_n X.1 X.2.1 dX8_plays_17 rfl (lv_at hl 0 rfl) ?_
      refine r_getr (N := 25) (T := TX8) X K w iX8_plays_8 k_o0 rfl (by decide) 11 (by decide) rfl rfl (List.mem_of_getElem? (i := 3) rfl) dX8_plays_18 ?_
      have k11 : gk g (o0 + 10) = 9 := gch hg k_o0 (by decide) 11 (by decide) rfl rfl
      refine lv_iload_n X.1 X.2.1 dX8_plays_21 rfl (lv_at hl 1 rfl) ?_
      refine r_iconst X dX8_plays_22 ?_
      obtain ⟨b0, b1, h⟩ := h
      refine r_iast X K w hg k11 b0 b1 dX8_plays_23 (fun M12 H locs e w => ?_)
      replace h := h M12 e
      refine lv_aload_n X.1 X.2.1 dX8_plays_24 rfl (lv_at hl 0 rfl) ?_
      refine r_getr (N := 25) (T := TX8) X K w iX8_plays_8 k_o0 rfl (by decide) 12 (by decide) rfl rfl (List.mem_of_getElem? (i := 4) rfl) dX8_plays_25 ?_
      have k13 : gk g (o0 + 11) = 9 := gch hg k_o0 (by decide) 12 (by decide) rfl rfl
      refine lv_iload_n X.1 X.2.1 dX8_plays_28 rfl (lv_at hl 1 rfl) ?_
      refine r_iconst X dX8_plays_29 ?_
      obtain ⟨b0, b1, h⟩ := h
      refine r_iast X K w hg k13 b0 b1 dX8_plays_30 (fun M14 H locs e w => ?_)
      replace h := h M14 e
      refine lv_aload_n X.1 X.2.1 dX8_plays_31 rfl (lv_at hl 0 rfl) ?_
      refine r_getr (N := 25) (T := TX8) X K w iX8_plays_8 k_o0 rfl (by decide) 13 (by decide) rfl rfl (List.mem_of_getElem? (i := 5) rfl) dX8_plays_32 ?_
      have k15 : gk g (o0 + 12) = 9 := gch hg k_o0 (by decide) 13 (by decide) rfl rfl
      refine lv_iload_n X.1 X.2.1 dX8_plays_35 rfl (lv_at hl 1 rfl) ?_
      refine r_iconst X dX8_plays_36 ?_
      obtain ⟨b0, b1, h⟩ := h
      refine r_iast X K w hg k15 b0 b1 dX8_plays_37 (fun M16 H locs e w => ?_)
      replace h := h M16 e
      refine r_iinc (lv' := [(1, cI (x1 + 1)), (0, .ref (ad o0))]) X hl (k := 1) rfl (by decide) dX8_plays_38 rfl (fun ls hl => ?_)
      refine lv_goto (tgt := 12) X.1 X.2.1 dX8_plays_41 (by decide) ?_
      exact ih o0 (x1 + 1) M16 _ _ _ k_o0 w (lv_sub hl [1, 0] rfl) h
set_option maxHeartbeats 4000000 in
set_option maxRecDepth 100000 in
theorem c_X8_plays {E : EE} {l : Launch} {g : GG} {ad : Nat → Nat} (hg : gwf g) {o0 : Nat} {M : Mm} {Q : Mm → Prop} (k_o0 : gk g o0 = 8) (h : p_X8_plays g o0 M Q) : Ct E l yX8_plays wsX8_plays rmX8_plays g ad [.ref (ad o0)] M (QV E g ad Q) := by
  refine ent (cc := cX8_plays) (maxL := 2) (ret := none) (own := RX8) (by decide +kernel) rfl rfl (Nat.le_of_ble_eq_true rfl) ?_
  intro p e s m below meth c ls X hr hlk K w hl
  have hl : lv_has ls 2 [(0, .ref (ad o0))] := hl
  unfold p_X8_plays at h
  refine lv_aload_n X.1 X.2.1 dX8_plays_0 rfl (lv_at hl 0 rfl) ?_
  refine r_iconst X dX8_plays_1 ?_
  refine r_puti (N := 25) (T := TX8) (kz := 16) (ty := .int) X K w iX8_plays_8 tyX8 tyX8_ok nmX8 k_o0 rfl (by decide) 16 (by decide) rfl rfl rfl rfl (by decide +kernel) rfl rfl (List.mem_of_getElem? (i := 1) rfl) dX8_plays_2 (fun M1 H locs e w => ?_)
  replace h := h M1 e
  refine lv_aload_n X.1 X.2.1 dX8_plays_5 rfl (lv_at hl 0 rfl) ?_
  refine r_iconst X dX8_plays_6 ?_
  refine r_puti (N := 25) (T := TX8) (kz := 17) (ty := .int) X K w iX8_plays_8 tyX8 tyX8_ok nmX8 k_o0 rfl (by decide) 17 (by decide) rfl rfl rfl rfl (by decide +kernel) rfl rfl (List.mem_of_getElem? (i := 2) rfl) dX8_plays_7 (fun M2 H locs e w => ?_)
  replace h := h M2 e
  refine r_iconst X dX8_plays_10 ?_
  refine lv_istore_n (lv' := [(1, cI 0), (0, .ref (ad o0))]) X.1 X.2.1 dX8_plays_11 rfl hl (by decide) rfl (fun ls hl => ?_)
  obtain ⟨n17, h⟩ := h
  exact w_X8_plays_L12 hg X K hr hlk n17 o0 0 M2 _ _ _ k_o0 w (lv_sub hl [1, 0] rfl) h
theorem dX8_tries_0 : decode cX8_tries 0 = .ok (.aload_n 0, 1) := by decide +kernel
theorem dX8_tries_1 : decode cX8_tries 1 = .ok (.getfield 7, 3) := by decide +kernel
theorem dX8_tries_4 : decode cX8_tries 4 = .ok (.aload_n 0, 1) := by decide +kernel
theorem dX8_tries_5 : decode cX8_tries 5 = .ok (.getfield 16, 3) := by decide +kernel
theorem dX8_tries_8 : decode cX8_tries 8 = .ok (.invokestatic 61, 3) := by decide +kernel
theorem dX8_tries_11 : decode cX8_tries 11 = .ok (.aload_n 0, 1) := by decide +kernel
theorem dX8_tries_12 : decode cX8_tries 12 = .ok (.invokevirtual 109, 3) := by decide +kernel
theorem dX8_tries_15 : decode cX8_tries 15 = .ok (.iconst 0, 1) := by decide +kernel
theorem dX8_tries_16 : decode cX8_tries 16 = .ok (.istore_n 1, 1) := by decide +kernel
theorem dX8_tries_17 : decode cX8_tries 17 = .ok (.iload_n 1, 1) := by decide +kernel
theorem dX8_tries_18 : decode cX8_tries 18 = .ok (.iconst 4, 1) := by decide +kernel
theorem dX8_tries_19 : decode cX8_tries 19 = .ok (.if_icmp .ge 24, 3) := by decide +kernel
theorem dX8_tries_22 : decode cX8_tries 22 = .ok (.aload_n 0, 1) := by decide +kernel
theorem dX8_tries_23 : decode cX8_tries 23 = .ok (.getfield 52, 3) := by decide +kernel
theorem dX8_tries_26 : decode cX8_tries 26 = .ok (.iload_n 1, 1) := by decide +kernel
theorem dX8_tries_27 : decode cX8_tries 27 = .ok (.aload_n 0, 1) := by decide +kernel
theorem dX8_tries_28 : decode cX8_tries 28 = .ok (.getfield 7, 3) := by decide +kernel
theorem dX8_tries_31 : decode cX8_tries 31 = .ok (.bipush 31, 2) := by decide +kernel
theorem dX8_tries_33 : decode cX8_tries 33 = .ok (.iload_n 1, 1) := by decide +kernel
theorem dX8_tries_34 : decode cX8_tries 34 = .ok (.iadd, 1) := by decide +kernel
theorem dX8_tries_35 : decode cX8_tries 35 = .ok (.iaload, 1) := by decide +kernel
theorem dX8_tries_36 : decode cX8_tries 36 = .ok (.iastore, 1) := by decide +kernel
theorem dX8_tries_37 : decode cX8_tries 37 = .ok (.iinc 1 1, 3) := by decide +kernel
theorem dX8_tries_40 : decode cX8_tries 40 = .ok (.goto (-23), 3) := by decide +kernel
theorem dX8_tries_43 : decode cX8_tries 43 = .ok (.aload_n 0, 1) := by decide +kernel
theorem dX8_tries_44 : decode cX8_tries 44 = .ok (.getfield 16, 3) := by decide +kernel
theorem dX8_tries_47 : decode cX8_tries 47 = .ok (.aload_n 0, 1) := by decide +kernel
theorem dX8_tries_48 : decode cX8_tries 48 = .ok (.getfield 7, 3) := by decide +kernel
theorem dX8_tries_51 : decode cX8_tries 51 = .ok (.invokestatic 61, 3) := by decide +kernel
theorem dX8_tries_54 : decode cX8_tries 54 = .ok (.return_, 1) := by decide +kernel
set_option maxRecDepth 20000 in
theorem ggX8_tries_X8_copy : GoodIn wsX8_tries wsX8_copy := goodIn_r _ [7] (by decide +kernel) (by decide +kernel)
set_option maxRecDepth 20000 in
theorem gX8_tries_X8_copy : GoodIn wsX8_tries (va_wsS RX8 61 yX8_copy wsX8_copy) := goodIn_app (goodIn_of _ (by decide +kernel)) ggX8_tries_X8_copy
set_option maxRecDepth 20000 in
theorem ggX8_tries_X8_plays : GoodIn wsX8_tries wsX8_plays := goodIn_r _ [11, 12, 13, 14, 15, 16, 17, 18, 1, 19, 20, 21, 6, 22, 23, 24, 25, 26, 27, 28, 29, 30, 31, 32, 33, 34, 35, 36, 37, 38, 39, 40, 41, 42, 43, 44, 45, 46, 47, 48, 49, 50, 51, 52, 53, 54, 55, 56, 57, 58, 59, 60, 61, 62, 63, 64, 65, 66] (by decide +kernel) (by decide +kernel)
set_option maxRecDepth 20000 in
theorem gX8_tries_X8_plays : GoodIn wsX8_tries (wsV RX8 109 RX8 yX8_plays wsX8_plays) := goodIn_app (goodIn_of _ (by decide +kernel)) ggX8_tries_X8_plays
theorem iX8_tries_8 : ∀ w ∈ u_ws RX8 TX8 25, w ∈ wsX8_tries := fun w h => List.mem_cons_of_mem _ (List.mem_append_right _ (h))
set_option maxHeartbeats 4000000 in
set_option maxRecDepth 100000 in
theorem w_X8_tries_L17 {p : Program} {l : Launch} {e : Env} {s : State} {m : MethodId} {args : Array Value} {below : List Frame} {meth : Method} {c : Code} {E : EE} {g : GG} {ad : Nat → Nat} (hg : gwf g) (X : CallFix p m c cX8_tries 2 s args wsX8_tries RX8) (K : Kn E s) (hr : meth.sig.returnType = none) (hlk : meth.locks = false) {Q : Mm → Prop} : ∀ (n : Nat) (o0 : Nat) (x1 : Int) (M : Mm) (H : Heap) (locs : List Loc) (ls : Array Slot), gk g o0 = 8 → Rw E g ad M s.heap H locs → lv_has ls 2 [(0, .ref (ad o0)), (1, cI x1)] → p_X8_tries_L17 g n o0 x1 M Q → W p l e rmX8_tries s m args below meth c H locs 0 0 (MQ below (QV E g ad Q) args s 0 0 (Rg g ad)) (F0 m 17 ls []) := by
  intro n
  induction n with
  | zero =>
    intro o0 x1 M H locs ls k_o0 w hl h
    exact absurd h (by unfold p_X8_tries_L17; exact id)
  | succ n ih =>
    intro o0 x1 M H locs ls k_o0 w hl h
    unfold p_X8_tries_L17 at h
    refine lv_iload_n X.1 X.2.1 dX8_tries_17 rfl (lv_at hl 1 rfl) ?_
    refine r_iconst X dX8_tries_18 ?_
    obtain ⟨i0, h1, h2⟩ := h
    refine r_icmp_ge (tgt := 43) X i0 ⟨by decide, by decide⟩ dX8_tries_19 (by decide) (fun cc => ?_) (fun cc => ?_)
    · have h := h1 cc
      refine lv_aload_n X.1 X.2.1 dX8_tries_43 rfl (lv_at hl 0 rfl) ?_
      refine r_getr (N := 25) (T := TX8) X K w iX8_tries_8 k_o0 rfl (by decide) 2 (by decide) rfl rfl (List.mem_of_getElem? (i := 2) rfl) dX8_tries_44 ?_
      have k5 : gk g (o0 + 3) = 9 := gch hg k_o0 (by decide) 2 (by decide) rfl rfl
      refine lv_aload_n X.1 X.2.1 dX8_tries_47 rfl (lv_at hl 0 rfl) ?_
      refine r_getr (N := 25) (T := TX8) X K w iX8_tries_8 k_o0 rfl (by decide) 0 (by decide) rfl rfl (List.mem_of_getElem? (i := 1) rfl) dX8_tries_48 ?_
      have k6 : gk g (o0 + 1) = 9 := gch hg k_o0 (by decide) 0 (by decide) rfl rfl
      refine q_v (x_S (As := [.ref (ad (o0 + 3)), .ref (ad (o0 + 1))]) (rest := []) X K w (c_X8_copy hg k5 k6 h) (va_cwS 2 X.2.2.2.2 gX8_tries_X8_copy rfl rfl rfl (by decide +kernel) ⟨Nat.le_of_ble_eq_true rfl, Nat.le_of_ble_eq_true rfl⟩) rfl hl rfl (Nat.le_of_ble_eq_true rfl) dX8_tries_51 ⟨Nat.le_of_ble_eq_true rfl, Nat.le_of_ble_eq_true rfl⟩) w (fun M7 H locs h w => ?_)
      exact r_return X hr hlk K w h dX8_tries_54
    · have h := h2 cc
      refine lv_aload_n X.1 X.2.1 dX8_tries_22 rfl (lv_at hl 0 rfl) ?_
      refine r_getr (N := 25) (T := TX8) X K w iX8_tries_8 k_o0 rfl (by decide) 18 (by decide) rfl rfl (List.mem_of_getElem? (i := 3) rfl) dX8_tries_23 ?_
      have k8 : gk g (o0 + 15) = 9 := gch hg k_o0 (by decide) 18 (by decide) rfl rfl
      refine lv_iload_n X.1 X.2.1 dX8_tries_26 rfl (lv_at hl 1 rfl) ?_
      refine lv_aload_n X.1 X.2.1 dX8_tries_27 rfl (lv_at hl 0 rfl) ?_
      refine r_getr (N := 25) (T := TX8) X K w iX8_tries_8 k_o0 rfl (by decide) 0 (by decide) rfl rfl (List.mem_of_getElem? (i := 1) rfl) dX8_tries_28 ?_
      have k9 : gk g (o0 + 1) = 9 := gch hg k_o0 (by decide) 0 (by decide) rfl rfl
      refine r_bipush X dX8_tries_31 (by decide +kernel) ?_
      refine lv_iload_n X.1 X.2.1 dX8_tries_33 rfl (lv_at hl 1 rfl) ?_
      refine r_iadd X dX8_tries_34 ?_
      obtain ⟨b0, b1, h⟩ := h
      refine r_iald X K w hg k9 b0 b1 dX8_tries_35 ?_
      obtain ⟨b0, b1, h⟩ := h
      refine r_iast X K w hg k8 b0 b1 dX8_tries_36 (fun M10 H locs e w => ?_)
      replace h := h M10 e
      refine r_iinc (lv' := [(1, cI (x1 + 1)), (0, .ref (ad o0))]) X hl (k := 1) rfl (by decide) dX8_tries_37 rfl (fun ls hl => ?_)
      refine lv_goto (tgt := 17) X.1 X.2.1 dX8_tries_40 (by decide) ?_
      exact ih o0 (x1 + 1) M10 _ _ _ k_o0 w (lv_sub hl [1, 0] rfl) h
set_option maxHeartbeats 4000000 in
set_option maxRecDepth 100000 in
theorem c_X8_tries {E : EE} {l : Launch} {g : GG} {ad : Nat → Nat} (hg : gwf g) {o0 : Nat} {M : Mm} {Q : Mm → Prop} (k_o0 : gk g o0 = 8) (h : p_X8_tries g o0 M Q) : Ct E l yX8_tries wsX8_tries rmX8_tries g ad [.ref (ad o0)] M (QV E g ad Q) := by
  refine ent (cc := cX8_tries) (maxL := 2) (ret := none) (own := RX8) (by decide +kernel) rfl rfl (Nat.le_of_ble_eq_true rfl) ?_
  intro p e s m below meth c ls X hr hlk K w hl
  have hl : lv_has ls 2 [(0, .ref (ad o0))] := hl
  unfold p_X8_tries at h
  refine lv_aload_n X.1 X.2.1 dX8_tries_0 rfl (lv_at hl 0 rfl) ?_
  refine r_getr (N := 25) (T := TX8) X K w iX8_tries_8 k_o0 rfl (by decide) 0 (by decide) rfl rfl (List.mem_of_getElem? (i := 1) rfl) dX8_tries_1 ?_
  have k1 : gk g (o0 + 1) = 9 := gch hg k_o0 (by decide) 0 (by decide) rfl rfl
  refine lv_aload_n X.1 X.2.1 dX8_tries_4 rfl (lv_at hl 0 rfl) ?_
  refine r_getr (N := 25) (T := TX8) X K w iX8_tries_8 k_o0 rfl (by decide) 2 (by decide) rfl rfl (List.mem_of_getElem? (i := 2) rfl) dX8_tries_5 ?_
  have k2 : gk g (o0 + 3) = 9 := gch hg k_o0 (by decide) 2 (by decide) rfl rfl
  refine q_v (x_S (As := [.ref (ad (o0 + 1)), .ref (ad (o0 + 3))]) (rest := []) X K w (c_X8_copy hg k1 k2 h) (va_cwS 2 X.2.2.2.2 gX8_tries_X8_copy rfl rfl rfl (by decide +kernel) ⟨Nat.le_of_ble_eq_true rfl, Nat.le_of_ble_eq_true rfl⟩) rfl hl rfl (Nat.le_of_ble_eq_true rfl) dX8_tries_8 ⟨Nat.le_of_ble_eq_true rfl, Nat.le_of_ble_eq_true rfl⟩) w (fun M3 H locs h w => ?_)
  refine lv_aload_n X.1 X.2.1 dX8_tries_11 rfl (lv_at hl 0 rfl) ?_
  refine q_v (x_V (As := []) (rest := []) X K w (c_X8_plays hg k_o0 h) (cwV 0 X.2.2.2.2 gX8_tries_X8_plays rfl rfl rfl (by decide +kernel) ⟨Nat.le_of_ble_eq_true rfl, Nat.le_of_ble_eq_true rfl⟩) k_o0 (by decide) rfl rfl hl rfl (Nat.le_of_ble_eq_true rfl) dX8_tries_12 ⟨Nat.le_of_ble_eq_true rfl, Nat.le_of_ble_eq_true rfl⟩) w (fun M4 H locs h w => ?_)
  refine r_iconst X dX8_tries_15 ?_
  refine lv_istore_n (lv' := [(1, cI 0), (0, .ref (ad o0))]) X.1 X.2.1 dX8_tries_16 rfl hl (by decide) rfl (fun ls hl => ?_)
  obtain ⟨n11, h⟩ := h
  exact w_X8_tries_L17 hg X K hr hlk n11 o0 0 M4 _ _ _ k_o0 w (lv_sub hl [1, 0] rfl) h
theorem dX8_isValue_0 : decode cX8_isValue 0 = .ok (.iload_n 0, 1) := by decide +kernel
theorem dX8_isValue_1 : decode cX8_isValue 1 = .ok (.ifCond .ne 15, 3) := by decide +kernel
theorem dX8_isValue_4 : decode cX8_isValue 4 = .ok (.iload_n 1, 1) := by decide +kernel
theorem dX8_isValue_5 : decode cX8_isValue 5 = .ok (.i2l, 1) := by decide +kernel
theorem dX8_isValue_6 : decode cX8_isValue 6 = .ok (.lconst 0, 1) := by decide +kernel
theorem dX8_isValue_7 : decode cX8_isValue 7 = .ok (.ldc2_w 112, 3) := by decide +kernel
theorem dX8_isValue_10 : decode cX8_isValue 10 = .ok (.invokestatic 69, 3) := by decide +kernel
theorem dX8_isValue_13 : decode cX8_isValue 13 = .ok (.goto 42, 3) := by decide +kernel
theorem dX8_isValue_16 : decode cX8_isValue 16 = .ok (.iload_n 0, 1) := by decide +kernel
theorem dX8_isValue_17 : decode cX8_isValue 17 = .ok (.iconst 1, 1) := by decide +kernel
theorem dX8_isValue_18 : decode cX8_isValue 18 = .ok (.if_icmp .ne 15, 3) := by decide +kernel
theorem dX8_isValue_21 : decode cX8_isValue 21 = .ok (.iload_n 1, 1) := by decide +kernel
theorem dX8_isValue_22 : decode cX8_isValue 22 = .ok (.i2l, 1) := by decide +kernel
theorem dX8_isValue_23 : decode cX8_isValue 23 = .ok (.lconst 0, 1) := by decide +kernel
theorem dX8_isValue_24 : decode cX8_isValue 24 = .ok (.ldc2_w 114, 3) := by decide +kernel
theorem dX8_isValue_27 : decode cX8_isValue 27 = .ok (.invokestatic 69, 3) := by decide +kernel
theorem dX8_isValue_30 : decode cX8_isValue 30 = .ok (.goto 25, 3) := by decide +kernel
theorem dX8_isValue_33 : decode cX8_isValue 33 = .ok (.iload_n 0, 1) := by decide +kernel
theorem dX8_isValue_34 : decode cX8_isValue 34 = .ok (.iconst 2, 1) := by decide +kernel
theorem dX8_isValue_35 : decode cX8_isValue 35 = .ok (.if_icmp .ne 19, 3) := by decide +kernel
theorem dX8_isValue_38 : decode cX8_isValue 38 = .ok (.iload_n 1, 1) := by decide +kernel
theorem dX8_isValue_39 : decode cX8_isValue 39 = .ok (.i2l, 1) := by decide +kernel
theorem dX8_isValue_40 : decode cX8_isValue 40 = .ok (.lconst 1, 1) := by decide +kernel
theorem dX8_isValue_41 : decode cX8_isValue 41 = .ok (.ldc2_w 75, 3) := by decide +kernel
theorem dX8_isValue_44 : decode cX8_isValue 44 = .ok (.invokestatic 69, 3) := by decide +kernel
theorem dX8_isValue_47 : decode cX8_isValue 47 = .ok (.ifCond .eq 7, 3) := by decide +kernel
theorem dX8_isValue_50 : decode cX8_isValue 50 = .ok (.iconst 1, 1) := by decide +kernel
theorem dX8_isValue_51 : decode cX8_isValue 51 = .ok (.goto 4, 3) := by decide +kernel
theorem dX8_isValue_54 : decode cX8_isValue 54 = .ok (.iconst 0, 1) := by decide +kernel
theorem dX8_isValue_55 : decode cX8_isValue 55 = .ok (.ireturn, 1) := by decide +kernel
set_option maxRecDepth 20000 in
theorem ggX8_isValue_X8_in : GoodIn wsX8_isValue wsX8_in := goodIn_r _ [7] (by decide +kernel) (by decide +kernel)
set_option maxRecDepth 20000 in
theorem gX8_isValue_X8_in : GoodIn wsX8_isValue (va_wsS RX8 69 yX8_in wsX8_in) := goodIn_app (goodIn_of _ (by decide +kernel)) ggX8_isValue_X8_in
set_option maxHeartbeats 4000000 in
set_option maxRecDepth 100000 in
theorem c_X8_isValue {E : EE} {l : Launch} {g : GG} {ad : Nat → Nat} (hg : gwf g) {x0 : Int} {x1 : Int} {M : Mm} {Q : Int → Mm → Prop} (h : p_X8_isValue g x0 x1 M Q) : Ct E l yX8_isValue wsX8_isValue rmX8_isValue g ad [cI x0, cI x1] M (QI E g ad Q) := by
  refine ent (cc := cX8_isValue) (maxL := 2) (ret := (some .boolean)) (own := RX8) (by decide +kernel) rfl rfl (Nat.le_of_ble_eq_true rfl) ?_
  intro p e s m below meth c ls X hr hlk K w hl
  have hl : lv_has ls 2 [(0, cI x0), (1, cI x1)] := hl
  unfold p_X8_isValue at h
  refine lv_iload_n X.1 X.2.1 dX8_isValue_0 rfl (lv_at hl 0 rfl) ?_
  obtain ⟨i0, h1, h2⟩ := h
  refine r_if_ne (tgt := 16) X i0 dX8_isValue_1 (by decide) (fun cc => ?_) (fun cc => ?_)
  · have h := h1 cc
    refine lv_iload_n X.1 X.2.1 dX8_isValue_16 rfl (lv_at hl 0 rfl) ?_
    refine r_iconst X dX8_isValue_17 ?_
    obtain ⟨i0, h1, h2⟩ := h
    refine r_icmp_ne (tgt := 33) X i0 ⟨by decide, by decide⟩ dX8_isValue_18 (by decide) (fun cc => ?_) (fun cc => ?_)
    · have h := h1 cc
      refine lv_iload_n X.1 X.2.1 dX8_isValue_33 rfl (lv_at hl 0 rfl) ?_
      refine r_iconst X dX8_isValue_34 ?_
      obtain ⟨i0, h1, h2⟩ := h
      refine r_icmp_ne (tgt := 54) X i0 ⟨by decide, by decide⟩ dX8_isValue_35 (by decide) (fun cc => ?_) (fun cc => ?_)
      · have h := h1 cc
        refine r_iconst X dX8_isValue_54 ?_
        exact r_zreturn X hr hlk K w (by decide +kernel) h dX8_isValue_55
      · have h := h2 cc
        refine lv_iload_n X.1 X.2.1 dX8_isValue_38 rfl (lv_at hl 1 rfl) ?_
        obtain ⟨i0, h⟩ := h
        refine r_i2l X i0 dX8_isValue_39 ?_
        refine r_lconst (v := 1) X dX8_isValue_40 (by decide +kernel) ?_
        refine r_ldc2 (v := 9) X (List.mem_of_getElem? (i := 3) rfl) dX8_isValue_41 ?_
        refine q_i (x_S (As := [cL x1, cL 1, cL 9]) (rest := []) X K w (c_X8_in hg h) (va_cwS 3 X.2.2.2.2 gX8_isValue_X8_in rfl rfl rfl (by decide +kernel) ⟨Nat.le_of_ble_eq_true rfl, Nat.le_of_ble_eq_true rfl⟩) rfl hl rfl (Nat.le_of_ble_eq_true rfl) dX8_isValue_44 ⟨Nat.le_of_ble_eq_true rfl, Nat.le_of_ble_eq_true rfl⟩) w (fun r2 M1 H locs h w => ?_)
        obtain ⟨i0, h1, h2⟩ := h
        refine r_if_eq (tgt := 54) X i0 dX8_isValue_47 (by decide) (fun cc => ?_) (fun cc => ?_)
        · have h := h1 cc
          refine r_iconst X dX8_isValue_54 ?_
          exact r_zreturn X hr hlk K w (by decide +kernel) h dX8_isValue_55
        · have h := h2 cc
          refine r_iconst X dX8_isValue_50 ?_
          refine lv_goto (tgt := 55) X.1 X.2.1 dX8_isValue_51 (by decide) ?_
          exact r_zreturn X hr hlk K w (by decide +kernel) h dX8_isValue_55
    · have h := h2 cc
      refine lv_iload_n X.1 X.2.1 dX8_isValue_21 rfl (lv_at hl 1 rfl) ?_
      obtain ⟨i0, h⟩ := h
      refine r_i2l X i0 dX8_isValue_22 ?_
      refine r_lconst (v := 0) X dX8_isValue_23 (by decide +kernel) ?_
      refine r_ldc2 (v := 30) X (List.mem_of_getElem? (i := 2) rfl) dX8_isValue_24 ?_
      refine q_i (x_S (As := [cL x1, cL 0, cL 30]) (rest := []) X K w (c_X8_in hg h) (va_cwS 3 X.2.2.2.2 gX8_isValue_X8_in rfl rfl rfl (by decide +kernel) ⟨Nat.le_of_ble_eq_true rfl, Nat.le_of_ble_eq_true rfl⟩) rfl hl rfl (Nat.le_of_ble_eq_true rfl) dX8_isValue_27 ⟨Nat.le_of_ble_eq_true rfl, Nat.le_of_ble_eq_true rfl⟩) w (fun r4 M3 H locs h w => ?_)
      refine lv_goto (tgt := 55) X.1 X.2.1 dX8_isValue_30 (by decide) ?_
      exact r_zreturn X hr hlk K w (nz h.1) h.2 dX8_isValue_55
  · have h := h2 cc
    refine lv_iload_n X.1 X.2.1 dX8_isValue_4 rfl (lv_at hl 1 rfl) ?_
    obtain ⟨i0, h⟩ := h
    refine r_i2l X i0 dX8_isValue_5 ?_
    refine r_lconst (v := 0) X dX8_isValue_6 (by decide +kernel) ?_
    refine r_ldc2 (v := 4) X (List.mem_of_getElem? (i := 1) rfl) dX8_isValue_7 ?_
    refine q_i (x_S (As := [cL x1, cL 0, cL 4]) (rest := []) X K w (c_X8_in hg h) (va_cwS 3 X.2.2.2.2 gX8_isValue_X8_in rfl rfl rfl (by decide +kernel) ⟨Nat.le_of_ble_eq_true rfl, Nat.le_of_ble_eq_true rfl⟩) rfl hl rfl (Nat.le_of_ble_eq_true rfl) dX8_isValue_10 ⟨Nat.le_of_ble_eq_true rfl, Nat.le_of_ble_eq_true rfl⟩) w (fun r6 M5 H locs h w => ?_)
    refine lv_goto (tgt := 55) X.1 X.2.1 dX8_isValue_13 (by decide) ?_
    exact r_zreturn X hr hlk K w (nz h.1) h.2 dX8_isValue_55
theorem dX8_sets_0 : decode cX8_sets 0 = .ok (.aload_n 0, 1) := by decide +kernel
theorem dX8_sets_1 : decode cX8_sets 1 = .ok (.getfield 7, 3) := by decide +kernel
theorem dX8_sets_4 : decode cX8_sets 4 = .ok (.iload_n 1, 1) := by decide +kernel
theorem dX8_sets_5 : decode cX8_sets 5 = .ok (.iaload, 1) := by decide +kernel
theorem dX8_sets_6 : decode cX8_sets 6 = .ok (.istore_n 3, 1) := by decide +kernel
theorem dX8_sets_7 : decode cX8_sets 7 = .ok (.iload_n 3, 1) := by decide +kernel
theorem dX8_sets_8 : decode cX8_sets 8 = .ok (.iload_n 2, 1) := by decide +kernel
theorem dX8_sets_9 : decode cX8_sets 9 = .ok (.if_icmp .ne 6, 3) := by decide +kernel
theorem dX8_sets_12 : decode cX8_sets 12 = .ok (.bipush (-5), 2) := by decide +kernel
theorem dX8_sets_14 : decode cX8_sets 14 = .ok (.ireturn, 1) := by decide +kernel
theorem dX8_sets_15 : decode cX8_sets 15 = .ok (.aload_n 0, 1) := by decide +kernel
theorem dX8_sets_16 : decode cX8_sets 16 = .ok (.invokevirtual 116, 3) := by decide +kernel
theorem dX8_sets_19 : decode cX8_sets 19 = .ok (.aload_n 0, 1) := by decide +kernel
theorem dX8_sets_20 : decode cX8_sets 20 = .ok (.getfield 7, 3) := by decide +kernel
theorem dX8_sets_23 : decode cX8_sets 23 = .ok (.iload_n 1, 1) := by decide +kernel
theorem dX8_sets_24 : decode cX8_sets 24 = .ok (.iload_n 2, 1) := by decide +kernel
theorem dX8_sets_25 : decode cX8_sets 25 = .ok (.iastore, 1) := by decide +kernel
theorem dX8_sets_26 : decode cX8_sets 26 = .ok (.aload_n 0, 1) := by decide +kernel
theorem dX8_sets_27 : decode cX8_sets 27 = .ok (.iload_n 3, 1) := by decide +kernel
theorem dX8_sets_28 : decode cX8_sets 28 = .ok (.invokevirtual 119, 3) := by decide +kernel
theorem dX8_sets_31 : decode cX8_sets 31 = .ok (.ireturn, 1) := by decide +kernel
set_option maxRecDepth 20000 in
theorem ggX8_sets_X8_acted : GoodIn wsX8_sets wsX8_acted := goodIn_r _ [14, 15, 16, 7, 17, 18, 19, 20, 21, 22, 23, 24, 25, 26, 27, 28, 29, 30, 31, 32, 33, 34, 35, 36, 37, 38, 39, 40, 41] (by decide +kernel) (by decide +kernel)
set_option maxRecDepth 20000 in
theorem gX8_sets_X8_acted : GoodIn wsX8_sets (wsV RX8 119 RX8 yX8_acted wsX8_acted) := goodIn_app (goodIn_of _ (by decide +kernel)) ggX8_sets_X8_acted
set_option maxRecDepth 20000 in
theorem ggX8_sets_X8_remember : GoodIn wsX8_sets wsX8_remember := goodIn_r _ [6, 1, 7, 8, 9, 5, 10, 17, 18, 19, 20, 21, 22, 23, 24, 25, 26, 27, 28, 29, 30, 31, 32, 33, 34, 35, 36, 37, 38, 39, 40, 41] (by decide +kernel) (by decide +kernel)
set_option maxRecDepth 20000 in
theorem gX8_sets_X8_remember : GoodIn wsX8_sets (wsV RX8 116 RX8 yX8_remember wsX8_remember) := goodIn_app (goodIn_of _ (by decide +kernel)) ggX8_sets_X8_remember
theorem iX8_sets_8 : ∀ w ∈ u_ws RX8 TX8 25, w ∈ wsX8_sets := fun w h => List.mem_cons_of_mem _ (List.mem_append_right _ (h))
set_option maxHeartbeats 4000000 in
set_option maxRecDepth 100000 in
theorem c_X8_sets {E : EE} {l : Launch} {g : GG} {ad : Nat → Nat} (hg : gwf g) {o0 : Nat} {x1 : Int} {x2 : Int} {M : Mm} {Q : Int → Mm → Prop} (k_o0 : gk g o0 = 8) (h : p_X8_sets g o0 x1 x2 M Q) : Ct E l yX8_sets wsX8_sets rmX8_sets g ad [.ref (ad o0), cI x1, cI x2] M (QI E g ad Q) := by
  refine ent (cc := cX8_sets) (maxL := 4) (ret := (some .int)) (own := RX8) (by decide +kernel) rfl rfl (Nat.le_of_ble_eq_true rfl) ?_
  intro p e s m below meth c ls X hr hlk K w hl
  have hl : lv_has ls 4 [(0, .ref (ad o0)), (1, cI x1), (2, cI x2)] := hl
  unfold p_X8_sets at h
  refine lv_aload_n X.1 X.2.1 dX8_sets_0 rfl (lv_at hl 0 rfl) ?_
  refine r_getr (N := 25) (T := TX8) X K w iX8_sets_8 k_o0 rfl (by decide) 0 (by decide) rfl rfl (List.mem_of_getElem? (i := 1) rfl) dX8_sets_1 ?_
  have k1 : gk g (o0 + 1) = 9 := gch hg k_o0 (by decide) 0 (by decide) rfl rfl
  refine lv_iload_n X.1 X.2.1 dX8_sets_4 rfl (lv_at hl 1 rfl) ?_
  obtain ⟨b0, b1, h⟩ := h
  refine r_iald X K w hg k1 b0 b1 dX8_sets_5 ?_
  refine lv_istore_n (lv' := [(3, cI (M (o0 + 1) x1)), (0, .ref (ad o0)), (1, cI x1), (2, cI x2)]) X.1 X.2.1 dX8_sets_6 rfl hl (by decide) rfl (fun ls hl => ?_)
  refine lv_iload_n X.1 X.2.1 dX8_sets_7 rfl (lv_at hl 0 rfl) ?_
  refine lv_iload_n X.1 X.2.1 dX8_sets_8 rfl (lv_at hl 3 rfl) ?_
  obtain ⟨i0, i1, h1, h2⟩ := h
  refine r_icmp_ne (tgt := 15) X i0 i1 dX8_sets_9 (by decide) (fun cc => ?_) (fun cc => ?_)
  · have h := h1 cc
    refine lv_aload_n X.1 X.2.1 dX8_sets_15 rfl (lv_at hl 1 rfl) ?_
    refine q_v (x_V (As := []) (rest := []) X K w (c_X8_remember hg k_o0 h) (cwV 0 X.2.2.2.2 gX8_sets_X8_remember rfl rfl rfl (by decide +kernel) ⟨Nat.le_of_ble_eq_true rfl, Nat.le_of_ble_eq_true rfl⟩) k_o0 (by decide) rfl rfl hl rfl (Nat.le_of_ble_eq_true rfl) dX8_sets_16 ⟨Nat.le_of_ble_eq_true rfl, Nat.le_of_ble_eq_true rfl⟩) w (fun M2 H locs h w => ?_)
    refine lv_aload_n X.1 X.2.1 dX8_sets_19 rfl (lv_at hl 1 rfl) ?_
    refine r_getr (N := 25) (T := TX8) X K w iX8_sets_8 k_o0 rfl (by decide) 0 (by decide) rfl rfl (List.mem_of_getElem? (i := 1) rfl) dX8_sets_20 ?_
    have k3 : gk g (o0 + 1) = 9 := gch hg k_o0 (by decide) 0 (by decide) rfl rfl
    refine lv_iload_n X.1 X.2.1 dX8_sets_23 rfl (lv_at hl 2 rfl) ?_
    refine lv_iload_n X.1 X.2.1 dX8_sets_24 rfl (lv_at hl 3 rfl) ?_
    obtain ⟨b0, b1, h⟩ := h
    refine r_iast X K w hg k3 b0 b1 dX8_sets_25 (fun M4 H locs e w => ?_)
    replace h := h M4 e
    refine lv_aload_n X.1 X.2.1 dX8_sets_26 rfl (lv_at hl 1 rfl) ?_
    refine lv_iload_n X.1 X.2.1 dX8_sets_27 rfl (lv_at hl 0 rfl) ?_
    refine q_i (x_V (As := [cI (M (o0 + 1) x1)]) (rest := []) X K w (c_X8_acted hg k_o0 h) (cwV 1 X.2.2.2.2 gX8_sets_X8_acted rfl rfl rfl (by decide +kernel) ⟨Nat.le_of_ble_eq_true rfl, Nat.le_of_ble_eq_true rfl⟩) k_o0 (by decide) rfl rfl hl rfl (Nat.le_of_ble_eq_true rfl) dX8_sets_28 ⟨Nat.le_of_ble_eq_true rfl, Nat.le_of_ble_eq_true rfl⟩) w (fun r6 M5 H locs h w => ?_)
    exact r_ireturn X hr hlk K w h dX8_sets_31
  · have h := h2 cc
    refine r_bipush X dX8_sets_12 (by decide +kernel) ?_
    exact r_ireturn X hr hlk K w h dX8_sets_14
theorem dX8_setSound_0 : decode cX8_setSound 0 = .ok (.iload_n 1, 1) := by decide +kernel
theorem dX8_setSound_1 : decode cX8_setSound 1 = .ok (.invokestatic 122, 3) := by decide +kernel
theorem dX8_setSound_4 : decode cX8_setSound 4 = .ok (.ifCond .ne 5, 3) := by decide +kernel
theorem dX8_setSound_7 : decode cX8_setSound 7 = .ok (.iconst (-1), 1) := by decide +kernel
theorem dX8_setSound_8 : decode cX8_setSound 8 = .ok (.ireturn, 1) := by decide +kernel
theorem dX8_setSound_9 : decode cX8_setSound 9 = .ok (.iload_n 2, 1) := by decide +kernel
theorem dX8_setSound_10 : decode cX8_setSound 10 = .ok (.iload_n 3, 1) := by decide +kernel
theorem dX8_setSound_11 : decode cX8_setSound 11 = .ok (.invokestatic 125, 3) := by decide +kernel
theorem dX8_setSound_14 : decode cX8_setSound 14 = .ok (.ifCond .eq 17, 3) := by decide +kernel
theorem dX8_setSound_17 : decode cX8_setSound 17 = .ok (.aload_n 0, 1) := by decide +kernel
theorem dX8_setSound_18 : decode cX8_setSound 18 = .ok (.bipush 10, 2) := by decide +kernel
theorem dX8_setSound_20 : decode cX8_setSound 20 = .ok (.iload_n 2, 1) := by decide +kernel
theorem dX8_setSound_21 : decode cX8_setSound 21 = .ok (.imul, 1) := by decide +kernel
theorem dX8_setSound_22 : decode cX8_setSound 22 = .ok (.iload_n 1, 1) := by decide +kernel
theorem dX8_setSound_23 : decode cX8_setSound 23 = .ok (.iadd, 1) := by decide +kernel
theorem dX8_setSound_24 : decode cX8_setSound 24 = .ok (.iload_n 3, 1) := by decide +kernel
theorem dX8_setSound_25 : decode cX8_setSound 25 = .ok (.invokevirtual 129, 3) := by decide +kernel
theorem dX8_setSound_28 : decode cX8_setSound 28 = .ok (.goto 5, 3) := by decide +kernel
theorem dX8_setSound_31 : decode cX8_setSound 31 = .ok (.bipush (-2), 2) := by decide +kernel
theorem dX8_setSound_33 : decode cX8_setSound 33 = .ok (.ireturn, 1) := by decide +kernel
set_option maxRecDepth 20000 in
theorem ggX8_setSound_X8_isSound : GoodIn wsX8_setSound wsX8_isSound := goodIn_r _ [4, 5, 6, 7, 3, 8] (by decide +kernel) (by decide +kernel)
set_option maxRecDepth 20000 in
theorem gX8_setSound_X8_isSound : GoodIn wsX8_setSound (va_wsS RX8 122 yX8_isSound wsX8_isSound) := goodIn_app (goodIn_of _ (by decide +kernel)) ggX8_setSound_X8_isSound
set_option maxRecDepth 20000 in
theorem ggX8_setSound_X8_isValue : GoodIn wsX8_setSound wsX8_isValue := goodIn_r _ [11, 12, 13, 5, 6, 7, 3, 8] (by decide +kernel) (by decide +kernel)
set_option maxRecDepth 20000 in
theorem gX8_setSound_X8_isValue : GoodIn wsX8_setSound (va_wsS RX8 125 yX8_isValue wsX8_isValue) := goodIn_app (goodIn_of _ (by decide +kernel)) ggX8_setSound_X8_isValue
set_option maxRecDepth 20000 in
theorem ggX8_setSound_X8_sets : GoodIn wsX8_setSound wsX8_sets := goodIn_r _ [17, 18, 19, 20, 21, 3, 22, 23, 24, 25, 26, 27, 28, 29, 30, 31, 32, 33, 34, 35, 36, 37, 38, 39, 40, 41, 42, 43, 44, 45, 46, 47, 48, 49, 50, 51, 52, 53, 54, 55, 56, 57] (by decide +kernel) (by decide +kernel)
set_option maxRecDepth 20000 in
theorem gX8_setSound_X8_sets : GoodIn wsX8_setSound (wsV RX8 129 RX8 yX8_sets wsX8_sets) := goodIn_app (goodIn_of _ (by decide +kernel)) ggX8_setSound_X8_sets
set_option maxHeartbeats 4000000 in
set_option maxRecDepth 100000 in
theorem c_X8_setSound {E : EE} {l : Launch} {g : GG} {ad : Nat → Nat} (hg : gwf g) {o0 : Nat} {x1 : Int} {x2 : Int} {x3 : Int} {M : Mm} {Q : Int → Mm → Prop} (k_o0 : gk g o0 = 8) (h : p_X8_setSound g o0 x1 x2 x3 M Q) : Ct E l yX8_setSound wsX8_setSound rmX8_setSound g ad [.ref (ad o0), cI x1, cI x2, cI x3] M (QI E g ad Q) := by
  refine ent (cc := cX8_setSound) (maxL := 4) (ret := (some .int)) (own := RX8) (by decide +kernel) rfl rfl (Nat.le_of_ble_eq_true rfl) ?_
  intro p e s m below meth c ls X hr hlk K w hl
  have hl : lv_has ls 4 [(0, .ref (ad o0)), (1, cI x1), (2, cI x2), (3, cI x3)] := hl
  unfold p_X8_setSound at h
  refine lv_iload_n X.1 X.2.1 dX8_setSound_0 rfl (lv_at hl 1 rfl) ?_
  refine q_i (x_S (As := [cI x1]) (rest := []) X K w (c_X8_isSound hg h) (va_cwS 1 X.2.2.2.2 gX8_setSound_X8_isSound rfl rfl rfl (by decide +kernel) ⟨Nat.le_of_ble_eq_true rfl, Nat.le_of_ble_eq_true rfl⟩) rfl hl rfl (Nat.le_of_ble_eq_true rfl) dX8_setSound_1 ⟨Nat.le_of_ble_eq_true rfl, Nat.le_of_ble_eq_true rfl⟩) w (fun r2 M1 H locs h w => ?_)
  obtain ⟨i0, h1, h2⟩ := h
  refine r_if_ne (tgt := 9) X i0 dX8_setSound_4 (by decide) (fun cc => ?_) (fun cc => ?_)
  · have h := h1 cc
    refine lv_iload_n X.1 X.2.1 dX8_setSound_9 rfl (lv_at hl 2 rfl) ?_
    refine lv_iload_n X.1 X.2.1 dX8_setSound_10 rfl (lv_at hl 3 rfl) ?_
    refine q_i (x_S (As := [cI x2, cI x3]) (rest := []) X K w (c_X8_isValue hg h) (va_cwS 2 X.2.2.2.2 gX8_setSound_X8_isValue rfl rfl rfl (by decide +kernel) ⟨Nat.le_of_ble_eq_true rfl, Nat.le_of_ble_eq_true rfl⟩) rfl hl rfl (Nat.le_of_ble_eq_true rfl) dX8_setSound_11 ⟨Nat.le_of_ble_eq_true rfl, Nat.le_of_ble_eq_true rfl⟩) w (fun r4 M3 H locs h w => ?_)
    obtain ⟨i0, h1, h2⟩ := h
    refine r_if_eq (tgt := 31) X i0 dX8_setSound_14 (by decide) (fun cc => ?_) (fun cc => ?_)
    · have h := h1 cc
      refine r_bipush X dX8_setSound_31 (by decide +kernel) ?_
      exact r_ireturn X hr hlk K w h dX8_setSound_33
    · have h := h2 cc
      refine lv_aload_n X.1 X.2.1 dX8_setSound_17 rfl (lv_at hl 0 rfl) ?_
      refine r_bipush X dX8_setSound_18 (by decide +kernel) ?_
      refine lv_iload_n X.1 X.2.1 dX8_setSound_20 rfl (lv_at hl 2 rfl) ?_
      refine r_imul X dX8_setSound_21 ?_
      refine lv_iload_n X.1 X.2.1 dX8_setSound_22 rfl (lv_at hl 1 rfl) ?_
      refine r_iadd X dX8_setSound_23 ?_
      refine lv_iload_n X.1 X.2.1 dX8_setSound_24 rfl (lv_at hl 3 rfl) ?_
      refine q_i (x_V (As := [cI ((10 * x2) + x1), cI x3]) (rest := []) X K w (c_X8_sets hg k_o0 h) (cwV 2 X.2.2.2.2 gX8_setSound_X8_sets rfl rfl rfl (by decide +kernel) ⟨Nat.le_of_ble_eq_true rfl, Nat.le_of_ble_eq_true rfl⟩) k_o0 (by decide) rfl rfl hl rfl (Nat.le_of_ble_eq_true rfl) dX8_setSound_25 ⟨Nat.le_of_ble_eq_true rfl, Nat.le_of_ble_eq_true rfl⟩) w (fun r6 M5 H locs h w => ?_)
      refine lv_goto (tgt := 33) X.1 X.2.1 dX8_setSound_28 (by decide) ?_
      exact r_ireturn X hr hlk K w h dX8_setSound_33
  · have h := h2 cc
    refine r_iconst X dX8_setSound_7 ?_
    exact r_ireturn X hr hlk K w h dX8_setSound_8
theorem dX8_becomeHands_0 : decode cX8_becomeHands 0 = .ok (.aload_n 0, 1) := by decide +kernel
theorem dX8_becomeHands_1 : decode cX8_becomeHands 1 = .ok (.getfield 7, 3) := by decide +kernel
theorem dX8_becomeHands_4 : decode cX8_becomeHands 4 = .ok (.bipush 30, 2) := by decide +kernel
theorem dX8_becomeHands_6 : decode cX8_becomeHands 6 = .ok (.iaload, 1) := by decide +kernel
theorem dX8_becomeHands_7 : decode cX8_becomeHands 7 = .ok (.istore_n 2, 1) := by decide +kernel
theorem dX8_becomeHands_8 : decode cX8_becomeHands 8 = .ok (.iload_n 2, 1) := by decide +kernel
theorem dX8_becomeHands_9 : decode cX8_becomeHands 9 = .ok (.iload_n 1, 1) := by decide +kernel
theorem dX8_becomeHands_10 : decode cX8_becomeHands 10 = .ok (.if_icmp .ge 19, 3) := by decide +kernel
theorem dX8_becomeHands_13 : decode cX8_becomeHands 13 = .ok (.aload_n 0, 1) := by decide +kernel
theorem dX8_becomeHands_14 : decode cX8_becomeHands 14 = .ok (.getfield 7, 3) := by decide +kernel
theorem dX8_becomeHands_17 : decode cX8_becomeHands 17 = .ok (.bipush 31, 2) := by decide +kernel
theorem dX8_becomeHands_19 : decode cX8_becomeHands 19 = .ok (.iload_n 2, 1) := by decide +kernel
theorem dX8_becomeHands_20 : decode cX8_becomeHands 20 = .ok (.iadd, 1) := by decide +kernel
theorem dX8_becomeHands_21 : decode cX8_becomeHands 21 = .ok (.iload_n 2, 1) := by decide +kernel
theorem dX8_becomeHands_22 : decode cX8_becomeHands 22 = .ok (.iastore, 1) := by decide +kernel
theorem dX8_becomeHands_23 : decode cX8_becomeHands 23 = .ok (.iinc 2 1, 3) := by decide +kernel
theorem dX8_becomeHands_26 : decode cX8_becomeHands 26 = .ok (.goto (-18), 3) := by decide +kernel
theorem dX8_becomeHands_29 : decode cX8_becomeHands 29 = .ok (.aload_n 0, 1) := by decide +kernel
theorem dX8_becomeHands_30 : decode cX8_becomeHands 30 = .ok (.getfield 7, 3) := by decide +kernel
theorem dX8_becomeHands_33 : decode cX8_becomeHands 33 = .ok (.bipush 30, 2) := by decide +kernel
theorem dX8_becomeHands_35 : decode cX8_becomeHands 35 = .ok (.iload_n 1, 1) := by decide +kernel
theorem dX8_becomeHands_36 : decode cX8_becomeHands 36 = .ok (.iastore, 1) := by decide +kernel
theorem dX8_becomeHands_37 : decode cX8_becomeHands 37 = .ok (.return_, 1) := by decide +kernel
theorem iX8_becomeHands_8 : ∀ w ∈ u_ws RX8 TX8 25, w ∈ wsX8_becomeHands := fun w h => List.mem_cons_of_mem _ (List.mem_append_right _ (h))
set_option maxHeartbeats 4000000 in
set_option maxRecDepth 100000 in
theorem w_X8_becomeHands_L8 {p : Program} {l : Launch} {e : Env} {s : State} {m : MethodId} {args : Array Value} {below : List Frame} {meth : Method} {c : Code} {E : EE} {g : GG} {ad : Nat → Nat} (hg : gwf g) (X : CallFix p m c cX8_becomeHands 3 s args wsX8_becomeHands RX8) (K : Kn E s) (hr : meth.sig.returnType = none) (hlk : meth.locks = false) {Q : Mm → Prop} : ∀ (n : Nat) (o0 : Nat) (x1 : Int) (x2 : Int) (M : Mm) (H : Heap) (locs : List Loc) (ls : Array Slot), gk g o0 = 8 → Rw E g ad M s.heap H locs → lv_has ls 3 [(0, .ref (ad o0)), (1, cI x1), (2, cI x2)] → p_X8_becomeHands_L8 g n o0 x1 x2 M Q → W p l e rmX8_becomeHands s m args below meth c H locs 0 0 (MQ below (QV E g ad Q) args s 0 0 (Rg g ad)) (F0 m 8 ls []) := by
  intro n
  induction n with
  | zero =>
    intro o0 x1 x2 M H locs ls k_o0 w hl h
    exact absurd h (by unfold p_X8_becomeHands_L8; exact id)
  | succ n ih =>
    intro o0 x1 x2 M H locs ls k_o0 w hl h
    unfold p_X8_becomeHands_L8 at h
    refine lv_iload_n X.1 X.2.1 dX8_becomeHands_8 rfl (lv_at hl 2 rfl) ?_
    refine lv_iload_n X.1 X.2.1 dX8_becomeHands_9 rfl (lv_at hl 1 rfl) ?_
    obtain ⟨i0, i1, h1, h2⟩ := h
    refine r_icmp_ge (tgt := 29) X i0 i1 dX8_becomeHands_10 (by decide) (fun cc => ?_) (fun cc => ?_)
    · have h := h1 cc
      refine lv_aload_n X.1 X.2.1 dX8_becomeHands_29 rfl (lv_at hl 0 rfl) ?_
      refine r_getr (N := 25) (T := TX8) X K w iX8_becomeHands_8 k_o0 rfl (by decide) 0 (by decide) rfl rfl (List.mem_of_getElem? (i := 1) rfl) dX8_becomeHands_30 ?_
      have k2 : gk g (o0 + 1) = 9 := gch hg k_o0 (by decide) 0 (by decide) rfl rfl
      refine r_bipush X dX8_becomeHands_33 (by decide +kernel) ?_
      refine lv_iload_n X.1 X.2.1 dX8_becomeHands_35 rfl (lv_at hl 1 rfl) ?_
      obtain ⟨b1, h⟩ := h
      refine r_iast X K w hg k2 (by decide) b1 dX8_becomeHands_36 (fun M3 H locs e w => ?_)
      replace h := h M3 e
      exact r_return X hr hlk K w h dX8_becomeHands_37
    · have h := h2 cc
      refine lv_aload_n X.1 X.2.1 dX8_becomeHands_13 rfl (lv_at hl 0 rfl) ?_
      refine r_getr (N := 25) (T := TX8) X K w iX8_becomeHands_8 k_o0 rfl (by decide) 0 (by decide) rfl rfl (List.mem_of_getElem? (i := 1) rfl) dX8_becomeHands_14 ?_
      have k4 : gk g (o0 + 1) = 9 := gch hg k_o0 (by decide) 0 (by decide) rfl rfl
      refine r_bipush X dX8_becomeHands_17 (by decide +kernel) ?_
      refine lv_iload_n X.1 X.2.1 dX8_becomeHands_19 rfl (lv_at hl 2 rfl) ?_
      refine r_iadd X dX8_becomeHands_20 ?_
      refine lv_iload_n X.1 X.2.1 dX8_becomeHands_21 rfl (lv_at hl 2 rfl) ?_
      obtain ⟨b0, b1, h⟩ := h
      refine r_iast X K w hg k4 b0 b1 dX8_becomeHands_22 (fun M5 H locs e w => ?_)
      replace h := h M5 e
      refine r_iinc (lv' := [(2, cI (x2 + 1)), (0, .ref (ad o0)), (1, cI x1)]) X hl (k := 2) rfl (by decide) dX8_becomeHands_23 rfl (fun ls hl => ?_)
      refine lv_goto (tgt := 8) X.1 X.2.1 dX8_becomeHands_26 (by decide) ?_
      exact ih o0 x1 (x2 + 1) M5 _ _ _ k_o0 w (lv_sub hl [1, 2, 0] rfl) h
set_option maxHeartbeats 4000000 in
set_option maxRecDepth 100000 in
theorem c_X8_becomeHands {E : EE} {l : Launch} {g : GG} {ad : Nat → Nat} (hg : gwf g) {o0 : Nat} {x1 : Int} {M : Mm} {Q : Mm → Prop} (k_o0 : gk g o0 = 8) (h : p_X8_becomeHands g o0 x1 M Q) : Ct E l yX8_becomeHands wsX8_becomeHands rmX8_becomeHands g ad [.ref (ad o0), cI x1] M (QV E g ad Q) := by
  refine ent (cc := cX8_becomeHands) (maxL := 3) (ret := none) (own := RX8) (by decide +kernel) rfl rfl (Nat.le_of_ble_eq_true rfl) ?_
  intro p e s m below meth c ls X hr hlk K w hl
  have hl : lv_has ls 3 [(0, .ref (ad o0)), (1, cI x1)] := hl
  unfold p_X8_becomeHands at h
  refine lv_aload_n X.1 X.2.1 dX8_becomeHands_0 rfl (lv_at hl 0 rfl) ?_
  refine r_getr (N := 25) (T := TX8) X K w iX8_becomeHands_8 k_o0 rfl (by decide) 0 (by decide) rfl rfl (List.mem_of_getElem? (i := 1) rfl) dX8_becomeHands_1 ?_
  have k1 : gk g (o0 + 1) = 9 := gch hg k_o0 (by decide) 0 (by decide) rfl rfl
  refine r_bipush X dX8_becomeHands_4 (by decide +kernel) ?_
  obtain ⟨b1, h⟩ := h
  refine r_iald X K w hg k1 (by decide) b1 dX8_becomeHands_6 ?_
  refine lv_istore_n (lv' := [(2, cI (M (o0 + 1) 30)), (0, .ref (ad o0)), (1, cI x1)]) X.1 X.2.1 dX8_becomeHands_7 rfl hl (by decide) rfl (fun ls hl => ?_)
  obtain ⟨n6, h⟩ := h
  exact w_X8_becomeHands_L8 hg X K hr hlk n6 o0 x1 (M (o0 + 1) 30) M _ _ _ k_o0 w (lv_sub hl [1, 2, 0] rfl) h
theorem dX8_setHands_0 : decode cX8_setHands 0 = .ok (.iload_n 1, 1) := by decide +kernel
theorem dX8_setHands_1 : decode cX8_setHands 1 = .ok (.i2l, 1) := by decide +kernel
theorem dX8_setHands_2 : decode cX8_setHands 2 = .ok (.lconst 1, 1) := by decide +kernel
theorem dX8_setHands_3 : decode cX8_setHands 3 = .ok (.ldc2_w 112, 3) := by decide +kernel
theorem dX8_setHands_6 : decode cX8_setHands 6 = .ok (.invokestatic 69, 3) := by decide +kernel
theorem dX8_setHands_9 : decode cX8_setHands 9 = .ok (.ifCond .ne 6, 3) := by decide +kernel
theorem dX8_setHands_12 : decode cX8_setHands 12 = .ok (.bipush (-2), 2) := by decide +kernel
theorem dX8_setHands_14 : decode cX8_setHands 14 = .ok (.ireturn, 1) := by decide +kernel
theorem dX8_setHands_15 : decode cX8_setHands 15 = .ok (.aload_n 0, 1) := by decide +kernel
theorem dX8_setHands_16 : decode cX8_setHands 16 = .ok (.getfield 7, 3) := by decide +kernel
theorem dX8_setHands_19 : decode cX8_setHands 19 = .ok (.bipush 30, 2) := by decide +kernel
theorem dX8_setHands_21 : decode cX8_setHands 21 = .ok (.iaload, 1) := by decide +kernel
theorem dX8_setHands_22 : decode cX8_setHands 22 = .ok (.istore_n 2, 1) := by decide +kernel
theorem dX8_setHands_23 : decode cX8_setHands 23 = .ok (.iload_n 2, 1) := by decide +kernel
theorem dX8_setHands_24 : decode cX8_setHands 24 = .ok (.iload_n 1, 1) := by decide +kernel
theorem dX8_setHands_25 : decode cX8_setHands 25 = .ok (.if_icmp .ne 6, 3) := by decide +kernel
theorem dX8_setHands_28 : decode cX8_setHands 28 = .ok (.bipush (-5), 2) := by decide +kernel
theorem dX8_setHands_30 : decode cX8_setHands 30 = .ok (.ireturn, 1) := by decide +kernel
theorem dX8_setHands_31 : decode cX8_setHands 31 = .ok (.aload_n 0, 1) := by decide +kernel
theorem dX8_setHands_32 : decode cX8_setHands 32 = .ok (.invokevirtual 116, 3) := by decide +kernel
theorem dX8_setHands_35 : decode cX8_setHands 35 = .ok (.aload_n 0, 1) := by decide +kernel
theorem dX8_setHands_36 : decode cX8_setHands 36 = .ok (.iload_n 1, 1) := by decide +kernel
theorem dX8_setHands_37 : decode cX8_setHands 37 = .ok (.invokevirtual 132, 3) := by decide +kernel
theorem dX8_setHands_40 : decode cX8_setHands 40 = .ok (.aload_n 0, 1) := by decide +kernel
theorem dX8_setHands_41 : decode cX8_setHands 41 = .ok (.iload_n 2, 1) := by decide +kernel
theorem dX8_setHands_42 : decode cX8_setHands 42 = .ok (.invokevirtual 119, 3) := by decide +kernel
theorem dX8_setHands_45 : decode cX8_setHands 45 = .ok (.ireturn, 1) := by decide +kernel
set_option maxRecDepth 20000 in
theorem ggX8_setHands_X8_acted : GoodIn wsX8_setHands wsX8_acted := goodIn_r _ [22, 23, 24, 11, 25, 26, 27, 28, 29, 30, 31, 32, 33, 34, 35, 36, 37, 38, 39, 40, 41, 42, 43, 44, 45, 46, 47, 48, 49] (by decide +kernel) (by decide +kernel)
set_option maxRecDepth 20000 in
theorem gX8_setHands_X8_acted : GoodIn wsX8_setHands (wsV RX8 119 RX8 yX8_acted wsX8_acted) := goodIn_app (goodIn_of _ (by decide +kernel)) ggX8_setHands_X8_acted
set_option maxRecDepth 20000 in
theorem ggX8_setHands_X8_becomeHands : GoodIn wsX8_setHands wsX8_becomeHands := goodIn_r _ [18, 2, 25, 26, 27, 28, 29, 30, 31, 32, 33, 34, 35, 36, 37, 38, 39, 40, 41, 42, 43, 44, 45, 46, 47, 48, 49] (by decide +kernel) (by decide +kernel)
set_option maxRecDepth 20000 in
theorem gX8_setHands_X8_becomeHands : GoodIn wsX8_setHands (wsV RX8 132 RX8 yX8_becomeHands wsX8_becomeHands) := goodIn_app (goodIn_of _ (by decide +kernel)) ggX8_setHands_X8_becomeHands
set_option maxRecDepth 20000 in
theorem ggX8_setHands_X8_in : GoodIn wsX8_setHands wsX8_in := goodIn_r _ [6] (by decide +kernel) (by decide +kernel)
set_option maxRecDepth 20000 in
theorem gX8_setHands_X8_in : GoodIn wsX8_setHands (va_wsS RX8 69 yX8_in wsX8_in) := goodIn_app (goodIn_of _ (by decide +kernel)) ggX8_setHands_X8_in
set_option maxRecDepth 20000 in
theorem ggX8_setHands_X8_remember : GoodIn wsX8_setHands wsX8_remember := goodIn_r _ [10, 2, 11, 12, 13, 5, 14, 25, 26, 27, 28, 29, 30, 31, 32, 33, 34, 35, 36, 37, 38, 39, 40, 41, 42, 43, 44, 45, 46, 47, 48, 49] (by decide +kernel) (by decide +kernel)
set_option maxRecDepth 20000 in
theorem gX8_setHands_X8_remember : GoodIn wsX8_setHands (wsV RX8 116 RX8 yX8_remember wsX8_remember) := goodIn_app (goodIn_of _ (by decide +kernel)) ggX8_setHands_X8_remember
theorem iX8_setHands_8 : ∀ w ∈ u_ws RX8 TX8 25, w ∈ wsX8_setHands := fun w h => List.mem_cons_of_mem _ (List.mem_append_right _ (h))
set_option maxHeartbeats 4000000 in
set_option maxRecDepth 100000 in
theorem c_X8_setHands {E : EE} {l : Launch} {g : GG} {ad : Nat → Nat} (hg : gwf g) {o0 : Nat} {x1 : Int} {M : Mm} {Q : Int → Mm → Prop} (k_o0 : gk g o0 = 8) (h : p_X8_setHands g o0 x1 M Q) : Ct E l yX8_setHands wsX8_setHands rmX8_setHands g ad [.ref (ad o0), cI x1] M (QI E g ad Q) := by
  refine ent (cc := cX8_setHands) (maxL := 3) (ret := (some .int)) (own := RX8) (by decide +kernel) rfl rfl (Nat.le_of_ble_eq_true rfl) ?_
  intro p e s m below meth c ls X hr hlk K w hl
  have hl : lv_has ls 3 [(0, .ref (ad o0)), (1, cI x1)] := hl
  unfold p_X8_setHands at h
  refine lv_iload_n X.1 X.2.1 dX8_setHands_0 rfl (lv_at hl 1 rfl) ?_
  obtain ⟨i0, h⟩ := h
  refine r_i2l X i0 dX8_setHands_1 ?_
  refine r_lconst (v := 1) X dX8_setHands_2 (by decide +kernel) ?_
  refine r_ldc2 (v := 4) X (List.mem_of_getElem? (i := 1) rfl) dX8_setHands_3 ?_
  refine q_i (x_S (As := [cL x1, cL 1, cL 4]) (rest := []) X K w (c_X8_in hg h) (va_cwS 3 X.2.2.2.2 gX8_setHands_X8_in rfl rfl rfl (by decide +kernel) ⟨Nat.le_of_ble_eq_true rfl, Nat.le_of_ble_eq_true rfl⟩) rfl hl rfl (Nat.le_of_ble_eq_true rfl) dX8_setHands_6 ⟨Nat.le_of_ble_eq_true rfl, Nat.le_of_ble_eq_true rfl⟩) w (fun r2 M1 H locs h w => ?_)
  obtain ⟨i0, h1, h2⟩ := h
  refine r_if_ne (tgt := 15) X i0 dX8_setHands_9 (by decide) (fun cc => ?_) (fun cc => ?_)
  · have h := h1 cc
    refine lv_aload_n X.1 X.2.1 dX8_setHands_15 rfl (lv_at hl 0 rfl) ?_
    refine r_getr (N := 25) (T := TX8) X K w iX8_setHands_8 k_o0 rfl (by decide) 0 (by decide) rfl rfl (List.mem_of_getElem? (i := 2) rfl) dX8_setHands_16 ?_
    have k3 : gk g (o0 + 1) = 9 := gch hg k_o0 (by decide) 0 (by decide) rfl rfl
    refine r_bipush X dX8_setHands_19 (by decide +kernel) ?_
    obtain ⟨b1, h⟩ := h
    refine r_iald X K w hg k3 (by decide) b1 dX8_setHands_21 ?_
    refine lv_istore_n (lv' := [(2, cI (M1 (o0 + 1) 30)), (0, .ref (ad o0)), (1, cI x1)]) X.1 X.2.1 dX8_setHands_22 rfl hl (by decide) rfl (fun ls hl => ?_)
    refine lv_iload_n X.1 X.2.1 dX8_setHands_23 rfl (lv_at hl 0 rfl) ?_
    refine lv_iload_n X.1 X.2.1 dX8_setHands_24 rfl (lv_at hl 2 rfl) ?_
    obtain ⟨i0, i1, h1, h2⟩ := h
    refine r_icmp_ne (tgt := 31) X i0 i1 dX8_setHands_25 (by decide) (fun cc => ?_) (fun cc => ?_)
    · have h := h1 cc
      refine lv_aload_n X.1 X.2.1 dX8_setHands_31 rfl (lv_at hl 1 rfl) ?_
      refine q_v (x_V (As := []) (rest := []) X K w (c_X8_remember hg k_o0 h) (cwV 0 X.2.2.2.2 gX8_setHands_X8_remember rfl rfl rfl (by decide +kernel) ⟨Nat.le_of_ble_eq_true rfl, Nat.le_of_ble_eq_true rfl⟩) k_o0 (by decide) rfl rfl hl rfl (Nat.le_of_ble_eq_true rfl) dX8_setHands_32 ⟨Nat.le_of_ble_eq_true rfl, Nat.le_of_ble_eq_true rfl⟩) w (fun M4 H locs h w => ?_)
      refine lv_aload_n X.1 X.2.1 dX8_setHands_35 rfl (lv_at hl 1 rfl) ?_
      refine lv_iload_n X.1 X.2.1 dX8_setHands_36 rfl (lv_at hl 2 rfl) ?_
      refine q_v (x_V (As := [cI x1]) (rest := []) X K w (c_X8_becomeHands hg k_o0 h) (cwV 1 X.2.2.2.2 gX8_setHands_X8_becomeHands rfl rfl rfl (by decide +kernel) ⟨Nat.le_of_ble_eq_true rfl, Nat.le_of_ble_eq_true rfl⟩) k_o0 (by decide) rfl rfl hl rfl (Nat.le_of_ble_eq_true rfl) dX8_setHands_37 ⟨Nat.le_of_ble_eq_true rfl, Nat.le_of_ble_eq_true rfl⟩) w (fun M5 H locs h w => ?_)
      refine lv_aload_n X.1 X.2.1 dX8_setHands_40 rfl (lv_at hl 1 rfl) ?_
      refine lv_iload_n X.1 X.2.1 dX8_setHands_41 rfl (lv_at hl 0 rfl) ?_
      refine q_i (x_V (As := [cI (M1 (o0 + 1) 30)]) (rest := []) X K w (c_X8_acted hg k_o0 h) (cwV 1 X.2.2.2.2 gX8_setHands_X8_acted rfl rfl rfl (by decide +kernel) ⟨Nat.le_of_ble_eq_true rfl, Nat.le_of_ble_eq_true rfl⟩) k_o0 (by decide) rfl rfl hl rfl (Nat.le_of_ble_eq_true rfl) dX8_setHands_42 ⟨Nat.le_of_ble_eq_true rfl, Nat.le_of_ble_eq_true rfl⟩) w (fun r7 M6 H locs h w => ?_)
      exact r_ireturn X hr hlk K w h dX8_setHands_45
    · have h := h2 cc
      refine r_bipush X dX8_setHands_28 (by decide +kernel) ?_
      exact r_ireturn X hr hlk K w h dX8_setHands_30
  · have h := h2 cc
    refine r_bipush X dX8_setHands_12 (by decide +kernel) ?_
    exact r_ireturn X hr hlk K w h dX8_setHands_14
theorem dX8_isHand_0 : decode cX8_isHand 0 = .ok (.iload_n 1, 1) := by decide +kernel
theorem dX8_isHand_1 : decode cX8_isHand 1 = .ok (.i2l, 1) := by decide +kernel
theorem dX8_isHand_2 : decode cX8_isHand 2 = .ok (.lconst 0, 1) := by decide +kernel
theorem dX8_isHand_3 : decode cX8_isHand 3 = .ok (.aload_n 0, 1) := by decide +kernel
theorem dX8_isHand_4 : decode cX8_isHand 4 = .ok (.getfield 7, 3) := by decide +kernel
theorem dX8_isHand_7 : decode cX8_isHand 7 = .ok (.bipush 30, 2) := by decide +kernel
theorem dX8_isHand_9 : decode cX8_isHand 9 = .ok (.iaload, 1) := by decide +kernel
theorem dX8_isHand_10 : decode cX8_isHand 10 = .ok (.i2l, 1) := by decide +kernel
theorem dX8_isHand_11 : decode cX8_isHand 11 = .ok (.lconst 1, 1) := by decide +kernel
theorem dX8_isHand_12 : decode cX8_isHand 12 = .ok (.lsub, 1) := by decide +kernel
theorem dX8_isHand_13 : decode cX8_isHand 13 = .ok (.invokestatic 69, 3) := by decide +kernel
theorem dX8_isHand_16 : decode cX8_isHand 16 = .ok (.ireturn, 1) := by decide +kernel
set_option maxRecDepth 20000 in
theorem ggX8_isHand_X8_in : GoodIn wsX8_isHand wsX8_in := goodIn_r _ [5] (by decide +kernel) (by decide +kernel)
set_option maxRecDepth 20000 in
theorem gX8_isHand_X8_in : GoodIn wsX8_isHand (va_wsS RX8 69 yX8_in wsX8_in) := goodIn_app (goodIn_of _ (by decide +kernel)) ggX8_isHand_X8_in
theorem iX8_isHand_8 : ∀ w ∈ u_ws RX8 TX8 25, w ∈ wsX8_isHand := fun w h => List.mem_cons_of_mem _ (List.mem_append_right _ (h))
set_option maxHeartbeats 4000000 in
set_option maxRecDepth 100000 in
theorem c_X8_isHand {E : EE} {l : Launch} {g : GG} {ad : Nat → Nat} (hg : gwf g) {o0 : Nat} {x1 : Int} {M : Mm} {Q : Int → Mm → Prop} (k_o0 : gk g o0 = 8) (h : p_X8_isHand g o0 x1 M Q) : Ct E l yX8_isHand wsX8_isHand rmX8_isHand g ad [.ref (ad o0), cI x1] M (QI E g ad Q) := by
  refine ent (cc := cX8_isHand) (maxL := 2) (ret := (some .boolean)) (own := RX8) (by decide +kernel) rfl rfl (Nat.le_of_ble_eq_true rfl) ?_
  intro p e s m below meth c ls X hr hlk K w hl
  have hl : lv_has ls 2 [(0, .ref (ad o0)), (1, cI x1)] := hl
  unfold p_X8_isHand at h
  refine lv_iload_n X.1 X.2.1 dX8_isHand_0 rfl (lv_at hl 1 rfl) ?_
  obtain ⟨i0, h⟩ := h
  refine r_i2l X i0 dX8_isHand_1 ?_
  refine r_lconst (v := 0) X dX8_isHand_2 (by decide +kernel) ?_
  refine lv_aload_n X.1 X.2.1 dX8_isHand_3 rfl (lv_at hl 0 rfl) ?_
  refine r_getr (N := 25) (T := TX8) X K w iX8_isHand_8 k_o0 rfl (by decide) 0 (by decide) rfl rfl (List.mem_of_getElem? (i := 1) rfl) dX8_isHand_4 ?_
  have k1 : gk g (o0 + 1) = 9 := gch hg k_o0 (by decide) 0 (by decide) rfl rfl
  refine r_bipush X dX8_isHand_7 (by decide +kernel) ?_
  obtain ⟨b1, h⟩ := h
  refine r_iald X K w hg k1 (by decide) b1 dX8_isHand_9 ?_
  obtain ⟨i0, h⟩ := h
  refine r_i2l X i0 dX8_isHand_10 ?_
  refine r_lconst (v := 1) X dX8_isHand_11 (by decide +kernel) ?_
  refine r_lsub X dX8_isHand_12 ?_
  refine q_i (x_S (As := [cL x1, cL 0, cL ((M (o0 + 1) 30) - 1)]) (rest := []) X K w (c_X8_in hg h) (va_cwS 3 X.2.2.2.2 gX8_isHand_X8_in rfl rfl rfl (by decide +kernel) ⟨Nat.le_of_ble_eq_true rfl, Nat.le_of_ble_eq_true rfl⟩) rfl hl rfl (Nat.le_of_ble_eq_true rfl) dX8_isHand_13 ⟨Nat.le_of_ble_eq_true rfl, Nat.le_of_ble_eq_true rfl⟩) w (fun r3 M2 H locs h w => ?_)
  exact r_zreturn X hr hlk K w (nz h.1) h.2 dX8_isHand_16
theorem dX8_send_0 : decode cX8_send 0 = .ok (.aload_n 0, 1) := by decide +kernel
theorem dX8_send_1 : decode cX8_send 1 = .ok (.iload_n 1, 1) := by decide +kernel
theorem dX8_send_2 : decode cX8_send 2 = .ok (.invokevirtual 135, 3) := by decide +kernel
theorem dX8_send_5 : decode cX8_send 5 = .ok (.ifCond .eq 27, 3) := by decide +kernel
theorem dX8_send_8 : decode cX8_send 8 = .ok (.iload_n 2, 1) := by decide +kernel
theorem dX8_send_9 : decode cX8_send 9 = .ok (.i2l, 1) := by decide +kernel
theorem dX8_send_10 : decode cX8_send 10 = .ok (.lconst 0, 1) := by decide +kernel
theorem dX8_send_11 : decode cX8_send 11 = .ok (.ldc2_w 112, 3) := by decide +kernel
theorem dX8_send_14 : decode cX8_send 14 = .ok (.invokestatic 69, 3) := by decide +kernel
theorem dX8_send_17 : decode cX8_send 17 = .ok (.ifCond .eq 15, 3) := by decide +kernel
theorem dX8_send_20 : decode cX8_send 20 = .ok (.aload_n 0, 1) := by decide +kernel
theorem dX8_send_21 : decode cX8_send 21 = .ok (.bipush 31, 2) := by decide +kernel
theorem dX8_send_23 : decode cX8_send 23 = .ok (.iload_n 1, 1) := by decide +kernel
theorem dX8_send_24 : decode cX8_send 24 = .ok (.iadd, 1) := by decide +kernel
theorem dX8_send_25 : decode cX8_send 25 = .ok (.iload_n 2, 1) := by decide +kernel
theorem dX8_send_26 : decode cX8_send 26 = .ok (.invokevirtual 129, 3) := by decide +kernel
theorem dX8_send_29 : decode cX8_send 29 = .ok (.goto 4, 3) := by decide +kernel
theorem dX8_send_32 : decode cX8_send 32 = .ok (.iconst (-1), 1) := by decide +kernel
theorem dX8_send_33 : decode cX8_send 33 = .ok (.ireturn, 1) := by decide +kernel
set_option maxRecDepth 20000 in
theorem ggX8_send_X8_in : GoodIn wsX8_send wsX8_in := goodIn_r _ [10] (by decide +kernel) (by decide +kernel)
set_option maxRecDepth 20000 in
theorem gX8_send_X8_in : GoodIn wsX8_send (va_wsS RX8 69 yX8_in wsX8_in) := goodIn_app (goodIn_of _ (by decide +kernel)) ggX8_send_X8_in
set_option maxRecDepth 20000 in
theorem ggX8_send_X8_isHand : GoodIn wsX8_send wsX8_isHand := goodIn_r _ [6, 7, 8, 9, 5, 10, 29, 30, 31, 32, 33, 34, 35, 36, 37, 38, 39, 40, 41, 42, 43, 44, 45, 46, 47, 48, 49, 50, 51, 52, 53] (by decide +kernel) (by decide +kernel)
set_option maxRecDepth 20000 in
theorem gX8_send_X8_isHand : GoodIn wsX8_send (wsV RX8 135 RX8 yX8_isHand wsX8_isHand) := goodIn_app (goodIn_of _ (by decide +kernel)) ggX8_send_X8_isHand
set_option maxRecDepth 20000 in
theorem ggX8_send_X8_sets : GoodIn wsX8_send wsX8_sets := goodIn_r _ [14, 7, 15, 16, 17, 5, 18, 19, 20, 21, 22, 23, 24, 25, 26, 27, 28, 29, 30, 31, 32, 33, 34, 35, 36, 37, 38, 39, 40, 41, 42, 43, 44, 45, 46, 47, 48, 49, 50, 51, 52, 53] (by decide +kernel) (by decide +kernel)
set_option maxRecDepth 20000 in
theorem gX8_send_X8_sets : GoodIn wsX8_send (wsV RX8 129 RX8 yX8_sets wsX8_sets) := goodIn_app (goodIn_of _ (by decide +kernel)) ggX8_send_X8_sets
set_option maxHeartbeats 4000000 in
set_option maxRecDepth 100000 in
theorem c_X8_send {E : EE} {l : Launch} {g : GG} {ad : Nat → Nat} (hg : gwf g) {o0 : Nat} {x1 : Int} {x2 : Int} {M : Mm} {Q : Int → Mm → Prop} (k_o0 : gk g o0 = 8) (h : p_X8_send g o0 x1 x2 M Q) : Ct E l yX8_send wsX8_send rmX8_send g ad [.ref (ad o0), cI x1, cI x2] M (QI E g ad Q) := by
  refine ent (cc := cX8_send) (maxL := 3) (ret := (some .int)) (own := RX8) (by decide +kernel) rfl rfl (Nat.le_of_ble_eq_true rfl) ?_
  intro p e s m below meth c ls X hr hlk K w hl
  have hl : lv_has ls 3 [(0, .ref (ad o0)), (1, cI x1), (2, cI x2)] := hl
  unfold p_X8_send at h
  refine lv_aload_n X.1 X.2.1 dX8_send_0 rfl (lv_at hl 0 rfl) ?_
  refine lv_iload_n X.1 X.2.1 dX8_send_1 rfl (lv_at hl 1 rfl) ?_
  refine q_i (x_V (As := [cI x1]) (rest := []) X K w (c_X8_isHand hg k_o0 h) (cwV 1 X.2.2.2.2 gX8_send_X8_isHand rfl rfl rfl (by decide +kernel) ⟨Nat.le_of_ble_eq_true rfl, Nat.le_of_ble_eq_true rfl⟩) k_o0 (by decide) rfl rfl hl rfl (Nat.le_of_ble_eq_true rfl) dX8_send_2 ⟨Nat.le_of_ble_eq_true rfl, Nat.le_of_ble_eq_true rfl⟩) w (fun r2 M1 H locs h w => ?_)
  obtain ⟨i0, h1, h2⟩ := h
  refine r_if_eq (tgt := 32) X i0 dX8_send_5 (by decide) (fun cc => ?_) (fun cc => ?_)
  · have h := h1 cc
    refine r_iconst X dX8_send_32 ?_
    exact r_ireturn X hr hlk K w h dX8_send_33
  · have h := h2 cc
    refine lv_iload_n X.1 X.2.1 dX8_send_8 rfl (lv_at hl 2 rfl) ?_
    obtain ⟨i0, h⟩ := h
    refine r_i2l X i0 dX8_send_9 ?_
    refine r_lconst (v := 0) X dX8_send_10 (by decide +kernel) ?_
    refine r_ldc2 (v := 4) X (List.mem_of_getElem? (i := 1) rfl) dX8_send_11 ?_
    refine q_i (x_S (As := [cL x2, cL 0, cL 4]) (rest := []) X K w (c_X8_in hg h) (va_cwS 3 X.2.2.2.2 gX8_send_X8_in rfl rfl rfl (by decide +kernel) ⟨Nat.le_of_ble_eq_true rfl, Nat.le_of_ble_eq_true rfl⟩) rfl hl rfl (Nat.le_of_ble_eq_true rfl) dX8_send_14 ⟨Nat.le_of_ble_eq_true rfl, Nat.le_of_ble_eq_true rfl⟩) w (fun r4 M3 H locs h w => ?_)
    obtain ⟨i0, h1, h2⟩ := h
    refine r_if_eq (tgt := 32) X i0 dX8_send_17 (by decide) (fun cc => ?_) (fun cc => ?_)
    · have h := h1 cc
      refine r_iconst X dX8_send_32 ?_
      exact r_ireturn X hr hlk K w h dX8_send_33
    · have h := h2 cc
      refine lv_aload_n X.1 X.2.1 dX8_send_20 rfl (lv_at hl 0 rfl) ?_
      refine r_bipush X dX8_send_21 (by decide +kernel) ?_
      refine lv_iload_n X.1 X.2.1 dX8_send_23 rfl (lv_at hl 1 rfl) ?_
      refine r_iadd X dX8_send_24 ?_
      refine lv_iload_n X.1 X.2.1 dX8_send_25 rfl (lv_at hl 2 rfl) ?_
      refine q_i (x_V (As := [cI (31 + x1), cI x2]) (rest := []) X K w (c_X8_sets hg k_o0 h) (cwV 2 X.2.2.2.2 gX8_send_X8_sets rfl rfl rfl (by decide +kernel) ⟨Nat.le_of_ble_eq_true rfl, Nat.le_of_ble_eq_true rfl⟩) k_o0 (by decide) rfl rfl hl rfl (Nat.le_of_ble_eq_true rfl) dX8_send_26 ⟨Nat.le_of_ble_eq_true rfl, Nat.le_of_ble_eq_true rfl⟩) w (fun r6 M5 H locs h w => ?_)
      refine lv_goto (tgt := 33) X.1 X.2.1 dX8_send_29 (by decide) ?_
      exact r_ireturn X hr hlk K w h dX8_send_33
theorem dX8_setCarrying_0 : decode cX8_setCarrying 0 = .ok (.iload_n 1, 1) := by decide +kernel
theorem dX8_setCarrying_1 : decode cX8_setCarrying 1 = .ok (.i2l, 1) := by decide +kernel
theorem dX8_setCarrying_2 : decode cX8_setCarrying 2 = .ok (.lconst 0, 1) := by decide +kernel
theorem dX8_setCarrying_3 : decode cX8_setCarrying 3 = .ok (.ldc2_w 138, 3) := by decide +kernel
theorem dX8_setCarrying_6 : decode cX8_setCarrying 6 = .ok (.invokestatic 69, 3) := by decide +kernel
theorem dX8_setCarrying_9 : decode cX8_setCarrying 9 = .ok (.ifCond .eq 13, 3) := by decide +kernel
theorem dX8_setCarrying_12 : decode cX8_setCarrying 12 = .ok (.aload_n 0, 1) := by decide +kernel
theorem dX8_setCarrying_13 : decode cX8_setCarrying 13 = .ok (.bipush 35, 2) := by decide +kernel
theorem dX8_setCarrying_15 : decode cX8_setCarrying 15 = .ok (.iload_n 1, 1) := by decide +kernel
theorem dX8_setCarrying_16 : decode cX8_setCarrying 16 = .ok (.invokevirtual 129, 3) := by decide +kernel
theorem dX8_setCarrying_19 : decode cX8_setCarrying 19 = .ok (.goto 5, 3) := by decide +kernel
theorem dX8_setCarrying_22 : decode cX8_setCarrying 22 = .ok (.bipush (-2), 2) := by decide +kernel
theorem dX8_setCarrying_24 : decode cX8_setCarrying 24 = .ok (.ireturn, 1) := by decide +kernel
set_option maxRecDepth 20000 in
theorem ggX8_setCarrying_X8_in : GoodIn wsX8_setCarrying wsX8_in := goodIn_r _ [5] (by decide +kernel) (by decide +kernel)
set_option maxRecDepth 20000 in
theorem gX8_setCarrying_X8_in : GoodIn wsX8_setCarrying (va_wsS RX8 69 yX8_in wsX8_in) := goodIn_app (goodIn_of _ (by decide +kernel)) ggX8_setCarrying_X8_in
set_option maxRecDepth 20000 in
theorem ggX8_setCarrying_X8_sets : GoodIn wsX8_setCarrying wsX8_sets := goodIn_r _ [9, 10, 11, 12, 13, 4, 14, 15, 16, 17, 18, 19, 20, 21, 22, 23, 24, 25, 26, 27, 28, 29, 30, 31, 32, 33, 34, 35, 36, 37, 38, 39, 40, 41, 42, 43, 44, 45, 46, 47, 48, 49] (by decide +kernel) (by decide +kernel)
set_option maxRecDepth 20000 in
theorem gX8_setCarrying_X8_sets : GoodIn wsX8_setCarrying (wsV RX8 129 RX8 yX8_sets wsX8_sets) := goodIn_app (goodIn_of _ (by decide +kernel)) ggX8_setCarrying_X8_sets
set_option maxHeartbeats 4000000 in
set_option maxRecDepth 100000 in
theorem c_X8_setCarrying {E : EE} {l : Launch} {g : GG} {ad : Nat → Nat} (hg : gwf g) {o0 : Nat} {x1 : Int} {M : Mm} {Q : Int → Mm → Prop} (k_o0 : gk g o0 = 8) (h : p_X8_setCarrying g o0 x1 M Q) : Ct E l yX8_setCarrying wsX8_setCarrying rmX8_setCarrying g ad [.ref (ad o0), cI x1] M (QI E g ad Q) := by
  refine ent (cc := cX8_setCarrying) (maxL := 2) (ret := (some .int)) (own := RX8) (by decide +kernel) rfl rfl (Nat.le_of_ble_eq_true rfl) ?_
  intro p e s m below meth c ls X hr hlk K w hl
  have hl : lv_has ls 2 [(0, .ref (ad o0)), (1, cI x1)] := hl
  unfold p_X8_setCarrying at h
  refine lv_iload_n X.1 X.2.1 dX8_setCarrying_0 rfl (lv_at hl 1 rfl) ?_
  obtain ⟨i0, h⟩ := h
  refine r_i2l X i0 dX8_setCarrying_1 ?_
  refine r_lconst (v := 0) X dX8_setCarrying_2 (by decide +kernel) ?_
  refine r_ldc2 (v := 20) X (List.mem_of_getElem? (i := 1) rfl) dX8_setCarrying_3 ?_
  refine q_i (x_S (As := [cL x1, cL 0, cL 20]) (rest := []) X K w (c_X8_in hg h) (va_cwS 3 X.2.2.2.2 gX8_setCarrying_X8_in rfl rfl rfl (by decide +kernel) ⟨Nat.le_of_ble_eq_true rfl, Nat.le_of_ble_eq_true rfl⟩) rfl hl rfl (Nat.le_of_ble_eq_true rfl) dX8_setCarrying_6 ⟨Nat.le_of_ble_eq_true rfl, Nat.le_of_ble_eq_true rfl⟩) w (fun r2 M1 H locs h w => ?_)
  obtain ⟨i0, h1, h2⟩ := h
  refine r_if_eq (tgt := 22) X i0 dX8_setCarrying_9 (by decide) (fun cc => ?_) (fun cc => ?_)
  · have h := h1 cc
    refine r_bipush X dX8_setCarrying_22 (by decide +kernel) ?_
    exact r_ireturn X hr hlk K w h dX8_setCarrying_24
  · have h := h2 cc
    refine lv_aload_n X.1 X.2.1 dX8_setCarrying_12 rfl (lv_at hl 0 rfl) ?_
    refine r_bipush X dX8_setCarrying_13 (by decide +kernel) ?_
    refine lv_iload_n X.1 X.2.1 dX8_setCarrying_15 rfl (lv_at hl 1 rfl) ?_
    refine q_i (x_V (As := [cI 35, cI x1]) (rest := []) X K w (c_X8_sets hg k_o0 h) (cwV 2 X.2.2.2.2 gX8_setCarrying_X8_sets rfl rfl rfl (by decide +kernel) ⟨Nat.le_of_ble_eq_true rfl, Nat.le_of_ble_eq_true rfl⟩) k_o0 (by decide) rfl rfl hl rfl (Nat.le_of_ble_eq_true rfl) dX8_setCarrying_16 ⟨Nat.le_of_ble_eq_true rfl, Nat.le_of_ble_eq_true rfl⟩) w (fun r4 M3 H locs h w => ?_)
    refine lv_goto (tgt := 24) X.1 X.2.1 dX8_setCarrying_19 (by decide) ?_
    exact r_ireturn X hr hlk K w h dX8_setCarrying_24
