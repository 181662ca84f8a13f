set_option maxRecDepth 20000 in
theorem gX9_findPlan_X9_isPlan : GoodIn wsX9_findPlan (wsV RX9 159 RX9 yX9_isPlan wsX9_isPlan) := goodIn_app (goodIn_of _ (by decide +kernel)) ggX9_findPlan_X9_isPlan
theorem dX9_findPlan_0 : decode cX9_findPlan 0 = .ok (.aload_n 0, 1) := by decide +kernel
theorem dX9_findPlan_1 : decode cX9_findPlan 1 = .ok (.iconst 0, 1) := by decide +kernel
theorem dX9_findPlan_2 : decode cX9_findPlan 2 = .ok (.putfield 144, 3) := by decide +kernel
theorem dX9_findPlan_5 : decode cX9_findPlan 5 = .ok (.iconst 0, 1) := by decide +kernel
theorem dX9_findPlan_6 : decode cX9_findPlan 6 = .ok (.istore_n 2, 1) := by decide +kernel
theorem dX9_findPlan_7 : decode cX9_findPlan 7 = .ok (.iload_n 2, 1) := by decide +kernel
theorem dX9_findPlan_8 : decode cX9_findPlan 8 = .ok (.aload_n 0, 1) := by decide +kernel
theorem dX9_findPlan_9 : decode cX9_findPlan 9 = .ok (.getfield 13, 3) := by decide +kernel
theorem dX9_findPlan_12 : decode cX9_findPlan 12 = .ok (.bipush 12, 2) := by decide +kernel
theorem dX9_findPlan_14 : decode cX9_findPlan 14 = .ok (.iaload, 1) := by decide +kernel
theorem dX9_findPlan_15 : decode cX9_findPlan 15 = .ok (.if_icmp .ge 51, 3) := by decide +kernel
theorem dX9_findPlan_18 : decode cX9_findPlan 18 = .ok (.aload_n 0, 1) := by decide +kernel
theorem dX9_findPlan_19 : decode cX9_findPlan 19 = .ok (.getfield 144, 3) := by decide +kernel
theorem dX9_findPlan_22 : decode cX9_findPlan 22 = .ok (.iconst 5, 1) := by decide +kernel
theorem dX9_findPlan_23 : decode cX9_findPlan 23 = .ok (.if_icmp .ge 37, 3) := by decide +kernel
theorem dX9_findPlan_26 : decode cX9_findPlan 26 = .ok (.aload_n 0, 1) := by decide +kernel
theorem dX9_findPlan_27 : decode cX9_findPlan 27 = .ok (.getfield 13, 3) := by decide +kernel
theorem dX9_findPlan_30 : decode cX9_findPlan 30 = .ok (.sipush 145, 3) := by decide +kernel
theorem dX9_findPlan_33 : decode cX9_findPlan 33 = .ok (.iload_n 2, 1) := by decide +kernel
theorem dX9_findPlan_34 : decode cX9_findPlan 34 = .ok (.iadd, 1) := by decide +kernel
theorem dX9_findPlan_35 : decode cX9_findPlan 35 = .ok (.iaload, 1) := by decide +kernel
theorem dX9_findPlan_36 : decode cX9_findPlan 36 = .ok (.iconst 2, 1) := by decide +kernel
theorem dX9_findPlan_37 : decode cX9_findPlan 37 = .ok (.if_icmp .eq 23, 3) := by decide +kernel
theorem dX9_findPlan_40 : decode cX9_findPlan 40 = .ok (.aload_n 0, 1) := by decide +kernel
theorem dX9_findPlan_41 : decode cX9_findPlan 41 = .ok (.getfield 32, 3) := by decide +kernel
theorem dX9_findPlan_44 : decode cX9_findPlan 44 = .ok (.aload_n 0, 1) := by decide +kernel
theorem dX9_findPlan_45 : decode cX9_findPlan 45 = .ok (.getfield 144, 3) := by decide +kernel
theorem dX9_findPlan_48 : decode cX9_findPlan 48 = .ok (.iload_n 2, 1) := by decide +kernel
theorem dX9_findPlan_49 : decode cX9_findPlan 49 = .ok (.iastore, 1) := by decide +kernel
theorem dX9_findPlan_50 : decode cX9_findPlan 50 = .ok (.aload_n 0, 1) := by decide +kernel
theorem dX9_findPlan_51 : decode cX9_findPlan 51 = .ok (.dup, 1) := by decide +kernel
theorem dX9_findPlan_52 : decode cX9_findPlan 52 = .ok (.getfield 144, 3) := by decide +kernel
theorem dX9_findPlan_55 : decode cX9_findPlan 55 = .ok (.iconst 1, 1) := by decide +kernel
theorem dX9_findPlan_56 : decode cX9_findPlan 56 = .ok (.iadd, 1) := by decide +kernel
theorem dX9_findPlan_57 : decode cX9_findPlan 57 = .ok (.putfield 144, 3) := by decide +kernel
theorem dX9_findPlan_60 : decode cX9_findPlan 60 = .ok (.iinc 2 1, 3) := by decide +kernel
theorem dX9_findPlan_63 : decode cX9_findPlan 63 = .ok (.goto (-56), 3) := by decide +kernel
theorem dX9_findPlan_66 : decode cX9_findPlan 66 = .ok (.aload_n 0, 1) := by decide +kernel
theorem dX9_findPlan_67 : decode cX9_findPlan 67 = .ok (.iconst (-1), 1) := by decide +kernel
theorem dX9_findPlan_68 : decode cX9_findPlan 68 = .ok (.putfield 150, 3) := by decide +kernel
theorem dX9_findPlan_71 : decode cX9_findPlan 71 = .ok (.iconst 0, 1) := by decide +kernel
theorem dX9_findPlan_72 : decode cX9_findPlan 72 = .ok (.istore_n 2, 1) := by decide +kernel
theorem dX9_findPlan_73 : decode cX9_findPlan 73 = .ok (.iload_n 2, 1) := by decide +kernel
theorem dX9_findPlan_74 : decode cX9_findPlan 74 = .ok (.iconst 1, 1) := by decide +kernel
theorem dX9_findPlan_75 : decode cX9_findPlan 75 = .ok (.aload_n 0, 1) := by decide +kernel
theorem dX9_findPlan_76 : decode cX9_findPlan 76 = .ok (.getfield 144, 3) := by decide +kernel
theorem dX9_findPlan_79 : decode cX9_findPlan 79 = .ok (.ishl, 1) := by decide +kernel
theorem dX9_findPlan_80 : decode cX9_findPlan 80 = .ok (.if_icmp .ge 314, 3) := by decide +kernel
theorem dX9_findPlan_83 : decode cX9_findPlan 83 = .ok (.iconst 0, 1) := by decide +kernel
theorem dX9_findPlan_84 : decode cX9_findPlan 84 = .ok (.istore_n 3, 1) := by decide +kernel
theorem dX9_findPlan_85 : decode cX9_findPlan 85 = .ok (.iconst 0, 1) := by decide +kernel
theorem dX9_findPlan_86 : decode cX9_findPlan 86 = .ok (.istore 4, 2) := by decide +kernel
theorem dX9_findPlan_88 : decode cX9_findPlan 88 = .ok (.iconst 0, 1) := by decide +kernel
theorem dX9_findPlan_89 : decode cX9_findPlan 89 = .ok (.istore 5, 2) := by decide +kernel
theorem dX9_findPlan_91 : decode cX9_findPlan 91 = .ok (.iconst 1, 1) := by decide +kernel
theorem dX9_findPlan_92 : decode cX9_findPlan 92 = .ok (.istore 6, 2) := by decide +kernel
theorem dX9_findPlan_94 : decode cX9_findPlan 94 = .ok (.iconst 0, 1) := by decide +kernel
theorem dX9_findPlan_95 : decode cX9_findPlan 95 = .ok (.istore 7, 2) := by decide +kernel
theorem dX9_findPlan_97 : decode cX9_findPlan 97 = .ok (.iload 7, 2) := by decide +kernel
theorem dX9_findPlan_99 : decode cX9_findPlan 99 = .ok (.aload_n 0, 1) := by decide +kernel
theorem dX9_findPlan_100 : decode cX9_findPlan 100 = .ok (.getfield 144, 3) := by decide +kernel
theorem dX9_findPlan_103 : decode cX9_findPlan 103 = .ok (.if_icmp .ge 90, 3) := by decide +kernel
theorem dX9_findPlan_106 : decode cX9_findPlan 106 = .ok (.iload_n 2, 1) := by decide +kernel
theorem dX9_findPlan_107 : decode cX9_findPlan 107 = .ok (.iload 7, 2) := by decide +kernel
theorem dX9_findPlan_109 : decode cX9_findPlan 109 = .ok (.ishr, 1) := by decide +kernel
theorem dX9_findPlan_110 : decode cX9_findPlan 110 = .ok (.iconst 1, 1) := by decide +kernel
theorem dX9_findPlan_111 : decode cX9_findPlan 111 = .ok (.iand, 1) := by decide +kernel
theorem dX9_findPlan_112 : decode cX9_findPlan 112 = .ok (.iconst 1, 1) := by decide +kernel
theorem dX9_findPlan_113 : decode cX9_findPlan 113 = .ok (.if_icmp .ne 74, 3) := by decide +kernel
theorem dX9_findPlan_116 : decode cX9_findPlan 116 = .ok (.aload_n 0, 1) := by decide +kernel
theorem dX9_findPlan_117 : decode cX9_findPlan 117 = .ok (.getfield 32, 3) := by decide +kernel
theorem dX9_findPlan_120 : decode cX9_findPlan 120 = .ok (.iload 7, 2) := by decide +kernel
theorem dX9_findPlan_122 : decode cX9_findPlan 122 = .ok (.iaload, 1) := by decide +kernel
theorem dX9_findPlan_123 : decode cX9_findPlan 123 = .ok (.istore 8, 2) := by decide +kernel
theorem dX9_findPlan_125 : decode cX9_findPlan 125 = .ok (.iload_n 3, 1) := by decide +kernel
theorem dX9_findPlan_126 : decode cX9_findPlan 126 = .ok (.aload_n 0, 1) := by decide +kernel
theorem dX9_findPlan_127 : decode cX9_findPlan 127 = .ok (.getfield 13, 3) := by decide +kernel
theorem dX9_findPlan_130 : decode cX9_findPlan 130 = .ok (.sipush 133, 3) := by decide +kernel
theorem dX9_findPlan_133 : decode cX9_findPlan 133 = .ok (.iload 8, 2) := by decide +kernel
theorem dX9_findPlan_135 : decode cX9_findPlan 135 = .ok (.iadd, 1) := by decide +kernel
theorem dX9_findPlan_136 : decode cX9_findPlan 136 = .ok (.iaload, 1) := by decide +kernel
theorem dX9_findPlan_137 : decode cX9_findPlan 137 = .ok (.iadd, 1) := by decide +kernel
theorem dX9_findPlan_138 : decode cX9_findPlan 138 = .ok (.istore_n 3, 1) := by decide +kernel
theorem dX9_findPlan_139 : decode cX9_findPlan 139 = .ok (.iload 4, 2) := by decide +kernel
theorem dX9_findPlan_141 : decode cX9_findPlan 141 = .ok (.aload_n 0, 1) := by decide +kernel
theorem dX9_findPlan_142 : decode cX9_findPlan 142 = .ok (.getfield 13, 3) := by decide +kernel
theorem dX9_findPlan_145 : decode cX9_findPlan 145 = .ok (.sipush 157, 3) := by decide +kernel
theorem dX9_findPlan_148 : decode cX9_findPlan 148 = .ok (.iload 8, 2) := by decide +kernel
theorem dX9_findPlan_150 : decode cX9_findPlan 150 = .ok (.iadd, 1) := by decide +kernel
theorem dX9_findPlan_151 : decode cX9_findPlan 151 = .ok (.iaload, 1) := by decide +kernel
theorem dX9_findPlan_152 : decode cX9_findPlan 152 = .ok (.ifCond .ne 16, 3) := by decide +kernel
theorem dX9_findPlan_155 : decode cX9_findPlan 155 = .ok (.aload_n 0, 1) := by decide +kernel
theorem dX9_findPlan_156 : decode cX9_findPlan 156 = .ok (.getfield 13, 3) := by decide +kernel
theorem dX9_findPlan_159 : decode cX9_findPlan 159 = .ok (.bipush 121, 2) := by decide +kernel
theorem dX9_findPlan_161 : decode cX9_findPlan 161 = .ok (.iload 8, 2) := by decide +kernel
theorem dX9_findPlan_163 : decode cX9_findPlan 163 = .ok (.iadd, 1) := by decide +kernel
theorem dX9_findPlan_164 : decode cX9_findPlan 164 = .ok (.iaload, 1) := by decide +kernel
theorem dX9_findPlan_165 : decode cX9_findPlan 165 = .ok (.goto 4, 3) := by decide +kernel
theorem dX9_findPlan_168 : decode cX9_findPlan 168 = .ok (.iconst 0, 1) := by decide +kernel
theorem dX9_findPlan_169 : decode cX9_findPlan 169 = .ok (.iadd, 1) := by decide +kernel
theorem dX9_findPlan_170 : decode cX9_findPlan 170 = .ok (.istore 4, 2) := by decide +kernel
theorem dX9_findPlan_172 : decode cX9_findPlan 172 = .ok (.iload 5, 2) := by decide +kernel
theorem dX9_findPlan_174 : decode cX9_findPlan 174 = .ok (.iconst 1, 1) := by decide +kernel
theorem dX9_findPlan_175 : decode cX9_findPlan 175 = .ok (.iload 8, 2) := by decide +kernel
theorem dX9_findPlan_177 : decode cX9_findPlan 177 = .ok (.ishl, 1) := by decide +kernel
theorem dX9_findPlan_178 : decode cX9_findPlan 178 = .ok (.ior, 1) := by decide +kernel
theorem dX9_findPlan_179 : decode cX9_findPlan 179 = .ok (.istore 5, 2) := by decide +kernel
theorem dX9_findPlan_181 : decode cX9_findPlan 181 = .ok (.iload 6, 2) := by decide +kernel
theorem dX9_findPlan_183 : decode cX9_findPlan 183 = .ok (.iload_n 1, 1) := by decide +kernel
theorem dX9_findPlan_184 : decode cX9_findPlan 184 = .ok (.imul, 1) := by decide +kernel
theorem dX9_findPlan_185 : decode cX9_findPlan 185 = .ok (.istore 6, 2) := by decide +kernel
theorem dX9_findPlan_187 : decode cX9_findPlan 187 = .ok (.iinc 7 1, 3) := by decide +kernel
theorem dX9_findPlan_190 : decode cX9_findPlan 190 = .ok (.goto (-93), 3) := by decide +kernel
theorem dX9_findPlan_193 : decode cX9_findPlan 193 = .ok (.iload_n 3, 1) := by decide +kernel
theorem dX9_findPlan_194 : decode cX9_findPlan 194 = .ok (.aload_n 0, 1) := by decide +kernel
theorem dX9_findPlan_195 : decode cX9_findPlan 195 = .ok (.getfield 150, 3) := by decide +kernel
theorem dX9_findPlan_198 : decode cX9_findPlan 198 = .ok (.if_icmp .gt 38, 3) := by decide +kernel
theorem dX9_findPlan_201 : decode cX9_findPlan 201 = .ok (.iload_n 3, 1) := by decide +kernel
theorem dX9_findPlan_202 : decode cX9_findPlan 202 = .ok (.aload_n 0, 1) := by decide +kernel
theorem dX9_findPlan_203 : decode cX9_findPlan 203 = .ok (.getfield 150, 3) := by decide +kernel
theorem dX9_findPlan_206 : decode cX9_findPlan 206 = .ok (.if_icmp .ne 34, 3) := by decide +kernel
theorem dX9_findPlan_209 : decode cX9_findPlan 209 = .ok (.iload 4, 2) := by decide +kernel
theorem dX9_findPlan_211 : decode cX9_findPlan 211 = .ok (.aload_n 0, 1) := by decide +kernel
theorem dX9_findPlan_212 : decode cX9_findPlan 212 = .ok (.getfield 153, 3) := by decide +kernel
theorem dX9_findPlan_215 : decode cX9_findPlan 215 = .ok (.if_icmp .lt 21, 3) := by decide +kernel
theorem dX9_findPlan_218 : decode cX9_findPlan 218 = .ok (.iload 4, 2) := by decide +kernel
theorem dX9_findPlan_220 : decode cX9_findPlan 220 = .ok (.aload_n 0, 1) := by decide +kernel
theorem dX9_findPlan_221 : decode cX9_findPlan 221 = .ok (.getfield 153, 3) := by decide +kernel
theorem dX9_findPlan_224 : decode cX9_findPlan 224 = .ok (.if_icmp .ne 16, 3) := by decide +kernel
theorem dX9_findPlan_227 : decode cX9_findPlan 227 = .ok (.iload 5, 2) := by decide +kernel
theorem dX9_findPlan_229 : decode cX9_findPlan 229 = .ok (.aload_n 0, 1) := by decide +kernel
theorem dX9_findPlan_230 : decode cX9_findPlan 230 = .ok (.getfield 156, 3) := by decide +kernel
theorem dX9_findPlan_233 : decode cX9_findPlan 233 = .ok (.if_icmp .ge 7, 3) := by decide +kernel
theorem dX9_findPlan_236 : decode cX9_findPlan 236 = .ok (.iconst 1, 1) := by decide +kernel
theorem dX9_findPlan_237 : decode cX9_findPlan 237 = .ok (.goto 4, 3) := by decide +kernel
theorem dX9_findPlan_240 : decode cX9_findPlan 240 = .ok (.iconst 0, 1) := by decide +kernel
theorem dX9_findPlan_241 : decode cX9_findPlan 241 = .ok (.istore 7, 2) := by decide +kernel
theorem dX9_findPlan_243 : decode cX9_findPlan 243 = .ok (.iconst 0, 1) := by decide +kernel
theorem dX9_findPlan_244 : decode cX9_findPlan 244 = .ok (.istore 8, 2) := by decide +kernel
theorem dX9_findPlan_246 : decode cX9_findPlan 246 = .ok (.iconst 0, 1) := by decide +kernel
theorem dX9_findPlan_247 : decode cX9_findPlan 247 = .ok (.istore 9, 2) := by decide +kernel
theorem dX9_findPlan_249 : decode cX9_findPlan 249 = .ok (.iload 9, 2) := by decide +kernel
theorem dX9_findPlan_251 : decode cX9_findPlan 251 = .ok (.iload 6, 2) := by decide +kernel
theorem dX9_findPlan_253 : decode cX9_findPlan 253 = .ok (.if_icmp .ge 84, 3) := by decide +kernel
theorem dX9_findPlan_256 : decode cX9_findPlan 256 = .ok (.iload 7, 2) := by decide +kernel
theorem dX9_findPlan_258 : decode cX9_findPlan 258 = .ok (.ifCond .eq 79, 3) := by decide +kernel
theorem dX9_findPlan_261 : decode cX9_findPlan 261 = .ok (.iload 8, 2) := by decide +kernel
theorem dX9_findPlan_263 : decode cX9_findPlan 263 = .ok (.ifCond .ne 74, 3) := by decide +kernel
theorem dX9_findPlan_266 : decode cX9_findPlan 266 = .ok (.iload 9, 2) := by decide +kernel
theorem dX9_findPlan_268 : decode cX9_findPlan 268 = .ok (.istore 10, 2) := by decide +kernel
theorem dX9_findPlan_270 : decode cX9_findPlan 270 = .ok (.aload_n 0, 1) := by decide +kernel
theorem dX9_findPlan_271 : decode cX9_findPlan 271 = .ok (.getfield 144, 3) := by decide +kernel
theorem dX9_findPlan_274 : decode cX9_findPlan 274 = .ok (.iconst 1, 1) := by decide +kernel
theorem dX9_findPlan_275 : decode cX9_findPlan 275 = .ok (.isub, 1) := by decide +kernel
theorem dX9_findPlan_276 : decode cX9_findPlan 276 = .ok (.istore 11, 2) := by decide +kernel
theorem dX9_findPlan_278 : decode cX9_findPlan 278 = .ok (.iload 11, 2) := by decide +kernel
theorem dX9_findPlan_280 : decode cX9_findPlan 280 = .ok (.ifCond .lt 44, 3) := by decide +kernel
theorem dX9_findPlan_283 : decode cX9_findPlan 283 = .ok (.aload_n 0, 1) := by decide +kernel
theorem dX9_findPlan_284 : decode cX9_findPlan 284 = .ok (.getfield 35, 3) := by decide +kernel
theorem dX9_findPlan_287 : decode cX9_findPlan 287 = .ok (.iload 11, 2) := by decide +kernel
theorem dX9_findPlan_289 : decode cX9_findPlan 289 = .ok (.iconst (-1), 1) := by decide +kernel
theorem dX9_findPlan_290 : decode cX9_findPlan 290 = .ok (.iastore, 1) := by decide +kernel
theorem dX9_findPlan_291 : decode cX9_findPlan 291 = .ok (.iload_n 2, 1) := by decide +kernel
theorem dX9_findPlan_292 : decode cX9_findPlan 292 = .ok (.iload 11, 2) := by decide +kernel
theorem dX9_findPlan_294 : decode cX9_findPlan 294 = .ok (.ishr, 1) := by decide +kernel
theorem dX9_findPlan_295 : decode cX9_findPlan 295 = .ok (.iconst 1, 1) := by decide +kernel
theorem dX9_findPlan_296 : decode cX9_findPlan 296 = .ok (.iand, 1) := by decide +kernel
theorem dX9_findPlan_297 : decode cX9_findPlan 297 = .ok (.iconst 1, 1) := by decide +kernel
theorem dX9_findPlan_298 : decode cX9_findPlan 298 = .ok (.if_icmp .ne 20, 3) := by decide +kernel
theorem dX9_findPlan_301 : decode cX9_findPlan 301 = .ok (.aload_n 0, 1) := by decide +kernel
theorem dX9_findPlan_302 : decode cX9_findPlan 302 = .ok (.getfield 35, 3) := by decide +kernel
theorem dX9_findPlan_305 : decode cX9_findPlan 305 = .ok (.iload 11, 2) := by decide +kernel
theorem dX9_findPlan_307 : decode cX9_findPlan 307 = .ok (.iload 10, 2) := by decide +kernel
theorem dX9_findPlan_309 : decode cX9_findPlan 309 = .ok (.iload_n 1, 1) := by decide +kernel
theorem dX9_findPlan_310 : decode cX9_findPlan 310 = .ok (.irem, 1) := by decide +kernel
theorem dX9_findPlan_311 : decode cX9_findPlan 311 = .ok (.iastore, 1) := by decide +kernel
theorem dX9_findPlan_312 : decode cX9_findPlan 312 = .ok (.iload 10, 2) := by decide +kernel
theorem dX9_findPlan_314 : decode cX9_findPlan 314 = .ok (.iload_n 1, 1) := by decide +kernel
theorem dX9_findPlan_315 : decode cX9_findPlan 315 = .ok (.idiv, 1) := by decide +kernel
theorem dX9_findPlan_316 : decode cX9_findPlan 316 = .ok (.istore 10, 2) := by decide +kernel
theorem dX9_findPlan_318 : decode cX9_findPlan 318 = .ok (.iinc 11 (-1), 3) := by decide +kernel
theorem dX9_findPlan_321 : decode cX9_findPlan 321 = .ok (.goto (-43), 3) := by decide +kernel
theorem dX9_findPlan_324 : decode cX9_findPlan 324 = .ok (.aload_n 0, 1) := by decide +kernel
theorem dX9_findPlan_325 : decode cX9_findPlan 325 = .ok (.iload_n 1, 1) := by decide +kernel
theorem dX9_findPlan_326 : decode cX9_findPlan 326 = .ok (.invokevirtual 159, 3) := by decide +kernel
theorem dX9_findPlan_329 : decode cX9_findPlan 329 = .ok (.istore 8, 2) := by decide +kernel
theorem dX9_findPlan_331 : decode cX9_findPlan 331 = .ok (.iinc 9 1, 3) := by decide +kernel
theorem dX9_findPlan_334 : decode cX9_findPlan 334 = .ok (.goto (-85), 3) := by decide +kernel
theorem dX9_findPlan_337 : decode cX9_findPlan 337 = .ok (.iload 8, 2) := by decide +kernel
theorem dX9_findPlan_339 : decode cX9_findPlan 339 = .ok (.ifCond .eq 49, 3) := by decide +kernel
theorem dX9_findPlan_342 : decode cX9_findPlan 342 = .ok (.aload_n 0, 1) := by decide +kernel
theorem dX9_findPlan_343 : decode cX9_findPlan 343 = .ok (.iload_n 3, 1) := by decide +kernel
theorem dX9_findPlan_344 : decode cX9_findPlan 344 = .ok (.putfield 150, 3) := by decide +kernel
theorem dX9_findPlan_347 : decode cX9_findPlan 347 = .ok (.aload_n 0, 1) := by decide +kernel
theorem dX9_findPlan_348 : decode cX9_findPlan 348 = .ok (.iload 4, 2) := by decide +kernel
theorem dX9_findPlan_350 : decode cX9_findPlan 350 = .ok (.putfield 153, 3) := by decide +kernel
theorem dX9_findPlan_353 : decode cX9_findPlan 353 = .ok (.aload_n 0, 1) := by decide +kernel
theorem dX9_findPlan_354 : decode cX9_findPlan 354 = .ok (.iload 5, 2) := by decide +kernel
theorem dX9_findPlan_356 : decode cX9_findPlan 356 = .ok (.putfield 156, 3) := by decide +kernel
theorem dX9_findPlan_359 : decode cX9_findPlan 359 = .ok (.iconst 0, 1) := by decide +kernel
theorem dX9_findPlan_360 : decode cX9_findPlan 360 = .ok (.istore 9, 2) := by decide +kernel
theorem dX9_findPlan_362 : decode cX9_findPlan 362 = .ok (.iload 9, 2) := by decide +kernel
theorem dX9_findPlan_364 : decode cX9_findPlan 364 = .ok (.iconst 5, 1) := by decide +kernel
theorem dX9_findPlan_365 : decode cX9_findPlan 365 = .ok (.if_icmp .ge 23, 3) := by decide +kernel
theorem dX9_findPlan_368 : decode cX9_findPlan 368 = .ok (.aload_n 0, 1) := by decide +kernel
theorem dX9_findPlan_369 : decode cX9_findPlan 369 = .ok (.getfield 38, 3) := by decide +kernel
theorem dX9_findPlan_372 : decode cX9_findPlan 372 = .ok (.iload 9, 2) := by decide +kernel
theorem dX9_findPlan_374 : decode cX9_findPlan 374 = .ok (.aload_n 0, 1) := by decide +kernel
theorem dX9_findPlan_375 : decode cX9_findPlan 375 = .ok (.getfield 35, 3) := by decide +kernel
theorem dX9_findPlan_378 : decode cX9_findPlan 378 = .ok (.iload 9, 2) := by decide +kernel
theorem dX9_findPlan_380 : decode cX9_findPlan 380 = .ok (.iaload, 1) := by decide +kernel
theorem dX9_findPlan_381 : decode cX9_findPlan 381 = .ok (.iastore, 1) := by decide +kernel
theorem dX9_findPlan_382 : decode cX9_findPlan 382 = .ok (.iinc 9 1, 3) := by decide +kernel
theorem dX9_findPlan_385 : decode cX9_findPlan 385 = .ok (.goto (-23), 3) := by decide +kernel
theorem dX9_findPlan_388 : decode cX9_findPlan 388 = .ok (.iinc 2 1, 3) := by decide +kernel
theorem dX9_findPlan_391 : decode cX9_findPlan 391 = .ok (.goto (-318), 3) := by decide +kernel
theorem dX9_findPlan_394 : decode cX9_findPlan 394 = .ok (.return_, 1) := by decide +kernel
set_option maxRecDepth 20000 in
theorem ggX9_plan_X9_in : GoodIn wsX9_plan wsX9_in := goodIn_r _ [13] (by decide +kernel) (by decide +kernel)
set_option maxRecDepth 20000 in
theorem gX9_plan_X9_in : GoodIn wsX9_plan (va_wsS RX9 46 yX9_in wsX9_in) := goodIn_app (goodIn_of _ (by decide +kernel)) ggX9_plan_X9_in
set_option maxRecDepth 20000 in
theorem ggX9_plan_X9_isLost : GoodIn wsX9_plan wsX9_isLost := goodIn_r _ [17, 3, 46, 47, 48, 49, 50, 51, 52, 53, 54, 55, 56, 57, 58, 59, 60, 61, 62, 63, 64] (by decide +kernel) (by decide +kernel)
set_option maxRecDepth 20000 in
theorem gX9_plan_X9_isLost : GoodIn wsX9_plan (wsV RX9 123 RX9 yX9_isLost wsX9_isLost) := goodIn_app (goodIn_of _ (by decide +kernel)) ggX9_plan_X9_isLost
set_option maxRecDepth 20000 in
theorem ggX9_plan_X9_findPlan : GoodIn wsX9_plan wsX9_findPlan := goodIn_r _ [21, 7, 3, 8, 4, 5, 6, 22, 9, 23, 24, 25, 12, 26, 27, 28, 29, 30, 31, 32, 33, 34, 35, 36, 37, 38, 39, 40, 41, 42, 43, 44, 45, 46, 47, 48, 49, 50, 51, 52, 53, 54, 55, 56, 57, 58, 59, 60, 61, 62, 63, 64] (by decide +kernel) (by decide +kernel)
set_option maxRecDepth 20000 in
theorem gX9_plan_X9_findPlan : GoodIn wsX9_plan (wsV RX9 162 RX9 yX9_findPlan wsX9_findPlan) := goodIn_app (goodIn_of _ (by decide +kernel)) ggX9_plan_X9_findPlan
theorem dX9_plan_0 : decode cX9_plan 0 = .ok (.aload_n 0, 1) := by decide +kernel
theorem dX9_plan_1 : decode cX9_plan 1 = .ok (.iconst 0, 1) := by decide +kernel
theorem dX9_plan_2 : decode cX9_plan 2 = .ok (.putfield 1, 3) := by decide +kernel
theorem dX9_plan_5 : decode cX9_plan 5 = .ok (.iload_n 1, 1) := by decide +kernel
theorem dX9_plan_6 : decode cX9_plan 6 = .ok (.i2l, 1) := by decide +kernel
theorem dX9_plan_7 : decode cX9_plan 7 = .ok (.lconst 1, 1) := by decide +kernel
theorem dX9_plan_8 : decode cX9_plan 8 = .ok (.ldc2_w 68, 3) := by decide +kernel
theorem dX9_plan_11 : decode cX9_plan 11 = .ok (.invokestatic 46, 3) := by decide +kernel
theorem dX9_plan_14 : decode cX9_plan 14 = .ok (.ifCond .eq 22, 3) := by decide +kernel
theorem dX9_plan_17 : decode cX9_plan 17 = .ok (.iload_n 2, 1) := by decide +kernel
theorem dX9_plan_18 : decode cX9_plan 18 = .ok (.i2l, 1) := by decide +kernel
theorem dX9_plan_19 : decode cX9_plan 19 = .ok (.lconst 0, 1) := by decide +kernel
theorem dX9_plan_20 : decode cX9_plan 20 = .ok (.iconst 2, 1) := by decide +kernel
theorem dX9_plan_21 : decode cX9_plan 21 = .ok (.aload_n 0, 1) := by decide +kernel
theorem dX9_plan_22 : decode cX9_plan 22 = .ok (.getfield 13, 3) := by decide +kernel
theorem dX9_plan_25 : decode cX9_plan 25 = .ok (.bipush 12, 2) := by decide +kernel
theorem dX9_plan_27 : decode cX9_plan 27 = .ok (.iaload, 1) := by decide +kernel
theorem dX9_plan_28 : decode cX9_plan 28 = .ok (.iadd, 1) := by decide +kernel
theorem dX9_plan_29 : decode cX9_plan 29 = .ok (.i2l, 1) := by decide +kernel
theorem dX9_plan_30 : decode cX9_plan 30 = .ok (.invokestatic 46, 3) := by decide +kernel
theorem dX9_plan_33 : decode cX9_plan 33 = .ok (.ifCond .ne 5, 3) := by decide +kernel
theorem dX9_plan_36 : decode cX9_plan 36 = .ok (.iconst (-1), 1) := by decide +kernel
theorem dX9_plan_37 : decode cX9_plan 37 = .ok (.ireturn, 1) := by decide +kernel
theorem dX9_plan_38 : decode cX9_plan 38 = .ok (.aload_n 0, 1) := by decide +kernel
theorem dX9_plan_39 : decode cX9_plan 39 = .ok (.invokevirtual 123, 3) := by decide +kernel
theorem dX9_plan_42 : decode cX9_plan 42 = .ok (.ifCond .ne 16, 3) := by decide +kernel
theorem dX9_plan_45 : decode cX9_plan 45 = .ok (.aload_n 0, 1) := by decide +kernel
theorem dX9_plan_46 : decode cX9_plan 46 = .ok (.getfield 13, 3) := by decide +kernel
theorem dX9_plan_49 : decode cX9_plan 49 = .ok (.iconst 0, 1) := by decide +kernel
theorem dX9_plan_50 : decode cX9_plan 50 = .ok (.iaload, 1) := by decide +kernel
theorem dX9_plan_51 : decode cX9_plan 51 = .ok (.iload_n 1, 1) := by decide +kernel
theorem dX9_plan_52 : decode cX9_plan 52 = .ok (.iadd, 1) := by decide +kernel
theorem dX9_plan_53 : decode cX9_plan 53 = .ok (.bipush 96, 2) := by decide +kernel
theorem dX9_plan_55 : decode cX9_plan 55 = .ok (.if_icmp .le 6, 3) := by decide +kernel
theorem dX9_plan_58 : decode cX9_plan 58 = .ok (.bipush (-2), 2) := by decide +kernel
theorem dX9_plan_60 : decode cX9_plan 60 = .ok (.ireturn, 1) := by decide +kernel
theorem dX9_plan_61 : decode cX9_plan 61 = .ok (.aload_n 0, 1) := by decide +kernel
theorem dX9_plan_62 : decode cX9_plan 62 = .ok (.iload_n 1, 1) := by decide +kernel
theorem dX9_plan_63 : decode cX9_plan 63 = .ok (.invokevirtual 162, 3) := by decide +kernel
theorem dX9_plan_66 : decode cX9_plan 66 = .ok (.iload_n 2, 1) := by decide +kernel
theorem dX9_plan_67 : decode cX9_plan 67 = .ok (.iconst 3, 1) := by decide +kernel
theorem dX9_plan_68 : decode cX9_plan 68 = .ok (.if_icmp .ge 31, 3) := by decide +kernel
theorem dX9_plan_71 : decode cX9_plan 71 = .ok (.iload_n 2, 1) := by decide +kernel
theorem dX9_plan_72 : decode cX9_plan 72 = .ok (.ifCond .ne 10, 3) := by decide +kernel
theorem dX9_plan_75 : decode cX9_plan 75 = .ok (.aload_n 0, 1) := by decide +kernel
theorem dX9_plan_76 : decode cX9_plan 76 = .ok (.getfield 150, 3) := by decide +kernel
theorem dX9_plan_79 : decode cX9_plan 79 = .ok (.goto 19, 3) := by decide +kernel
theorem dX9_plan_82 : decode cX9_plan 82 = .ok (.iload_n 2, 1) := by decide +kernel
theorem dX9_plan_83 : decode cX9_plan 83 = .ok (.iconst 1, 1) := by decide +kernel
theorem dX9_plan_84 : decode cX9_plan 84 = .ok (.if_icmp .ne 10, 3) := by decide +kernel
theorem dX9_plan_87 : decode cX9_plan 87 = .ok (.aload_n 0, 1) := by decide +kernel
theorem dX9_plan_88 : decode cX9_plan 88 = .ok (.getfield 153, 3) := by decide +kernel
theorem dX9_plan_91 : decode cX9_plan 91 = .ok (.goto 7, 3) := by decide +kernel
theorem dX9_plan_94 : decode cX9_plan 94 = .ok (.aload_n 0, 1) := by decide +kernel
theorem dX9_plan_95 : decode cX9_plan 95 = .ok (.getfield 156, 3) := by decide +kernel
theorem dX9_plan_98 : decode cX9_plan 98 = .ok (.ireturn, 1) := by decide +kernel
theorem dX9_plan_99 : decode cX9_plan 99 = .ok (.bipush (-4), 2) := by decide +kernel
theorem dX9_plan_101 : decode cX9_plan 101 = .ok (.istore_n 3, 1) := by decide +kernel
theorem dX9_plan_102 : decode cX9_plan 102 = .ok (.iconst 0, 1) := by decide +kernel
theorem dX9_plan_103 : decode cX9_plan 103 = .ok (.istore 4, 2) := by decide +kernel
theorem dX9_plan_105 : decode cX9_plan 105 = .ok (.iload 4, 2) := by decide +kernel
theorem dX9_plan_107 : decode cX9_plan 107 = .ok (.aload_n 0, 1) := by decide +kernel
theorem dX9_plan_108 : decode cX9_plan 108 = .ok (.getfield 144, 3) := by decide +kernel
theorem dX9_plan_111 : decode cX9_plan 111 = .ok (.if_icmp .ge 44, 3) := by decide +kernel
theorem dX9_plan_114 : decode cX9_plan 114 = .ok (.aload_n 0, 1) := by decide +kernel
theorem dX9_plan_115 : decode cX9_plan 115 = .ok (.getfield 32, 3) := by decide +kernel
theorem dX9_plan_118 : decode cX9_plan 118 = .ok (.iload 4, 2) := by decide +kernel
theorem dX9_plan_120 : decode cX9_plan 120 = .ok (.iaload, 1) := by decide +kernel
theorem dX9_plan_121 : decode cX9_plan 121 = .ok (.iload_n 2, 1) := by decide +kernel
theorem dX9_plan_122 : decode cX9_plan 122 = .ok (.iconst 3, 1) := by decide +kernel
theorem dX9_plan_123 : decode cX9_plan 123 = .ok (.isub, 1) := by decide +kernel
theorem dX9_plan_124 : decode cX9_plan 124 = .ok (.if_icmp .ne 23, 3) := by decide +kernel
theorem dX9_plan_127 : decode cX9_plan 127 = .ok (.aload_n 0, 1) := by decide +kernel
theorem dX9_plan_128 : decode cX9_plan 128 = .ok (.getfield 38, 3) := by decide +kernel
theorem dX9_plan_131 : decode cX9_plan 131 = .ok (.iload 4, 2) := by decide +kernel
theorem dX9_plan_133 : decode cX9_plan 133 = .ok (.iaload, 1) := by decide +kernel
theorem dX9_plan_134 : decode cX9_plan 134 = .ok (.ifCond .lt 13, 3) := by decide +kernel
theorem dX9_plan_137 : decode cX9_plan 137 = .ok (.aload_n 0, 1) := by decide +kernel
theorem dX9_plan_138 : decode cX9_plan 138 = .ok (.getfield 38, 3) := by decide +kernel
theorem dX9_plan_141 : decode cX9_plan 141 = .ok (.iload 4, 2) := by decide +kernel
theorem dX9_plan_143 : decode cX9_plan 143 = .ok (.iaload, 1) := by decide +kernel
theorem dX9_plan_144 : decode cX9_plan 144 = .ok (.goto 4, 3) := by decide +kernel
theorem dX9_plan_147 : decode cX9_plan 147 = .ok (.iload_n 3, 1) := by decide +kernel
theorem dX9_plan_148 : decode cX9_plan 148 = .ok (.istore_n 3, 1) := by decide +kernel
theorem dX9_plan_149 : decode cX9_plan 149 = .ok (.iinc 4 1, 3) := by decide +kernel
theorem dX9_plan_152 : decode cX9_plan 152 = .ok (.goto (-47), 3) := by decide +kernel
theorem dX9_plan_155 : decode cX9_plan 155 = .ok (.iload_n 3, 1) := by decide +kernel
theorem dX9_plan_156 : decode cX9_plan 156 = .ok (.ireturn, 1) := by decide +kernel
set_option maxRecDepth 20000 in
theorem ggX9_orders_X9_in : GoodIn wsX9_orders wsX9_in := goodIn_r _ [10] (by decide +kernel) (by decide +kernel)
set_option maxRecDepth 20000 in
theorem gX9_orders_X9_in : GoodIn wsX9_orders (va_wsS RX9 46 yX9_in wsX9_in) := goodIn_app (goodIn_of _ (by decide +kernel)) ggX9_orders_X9_in
set_option maxRecDepth 20000 in
theorem ggX9_orders_X9_isLost : GoodIn wsX9_orders wsX9_isLost := goodIn_r _ [14, 3, 46, 47, 48, 49, 50, 51, 52, 53, 54, 55, 56, 57, 58, 59, 60, 61, 62, 63, 64] (by decide +kernel) (by decide +kernel)
set_option maxRecDepth 20000 in
theorem gX9_orders_X9_isLost : GoodIn wsX9_orders (wsV RX9 123 RX9 yX9_isLost wsX9_isLost) := goodIn_app (goodIn_of _ (by decide +kernel)) ggX9_orders_X9_isLost
set_option maxRecDepth 20000 in
theorem ggX9_orders_X9_findPlan : GoodIn wsX9_orders wsX9_findPlan := goodIn_r _ [18, 4, 3, 6, 19, 20, 21, 22, 5, 23, 24, 25, 9, 26, 27, 28, 29, 30, 31, 32, 33, 34, 35, 36, 37, 38, 39, 40, 41, 42, 43, 44, 45, 46, 47, 48, 49, 50, 51, 52, 53, 54, 55, 56, 57, 58, 59, 60, 61, 62, 63, 64] (by decide +kernel) (by decide +kernel)
set_option maxRecDepth 20000 in
theorem gX9_orders_X9_findPlan : GoodIn wsX9_orders (wsV RX9 162 RX9 yX9_findPlan wsX9_findPlan) := goodIn_app (goodIn_of _ (by decide +kernel)) ggX9_orders_X9_findPlan
set_option maxRecDepth 20000 in
theorem ggX9_orders_X9_hoursFor : GoodIn wsX9_orders wsX9_hoursFor := goodIn_r _ [31, 3, 46, 47, 48, 49, 50, 51, 52, 53, 54, 55, 56, 57, 58, 59, 60, 61, 62, 63, 64] (by decide +kernel) (by decide +kernel)
set_option maxRecDepth 20000 in
theorem gX9_orders_X9_hoursFor : GoodIn wsX9_orders (wsV RX9 147 RX9 yX9_hoursFor wsX9_hoursFor) := goodIn_app (goodIn_of _ (by decide +kernel)) ggX9_orders_X9_hoursFor
theorem dX9_orders_0 : decode cX9_orders 0 = .ok (.aload_n 0, 1) := by decide +kernel
theorem dX9_orders_1 : decode cX9_orders 1 = .ok (.iconst 0, 1) := by decide +kernel
theorem dX9_orders_2 : decode cX9_orders 2 = .ok (.putfield 1, 3) := by decide +kernel
theorem dX9_orders_5 : decode cX9_orders 5 = .ok (.iload_n 1, 1) := by decide +kernel
theorem dX9_orders_6 : decode cX9_orders 6 = .ok (.i2l, 1) := by decide +kernel
theorem dX9_orders_7 : decode cX9_orders 7 = .ok (.lconst 1, 1) := by decide +kernel
theorem dX9_orders_8 : decode cX9_orders 8 = .ok (.ldc2_w 68, 3) := by decide +kernel
theorem dX9_orders_11 : decode cX9_orders 11 = .ok (.invokestatic 46, 3) := by decide +kernel
theorem dX9_orders_14 : decode cX9_orders 14 = .ok (.ifCond .eq 16, 3) := by decide +kernel
theorem dX9_orders_17 : decode cX9_orders 17 = .ok (.iload_n 2, 1) := by decide +kernel
theorem dX9_orders_18 : decode cX9_orders 18 = .ok (.i2l, 1) := by decide +kernel
theorem dX9_orders_19 : decode cX9_orders 19 = .ok (.lconst 0, 1) := by decide +kernel
theorem dX9_orders_20 : decode cX9_orders 20 = .ok (.iload_n 1, 1) := by decide +kernel
theorem dX9_orders_21 : decode cX9_orders 21 = .ok (.iconst 1, 1) := by decide +kernel
theorem dX9_orders_22 : decode cX9_orders 22 = .ok (.isub, 1) := by decide +kernel
theorem dX9_orders_23 : decode cX9_orders 23 = .ok (.i2l, 1) := by decide +kernel
theorem dX9_orders_24 : decode cX9_orders 24 = .ok (.invokestatic 46, 3) := by decide +kernel
theorem dX9_orders_27 : decode cX9_orders 27 = .ok (.ifCond .ne 5, 3) := by decide +kernel
theorem dX9_orders_30 : decode cX9_orders 30 = .ok (.iconst (-1), 1) := by decide +kernel
theorem dX9_orders_31 : decode cX9_orders 31 = .ok (.ireturn, 1) := by decide +kernel
theorem dX9_orders_32 : decode cX9_orders 32 = .ok (.aload_n 0, 1) := by decide +kernel
theorem dX9_orders_33 : decode cX9_orders 33 = .ok (.invokevirtual 123, 3) := by decide +kernel
theorem dX9_orders_36 : decode cX9_orders 36 = .ok (.ifCond .ne 16, 3) := by decide +kernel
theorem dX9_orders_39 : decode cX9_orders 39 = .ok (.aload_n 0, 1) := by decide +kernel
theorem dX9_orders_40 : decode cX9_orders 40 = .ok (.getfield 13, 3) := by decide +kernel
theorem dX9_orders_43 : decode cX9_orders 43 = .ok (.iconst 0, 1) := by decide +kernel
theorem dX9_orders_44 : decode cX9_orders 44 = .ok (.iaload, 1) := by decide +kernel
theorem dX9_orders_45 : decode cX9_orders 45 = .ok (.iload_n 1, 1) := by decide +kernel
theorem dX9_orders_46 : decode cX9_orders 46 = .ok (.iadd, 1) := by decide +kernel
theorem dX9_orders_47 : decode cX9_orders 47 = .ok (.bipush 96, 2) := by decide +kernel
theorem dX9_orders_49 : decode cX9_orders 49 = .ok (.if_icmp .le 6, 3) := by decide +kernel
theorem dX9_orders_52 : decode cX9_orders 52 = .ok (.bipush (-2), 2) := by decide +kernel
theorem dX9_orders_54 : decode cX9_orders 54 = .ok (.ireturn, 1) := by decide +kernel
theorem dX9_orders_55 : decode cX9_orders 55 = .ok (.aload_n 0, 1) := by decide +kernel
theorem dX9_orders_56 : decode cX9_orders 56 = .ok (.iload_n 1, 1) := by decide +kernel
theorem dX9_orders_57 : decode cX9_orders 57 = .ok (.invokevirtual 162, 3) := by decide +kernel
theorem dX9_orders_60 : decode cX9_orders 60 = .ok (.iconst 0, 1) := by decide +kernel
theorem dX9_orders_61 : decode cX9_orders 61 = .ok (.istore_n 3, 1) := by decide +kernel
theorem dX9_orders_62 : decode cX9_orders 62 = .ok (.iconst 0, 1) := by decide +kernel
theorem dX9_orders_63 : decode cX9_orders 63 = .ok (.istore 4, 2) := by decide +kernel
theorem dX9_orders_65 : decode cX9_orders 65 = .ok (.iload 4, 2) := by decide +kernel
theorem dX9_orders_67 : decode cX9_orders 67 = .ok (.aload_n 0, 1) := by decide +kernel
theorem dX9_orders_68 : decode cX9_orders 68 = .ok (.getfield 144, 3) := by decide +kernel
theorem dX9_orders_71 : decode cX9_orders 71 = .ok (.if_icmp .ge 69, 3) := by decide +kernel
theorem dX9_orders_74 : decode cX9_orders 74 = .ok (.iload_n 3, 1) := by decide +kernel
theorem dX9_orders_75 : decode cX9_orders 75 = .ok (.aload_n 0, 1) := by decide +kernel
theorem dX9_orders_76 : decode cX9_orders 76 = .ok (.getfield 38, 3) := by decide +kernel
theorem dX9_orders_79 : decode cX9_orders 79 = .ok (.iload 4, 2) := by decide +kernel
theorem dX9_orders_81 : decode cX9_orders 81 = .ok (.iaload, 1) := by decide +kernel
theorem dX9_orders_82 : decode cX9_orders 82 = .ok (.ifCond .lt 49, 3) := by decide +kernel
theorem dX9_orders_85 : decode cX9_orders 85 = .ok (.iload_n 2, 1) := by decide +kernel
theorem dX9_orders_86 : decode cX9_orders 86 = .ok (.aload_n 0, 1) := by decide +kernel
theorem dX9_orders_87 : decode cX9_orders 87 = .ok (.getfield 38, 3) := by decide +kernel
theorem dX9_orders_90 : decode cX9_orders 90 = .ok (.iload 4, 2) := by decide +kernel
theorem dX9_orders_92 : decode cX9_orders 92 = .ok (.iaload, 1) := by decide +kernel
theorem dX9_orders_93 : decode cX9_orders 93 = .ok (.if_icmp .lt 38, 3) := by decide +kernel
theorem dX9_orders_96 : decode cX9_orders 96 = .ok (.iload_n 2, 1) := by decide +kernel
theorem dX9_orders_97 : decode cX9_orders 97 = .ok (.aload_n 0, 1) := by decide +kernel
theorem dX9_orders_98 : decode cX9_orders 98 = .ok (.getfield 38, 3) := by decide +kernel
theorem dX9_orders_101 : decode cX9_orders 101 = .ok (.iload 4, 2) := by decide +kernel
theorem dX9_orders_103 : decode cX9_orders 103 = .ok (.iaload, 1) := by decide +kernel
theorem dX9_orders_104 : decode cX9_orders 104 = .ok (.aload_n 0, 1) := by decide +kernel
theorem dX9_orders_105 : decode cX9_orders 105 = .ok (.aload_n 0, 1) := by decide +kernel
theorem dX9_orders_106 : decode cX9_orders 106 = .ok (.getfield 32, 3) := by decide +kernel
theorem dX9_orders_109 : decode cX9_orders 109 = .ok (.iload 4, 2) := by decide +kernel
theorem dX9_orders_111 : decode cX9_orders 111 = .ok (.iaload, 1) := by decide +kernel
theorem dX9_orders_112 : decode cX9_orders 112 = .ok (.invokevirtual 147, 3) := by decide +kernel
theorem dX9_orders_115 : decode cX9_orders 115 = .ok (.iadd, 1) := by decide +kernel
theorem dX9_orders_116 : decode cX9_orders 116 = .ok (.if_icmp .ge 15, 3) := by decide +kernel
theorem dX9_orders_119 : decode cX9_orders 119 = .ok (.iconst 1, 1) := by decide +kernel
theorem dX9_orders_120 : decode cX9_orders 120 = .ok (.aload_n 0, 1) := by decide +kernel
theorem dX9_orders_121 : decode cX9_orders 121 = .ok (.getfield 32, 3) := by decide +kernel
theorem dX9_orders_124 : decode cX9_orders 124 = .ok (.iload 4, 2) := by decide +kernel
theorem dX9_orders_126 : decode cX9_orders 126 = .ok (.iaload, 1) := by decide +kernel
theorem dX9_orders_127 : decode cX9_orders 127 = .ok (.ishl, 1) := by decide +kernel
theorem dX9_orders_128 : decode cX9_orders 128 = .ok (.goto 4, 3) := by decide +kernel
theorem dX9_orders_131 : decode cX9_orders 131 = .ok (.iconst 0, 1) := by decide +kernel
theorem dX9_orders_132 : decode cX9_orders 132 = .ok (.ior, 1) := by decide +kernel
theorem dX9_orders_133 : decode cX9_orders 133 = .ok (.istore_n 3, 1) := by decide +kernel
theorem dX9_orders_134 : decode cX9_orders 134 = .ok (.iinc 4 1, 3) := by decide +kernel
theorem dX9_orders_137 : decode cX9_orders 137 = .ok (.goto (-72), 3) := by decide +kernel
theorem dX9_orders_140 : decode cX9_orders 140 = .ok (.iload_n 3, 1) := by decide +kernel
theorem dX9_orders_141 : decode cX9_orders 141 = .ok (.ireturn, 1) := by decide +kernel
set_option maxRecDepth 20000 in
theorem ggX9_findFloat_X9_states : GoodIn wsX9_findFloat wsX9_states := goodIn_r _ [10, 1, 77, 78, 79, 80, 81, 82, 83, 84, 85, 86, 87, 88, 89, 90, 91, 92, 93, 94, 95] (by decide +kernel) (by decide +kernel)
set_option maxRecDepth 20000 in
theorem gX9_findFloat_X9_states : GoodIn wsX9_findFloat (wsV RX9 109 RX9 yX9_states wsX9_states) := goodIn_app (goodIn_of _ (by decide +kernel)) ggX9_findFloat_X9_states
set_option maxRecDepth 20000 in
theorem ggX9_findFloat_X9_isLost : GoodIn wsX9_findFloat wsX9_isLost := goodIn_r _ [14, 1, 77, 78, 79, 80, 81, 82, 83, 84, 85, 86, 87, 88, 89, 90, 91, 92, 93, 94, 95] (by decide +kernel) (by decide +kernel)
set_option maxRecDepth 20000 in
theorem gX9_findFloat_X9_isLost : GoodIn wsX9_findFloat (wsV RX9 123 RX9 yX9_isLost wsX9_isLost) := goodIn_app (goodIn_of _ (by decide +kernel)) ggX9_findFloat_X9_isLost
set_option maxRecDepth 20000 in
theorem ggX9_findFloat_X9_pass : GoodIn wsX9_findFloat wsX9_pass := goodIn_r _ [18, 1, 19, 20, 21, 22, 9, 23, 24, 25, 26, 27, 28, 29, 30, 31, 32, 33, 34, 35, 36, 37, 38, 39, 40, 41, 42, 43, 44, 45, 46, 47, 48, 49, 50, 51, 52, 53, 54, 55, 56, 57, 58, 59, 60, 61, 62, 63, 64, 65, 66, 67, 68, 69, 70, 71, 72, 77, 78, 79, 80, 81, 82, 83, 84, 85, 86, 87, 88, 89, 90, 91, 92, 93, 94, 95] (by decide +kernel) (by decide +kernel)
set_option maxRecDepth 20000 in
theorem gX9_findFloat_X9_pass : GoodIn wsX9_findFloat (wsV RX9 140 RX9 yX9_pass wsX9_pass) := goodIn_app (goodIn_of _ (by decide +kernel)) ggX9_findFloat_X9_pass
set_option maxRecDepth 20000 in
theorem ggX9_findFloat_X9_total : GoodIn wsX9_findFloat wsX9_total := goodIn_r _ [49, 19, 1, 77, 78, 79, 80, 81, 82, 83, 84, 85, 86, 87, 88, 89, 90, 91, 92, 93, 94, 95] (by decide +kernel) (by decide +kernel)
set_option maxRecDepth 20000 in
theorem gX9_findFloat_X9_total : GoodIn wsX9_findFloat (wsV RX9 78 RX9 yX9_total wsX9_total) := goodIn_app (goodIn_of _ (by decide +kernel)) ggX9_findFloat_X9_total
set_option maxRecDepth 20000 in
theorem ggX9_findFloat_X9_floats : GoodIn wsX9_findFloat wsX9_floats := goodIn_r _ [76, 19, 29, 30, 31, 9, 32, 33, 77, 78, 79, 80, 81, 82, 83, 84, 85, 86, 87, 88, 89, 90, 91, 92, 93, 94, 95] (by decide +kernel) (by decide +kernel)
set_option maxRecDepth 20000 in
theorem gX9_findFloat_X9_floats : GoodIn wsX9_findFloat (wsV RX9 112 RX9 yX9_floats wsX9_floats) := goodIn_app (goodIn_of _ (by decide +kernel)) ggX9_findFloat_X9_floats
theorem dX9_findFloat_0 : decode cX9_findFloat 0 = .ok (.aload_n 0, 1) := by decide +kernel
theorem dX9_findFloat_1 : decode cX9_findFloat 1 = .ok (.getfield 13, 3) := by decide +kernel
theorem dX9_findFloat_4 : decode cX9_findFloat 4 = .ok (.iconst 0, 1) := by decide +kernel
theorem dX9_findFloat_5 : decode cX9_findFloat 5 = .ok (.iaload, 1) := by decide +kernel
theorem dX9_findFloat_6 : decode cX9_findFloat 6 = .ok (.istore_n 1, 1) := by decide +kernel
theorem dX9_findFloat_7 : decode cX9_findFloat 7 = .ok (.iconst 0, 1) := by decide +kernel
theorem dX9_findFloat_8 : decode cX9_findFloat 8 = .ok (.istore_n 2, 1) := by decide +kernel
theorem dX9_findFloat_9 : decode cX9_findFloat 9 = .ok (.iload_n 2, 1) := by decide +kernel
theorem dX9_findFloat_10 : decode cX9_findFloat 10 = .ok (.sipush 169, 3) := by decide +kernel
theorem dX9_findFloat_13 : decode cX9_findFloat 13 = .ok (.if_icmp .ge 21, 3) := by decide +kernel
theorem dX9_findFloat_16 : decode cX9_findFloat 16 = .ok (.aload_n 0, 1) := by decide +kernel
theorem dX9_findFloat_17 : decode cX9_findFloat 17 = .ok (.getfield 17, 3) := by decide +kernel
theorem dX9_findFloat_20 : decode cX9_findFloat 20 = .ok (.iload_n 2, 1) := by decide +kernel
theorem dX9_findFloat_21 : decode cX9_findFloat 21 = .ok (.aload_n 0, 1) := by decide +kernel
theorem dX9_findFloat_22 : decode cX9_findFloat 22 = .ok (.getfield 13, 3) := by decide +kernel
theorem dX9_findFloat_25 : decode cX9_findFloat 25 = .ok (.iload_n 2, 1) := by decide +kernel
theorem dX9_findFloat_26 : decode cX9_findFloat 26 = .ok (.iaload, 1) := by decide +kernel
theorem dX9_findFloat_27 : decode cX9_findFloat 27 = .ok (.iastore, 1) := by decide +kernel
theorem dX9_findFloat_28 : decode cX9_findFloat 28 = .ok (.iinc 2 1, 3) := by decide +kernel
theorem dX9_findFloat_31 : decode cX9_findFloat 31 = .ok (.goto (-22), 3) := by decide +kernel
theorem dX9_findFloat_34 : decode cX9_findFloat 34 = .ok (.aload_n 0, 1) := by decide +kernel
theorem dX9_findFloat_35 : decode cX9_findFloat 35 = .ok (.bipush (-4), 2) := by decide +kernel
theorem dX9_findFloat_37 : decode cX9_findFloat 37 = .ok (.putfield 165, 3) := by decide +kernel
theorem dX9_findFloat_40 : decode cX9_findFloat 40 = .ok (.iconst 1, 1) := by decide +kernel
theorem dX9_findFloat_41 : decode cX9_findFloat 41 = .ok (.istore_n 2, 1) := by decide +kernel
theorem dX9_findFloat_42 : decode cX9_findFloat 42 = .ok (.iload_n 2, 1) := by decide +kernel
theorem dX9_findFloat_43 : decode cX9_findFloat 43 = .ok (.ifCond .eq 96, 3) := by decide +kernel
theorem dX9_findFloat_46 : decode cX9_findFloat 46 = .ok (.aload_n 0, 1) := by decide +kernel
theorem dX9_findFloat_47 : decode cX9_findFloat 47 = .ok (.iconst 1, 1) := by decide +kernel
theorem dX9_findFloat_48 : decode cX9_findFloat 48 = .ok (.invokevirtual 109, 3) := by decide +kernel
theorem dX9_findFloat_51 : decode cX9_findFloat 51 = .ok (.ifCond .le 88, 3) := by decide +kernel
theorem dX9_findFloat_54 : decode cX9_findFloat 54 = .ok (.iconst 0, 1) := by decide +kernel
theorem dX9_findFloat_55 : decode cX9_findFloat 55 = .ok (.istore_n 3, 1) := by decide +kernel
theorem dX9_findFloat_56 : decode cX9_findFloat 56 = .ok (.iconst 0, 1) := by decide +kernel
theorem dX9_findFloat_57 : decode cX9_findFloat 57 = .ok (.istore 4, 2) := by decide +kernel
theorem dX9_findFloat_59 : decode cX9_findFloat 59 = .ok (.iload 4, 2) := by decide +kernel
theorem dX9_findFloat_61 : decode cX9_findFloat 61 = .ok (.aload_n 0, 1) := by decide +kernel
theorem dX9_findFloat_62 : decode cX9_findFloat 62 = .ok (.getfield 13, 3) := by decide +kernel
theorem dX9_findFloat_65 : decode cX9_findFloat 65 = .ok (.bipush 12, 2) := by decide +kernel
theorem dX9_findFloat_67 : decode cX9_findFloat 67 = .ok (.iaload, 1) := by decide +kernel
theorem dX9_findFloat_68 : decode cX9_findFloat 68 = .ok (.if_icmp .ge 35, 3) := by decide +kernel
theorem dX9_findFloat_71 : decode cX9_findFloat 71 = .ok (.iload_n 3, 1) := by decide +kernel
theorem dX9_findFloat_72 : decode cX9_findFloat 72 = .ok (.aload_n 0, 1) := by decide +kernel
theorem dX9_findFloat_73 : decode cX9_findFloat 73 = .ok (.getfield 13, 3) := by decide +kernel
theorem dX9_findFloat_76 : decode cX9_findFloat 76 = .ok (.sipush 145, 3) := by decide +kernel
theorem dX9_findFloat_79 : decode cX9_findFloat 79 = .ok (.iload 4, 2) := by decide +kernel
theorem dX9_findFloat_81 : decode cX9_findFloat 81 = .ok (.iadd, 1) := by decide +kernel
theorem dX9_findFloat_82 : decode cX9_findFloat 82 = .ok (.iaload, 1) := by decide +kernel
theorem dX9_findFloat_83 : decode cX9_findFloat 83 = .ok (.iconst 1, 1) := by decide +kernel
theorem dX9_findFloat_84 : decode cX9_findFloat 84 = .ok (.if_icmp .ne 10, 3) := by decide +kernel
theorem dX9_findFloat_87 : decode cX9_findFloat 87 = .ok (.iconst 1, 1) := by decide +kernel
theorem dX9_findFloat_88 : decode cX9_findFloat 88 = .ok (.iload 4, 2) := by decide +kernel
theorem dX9_findFloat_90 : decode cX9_findFloat 90 = .ok (.ishl, 1) := by decide +kernel
theorem dX9_findFloat_91 : decode cX9_findFloat 91 = .ok (.goto 4, 3) := by decide +kernel
theorem dX9_findFloat_94 : decode cX9_findFloat 94 = .ok (.iconst 0, 1) := by decide +kernel
theorem dX9_findFloat_95 : decode cX9_findFloat 95 = .ok (.ior, 1) := by decide +kernel
theorem dX9_findFloat_96 : decode cX9_findFloat 96 = .ok (.istore_n 3, 1) := by decide +kernel
theorem dX9_findFloat_97 : decode cX9_findFloat 97 = .ok (.iinc 4 1, 3) := by decide +kernel
theorem dX9_findFloat_100 : decode cX9_findFloat 100 = .ok (.goto (-41), 3) := by decide +kernel
theorem dX9_findFloat_103 : decode cX9_findFloat 103 = .ok (.aload_n 0, 1) := by decide +kernel
theorem dX9_findFloat_104 : decode cX9_findFloat 104 = .ok (.invokevirtual 123, 3) := by decide +kernel
theorem dX9_findFloat_107 : decode cX9_findFloat 107 = .ok (.ifCond .ne 18, 3) := by decide +kernel
theorem dX9_findFloat_110 : decode cX9_findFloat 110 = .ok (.aload_n 0, 1) := by decide +kernel
theorem dX9_findFloat_111 : decode cX9_findFloat 111 = .ok (.getfield 13, 3) := by decide +kernel
theorem dX9_findFloat_114 : decode cX9_findFloat 114 = .ok (.iconst 0, 1) := by decide +kernel
theorem dX9_findFloat_115 : decode cX9_findFloat 115 = .ok (.iaload, 1) := by decide +kernel
theorem dX9_findFloat_116 : decode cX9_findFloat 116 = .ok (.bipush 96, 2) := by decide +kernel
theorem dX9_findFloat_118 : decode cX9_findFloat 118 = .ok (.if_icmp .ge 7, 3) := by decide +kernel
theorem dX9_findFloat_121 : decode cX9_findFloat 121 = .ok (.iconst 1, 1) := by decide +kernel
theorem dX9_findFloat_122 : decode cX9_findFloat 122 = .ok (.goto 4, 3) := by decide +kernel
theorem dX9_findFloat_125 : decode cX9_findFloat 125 = .ok (.iconst 0, 1) := by decide +kernel
theorem dX9_findFloat_126 : decode cX9_findFloat 126 = .ok (.istore_n 2, 1) := by decide +kernel
theorem dX9_findFloat_127 : decode cX9_findFloat 127 = .ok (.iload_n 2, 1) := by decide +kernel
theorem dX9_findFloat_128 : decode cX9_findFloat 128 = .ok (.ifCond .eq 8, 3) := by decide +kernel
theorem dX9_findFloat_131 : decode cX9_findFloat 131 = .ok (.aload_n 0, 1) := by decide +kernel
theorem dX9_findFloat_132 : decode cX9_findFloat 132 = .ok (.iload_n 3, 1) := by decide +kernel
theorem dX9_findFloat_133 : decode cX9_findFloat 133 = .ok (.invokevirtual 140, 3) := by decide +kernel
theorem dX9_findFloat_136 : decode cX9_findFloat 136 = .ok (.goto (-94), 3) := by decide +kernel
theorem dX9_findFloat_139 : decode cX9_findFloat 139 = .ok (.iload_n 2, 1) := by decide +kernel
theorem dX9_findFloat_140 : decode cX9_findFloat 140 = .ok (.ifCond .eq 14, 3) := by decide +kernel
theorem dX9_findFloat_143 : decode cX9_findFloat 143 = .ok (.aload_n 0, 1) := by decide +kernel
theorem dX9_findFloat_144 : decode cX9_findFloat 144 = .ok (.invokevirtual 123, 3) := by decide +kernel
theorem dX9_findFloat_147 : decode cX9_findFloat 147 = .ok (.ifCond .ne 7, 3) := by decide +kernel
theorem dX9_findFloat_150 : decode cX9_findFloat 150 = .ok (.iconst 1, 1) := by decide +kernel
theorem dX9_findFloat_151 : decode cX9_findFloat 151 = .ok (.goto 4, 3) := by decide +kernel
theorem dX9_findFloat_154 : decode cX9_findFloat 154 = .ok (.iconst 0, 1) := by decide +kernel
theorem dX9_findFloat_155 : decode cX9_findFloat 155 = .ok (.istore_n 2, 1) := by decide +kernel
theorem dX9_findFloat_156 : decode cX9_findFloat 156 = .ok (.aload_n 0, 1) := by decide +kernel
theorem dX9_findFloat_157 : decode cX9_findFloat 157 = .ok (.aload_n 0, 1) := by decide +kernel
theorem dX9_findFloat_158 : decode cX9_findFloat 158 = .ok (.getfield 13, 3) := by decide +kernel
theorem dX9_findFloat_161 : decode cX9_findFloat 161 = .ok (.iconst 0, 1) := by decide +kernel
theorem dX9_findFloat_162 : decode cX9_findFloat 162 = .ok (.iaload, 1) := by decide +kernel
theorem dX9_findFloat_163 : decode cX9_findFloat 163 = .ok (.putfield 168, 3) := by decide +kernel
theorem dX9_findFloat_166 : decode cX9_findFloat 166 = .ok (.aload_n 0, 1) := by decide +kernel
theorem dX9_findFloat_167 : decode cX9_findFloat 167 = .ok (.getfield 168, 3) := by decide +kernel
theorem dX9_findFloat_170 : decode cX9_findFloat 170 = .ok (.aload_n 0, 1) := by decide +kernel
theorem dX9_findFloat_171 : decode cX9_findFloat 171 = .ok (.getfield 13, 3) := by decide +kernel
theorem dX9_findFloat_174 : decode cX9_findFloat 174 = .ok (.iconst 1, 1) := by decide +kernel
theorem dX9_findFloat_175 : decode cX9_findFloat 175 = .ok (.iaload, 1) := by decide +kernel
theorem dX9_findFloat_176 : decode cX9_findFloat 176 = .ok (.ifCond .ge 13, 3) := by decide +kernel
theorem dX9_findFloat_179 : decode cX9_findFloat 179 = .ok (.aload_n 0, 1) := by decide +kernel
theorem dX9_findFloat_180 : decode cX9_findFloat 180 = .ok (.getfield 13, 3) := by decide +kernel
theorem dX9_findFloat_183 : decode cX9_findFloat 183 = .ok (.iconst 1, 1) := by decide +kernel
theorem dX9_findFloat_184 : decode cX9_findFloat 184 = .ok (.iaload, 1) := by decide +kernel
theorem dX9_findFloat_185 : decode cX9_findFloat 185 = .ok (.ineg, 1) := by decide +kernel
theorem dX9_findFloat_186 : decode cX9_findFloat 186 = .ok (.goto 9, 3) := by decide +kernel
theorem dX9_findFloat_189 : decode cX9_findFloat 189 = .ok (.aload_n 0, 1) := by decide +kernel
theorem dX9_findFloat_190 : decode cX9_findFloat 190 = .ok (.getfield 13, 3) := by decide +kernel
theorem dX9_findFloat_193 : decode cX9_findFloat 193 = .ok (.iconst 1, 1) := by decide +kernel
theorem dX9_findFloat_194 : decode cX9_findFloat 194 = .ok (.iaload, 1) := by decide +kernel
theorem dX9_findFloat_195 : decode cX9_findFloat 195 = .ok (.iadd, 1) := by decide +kernel
theorem dX9_findFloat_196 : decode cX9_findFloat 196 = .ok (.istore_n 3, 1) := by decide +kernel
theorem dX9_findFloat_197 : decode cX9_findFloat 197 = .ok (.iconst 0, 1) := by decide +kernel
theorem dX9_findFloat_198 : decode cX9_findFloat 198 = .ok (.istore 4, 2) := by decide +kernel
theorem dX9_findFloat_200 : decode cX9_findFloat 200 = .ok (.iload 4, 2) := by decide +kernel
theorem dX9_findFloat_202 : decode cX9_findFloat 202 = .ok (.sipush 169, 3) := by decide +kernel
theorem dX9_findFloat_205 : decode cX9_findFloat 205 = .ok (.if_icmp .ge 23, 3) := by decide +kernel
theorem dX9_findFloat_208 : decode cX9_findFloat 208 = .ok (.aload_n 0, 1) := by decide +kernel
theorem dX9_findFloat_209 : decode cX9_findFloat 209 = .ok (.getfield 13, 3) := by decide +kernel
theorem dX9_findFloat_212 : decode cX9_findFloat 212 = .ok (.iload 4, 2) := by decide +kernel
theorem dX9_findFloat_214 : decode cX9_findFloat 214 = .ok (.aload_n 0, 1) := by decide +kernel
theorem dX9_findFloat_215 : decode cX9_findFloat 215 = .ok (.getfield 17, 3) := by decide +kernel
theorem dX9_findFloat_218 : decode cX9_findFloat 218 = .ok (.iload 4, 2) := by decide +kernel
theorem dX9_findFloat_220 : decode cX9_findFloat 220 = .ok (.iaload, 1) := by decide +kernel
theorem dX9_findFloat_221 : decode cX9_findFloat 221 = .ok (.iastore, 1) := by decide +kernel
theorem dX9_findFloat_222 : decode cX9_findFloat 222 = .ok (.iinc 4 1, 3) := by decide +kernel
theorem dX9_findFloat_225 : decode cX9_findFloat 225 = .ok (.goto (-25), 3) := by decide +kernel
theorem dX9_findFloat_228 : decode cX9_findFloat 228 = .ok (.iconst 0, 1) := by decide +kernel
theorem dX9_findFloat_229 : decode cX9_findFloat 229 = .ok (.istore 4, 2) := by decide +kernel
theorem dX9_findFloat_231 : decode cX9_findFloat 231 = .ok (.iload 4, 2) := by decide +kernel
theorem dX9_findFloat_233 : decode cX9_findFloat 233 = .ok (.iconst 1, 1) := by decide +kernel
theorem dX9_findFloat_234 : decode cX9_findFloat 234 = .ok (.aload_n 0, 1) := by decide +kernel
theorem dX9_findFloat_235 : decode cX9_findFloat 235 = .ok (.getfield 13, 3) := by decide +kernel
theorem dX9_findFloat_238 : decode cX9_findFloat 238 = .ok (.bipush 10, 2) := by decide +kernel
theorem dX9_findFloat_240 : decode cX9_findFloat 240 = .ok (.iaload, 1) := by decide +kernel
theorem dX9_findFloat_241 : decode cX9_findFloat 241 = .ok (.ishl, 1) := by decide +kernel
theorem dX9_findFloat_242 : decode cX9_findFloat 242 = .ok (.if_icmp .ge 236, 3) := by decide +kernel
theorem dX9_findFloat_245 : decode cX9_findFloat 245 = .ok (.iload_n 2, 1) := by decide +kernel
theorem dX9_findFloat_246 : decode cX9_findFloat 246 = .ok (.ifCond .eq 232, 3) := by decide +kernel
theorem dX9_findFloat_249 : decode cX9_findFloat 249 = .ok (.iconst 1, 1) := by decide +kernel
theorem dX9_findFloat_250 : decode cX9_findFloat 250 = .ok (.istore 5, 2) := by decide +kernel
theorem dX9_findFloat_252 : decode cX9_findFloat 252 = .ok (.aload_n 0, 1) := by decide +kernel
theorem dX9_findFloat_253 : decode cX9_findFloat 253 = .ok (.invokevirtual 78, 3) := by decide +kernel
theorem dX9_findFloat_256 : decode cX9_findFloat 256 = .ok (.istore 6, 2) := by decide +kernel
theorem dX9_findFloat_258 : decode cX9_findFloat 258 = .ok (.iconst 0, 1) := by decide +kernel
theorem dX9_findFloat_259 : decode cX9_findFloat 259 = .ok (.istore 7, 2) := by decide +kernel
theorem dX9_findFloat_261 : decode cX9_findFloat 261 = .ok (.iconst 0, 1) := by decide +kernel
theorem dX9_findFloat_262 : decode cX9_findFloat 262 = .ok (.istore 8, 2) := by decide +kernel
theorem dX9_findFloat_264 : decode cX9_findFloat 264 = .ok (.iload 8, 2) := by decide +kernel
theorem dX9_findFloat_266 : decode cX9_findFloat 266 = .ok (.aload_n 0, 1) := by decide +kernel
theorem dX9_findFloat_267 : decode cX9_findFloat 267 = .ok (.getfield 13, 3) := by decide +kernel
theorem dX9_findFloat_270 : decode cX9_findFloat 270 = .ok (.bipush 10, 2) := by decide +kernel
theorem dX9_findFloat_272 : decode cX9_findFloat 272 = .ok (.iaload, 1) := by decide +kernel
theorem dX9_findFloat_273 : decode cX9_findFloat 273 = .ok (.if_icmp .ge 105, 3) := by decide +kernel
theorem dX9_findFloat_276 : decode cX9_findFloat 276 = .ok (.iload 4, 2) := by decide +kernel
theorem dX9_findFloat_278 : decode cX9_findFloat 278 = .ok (.iload 8, 2) := by decide +kernel
theorem dX9_findFloat_280 : decode cX9_findFloat 280 = .ok (.ishr, 1) := by decide +kernel
theorem dX9_findFloat_281 : decode cX9_findFloat 281 = .ok (.iconst 1, 1) := by decide +kernel
theorem dX9_findFloat_282 : decode cX9_findFloat 282 = .ok (.iand, 1) := by decide +kernel
theorem dX9_findFloat_283 : decode cX9_findFloat 283 = .ok (.iconst 1, 1) := by decide +kernel
theorem dX9_findFloat_284 : decode cX9_findFloat 284 = .ok (.if_icmp .ne 88, 3) := by decide +kernel
theorem dX9_findFloat_287 : decode cX9_findFloat 287 = .ok (.aload_n 0, 1) := by decide +kernel
theorem dX9_findFloat_288 : decode cX9_findFloat 288 = .ok (.getfield 13, 3) := by decide +kernel
theorem dX9_findFloat_291 : decode cX9_findFloat 291 = .ok (.bipush 25, 2) := by decide +kernel
theorem dX9_findFloat_293 : decode cX9_findFloat 293 = .ok (.iload 8, 2) := by decide +kernel
theorem dX9_findFloat_295 : decode cX9_findFloat 295 = .ok (.iadd, 1) := by decide +kernel
theorem dX9_findFloat_296 : decode cX9_findFloat 296 = .ok (.iaload, 1) := by decide +kernel
theorem dX9_findFloat_297 : decode cX9_findFloat 297 = .ok (.istore 9, 2) := by decide +kernel
theorem dX9_findFloat_299 : decode cX9_findFloat 299 = .ok (.iload 5, 2) := by decide +kernel
theorem dX9_findFloat_301 : decode cX9_findFloat 301 = .ok (.ifCond .eq 50, 3) := by decide +kernel
theorem dX9_findFloat_304 : decode cX9_findFloat 304 = .ok (.aload_n 0, 1) := by decide +kernel
theorem dX9_findFloat_305 : decode cX9_findFloat 305 = .ok (.getfield 13, 3) := by decide +kernel
theorem dX9_findFloat_308 : decode cX9_findFloat 308 = .ok (.bipush 37, 2) := by decide +kernel
theorem dX9_findFloat_310 : decode cX9_findFloat 310 = .ok (.iload 8, 2) := by decide +kernel
theorem dX9_findFloat_312 : decode cX9_findFloat 312 = .ok (.iadd, 1) := by decide +kernel
theorem dX9_findFloat_313 : decode cX9_findFloat 313 = .ok (.iaload, 1) := by decide +kernel
theorem dX9_findFloat_314 : decode cX9_findFloat 314 = .ok (.ifCond .ne 37, 3) := by decide +kernel
theorem dX9_findFloat_317 : decode cX9_findFloat 317 = .ok (.iload 9, 2) := by decide +kernel
theorem dX9_findFloat_319 : decode cX9_findFloat 319 = .ok (.ifCond .lt 28, 3) := by decide +kernel
theorem dX9_findFloat_322 : decode cX9_findFloat 322 = .ok (.aload_n 0, 1) := by decide +kernel
theorem dX9_findFloat_323 : decode cX9_findFloat 323 = .ok (.getfield 13, 3) := by decide +kernel
theorem dX9_findFloat_326 : decode cX9_findFloat 326 = .ok (.bipush 37, 2) := by decide +kernel
theorem dX9_findFloat_328 : decode cX9_findFloat 328 = .ok (.iload 9, 2) := by decide +kernel
theorem dX9_findFloat_330 : decode cX9_findFloat 330 = .ok (.iadd, 1) := by decide +kernel
theorem dX9_findFloat_331 : decode cX9_findFloat 331 = .ok (.iaload, 1) := by decide +kernel
theorem dX9_findFloat_332 : decode cX9_findFloat 332 = .ok (.iconst 1, 1) := by decide +kernel
theorem dX9_findFloat_333 : decode cX9_findFloat 333 = .ok (.if_icmp .eq 14, 3) := by decide +kernel
theorem dX9_findFloat_336 : decode cX9_findFloat 336 = .ok (.iload 4, 2) := by decide +kernel
theorem dX9_findFloat_338 : decode cX9_findFloat 338 = .ok (.iload 9, 2) := by decide +kernel
theorem dX9_findFloat_340 : decode cX9_findFloat 340 = .ok (.ishr, 1) := by decide +kernel
theorem dX9_findFloat_341 : decode cX9_findFloat 341 = .ok (.iconst 1, 1) := by decide +kernel
theorem dX9_findFloat_342 : decode cX9_findFloat 342 = .ok (.iand, 1) := by decide +kernel
theorem dX9_findFloat_343 : decode cX9_findFloat 343 = .ok (.iconst 1, 1) := by decide +kernel
theorem dX9_findFloat_344 : decode cX9_findFloat 344 = .ok (.if_icmp .ne 7, 3) := by decide +kernel
theorem dX9_findFloat_347 : decode cX9_findFloat 347 = .ok (.iconst 1, 1) := by decide +kernel
theorem dX9_findFloat_348 : decode cX9_findFloat 348 = .ok (.goto 4, 3) := by decide +kernel
theorem dX9_findFloat_351 : decode cX9_findFloat 351 = .ok (.iconst 0, 1) := by decide +kernel
theorem dX9_findFloat_352 : decode cX9_findFloat 352 = .ok (.istore 5, 2) := by decide +kernel
theorem dX9_findFloat_354 : decode cX9_findFloat 354 = .ok (.iload 6, 2) := by decide +kernel
theorem dX9_findFloat_356 : decode cX9_findFloat 356 = .ok (.aload_n 0, 1) := by decide +kernel
theorem dX9_findFloat_357 : decode cX9_findFloat 357 = .ok (.getfield 13, 3) := by decide +kernel
theorem dX9_findFloat_360 : decode cX9_findFloat 360 = .ok (.bipush 13, 2) := by decide +kernel
theorem dX9_findFloat_362 : decode cX9_findFloat 362 = .ok (.iload 8, 2) := by decide +kernel
theorem dX9_findFloat_364 : decode cX9_findFloat 364 = .ok (.iadd, 1) := by decide +kernel
theorem dX9_findFloat_365 : decode cX9_findFloat 365 = .ok (.iaload, 1) := by decide +kernel
theorem dX9_findFloat_366 : decode cX9_findFloat 366 = .ok (.iadd, 1) := by decide +kernel
theorem dX9_findFloat_367 : decode cX9_findFloat 367 = .ok (.istore 6, 2) := by decide +kernel
theorem dX9_findFloat_369 : decode cX9_findFloat 369 = .ok (.iinc 7 1, 3) := by decide +kernel
theorem dX9_findFloat_372 : decode cX9_findFloat 372 = .ok (.iinc 8 1, 3) := by decide +kernel
theorem dX9_findFloat_375 : decode cX9_findFloat 375 = .ok (.goto (-111), 3) := by decide +kernel
theorem dX9_findFloat_378 : decode cX9_findFloat 378 = .ok (.iload_n 1, 1) := by decide +kernel
theorem dX9_findFloat_379 : decode cX9_findFloat 379 = .ok (.iload 7, 2) := by decide +kernel
theorem dX9_findFloat_381 : decode cX9_findFloat 381 = .ok (.iadd, 1) := by decide +kernel
theorem dX9_findFloat_382 : decode cX9_findFloat 382 = .ok (.istore 8, 2) := by decide +kernel
theorem dX9_findFloat_384 : decode cX9_findFloat 384 = .ok (.iload 8, 2) := by decide +kernel
theorem dX9_findFloat_386 : decode cX9_findFloat 386 = .ok (.iload_n 3, 1) := by decide +kernel
theorem dX9_findFloat_387 : decode cX9_findFloat 387 = .ok (.if_icmp .le 8, 3) := by decide +kernel
theorem dX9_findFloat_390 : decode cX9_findFloat 390 = .ok (.iload 8, 2) := by decide +kernel
theorem dX9_findFloat_392 : decode cX9_findFloat 392 = .ok (.goto 4, 3) := by decide +kernel
theorem dX9_findFloat_395 : decode cX9_findFloat 395 = .ok (.iload_n 3, 1) := by decide +kernel
theorem dX9_findFloat_396 : decode cX9_findFloat 396 = .ok (.istore 8, 2) := by decide +kernel
theorem dX9_findFloat_398 : decode cX9_findFloat 398 = .ok (.iconst 0, 1) := by decide +kernel
theorem dX9_findFloat_399 : decode cX9_findFloat 399 = .ok (.istore 9, 2) := by decide +kernel
theorem dX9_findFloat_401 : decode cX9_findFloat 401 = .ok (.iload 8, 2) := by decide +kernel
theorem dX9_findFloat_403 : decode cX9_findFloat 403 = .ok (.istore 10, 2) := by decide +kernel
theorem dX9_findFloat_405 : decode cX9_findFloat 405 = .ok (.iload 10, 2) := by decide +kernel
theorem dX9_findFloat_407 : decode cX9_findFloat 407 = .ok (.bipush 96, 2) := by decide +kernel
theorem dX9_findFloat_409 : decode cX9_findFloat 409 = .ok (.if_icmp .ge 63, 3) := by decide +kernel
theorem dX9_findFloat_412 : decode cX9_findFloat 412 = .ok (.iload 5, 2) := by decide +kernel
theorem dX9_findFloat_414 : decode cX9_findFloat 414 = .ok (.ifCond .eq 58, 3) := by decide +kernel
theorem dX9_findFloat_417 : decode cX9_findFloat 417 = .ok (.iload 9, 2) := by decide +kernel
theorem dX9_findFloat_419 : decode cX9_findFloat 419 = .ok (.ifCond .ne 53, 3) := by decide +kernel
theorem dX9_findFloat_422 : decode cX9_findFloat 422 = .ok (.aload_n 0, 1) := by decide +kernel
theorem dX9_findFloat_423 : decode cX9_findFloat 423 = .ok (.iload 10, 2) := by decide +kernel
theorem dX9_findFloat_425 : decode cX9_findFloat 425 = .ok (.iload 6, 2) := by decide +kernel
theorem dX9_findFloat_427 : decode cX9_findFloat 427 = .ok (.invokevirtual 112, 3) := by decide +kernel
theorem dX9_findFloat_430 : decode cX9_findFloat 430 = .ok (.ifCond .eq 36, 3) := by decide +kernel
theorem dX9_findFloat_433 : decode cX9_findFloat 433 = .ok (.iconst 1, 1) := by decide +kernel
theorem dX9_findFloat_434 : decode cX9_findFloat 434 = .ok (.istore 9, 2) := by decide +kernel
theorem dX9_findFloat_436 : decode cX9_findFloat 436 = .ok (.aload_n 0, 1) := by decide +kernel
theorem dX9_findFloat_437 : decode cX9_findFloat 437 = .ok (.getfield 165, 3) := by decide +kernel
theorem dX9_findFloat_440 : decode cX9_findFloat 440 = .ok (.bipush (-4), 2) := by decide +kernel
theorem dX9_findFloat_442 : decode cX9_findFloat 442 = .ok (.if_icmp .eq 12, 3) := by decide +kernel
theorem dX9_findFloat_445 : decode cX9_findFloat 445 = .ok (.iload 10, 2) := by decide +kernel
theorem dX9_findFloat_447 : decode cX9_findFloat 447 = .ok (.aload_n 0, 1) := by decide +kernel
theorem dX9_findFloat_448 : decode cX9_findFloat 448 = .ok (.getfield 165, 3) := by decide +kernel
theorem dX9_findFloat_451 : decode cX9_findFloat 451 = .ok (.if_icmp .ge 15, 3) := by decide +kernel
theorem dX9_findFloat_454 : decode cX9_findFloat 454 = .ok (.aload_n 0, 1) := by decide +kernel
theorem dX9_findFloat_455 : decode cX9_findFloat 455 = .ok (.iload 10, 2) := by decide +kernel
theorem dX9_findFloat_457 : decode cX9_findFloat 457 = .ok (.putfield 165, 3) := by decide +kernel
theorem dX9_findFloat_460 : decode cX9_findFloat 460 = .ok (.aload_n 0, 1) := by decide +kernel
theorem dX9_findFloat_461 : decode cX9_findFloat 461 = .ok (.iload 4, 2) := by decide +kernel
theorem dX9_findFloat_463 : decode cX9_findFloat 463 = .ok (.putfield 171, 3) := by decide +kernel
theorem dX9_findFloat_466 : decode cX9_findFloat 466 = .ok (.iinc 10 1, 3) := by decide +kernel
theorem dX9_findFloat_469 : decode cX9_findFloat 469 = .ok (.goto (-64), 3) := by decide +kernel
theorem dX9_findFloat_472 : decode cX9_findFloat 472 = .ok (.iinc 4 1, 3) := by decide +kernel
theorem dX9_findFloat_475 : decode cX9_findFloat 475 = .ok (.goto (-244), 3) := by decide +kernel
theorem dX9_findFloat_478 : decode cX9_findFloat 478 = .ok (.return_, 1) := by decide +kernel
set_option maxRecDepth 20000 in
theorem ggX9_toFloat_X9_in : GoodIn wsX9_toFloat wsX9_in := goodIn_r _ [10] (by decide +kernel) (by decide +kernel)
set_option maxRecDepth 20000 in
theorem gX9_toFloat_X9_in : GoodIn wsX9_toFloat (va_wsS RX9 46 yX9_in wsX9_in) := goodIn_app (goodIn_of _ (by decide +kernel)) ggX9_toFloat_X9_in
set_option maxRecDepth 20000 in
theorem ggX9_toFloat_X9_isLost : GoodIn wsX9_toFloat wsX9_isLost := goodIn_r _ [14, 3, 86, 87, 88, 89, 90, 91, 92, 93, 94, 95, 96, 97, 98, 99, 100, 101, 102, 103, 104] (by decide +kernel) (by decide +kernel)
set_option maxRecDepth 20000 in
theorem gX9_toFloat_X9_isLost : GoodIn wsX9_toFloat (wsV RX9 123 RX9 yX9_isLost wsX9_isLost) := goodIn_app (goodIn_of _ (by decide +kernel)) ggX9_toFloat_X9_isLost
set_option maxRecDepth 20000 in
theorem gh_findFloat : GoodIn wsX9_toFloat [.code yX9_findFloat cX9_findFloat 11 none] := goodIn_r _ [18] (by decide +kernel) (by decide +kernel)
set_option maxRecDepth 20000 in
theorem ggX9_toFloat_X9_findFloat : GoodIn wsX9_toFloat wsX9_findFloat := fun w h => (List.mem_cons.mp h).elim (fun e => gh_findFloat w (by rw [e]; exact List.mem_cons_self)) ((goodIn_app (goodIn_app (goodIn_r wsX9_findFloat_r1 [3, 19, 4, 6, 5, 20, 21, 22, 9, 23, 11, 12, 13, 14, 24, 25, 26, 27, 28, 29, 30, 31, 32, 33] (by decide +kernel) (by decide +kernel)) (goodIn_app (goodIn_r wsX9_findFloat_r2 [34, 35, 36, 37, 38, 39, 40, 41, 42, 43, 44, 45, 46, 47, 48, 49, 50, 51, 52, 53, 54, 55, 56, 57] (by decide +kernel) (by decide +kernel)) (goodIn_app (goodIn_r wsX9_findFloat_r3 [58, 59, 60, 61, 62, 63, 64, 65, 66, 67, 68, 69, 70, 71, 72, 73, 74, 75, 76, 77, 78, 79, 80, 81] (by decide +kernel) (by decide +kernel)) (goodIn_r wsX9_findFloat_r4 [82, 83, 84, 85] (by decide +kernel) (by decide +kernel))))) (goodIn_r wsX90 [86, 87, 88, 89, 90, 91, 92, 93, 94, 95, 96, 97, 98, 99, 100, 101, 102, 103, 104] (by decide +kernel) (by decide +kernel))) w)
set_option maxRecDepth 20000 in
theorem gX9_toFloat_X9_findFloat : GoodIn wsX9_toFloat (wsV RX9 174 RX9 yX9_findFloat wsX9_findFloat) := goodIn_app (goodIn_of _ (by decide +kernel)) ggX9_toFloat_X9_findFloat
theorem dX9_toFloat_0 : decode cX9_toFloat 0 = .ok (.aload_n 0, 1) := by decide +kernel
theorem dX9_toFloat_1 : decode cX9_toFloat 1 = .ok (.iconst 0, 1) := by decide +kernel
theorem dX9_toFloat_2 : decode cX9_toFloat 2 = .ok (.putfield 1, 3) := by decide +kernel
theorem dX9_toFloat_5 : decode cX9_toFloat 5 = .ok (.iload_n 1, 1) := by decide +kernel
theorem dX9_toFloat_6 : decode cX9_toFloat 6 = .ok (.i2l, 1) := by decide +kernel
theorem dX9_toFloat_7 : decode cX9_toFloat 7 = .ok (.lconst 0, 1) := by decide +kernel
theorem dX9_toFloat_8 : decode cX9_toFloat 8 = .ok (.ldc2_w 66, 3) := by decide +kernel
theorem dX9_toFloat_11 : decode cX9_toFloat 11 = .ok (.invokestatic 46, 3) := by decide +kernel
theorem dX9_toFloat_14 : decode cX9_toFloat 14 = .ok (.ifCond .ne 5, 3) := by decide +kernel
theorem dX9_toFloat_17 : decode cX9_toFloat 17 = .ok (.iconst (-1), 1) := by decide +kernel
theorem dX9_toFloat_18 : decode cX9_toFloat 18 = .ok (.ireturn, 1) := by decide +kernel
theorem dX9_toFloat_19 : decode cX9_toFloat 19 = .ok (.iconst 0, 1) := by decide +kernel
theorem dX9_toFloat_20 : decode cX9_toFloat 20 = .ok (.istore_n 2, 1) := by decide +kernel
theorem dX9_toFloat_21 : decode cX9_toFloat 21 = .ok (.iconst 0, 1) := by decide +kernel
theorem dX9_toFloat_22 : decode cX9_toFloat 22 = .ok (.istore_n 3, 1) := by decide +kernel
theorem dX9_toFloat_23 : decode cX9_toFloat 23 = .ok (.iload_n 3, 1) := by decide +kernel
theorem dX9_toFloat_24 : decode cX9_toFloat 24 = .ok (.aload_n 0, 1) := by decide +kernel
theorem dX9_toFloat_25 : decode cX9_toFloat 25 = .ok (.getfield 13, 3) := by decide +kernel
theorem dX9_toFloat_28 : decode cX9_toFloat 28 = .ok (.bipush 10, 2) := by decide +kernel
theorem dX9_toFloat_30 : decode cX9_toFloat 30 = .ok (.iaload, 1) := by decide +kernel
theorem dX9_toFloat_31 : decode cX9_toFloat 31 = .ok (.if_icmp .ge 23, 3) := by decide +kernel
theorem dX9_toFloat_34 : decode cX9_toFloat 34 = .ok (.iload_n 2, 1) := by decide +kernel
theorem dX9_toFloat_35 : decode cX9_toFloat 35 = .ok (.iconst 1, 1) := by decide +kernel
theorem dX9_toFloat_36 : decode cX9_toFloat 36 = .ok (.aload_n 0, 1) := by decide +kernel
theorem dX9_toFloat_37 : decode cX9_toFloat 37 = .ok (.getfield 13, 3) := by decide +kernel
theorem dX9_toFloat_40 : decode cX9_toFloat 40 = .ok (.bipush 37, 2) := by decide +kernel
theorem dX9_toFloat_42 : decode cX9_toFloat 42 = .ok (.iload_n 3, 1) := by decide +kernel
theorem dX9_toFloat_43 : decode cX9_toFloat 43 = .ok (.iadd, 1) := by decide +kernel
theorem dX9_toFloat_44 : decode cX9_toFloat 44 = .ok (.iaload, 1) := by decide +kernel
theorem dX9_toFloat_45 : decode cX9_toFloat 45 = .ok (.isub, 1) := by decide +kernel
theorem dX9_toFloat_46 : decode cX9_toFloat 46 = .ok (.iadd, 1) := by decide +kernel
theorem dX9_toFloat_47 : decode cX9_toFloat 47 = .ok (.istore_n 2, 1) := by decide +kernel
theorem dX9_toFloat_48 : decode cX9_toFloat 48 = .ok (.iinc 3 1, 3) := by decide +kernel
theorem dX9_toFloat_51 : decode cX9_toFloat 51 = .ok (.goto (-28), 3) := by decide +kernel
theorem dX9_toFloat_54 : decode cX9_toFloat 54 = .ok (.iload_n 2, 1) := by decide +kernel
theorem dX9_toFloat_55 : decode cX9_toFloat 55 = .ok (.bipush 8, 2) := by decide +kernel
theorem dX9_toFloat_57 : decode cX9_toFloat 57 = .ok (.if_icmp .gt 10, 3) := by decide +kernel
theorem dX9_toFloat_60 : decode cX9_toFloat 60 = .ok (.aload_n 0, 1) := by decide +kernel
theorem dX9_toFloat_61 : decode cX9_toFloat 61 = .ok (.invokevirtual 123, 3) := by decide +kernel
theorem dX9_toFloat_64 : decode cX9_toFloat 64 = .ok (.ifCond .eq 6, 3) := by decide +kernel
theorem dX9_toFloat_67 : decode cX9_toFloat 67 = .ok (.bipush (-2), 2) := by decide +kernel
theorem dX9_toFloat_69 : decode cX9_toFloat 69 = .ok (.ireturn, 1) := by decide +kernel
theorem dX9_toFloat_70 : decode cX9_toFloat 70 = .ok (.aload_n 0, 1) := by decide +kernel
theorem dX9_toFloat_71 : decode cX9_toFloat 71 = .ok (.invokevirtual 174, 3) := by decide +kernel
theorem dX9_toFloat_74 : decode cX9_toFloat 74 = .ok (.aload_n 0, 1) := by decide +kernel
theorem dX9_toFloat_75 : decode cX9_toFloat 75 = .ok (.getfield 165, 3) := by decide +kernel
theorem dX9_toFloat_78 : decode cX9_toFloat 78 = .ok (.bipush (-4), 2) := by decide +kernel
theorem dX9_toFloat_80 : decode cX9_toFloat 80 = .ok (.if_icmp .ne 8, 3) := by decide +kernel
theorem dX9_toFloat_83 : decode cX9_toFloat 83 = .ok (.bipush (-4), 2) := by decide +kernel
theorem dX9_toFloat_85 : decode cX9_toFloat 85 = .ok (.goto 30, 3) := by decide +kernel
theorem dX9_toFloat_88 : decode cX9_toFloat 88 = .ok (.iload_n 1, 1) := by decide +kernel
theorem dX9_toFloat_89 : decode cX9_toFloat 89 = .ok (.ifCond .ne 10, 3) := by decide +kernel
theorem dX9_toFloat_92 : decode cX9_toFloat 92 = .ok (.aload_n 0, 1) := by decide +kernel
theorem dX9_toFloat_93 : decode cX9_toFloat 93 = .ok (.getfield 165, 3) := by decide +kernel
theorem dX9_toFloat_96 : decode cX9_toFloat 96 = .ok (.goto 19, 3) := by decide +kernel
theorem dX9_toFloat_99 : decode cX9_toFloat 99 = .ok (.iload_n 1, 1) := by decide +kernel
theorem dX9_toFloat_100 : decode cX9_toFloat 100 = .ok (.iconst 1, 1) := by decide +kernel
theorem dX9_toFloat_101 : decode cX9_toFloat 101 = .ok (.if_icmp .ne 10, 3) := by decide +kernel
theorem dX9_toFloat_104 : decode cX9_toFloat 104 = .ok (.aload_n 0, 1) := by decide +kernel
theorem dX9_toFloat_105 : decode cX9_toFloat 105 = .ok (.getfield 171, 3) := by decide +kernel
theorem dX9_toFloat_108 : decode cX9_toFloat 108 = .ok (.goto 7, 3) := by decide +kernel
theorem dX9_toFloat_111 : decode cX9_toFloat 111 = .ok (.aload_n 0, 1) := by decide +kernel
theorem dX9_toFloat_112 : decode cX9_toFloat 112 = .ok (.getfield 168, 3) := by decide +kernel
theorem dX9_toFloat_115 : decode cX9_toFloat 115 = .ok (.ireturn, 1) := by decide +kernel
set_option maxRecDepth 20000 in
theorem ggX9_tap_X9_in : GoodIn wsX9_tap wsX9_in := goodIn_r _ [8] (by decide +kernel) (by decide +kernel)
set_option maxRecDepth 20000 in
theorem gX9_tap_X9_in : GoodIn wsX9_tap (va_wsS RX9 46 yX9_in wsX9_in) := goodIn_app (goodIn_of _ (by decide +kernel)) ggX9_tap_X9_in
theorem dX9_tap_0 : decode cX9_tap 0 = .ok (.aload_n 0, 1) := by decide +kernel
theorem dX9_tap_1 : decode cX9_tap 1 = .ok (.iconst 0, 1) := by decide +kernel
theorem dX9_tap_2 : decode cX9_tap 2 = .ok (.putfield 1, 3) := by decide +kernel
theorem dX9_tap_5 : decode cX9_tap 5 = .ok (.iload_n 1, 1) := by decide +kernel
theorem dX9_tap_6 : decode cX9_tap 6 = .ok (.i2l, 1) := by decide +kernel
theorem dX9_tap_7 : decode cX9_tap 7 = .ok (.lconst 0, 1) := by decide +kernel
theorem dX9_tap_8 : decode cX9_tap 8 = .ok (.ldc2_w 177, 3) := by decide +kernel
theorem dX9_tap_11 : decode cX9_tap 11 = .ok (.invokestatic 46, 3) := by decide +kernel
theorem dX9_tap_14 : decode cX9_tap 14 = .ok (.ifCond .eq 15, 3) := by decide +kernel
theorem dX9_tap_17 : decode cX9_tap 17 = .ok (.iload_n 2, 1) := by decide +kernel
theorem dX9_tap_18 : decode cX9_tap 18 = .ok (.i2l, 1) := by decide +kernel
theorem dX9_tap_19 : decode cX9_tap 19 = .ok (.ldc2_w 64, 3) := by decide +kernel
theorem dX9_tap_22 : decode cX9_tap 22 = .ok (.lconst 1, 1) := by decide +kernel
theorem dX9_tap_23 : decode cX9_tap 23 = .ok (.invokestatic 46, 3) := by decide +kernel
theorem dX9_tap_26 : decode cX9_tap 26 = .ok (.ifCond .ne 6, 3) := by decide +kernel
theorem dX9_tap_29 : decode cX9_tap 29 = .ok (.bipush (-100), 2) := by decide +kernel
theorem dX9_tap_31 : decode cX9_tap 31 = .ok (.ireturn, 1) := by decide +kernel
theorem dX9_tap_32 : decode cX9_tap 32 = .ok (.aload_n 0, 1) := by decide +kernel
theorem dX9_tap_33 : decode cX9_tap 33 = .ok (.getfield 41, 3) := by decide +kernel
theorem dX9_tap_36 : decode cX9_tap 36 = .ok (.iload_n 1, 1) := by decide +kernel
theorem dX9_tap_37 : decode cX9_tap 37 = .ok (.iaload, 1) := by decide +kernel
theorem dX9_tap_38 : decode cX9_tap 38 = .ok (.istore_n 3, 1) := by decide +kernel
theorem dX9_tap_39 : decode cX9_tap 39 = .ok (.aload_n 0, 1) := by decide +kernel
theorem dX9_tap_40 : decode cX9_tap 40 = .ok (.getfield 41, 3) := by decide +kernel
theorem dX9_tap_43 : decode cX9_tap 43 = .ok (.iload_n 1, 1) := by decide +kernel
theorem dX9_tap_44 : decode cX9_tap 44 = .ok (.iload_n 2, 1) := by decide +kernel
theorem dX9_tap_45 : decode cX9_tap 45 = .ok (.iastore, 1) := by decide +kernel
theorem dX9_tap_46 : decode cX9_tap 46 = .ok (.iload_n 3, 1) := by decide +kernel
theorem dX9_tap_47 : decode cX9_tap 47 = .ok (.ireturn, 1) := by decide +kernel
set_option maxRecDepth 20000 in
theorem ggX9_worm_X9_in : GoodIn wsX9_worm wsX9_in := goodIn_r _ [8] (by decide +kernel) (by decide +kernel)
set_option maxRecDepth 20000 in
theorem gX9_worm_X9_in : GoodIn wsX9_worm (va_wsS RX9 46 yX9_in wsX9_in) := goodIn_app (goodIn_of _ (by decide +kernel)) ggX9_worm_X9_in
theorem dX9_worm_0 : decode cX9_worm 0 = .ok (.aload_n 0, 1) := by decide +kernel
theorem dX9_worm_1 : decode cX9_worm 1 = .ok (.iconst 0, 1) := by decide +kernel
theorem dX9_worm_2 : decode cX9_worm 2 = .ok (.putfield 1, 3) := by decide +kernel
theorem dX9_worm_5 : decode cX9_worm 5 = .ok (.iload_n 1, 1) := by decide +kernel
theorem dX9_worm_6 : decode cX9_worm 6 = .ok (.i2l, 1) := by decide +kernel
theorem dX9_worm_7 : decode cX9_worm 7 = .ok (.lconst 1, 1) := by decide +kernel
theorem dX9_worm_8 : decode cX9_worm 8 = .ok (.ldc2_w 179, 3) := by decide +kernel
theorem dX9_worm_11 : decode cX9_worm 11 = .ok (.invokestatic 46, 3) := by decide +kernel
theorem dX9_worm_14 : decode cX9_worm 14 = .ok (.ifCond .eq 15, 3) := by decide +kernel
theorem dX9_worm_17 : decode cX9_worm 17 = .ok (.iload_n 2, 1) := by decide +kernel
theorem dX9_worm_18 : decode cX9_worm 18 = .ok (.i2l, 1) := by decide +kernel
theorem dX9_worm_19 : decode cX9_worm 19 = .ok (.lconst 0, 1) := by decide +kernel
theorem dX9_worm_20 : decode cX9_worm 20 = .ok (.ldc2_w 127, 3) := by decide +kernel
theorem dX9_worm_23 : decode cX9_worm 23 = .ok (.invokestatic 46, 3) := by decide +kernel
theorem dX9_worm_26 : decode cX9_worm 26 = .ok (.ifCond .ne 5, 3) := by decide +kernel
theorem dX9_worm_29 : decode cX9_worm 29 = .ok (.iconst (-1), 1) := by decide +kernel
theorem dX9_worm_30 : decode cX9_worm 30 = .ok (.ireturn, 1) := by decide +kernel
theorem dX9_worm_31 : decode cX9_worm 31 = .ok (.iload_n 2, 1) := by decide +kernel
theorem dX9_worm_32 : decode cX9_worm 32 = .ok (.iconst 2, 1) := by decide +kernel
theorem dX9_worm_33 : decode cX9_worm 33 = .ok (.if_icmp .ge 57, 3) := by decide +kernel
theorem dX9_worm_36 : decode cX9_worm 36 = .ok (.iconst 0, 1) := by decide +kernel
theorem dX9_worm_37 : decode cX9_worm 37 = .ok (.istore_n 3, 1) := by decide +kernel
theorem dX9_worm_38 : decode cX9_worm 38 = .ok (.iconst 0, 1) := by decide +kernel
theorem dX9_worm_39 : decode cX9_worm 39 = .ok (.istore 4, 2) := by decide +kernel
theorem dX9_worm_41 : decode cX9_worm 41 = .ok (.iload 4, 2) := by decide +kernel
theorem dX9_worm_43 : decode cX9_worm 43 = .ok (.iload_n 1, 1) := by decide +kernel
theorem dX9_worm_44 : decode cX9_worm 44 = .ok (.if_icmp .ge 44, 3) := by decide +kernel
theorem dX9_worm_47 : decode cX9_worm 47 = .ok (.iload_n 3, 1) := by decide +kernel
theorem dX9_worm_48 : decode cX9_worm 48 = .ok (.aload_n 0, 1) := by decide +kernel
theorem dX9_worm_49 : decode cX9_worm 49 = .ok (.getfield 41, 3) := by decide +kernel
theorem dX9_worm_52 : decode cX9_worm 52 = .ok (.iload 4, 2) := by decide +kernel
theorem dX9_worm_54 : decode cX9_worm 54 = .ok (.iaload, 1) := by decide +kernel
theorem dX9_worm_55 : decode cX9_worm 55 = .ok (.iconst 1, 1) := by decide +kernel
theorem dX9_worm_56 : decode cX9_worm 56 = .ok (.if_icmp .eq 19, 3) := by decide +kernel
theorem dX9_worm_59 : decode cX9_worm 59 = .ok (.iload_n 2, 1) := by decide +kernel
theorem dX9_worm_60 : decode cX9_worm 60 = .ok (.iconst 1, 1) := by decide +kernel
theorem dX9_worm_61 : decode cX9_worm 61 = .ok (.if_icmp .ne 18, 3) := by decide +kernel
theorem dX9_worm_64 : decode cX9_worm 64 = .ok (.aload_n 0, 1) := by decide +kernel
theorem dX9_worm_65 : decode cX9_worm 65 = .ok (.getfield 41, 3) := by decide +kernel
theorem dX9_worm_68 : decode cX9_worm 68 = .ok (.iload 4, 2) := by decide +kernel
theorem dX9_worm_70 : decode cX9_worm 70 = .ok (.iaload, 1) := by decide +kernel
theorem dX9_worm_71 : decode cX9_worm 71 = .ok (.iconst (-1), 1) := by decide +kernel
theorem dX9_worm_72 : decode cX9_worm 72 = .ok (.if_icmp .ne 7, 3) := by decide +kernel
theorem dX9_worm_75 : decode cX9_worm 75 = .ok (.iconst 1, 1) := by decide +kernel
theorem dX9_worm_76 : decode cX9_worm 76 = .ok (.goto 4, 3) := by decide +kernel
theorem dX9_worm_79 : decode cX9_worm 79 = .ok (.iconst 0, 1) := by decide +kernel
theorem dX9_worm_80 : decode cX9_worm 80 = .ok (.iadd, 1) := by decide +kernel
theorem dX9_worm_81 : decode cX9_worm 81 = .ok (.istore_n 3, 1) := by decide +kernel
theorem dX9_worm_82 : decode cX9_worm 82 = .ok (.iinc 4 1, 3) := by decide +kernel
theorem dX9_worm_85 : decode cX9_worm 85 = .ok (.goto (-44), 3) := by decide +kernel
theorem dX9_worm_88 : decode cX9_worm 88 = .ok (.iload_n 3, 1) := by decide +kernel
theorem dX9_worm_89 : decode cX9_worm 89 = .ok (.ireturn, 1) := by decide +kernel
theorem dX9_worm_90 : decode cX9_worm 90 = .ok (.iconst 0, 1) := by decide +kernel
theorem dX9_worm_91 : decode cX9_worm 91 = .ok (.istore_n 3, 1) := by decide +kernel
theorem dX9_worm_92 : decode cX9_worm 92 = .ok (.iload_n 2, 1) := by decide +kernel
theorem dX9_worm_93 : decode cX9_worm 93 = .ok (.iconst 2, 1) := by decide +kernel
theorem dX9_worm_94 : decode cX9_worm 94 = .ok (.if_icmp .ne 9, 3) := by decide +kernel
theorem dX9_worm_97 : decode cX9_worm 97 = .ok (.sipush 1000, 3) := by decide +kernel
theorem dX9_worm_100 : decode cX9_worm 100 = .ok (.goto 6, 3) := by decide +kernel
theorem dX9_worm_103 : decode cX9_worm 103 = .ok (.sipush (-1000), 3) := by decide +kernel
theorem dX9_worm_106 : decode cX9_worm 106 = .ok (.istore 4, 2) := by decide +kernel
theorem dX9_worm_108 : decode cX9_worm 108 = .ok (.iconst 0, 1) := by decide +kernel
theorem dX9_worm_109 : decode cX9_worm 109 = .ok (.istore 5, 2) := by decide +kernel
theorem dX9_worm_111 : decode cX9_worm 111 = .ok (.iload 5, 2) := by decide +kernel
theorem dX9_worm_113 : decode cX9_worm 113 = .ok (.iload_n 1, 1) := by decide +kernel
theorem dX9_worm_114 : decode cX9_worm 114 = .ok (.if_icmp .ge 152, 3) := by decide +kernel
theorem dX9_worm_117 : decode cX9_worm 117 = .ok (.iload_n 3, 1) := by decide +kernel
theorem dX9_worm_118 : decode cX9_worm 118 = .ok (.iconst 1, 1) := by decide +kernel
theorem dX9_worm_119 : decode cX9_worm 119 = .ok (.iadd, 1) := by decide +kernel
theorem dX9_worm_120 : decode cX9_worm 120 = .ok (.istore 6, 2) := by decide +kernel
theorem dX9_worm_122 : decode cX9_worm 122 = .ok (.iload 4, 2) := by decide +kernel
theorem dX9_worm_124 : decode cX9_worm 124 = .ok (.istore 7, 2) := by decide +kernel
theorem dX9_worm_126 : decode cX9_worm 126 = .ok (.iload_n 2, 1) := by decide +kernel
theorem dX9_worm_127 : decode cX9_worm 127 = .ok (.iconst 2, 1) := by decide +kernel
theorem dX9_worm_128 : decode cX9_worm 128 = .ok (.if_icmp .ne 20, 3) := by decide +kernel
theorem dX9_worm_131 : decode cX9_worm 131 = .ok (.iload 6, 2) := by decide +kernel
theorem dX9_worm_133 : decode cX9_worm 133 = .ok (.iload 4, 2) := by decide +kernel
theorem dX9_worm_135 : decode cX9_worm 135 = .ok (.if_icmp .ge 8, 3) := by decide +kernel
theorem dX9_worm_138 : decode cX9_worm 138 = .ok (.iload 6, 2) := by decide +kernel
theorem dX9_worm_140 : decode cX9_worm 140 = .ok (.goto 22, 3) := by decide +kernel
theorem dX9_worm_143 : decode cX9_worm 143 = .ok (.iload 4, 2) := by decide +kernel
theorem dX9_worm_145 : decode cX9_worm 145 = .ok (.goto 17, 3) := by decide +kernel
theorem dX9_worm_148 : decode cX9_worm 148 = .ok (.iload 6, 2) := by decide +kernel
theorem dX9_worm_150 : decode cX9_worm 150 = .ok (.iload 4, 2) := by decide +kernel
theorem dX9_worm_152 : decode cX9_worm 152 = .ok (.if_icmp .le 8, 3) := by decide +kernel
theorem dX9_worm_155 : decode cX9_worm 155 = .ok (.iload 6, 2) := by decide +kernel
theorem dX9_worm_157 : decode cX9_worm 157 = .ok (.goto 5, 3) := by decide +kernel
theorem dX9_worm_160 : decode cX9_worm 160 = .ok (.iload 4, 2) := by decide +kernel
theorem dX9_worm_162 : decode cX9_worm 162 = .ok (.istore 8, 2) := by decide +kernel
theorem dX9_worm_164 : decode cX9_worm 164 = .ok (.iload_n 2, 1) := by decide +kernel
theorem dX9_worm_165 : decode cX9_worm 165 = .ok (.iconst 2, 1) := by decide +kernel
theorem dX9_worm_166 : decode cX9_worm 166 = .ok (.if_icmp .ne 18, 3) := by decide +kernel
theorem dX9_worm_169 : decode cX9_worm 169 = .ok (.iload 7, 2) := by decide +kernel
theorem dX9_worm_171 : decode cX9_worm 171 = .ok (.iload_n 3, 1) := by decide +kernel
theorem dX9_worm_172 : decode cX9_worm 172 = .ok (.if_icmp .ge 8, 3) := by decide +kernel
theorem dX9_worm_175 : decode cX9_worm 175 = .ok (.iload 7, 2) := by decide +kernel
theorem dX9_worm_177 : decode cX9_worm 177 = .ok (.goto 19, 3) := by decide +kernel
theorem dX9_worm_180 : decode cX9_worm 180 = .ok (.iload_n 3, 1) := by decide +kernel
theorem dX9_worm_181 : decode cX9_worm 181 = .ok (.goto 15, 3) := by decide +kernel
theorem dX9_worm_184 : decode cX9_worm 184 = .ok (.iload 7, 2) := by decide +kernel
theorem dX9_worm_186 : decode cX9_worm 186 = .ok (.iload_n 3, 1) := by decide +kernel
theorem dX9_worm_187 : decode cX9_worm 187 = .ok (.if_icmp .le 8, 3) := by decide +kernel
theorem dX9_worm_190 : decode cX9_worm 190 = .ok (.iload 7, 2) := by decide +kernel
theorem dX9_worm_192 : decode cX9_worm 192 = .ok (.goto 4, 3) := by decide +kernel
theorem dX9_worm_195 : decode cX9_worm 195 = .ok (.iload_n 3, 1) := by decide +kernel
theorem dX9_worm_196 : decode cX9_worm 196 = .ok (.istore 9, 2) := by decide +kernel
theorem dX9_worm_198 : decode cX9_worm 198 = .ok (.aload_n 0, 1) := by decide +kernel
theorem dX9_worm_199 : decode cX9_worm 199 = .ok (.getfield 41, 3) := by decide +kernel
theorem dX9_worm_202 : decode cX9_worm 202 = .ok (.iload 5, 2) := by decide +kernel
theorem dX9_worm_204 : decode cX9_worm 204 = .ok (.iaload, 1) := by decide +kernel
theorem dX9_worm_205 : decode cX9_worm 205 = .ok (.ifCond .ne 20, 3) := by decide +kernel
theorem dX9_worm_208 : decode cX9_worm 208 = .ok (.iload_n 2, 1) := by decide +kernel
theorem dX9_worm_209 : decode cX9_worm 209 = .ok (.iconst 2, 1) := by decide +kernel
theorem dX9_worm_210 : decode cX9_worm 210 = .ok (.if_icmp .ne 9, 3) := by decide +kernel
theorem dX9_worm_213 : decode cX9_worm 213 = .ok (.sipush 1000, 3) := by decide +kernel
theorem dX9_worm_216 : decode cX9_worm 216 = .ok (.goto 11, 3) := by decide +kernel
theorem dX9_worm_219 : decode cX9_worm 219 = .ok (.sipush (-1000), 3) := by decide +kernel
theorem dX9_worm_222 : decode cX9_worm 222 = .ok (.goto 5, 3) := by decide +kernel
theorem dX9_worm_225 : decode cX9_worm 225 = .ok (.iload 8, 2) := by decide +kernel
theorem dX9_worm_227 : decode cX9_worm 227 = .ok (.istore 4, 2) := by decide +kernel
theorem dX9_worm_229 : decode cX9_worm 229 = .ok (.aload_n 0, 1) := by decide +kernel
theorem dX9_worm_230 : decode cX9_worm 230 = .ok (.getfield 41, 3) := by decide +kernel
theorem dX9_worm_233 : decode cX9_worm 233 = .ok (.iload 5, 2) := by decide +kernel
theorem dX9_worm_235 : decode cX9_worm 235 = .ok (.iaload, 1) := by decide +kernel
theorem dX9_worm_236 : decode cX9_worm 236 = .ok (.iconst 1, 1) := by decide +kernel
theorem dX9_worm_237 : decode cX9_worm 237 = .ok (.if_icmp .ne 20, 3) := by decide +kernel
theorem dX9_worm_240 : decode cX9_worm 240 = .ok (.iload_n 2, 1) := by decide +kernel
theorem dX9_worm_241 : decode cX9_worm 241 = .ok (.iconst 2, 1) := by decide +kernel
theorem dX9_worm_242 : decode cX9_worm 242 = .ok (.if_icmp .ne 9, 3) := by decide +kernel
theorem dX9_worm_245 : decode cX9_worm 245 = .ok (.sipush 1000, 3) := by decide +kernel
theorem dX9_worm_248 : decode cX9_worm 248 = .ok (.goto 11, 3) := by decide +kernel
theorem dX9_worm_251 : decode cX9_worm 251 = .ok (.sipush (-1000), 3) := by decide +kernel
theorem dX9_worm_254 : decode cX9_worm 254 = .ok (.goto 5, 3) := by decide +kernel
theorem dX9_worm_257 : decode cX9_worm 257 = .ok (.iload 9, 2) := by decide +kernel
theorem dX9_worm_259 : decode cX9_worm 259 = .ok (.istore_n 3, 1) := by decide +kernel
theorem dX9_worm_260 : decode cX9_worm 260 = .ok (.iinc 5 1, 3) := by decide +kernel
theorem dX9_worm_263 : decode cX9_worm 263 = .ok (.goto (-152), 3) := by decide +kernel
theorem dX9_worm_266 : decode cX9_worm 266 = .ok (.iload_n 2, 1) := by decide +kernel
theorem dX9_worm_267 : decode cX9_worm 267 = .ok (.iconst 2, 1) := by decide +kernel
theorem dX9_worm_268 : decode cX9_worm 268 = .ok (.if_icmp .ne 18, 3) := by decide +kernel
theorem dX9_worm_271 : decode cX9_worm 271 = .ok (.iload_n 3, 1) := by decide +kernel
theorem dX9_worm_272 : decode cX9_worm 272 = .ok (.iload 4, 2) := by decide +kernel
theorem dX9_worm_274 : decode cX9_worm 274 = .ok (.if_icmp .ge 7, 3) := by decide +kernel
theorem dX9_worm_277 : decode cX9_worm 277 = .ok (.iload_n 3, 1) := by decide +kernel
theorem dX9_worm_278 : decode cX9_worm 278 = .ok (.goto 20, 3) := by decide +kernel
theorem dX9_worm_281 : decode cX9_worm 281 = .ok (.iload 4, 2) := by decide +kernel
theorem dX9_worm_283 : decode cX9_worm 283 = .ok (.goto 15, 3) := by decide +kernel
theorem dX9_worm_286 : decode cX9_worm 286 = .ok (.iload_n 3, 1) := by decide +kernel
theorem dX9_worm_287 : decode cX9_worm 287 = .ok (.iload 4, 2) := by decide +kernel
theorem dX9_worm_289 : decode cX9_worm 289 = .ok (.if_icmp .le 7, 3) := by decide +kernel
theorem dX9_worm_292 : decode cX9_worm 292 = .ok (.iload_n 3, 1) := by decide +kernel
theorem dX9_worm_293 : decode cX9_worm 293 = .ok (.goto 5, 3) := by decide +kernel
theorem dX9_worm_296 : decode cX9_worm 296 = .ok (.iload 4, 2) := by decide +kernel
theorem dX9_worm_298 : decode cX9_worm 298 = .ok (.ireturn, 1) := by decide +kernel
theorem dX9_book_0 : decode cX9_book 0 = .ok (.aload_n 0, 1) := by decide +kernel
theorem dX9_book_1 : decode cX9_book 1 = .ok (.iconst 0, 1) := by decide +kernel
theorem dX9_book_2 : decode cX9_book 2 = .ok (.putfield 1, 3) := by decide +kernel
theorem dX9_book_5 : decode cX9_book 5 = .ok (.iload_n 1, 1) := by decide +kernel
theorem dX9_book_6 : decode cX9_book 6 = .ok (.tableswitch 131 0 5 #[38, 46, 54, 62, 70, 124], 38) := by decide +kernel
theorem dX9_book_44 : decode cX9_book 44 = .ok (.aload_n 0, 1) := by decide +kernel
theorem dX9_book_45 : decode cX9_book 45 = .ok (.getfield 13, 3) := by decide +kernel
theorem dX9_book_48 : decode cX9_book 48 = .ok (.bipush 6, 2) := by decide +kernel
theorem dX9_book_50 : decode cX9_book 50 = .ok (.iaload, 1) := by decide +kernel
theorem dX9_book_51 : decode cX9_book 51 = .ok (.ireturn, 1) := by decide +kernel
theorem dX9_book_52 : decode cX9_book 52 = .ok (.aload_n 0, 1) := by decide +kernel
theorem dX9_book_53 : decode cX9_book 53 = .ok (.getfield 13, 3) := by decide +kernel
theorem dX9_book_56 : decode cX9_book 56 = .ok (.bipush 7, 2) := by decide +kernel
theorem dX9_book_58 : decode cX9_book 58 = .ok (.iaload, 1) := by decide +kernel
theorem dX9_book_59 : decode cX9_book 59 = .ok (.ireturn, 1) := by decide +kernel
theorem dX9_book_60 : decode cX9_book 60 = .ok (.aload_n 0, 1) := by decide +kernel
theorem dX9_book_61 : decode cX9_book 61 = .ok (.getfield 13, 3) := by decide +kernel
theorem dX9_book_64 : decode cX9_book 64 = .ok (.bipush 8, 2) := by decide +kernel
theorem dX9_book_66 : decode cX9_book 66 = .ok (.iaload, 1) := by decide +kernel
theorem dX9_book_67 : decode cX9_book 67 = .ok (.ireturn, 1) := by decide +kernel
theorem dX9_book_68 : decode cX9_book 68 = .ok (.aload_n 0, 1) := by decide +kernel
theorem dX9_book_69 : decode cX9_book 69 = .ok (.getfield 13, 3) := by decide +kernel
theorem dX9_book_72 : decode cX9_book 72 = .ok (.bipush 9, 2) := by decide +kernel
theorem dX9_book_74 : decode cX9_book 74 = .ok (.iaload, 1) := by decide +kernel
theorem dX9_book_75 : decode cX9_book 75 = .ok (.ireturn, 1) := by decide +kernel
theorem dX9_book_76 : decode cX9_book 76 = .ok (.iconst 0, 1) := by decide +kernel
theorem dX9_book_77 : decode cX9_book 77 = .ok (.istore_n 2, 1) := by decide +kernel
theorem dX9_book_78 : decode cX9_book 78 = .ok (.iconst 0, 1) := by decide +kernel
theorem dX9_book_79 : decode cX9_book 79 = .ok (.istore_n 3, 1) := by decide +kernel
theorem dX9_book_80 : decode cX9_book 80 = .ok (.iload_n 3, 1) := by decide +kernel
theorem dX9_book_81 : decode cX9_book 81 = .ok (.aload_n 0, 1) := by decide +kernel
theorem dX9_book_82 : decode cX9_book 82 = .ok (.getfield 13, 3) := by decide +kernel
theorem dX9_book_85 : decode cX9_book 85 = .ok (.bipush 12, 2) := by decide +kernel
theorem dX9_book_87 : decode cX9_book 87 = .ok (.iaload, 1) := by decide +kernel
theorem dX9_book_88 : decode cX9_book 88 = .ok (.if_icmp .ge 40, 3) := by decide +kernel
theorem dX9_book_91 : decode cX9_book 91 = .ok (.iload_n 2, 1) := by decide +kernel
theorem dX9_book_92 : decode cX9_book 92 = .ok (.aload_n 0, 1) := by decide +kernel
theorem dX9_book_93 : decode cX9_book 93 = .ok (.getfield 13, 3) := by decide +kernel
theorem dX9_book_96 : decode cX9_book 96 = .ok (.sipush 145, 3) := by decide +kernel
theorem dX9_book_99 : decode cX9_book 99 = .ok (.iload_n 3, 1) := by decide +kernel
theorem dX9_book_100 : decode cX9_book 100 = .ok (.iadd, 1) := by decide +kernel
theorem dX9_book_101 : decode cX9_book 101 = .ok (.iaload, 1) := by decide +kernel
theorem dX9_book_102 : decode cX9_book 102 = .ok (.iconst 2, 1) := by decide +kernel
theorem dX9_book_103 : decode cX9_book 103 = .ok (.if_icmp .ne 16, 3) := by decide +kernel
theorem dX9_book_106 : decode cX9_book 106 = .ok (.aload_n 0, 1) := by decide +kernel
theorem dX9_book_107 : decode cX9_book 107 = .ok (.getfield 13, 3) := by decide +kernel
theorem dX9_book_110 : decode cX9_book 110 = .ok (.sipush 133, 3) := by decide +kernel
theorem dX9_book_113 : decode cX9_book 113 = .ok (.iload_n 3, 1) := by decide +kernel
theorem dX9_book_114 : decode cX9_book 114 = .ok (.iadd, 1) := by decide +kernel
theorem dX9_book_115 : decode cX9_book 115 = .ok (.iaload, 1) := by decide +kernel
theorem dX9_book_116 : decode cX9_book 116 = .ok (.goto 4, 3) := by decide +kernel
theorem dX9_book_119 : decode cX9_book 119 = .ok (.iconst 0, 1) := by decide +kernel
theorem dX9_book_120 : decode cX9_book 120 = .ok (.iadd, 1) := by decide +kernel
theorem dX9_book_121 : decode cX9_book 121 = .ok (.istore_n 2, 1) := by decide +kernel
theorem dX9_book_122 : decode cX9_book 122 = .ok (.iinc 3 1, 3) := by decide +kernel
theorem dX9_book_125 : decode cX9_book 125 = .ok (.goto (-45), 3) := by decide +kernel
theorem dX9_book_128 : decode cX9_book 128 = .ok (.iload_n 2, 1) := by decide +kernel
theorem dX9_book_129 : decode cX9_book 129 = .ok (.ireturn, 1) := by decide +kernel
theorem dX9_book_130 : decode cX9_book 130 = .ok (.aload_n 0, 1) := by decide +kernel
theorem dX9_book_131 : decode cX9_book 131 = .ok (.getfield 13, 3) := by decide +kernel
theorem dX9_book_134 : decode cX9_book 134 = .ok (.iconst 5, 1) := by decide +kernel
theorem dX9_book_135 : decode cX9_book 135 = .ok (.iaload, 1) := by decide +kernel
theorem dX9_book_136 : decode cX9_book 136 = .ok (.ireturn, 1) := by decide +kernel
theorem dX9_book_137 : decode cX9_book 137 = .ok (.iconst (-1), 1) := by decide +kernel
theorem dX9_book_138 : decode cX9_book 138 = .ok (.ireturn, 1) := by decide +kernel
theorem dX9_keep_0 : decode cX9_keep 0 = .ok (.aload_n 0, 1) := by decide +kernel
theorem dX9_keep_1 : decode cX9_keep 1 = .ok (.iconst 0, 1) := by decide +kernel
theorem dX9_keep_2 : decode cX9_keep 2 = .ok (.putfield 1, 3) := by decide +kernel
theorem dX9_keep_5 : decode cX9_keep 5 = .ok (.aload_n 0, 1) := by decide +kernel
theorem dX9_keep_6 : decode cX9_keep 6 = .ok (.getfield 181, 3) := by decide +kernel
theorem dX9_keep_9 : decode cX9_keep 9 = .ok (.iconst 3, 1) := by decide +kernel
theorem dX9_keep_10 : decode cX9_keep 10 = .ok (.if_icmp .ne 6, 3) := by decide +kernel
theorem dX9_keep_13 : decode cX9_keep 13 = .ok (.bipush (-3), 2) := by decide +kernel
theorem dX9_keep_15 : decode cX9_keep 15 = .ok (.ireturn, 1) := by decide +kernel
theorem dX9_keep_16 : decode cX9_keep 16 = .ok (.iconst 0, 1) := by decide +kernel
theorem dX9_keep_17 : decode cX9_keep 17 = .ok (.istore_n 1, 1) := by decide +kernel
theorem dX9_keep_18 : decode cX9_keep 18 = .ok (.iload_n 1, 1) := by decide +kernel
theorem dX9_keep_19 : decode cX9_keep 19 = .ok (.sipush 169, 3) := by decide +kernel
theorem dX9_keep_22 : decode cX9_keep 22 = .ok (.if_icmp .ge 30, 3) := by decide +kernel
theorem dX9_keep_25 : decode cX9_keep 25 = .ok (.aload_n 0, 1) := by decide +kernel
theorem dX9_keep_26 : decode cX9_keep 26 = .ok (.getfield 20, 3) := by decide +kernel
theorem dX9_keep_29 : decode cX9_keep 29 = .ok (.sipush 169, 3) := by decide +kernel
theorem dX9_keep_32 : decode cX9_keep 32 = .ok (.aload_n 0, 1) := by decide +kernel
theorem dX9_keep_33 : decode cX9_keep 33 = .ok (.getfield 181, 3) := by decide +kernel
theorem dX9_keep_36 : decode cX9_keep 36 = .ok (.imul, 1) := by decide +kernel
theorem dX9_keep_37 : decode cX9_keep 37 = .ok (.iload_n 1, 1) := by decide +kernel
theorem dX9_keep_38 : decode cX9_keep 38 = .ok (.iadd, 1) := by decide +kernel
theorem dX9_keep_39 : decode cX9_keep 39 = .ok (.aload_n 0, 1) := by decide +kernel
theorem dX9_keep_40 : decode cX9_keep 40 = .ok (.getfield 13, 3) := by decide +kernel
theorem dX9_keep_43 : decode cX9_keep 43 = .ok (.iload_n 1, 1) := by decide +kernel
theorem dX9_keep_44 : decode cX9_keep 44 = .ok (.iaload, 1) := by decide +kernel
theorem dX9_keep_45 : decode cX9_keep 45 = .ok (.iastore, 1) := by decide +kernel
theorem dX9_keep_46 : decode cX9_keep 46 = .ok (.iinc 1 1, 3) := by decide +kernel
theorem dX9_keep_49 : decode cX9_keep 49 = .ok (.goto (-31), 3) := by decide +kernel
theorem dX9_keep_52 : decode cX9_keep 52 = .ok (.aload_n 0, 1) := by decide +kernel
theorem dX9_keep_53 : decode cX9_keep 53 = .ok (.dup, 1) := by decide +kernel
theorem dX9_keep_54 : decode cX9_keep 54 = .ok (.getfield 181, 3) := by decide +kernel
theorem dX9_keep_57 : decode cX9_keep 57 = .ok (.iconst 1, 1) := by decide +kernel
theorem dX9_keep_58 : decode cX9_keep 58 = .ok (.iadd, 1) := by decide +kernel
theorem dX9_keep_59 : decode cX9_keep 59 = .ok (.putfield 181, 3) := by decide +kernel
theorem dX9_keep_62 : decode cX9_keep 62 = .ok (.aload_n 0, 1) := by decide +kernel
theorem dX9_keep_63 : decode cX9_keep 63 = .ok (.getfield 181, 3) := by decide +kernel
theorem dX9_keep_66 : decode cX9_keep 66 = .ok (.ireturn, 1) := by decide +kernel
theorem dX9_back_0 : decode cX9_back 0 = .ok (.aload_n 0, 1) := by decide +kernel
theorem dX9_back_1 : decode cX9_back 1 = .ok (.iconst 0, 1) := by decide +kernel
theorem dX9_back_2 : decode cX9_back 2 = .ok (.putfield 1, 3) := by decide +kernel
theorem dX9_back_5 : decode cX9_back 5 = .ok (.aload_n 0, 1) := by decide +kernel
theorem dX9_back_6 : decode cX9_back 6 = .ok (.getfield 181, 3) := by decide +kernel
theorem dX9_back_9 : decode cX9_back 9 = .ok (.ifCond .ne 6, 3) := by decide +kernel
theorem dX9_back_12 : decode cX9_back 12 = .ok (.bipush (-2), 2) := by decide +kernel
theorem dX9_back_14 : decode cX9_back 14 = .ok (.ireturn, 1) := by decide +kernel
theorem dX9_back_15 : decode cX9_back 15 = .ok (.aload_n 0, 1) := by decide +kernel
theorem dX9_back_16 : decode cX9_back 16 = .ok (.dup, 1) := by decide +kernel
theorem dX9_back_17 : decode cX9_back 17 = .ok (.getfield 181, 3) := by decide +kernel
theorem dX9_back_20 : decode cX9_back 20 = .ok (.iconst 1, 1) := by decide +kernel
theorem dX9_back_21 : decode cX9_back 21 = .ok (.isub, 1) := by decide +kernel
theorem dX9_back_22 : decode cX9_back 22 = .ok (.putfield 181, 3) := by decide +kernel
theorem dX9_back_25 : decode cX9_back 25 = .ok (.iconst 0, 1) := by decide +kernel
theorem dX9_back_26 : decode cX9_back 26 = .ok (.istore_n 1, 1) := by decide +kernel
theorem dX9_back_27 : decode cX9_back 27 = .ok (.iload_n 1, 1) := by decide +kernel
theorem dX9_back_28 : decode cX9_back 28 = .ok (.sipush 169, 3) := by decide +kernel
theorem dX9_back_31 : decode cX9_back 31 = .ok (.if_icmp .ge 30, 3) := by decide +kernel
theorem dX9_back_34 : decode cX9_back 34 = .ok (.aload_n 0, 1) := by decide +kernel
theorem dX9_back_35 : decode cX9_back 35 = .ok (.getfield 13, 3) := by decide +kernel
theorem dX9_back_38 : decode cX9_back 38 = .ok (.iload_n 1, 1) := by decide +kernel
theorem dX9_back_39 : decode cX9_back 39 = .ok (.aload_n 0, 1) := by decide +kernel
theorem dX9_back_40 : decode cX9_back 40 = .ok (.getfield 20, 3) := by decide +kernel
theorem dX9_back_43 : decode cX9_back 43 = .ok (.sipush 169, 3) := by decide +kernel
theorem dX9_back_46 : decode cX9_back 46 = .ok (.aload_n 0, 1) := by decide +kernel
theorem dX9_back_47 : decode cX9_back 47 = .ok (.getfield 181, 3) := by decide +kernel
theorem dX9_back_50 : decode cX9_back 50 = .ok (.imul, 1) := by decide +kernel
theorem dX9_back_51 : decode cX9_back 51 = .ok (.iload_n 1, 1) := by decide +kernel
theorem dX9_back_52 : decode cX9_back 52 = .ok (.iadd, 1) := by decide +kernel
theorem dX9_back_53 : decode cX9_back 53 = .ok (.iaload, 1) := by decide +kernel
theorem dX9_back_54 : decode cX9_back 54 = .ok (.iastore, 1) := by decide +kernel
theorem dX9_back_55 : decode cX9_back 55 = .ok (.iinc 1 1, 3) := by decide +kernel
theorem dX9_back_58 : decode cX9_back 58 = .ok (.goto (-31), 3) := by decide +kernel
theorem dX9_back_61 : decode cX9_back 61 = .ok (.aload_n 0, 1) := by decide +kernel
theorem dX9_back_62 : decode cX9_back 62 = .ok (.getfield 181, 3) := by decide +kernel
theorem dX9_back_65 : decode cX9_back 65 = .ok (.ireturn, 1) := by decide +kernel
set_option maxRecDepth 20000 in
theorem ggX9_count_X9_wholes : GoodIn wsX9_count wsX9_wholes := goodIn_r _ [8, 2, 13, 14, 15, 16, 17, 18, 19, 20, 21, 22, 23, 24, 25, 26, 27, 28, 29, 30, 31] (by decide +kernel) (by decide +kernel)
set_option maxRecDepth 20000 in
theorem gX9_count_X9_wholes : GoodIn wsX9_count (wsV RX9 82 RX9 yX9_wholes wsX9_wholes) := goodIn_app (goodIn_of _ (by decide +kernel)) ggX9_count_X9_wholes
set_option maxRecDepth 20000 in
theorem ggX9_count_X9_states : GoodIn wsX9_count wsX9_states := goodIn_r _ [12, 2, 13, 14, 15, 16, 17, 18, 19, 20, 21, 22, 23, 24, 25, 26, 27, 28, 29, 30, 31] (by decide +kernel) (by decide +kernel)
set_option maxRecDepth 20000 in
theorem gX9_count_X9_states : GoodIn wsX9_count (wsV RX9 109 RX9 yX9_states wsX9_states) := goodIn_app (goodIn_of _ (by decide +kernel)) ggX9_count_X9_states
theorem dX9_count_0 : decode cX9_count 0 = .ok (.aload_n 0, 1) := by decide +kernel
theorem dX9_count_1 : decode cX9_count 1 = .ok (.iconst 0, 1) := by decide +kernel
theorem dX9_count_2 : decode cX9_count 2 = .ok (.putfield 1, 3) := by decide +kernel
theorem dX9_count_5 : decode cX9_count 5 = .ok (.iconst 0, 1) := by decide +kernel
theorem dX9_count_6 : decode cX9_count 6 = .ok (.istore_n 2, 1) := by decide +kernel
theorem dX9_count_7 : decode cX9_count 7 = .ok (.iload_n 1, 1) := by decide +kernel
theorem dX9_count_8 : decode cX9_count 8 = .ok (.tableswitch 138 0 8 #[52, 60, 93, 101, 106, 114, 120, 126, 133], 52) := by decide +kernel
theorem dX9_count_60 : decode cX9_count 60 = .ok (.aload_n 0, 1) := by decide +kernel
theorem dX9_count_61 : decode cX9_count 61 = .ok (.getfield 13, 3) := by decide +kernel
theorem dX9_count_64 : decode cX9_count 64 = .ok (.bipush 10, 2) := by decide +kernel
theorem dX9_count_66 : decode cX9_count 66 = .ok (.iaload, 1) := by decide +kernel
theorem dX9_count_67 : decode cX9_count 67 = .ok (.ireturn, 1) := by decide +kernel
theorem dX9_count_68 : decode cX9_count 68 = .ok (.iconst 0, 1) := by decide +kernel
theorem dX9_count_69 : decode cX9_count 69 = .ok (.istore_n 3, 1) := by decide +kernel
theorem dX9_count_70 : decode cX9_count 70 = .ok (.iload_n 3, 1) := by decide +kernel
theorem dX9_count_71 : decode cX9_count 71 = .ok (.aload_n 0, 1) := by decide +kernel
theorem dX9_count_72 : decode cX9_count 72 = .ok (.getfield 13, 3) := by decide +kernel
theorem dX9_count_75 : decode cX9_count 75 = .ok (.bipush 10, 2) := by decide +kernel
theorem dX9_count_77 : decode cX9_count 77 = .ok (.iaload, 1) := by decide +kernel
theorem dX9_count_78 : decode cX9_count 78 = .ok (.if_icmp .ge 21, 3) := by decide +kernel
theorem dX9_count_81 : decode cX9_count 81 = .ok (.iload_n 2, 1) := by decide +kernel
theorem dX9_count_82 : decode cX9_count 82 = .ok (.aload_n 0, 1) := by decide +kernel
theorem dX9_count_83 : decode cX9_count 83 = .ok (.getfield 13, 3) := by decide +kernel
theorem dX9_count_86 : decode cX9_count 86 = .ok (.bipush 37, 2) := by decide +kernel
theorem dX9_count_88 : decode cX9_count 88 = .ok (.iload_n 3, 1) := by decide +kernel
theorem dX9_count_89 : decode cX9_count 89 = .ok (.iadd, 1) := by decide +kernel
theorem dX9_count_90 : decode cX9_count 90 = .ok (.iaload, 1) := by decide +kernel
theorem dX9_count_91 : decode cX9_count 91 = .ok (.iadd, 1) := by decide +kernel
theorem dX9_count_92 : decode cX9_count 92 = .ok (.istore_n 2, 1) := by decide +kernel
theorem dX9_count_93 : decode cX9_count 93 = .ok (.iinc 3 1, 3) := by decide +kernel
theorem dX9_count_96 : decode cX9_count 96 = .ok (.goto (-26), 3) := by decide +kernel
theorem dX9_count_99 : decode cX9_count 99 = .ok (.iload_n 2, 1) := by decide +kernel
theorem dX9_count_100 : decode cX9_count 100 = .ok (.ireturn, 1) := by decide +kernel
theorem dX9_count_101 : decode cX9_count 101 = .ok (.aload_n 0, 1) := by decide +kernel
theorem dX9_count_102 : decode cX9_count 102 = .ok (.getfield 13, 3) := by decide +kernel
theorem dX9_count_105 : decode cX9_count 105 = .ok (.bipush 11, 2) := by decide +kernel
theorem dX9_count_107 : decode cX9_count 107 = .ok (.iaload, 1) := by decide +kernel
theorem dX9_count_108 : decode cX9_count 108 = .ok (.ireturn, 1) := by decide +kernel
theorem dX9_count_109 : decode cX9_count 109 = .ok (.aload_n 0, 1) := by decide +kernel
theorem dX9_count_110 : decode cX9_count 110 = .ok (.invokevirtual 82, 3) := by decide +kernel
theorem dX9_count_113 : decode cX9_count 113 = .ok (.ireturn, 1) := by decide +kernel
theorem dX9_count_114 : decode cX9_count 114 = .ok (.aload_n 0, 1) := by decide +kernel
theorem dX9_count_115 : decode cX9_count 115 = .ok (.getfield 13, 3) := by decide +kernel
theorem dX9_count_118 : decode cX9_count 118 = .ok (.bipush 12, 2) := by decide +kernel
theorem dX9_count_120 : decode cX9_count 120 = .ok (.iaload, 1) := by decide +kernel
theorem dX9_count_121 : decode cX9_count 121 = .ok (.ireturn, 1) := by decide +kernel
theorem dX9_count_122 : decode cX9_count 122 = .ok (.aload_n 0, 1) := by decide +kernel
theorem dX9_count_123 : decode cX9_count 123 = .ok (.iconst 1, 1) := by decide +kernel
theorem dX9_count_124 : decode cX9_count 124 = .ok (.invokevirtual 109, 3) := by decide +kernel
theorem dX9_count_127 : decode cX9_count 127 = .ok (.ireturn, 1) := by decide +kernel
theorem dX9_count_128 : decode cX9_count 128 = .ok (.aload_n 0, 1) := by decide +kernel
theorem dX9_count_129 : decode cX9_count 129 = .ok (.iconst 2, 1) := by decide +kernel
theorem dX9_count_130 : decode cX9_count 130 = .ok (.invokevirtual 109, 3) := by decide +kernel
theorem dX9_count_133 : decode cX9_count 133 = .ok (.ireturn, 1) := by decide +kernel
theorem dX9_count_134 : decode cX9_count 134 = .ok (.aload_n 0, 1) := by decide +kernel
theorem dX9_count_135 : decode cX9_count 135 = .ok (.getfield 13, 3) := by decide +kernel
theorem dX9_count_138 : decode cX9_count 138 = .ok (.iconst 0, 1) := by decide +kernel
theorem dX9_count_139 : decode cX9_count 139 = .ok (.iaload, 1) := by decide +kernel
theorem dX9_count_140 : decode cX9_count 140 = .ok (.ireturn, 1) := by decide +kernel
theorem dX9_count_141 : decode cX9_count 141 = .ok (.aload_n 0, 1) := by decide +kernel
theorem dX9_count_142 : decode cX9_count 142 = .ok (.getfield 181, 3) := by decide +kernel
theorem dX9_count_145 : decode cX9_count 145 = .ok (.ireturn, 1) := by decide +kernel
theorem dX9_count_146 : decode cX9_count 146 = .ok (.iconst (-1), 1) := by decide +kernel
theorem dX9_count_147 : decode cX9_count 147 = .ok (.ireturn, 1) := by decide +kernel
