set_option maxRecDepth 20000 in
theorem ggX9_pass_X9_rains : GoodIn wsX9_pass wsX9_rains := goodIn_r _ [7, 8, 57, 58, 59, 60, 61, 62, 63, 64, 65, 66, 67, 68, 69, 70, 71, 72, 73, 74, 75] (by decide +kernel) (by decide +kernel)
set_option maxRecDepth 20000 in
theorem gX9_pass_X9_rains : GoodIn wsX9_pass (wsV RX9 116 RX9 yX9_rains wsX9_rains) := goodIn_app (goodIn_of _ (by decide +kernel)) ggX9_pass_X9_rains
set_option maxRecDepth 20000 in
theorem ggX9_pass_X9_isBare : GoodIn wsX9_pass wsX9_isBare := goodIn_r _ [12, 1, 13, 14, 15, 6, 16, 17, 57, 58, 59, 60, 61, 62, 63, 64, 65, 66, 67, 68, 69, 70, 71, 72, 73, 74, 75] (by decide +kernel) (by decide +kernel)
set_option maxRecDepth 20000 in
theorem gX9_pass_X9_isBare : GoodIn wsX9_pass (wsV RX9 129 RX9 yX9_isBare wsX9_isBare) := goodIn_app (goodIn_of _ (by decide +kernel)) ggX9_pass_X9_isBare
set_option maxRecDepth 20000 in
theorem ggX9_pass_X9_holds : GoodIn wsX9_pass wsX9_holds := goodIn_r _ [21, 1, 2, 22, 23, 24, 6, 25, 26, 27, 28, 29, 30, 31, 32, 33, 34, 35, 36, 37, 38, 39, 40, 41, 42, 43, 44, 45, 46, 47, 48, 49, 50, 51, 52, 57, 58, 59, 60, 61, 62, 63, 64, 65, 66, 67, 68, 69, 70, 71, 72, 73, 74, 75] (by decide +kernel) (by decide +kernel)
set_option maxRecDepth 20000 in
theorem gX9_pass_X9_holds : GoodIn wsX9_pass (wsV RX9 119 RX9 yX9_holds wsX9_holds) := goodIn_app (goodIn_of _ (by decide +kernel)) ggX9_pass_X9_holds
set_option maxRecDepth 20000 in
theorem ggX9_pass_X9_part : GoodIn wsX9_pass wsX9_part := goodIn_r _ [56, 1, 2, 34, 35, 36, 6, 37, 38, 39, 40, 41, 22, 23, 24, 25, 26, 27, 28, 29, 30, 31, 32, 33, 42, 43, 44, 45, 46, 47, 48, 49, 50, 51, 52, 57, 58, 59, 60, 61, 62, 63, 64, 65, 66, 67, 68, 69, 70, 71, 72, 73, 74, 75] (by decide +kernel) (by decide +kernel)
set_option maxRecDepth 20000 in
theorem gX9_pass_X9_part : GoodIn wsX9_pass (wsV RX9 136 RX9 yX9_part wsX9_part) := goodIn_app (goodIn_of _ (by decide +kernel)) ggX9_pass_X9_part
theorem dX9_pass_0 : decode cX9_pass 0 = .ok (.aload_n 0, 1) := by decide +kernel
theorem dX9_pass_1 : decode cX9_pass 1 = .ok (.aload_n 0, 1) := by decide +kernel
theorem dX9_pass_2 : decode cX9_pass 2 = .ok (.getfield 13, 3) := by decide +kernel
theorem dX9_pass_5 : decode cX9_pass 5 = .ok (.iconst 0, 1) := by decide +kernel
theorem dX9_pass_6 : decode cX9_pass 6 = .ok (.iaload, 1) := by decide +kernel
theorem dX9_pass_7 : decode cX9_pass 7 = .ok (.invokevirtual 116, 3) := by decide +kernel
theorem dX9_pass_10 : decode cX9_pass 10 = .ok (.istore_n 2, 1) := by decide +kernel
theorem dX9_pass_11 : decode cX9_pass 11 = .ok (.aload_n 0, 1) := by decide +kernel
theorem dX9_pass_12 : decode cX9_pass 12 = .ok (.getfield 29, 3) := by decide +kernel
theorem dX9_pass_15 : decode cX9_pass 15 = .ok (.iconst 3, 1) := by decide +kernel
theorem dX9_pass_16 : decode cX9_pass 16 = .ok (.iaload, 1) := by decide +kernel
theorem dX9_pass_17 : decode cX9_pass 17 = .ok (.istore_n 3, 1) := by decide +kernel
theorem dX9_pass_18 : decode cX9_pass 18 = .ok (.iconst 0, 1) := by decide +kernel
theorem dX9_pass_19 : decode cX9_pass 19 = .ok (.istore 4, 2) := by decide +kernel
theorem dX9_pass_21 : decode cX9_pass 21 = .ok (.iload 4, 2) := by decide +kernel
theorem dX9_pass_23 : decode cX9_pass 23 = .ok (.aload_n 0, 1) := by decide +kernel
theorem dX9_pass_24 : decode cX9_pass 24 = .ok (.getfield 13, 3) := by decide +kernel
theorem dX9_pass_27 : decode cX9_pass 27 = .ok (.bipush 12, 2) := by decide +kernel
theorem dX9_pass_29 : decode cX9_pass 29 = .ok (.iaload, 1) := by decide +kernel
theorem dX9_pass_30 : decode cX9_pass 30 = .ok (.if_icmp .ge 280, 3) := by decide +kernel
theorem dX9_pass_33 : decode cX9_pass 33 = .ok (.iload_n 1, 1) := by decide +kernel
theorem dX9_pass_34 : decode cX9_pass 34 = .ok (.iload 4, 2) := by decide +kernel
theorem dX9_pass_36 : decode cX9_pass 36 = .ok (.ishr, 1) := by decide +kernel
theorem dX9_pass_37 : decode cX9_pass 37 = .ok (.iconst 1, 1) := by decide +kernel
theorem dX9_pass_38 : decode cX9_pass 38 = .ok (.iand, 1) := by decide +kernel
theorem dX9_pass_39 : decode cX9_pass 39 = .ok (.iconst 1, 1) := by decide +kernel
theorem dX9_pass_40 : decode cX9_pass 40 = .ok (.if_icmp .ne 55, 3) := by decide +kernel
theorem dX9_pass_43 : decode cX9_pass 43 = .ok (.iload_n 2, 1) := by decide +kernel
theorem dX9_pass_44 : decode cX9_pass 44 = .ok (.ifCond .ne 51, 3) := by decide +kernel
theorem dX9_pass_47 : decode cX9_pass 47 = .ok (.aload_n 0, 1) := by decide +kernel
theorem dX9_pass_48 : decode cX9_pass 48 = .ok (.iload 4, 2) := by decide +kernel
theorem dX9_pass_50 : decode cX9_pass 50 = .ok (.aload_n 0, 1) := by decide +kernel
theorem dX9_pass_51 : decode cX9_pass 51 = .ok (.getfield 13, 3) := by decide +kernel
theorem dX9_pass_54 : decode cX9_pass 54 = .ok (.iconst 0, 1) := by decide +kernel
theorem dX9_pass_55 : decode cX9_pass 55 = .ok (.iaload, 1) := by decide +kernel
theorem dX9_pass_56 : decode cX9_pass 56 = .ok (.invokevirtual 129, 3) := by decide +kernel
theorem dX9_pass_59 : decode cX9_pass 59 = .ok (.ifCond .eq 36, 3) := by decide +kernel
theorem dX9_pass_62 : decode cX9_pass 62 = .ok (.aload_n 0, 1) := by decide +kernel
theorem dX9_pass_63 : decode cX9_pass 63 = .ok (.getfield 13, 3) := by decide +kernel
theorem dX9_pass_66 : decode cX9_pass 66 = .ok (.bipush 97, 2) := by decide +kernel
theorem dX9_pass_68 : decode cX9_pass 68 = .ok (.iload 4, 2) := by decide +kernel
theorem dX9_pass_70 : decode cX9_pass 70 = .ok (.iadd, 1) := by decide +kernel
theorem dX9_pass_71 : decode cX9_pass 71 = .ok (.iaload, 1) := by decide +kernel
theorem dX9_pass_72 : decode cX9_pass 72 = .ok (.iload_n 3, 1) := by decide +kernel
theorem dX9_pass_73 : decode cX9_pass 73 = .ok (.if_icmp .gt 22, 3) := by decide +kernel
theorem dX9_pass_76 : decode cX9_pass 76 = .ok (.aload_n 0, 1) := by decide +kernel
theorem dX9_pass_77 : decode cX9_pass 77 = .ok (.getfield 13, 3) := by decide +kernel
theorem dX9_pass_80 : decode cX9_pass 80 = .ok (.sipush 145, 3) := by decide +kernel
theorem dX9_pass_83 : decode cX9_pass 83 = .ok (.iload 4, 2) := by decide +kernel
theorem dX9_pass_85 : decode cX9_pass 85 = .ok (.iadd, 1) := by decide +kernel
theorem dX9_pass_86 : decode cX9_pass 86 = .ok (.iaload, 1) := by decide +kernel
theorem dX9_pass_87 : decode cX9_pass 87 = .ok (.iconst 2, 1) := by decide +kernel
theorem dX9_pass_88 : decode cX9_pass 88 = .ok (.if_icmp .eq 7, 3) := by decide +kernel
theorem dX9_pass_91 : decode cX9_pass 91 = .ok (.iconst 1, 1) := by decide +kernel
theorem dX9_pass_92 : decode cX9_pass 92 = .ok (.goto 4, 3) := by decide +kernel
theorem dX9_pass_95 : decode cX9_pass 95 = .ok (.iconst 0, 1) := by decide +kernel
theorem dX9_pass_96 : decode cX9_pass 96 = .ok (.istore 5, 2) := by decide +kernel
theorem dX9_pass_98 : decode cX9_pass 98 = .ok (.iload 5, 2) := by decide +kernel
theorem dX9_pass_100 : decode cX9_pass 100 = .ok (.ifCond .eq 45, 3) := by decide +kernel
theorem dX9_pass_103 : decode cX9_pass 103 = .ok (.aload_n 0, 1) := by decide +kernel
theorem dX9_pass_104 : decode cX9_pass 104 = .ok (.getfield 13, 3) := by decide +kernel
theorem dX9_pass_107 : decode cX9_pass 107 = .ok (.sipush 145, 3) := by decide +kernel
theorem dX9_pass_110 : decode cX9_pass 110 = .ok (.iload 4, 2) := by decide +kernel
theorem dX9_pass_112 : decode cX9_pass 112 = .ok (.iadd, 1) := by decide +kernel
theorem dX9_pass_113 : decode cX9_pass 113 = .ok (.iaload, 1) := by decide +kernel
theorem dX9_pass_114 : decode cX9_pass 114 = .ok (.ifCond .ne 31, 3) := by decide +kernel
theorem dX9_pass_117 : decode cX9_pass 117 = .ok (.aload_n 0, 1) := by decide +kernel
theorem dX9_pass_118 : decode cX9_pass 118 = .ok (.getfield 13, 3) := by decide +kernel
theorem dX9_pass_121 : decode cX9_pass 121 = .ok (.sipush 145, 3) := by decide +kernel
theorem dX9_pass_124 : decode cX9_pass 124 = .ok (.iload 4, 2) := by decide +kernel
theorem dX9_pass_126 : decode cX9_pass 126 = .ok (.iadd, 1) := by decide +kernel
theorem dX9_pass_127 : decode cX9_pass 127 = .ok (.iconst 1, 1) := by decide +kernel
theorem dX9_pass_128 : decode cX9_pass 128 = .ok (.iastore, 1) := by decide +kernel
theorem dX9_pass_129 : decode cX9_pass 129 = .ok (.iload_n 3, 1) := by decide +kernel
theorem dX9_pass_130 : decode cX9_pass 130 = .ok (.aload_n 0, 1) := by decide +kernel
theorem dX9_pass_131 : decode cX9_pass 131 = .ok (.getfield 13, 3) := by decide +kernel
theorem dX9_pass_134 : decode cX9_pass 134 = .ok (.bipush 97, 2) := by decide +kernel
theorem dX9_pass_136 : decode cX9_pass 136 = .ok (.iload 4, 2) := by decide +kernel
theorem dX9_pass_138 : decode cX9_pass 138 = .ok (.iadd, 1) := by decide +kernel
theorem dX9_pass_139 : decode cX9_pass 139 = .ok (.iaload, 1) := by decide +kernel
theorem dX9_pass_140 : decode cX9_pass 140 = .ok (.isub, 1) := by decide +kernel
theorem dX9_pass_141 : decode cX9_pass 141 = .ok (.istore_n 3, 1) := by decide +kernel
theorem dX9_pass_142 : decode cX9_pass 142 = .ok (.goto 162, 3) := by decide +kernel
theorem dX9_pass_145 : decode cX9_pass 145 = .ok (.iload 5, 2) := by decide +kernel
theorem dX9_pass_147 : decode cX9_pass 147 = .ok (.ifCond .eq 157, 3) := by decide +kernel
theorem dX9_pass_150 : decode cX9_pass 150 = .ok (.aload_n 0, 1) := by decide +kernel
theorem dX9_pass_151 : decode cX9_pass 151 = .ok (.getfield 13, 3) := by decide +kernel
theorem dX9_pass_154 : decode cX9_pass 154 = .ok (.sipush 157, 3) := by decide +kernel
theorem dX9_pass_157 : decode cX9_pass 157 = .ok (.iload 4, 2) := by decide +kernel
theorem dX9_pass_159 : decode cX9_pass 159 = .ok (.iadd, 1) := by decide +kernel
theorem dX9_pass_160 : decode cX9_pass 160 = .ok (.iaload, 1) := by decide +kernel
theorem dX9_pass_161 : decode cX9_pass 161 = .ok (.ifCond .gt 22, 3) := by decide +kernel
theorem dX9_pass_164 : decode cX9_pass 164 = .ok (.aload_n 0, 1) := by decide +kernel
theorem dX9_pass_165 : decode cX9_pass 165 = .ok (.getfield 13, 3) := by decide +kernel
theorem dX9_pass_168 : decode cX9_pass 168 = .ok (.bipush 121, 2) := by decide +kernel
theorem dX9_pass_170 : decode cX9_pass 170 = .ok (.iload 4, 2) := by decide +kernel
theorem dX9_pass_172 : decode cX9_pass 172 = .ok (.iadd, 1) := by decide +kernel
theorem dX9_pass_173 : decode cX9_pass 173 = .ok (.iaload, 1) := by decide +kernel
theorem dX9_pass_174 : decode cX9_pass 174 = .ok (.aload_n 0, 1) := by decide +kernel
theorem dX9_pass_175 : decode cX9_pass 175 = .ok (.getfield 13, 3) := by decide +kernel
theorem dX9_pass_178 : decode cX9_pass 178 = .ok (.iconst 5, 1) := by decide +kernel
theorem dX9_pass_179 : decode cX9_pass 179 = .ok (.iaload, 1) := by decide +kernel
theorem dX9_pass_180 : decode cX9_pass 180 = .ok (.if_icmp .gt 124, 3) := by decide +kernel
theorem dX9_pass_183 : decode cX9_pass 183 = .ok (.aload_n 0, 1) := by decide +kernel
theorem dX9_pass_184 : decode cX9_pass 184 = .ok (.getfield 13, 3) := by decide +kernel
theorem dX9_pass_187 : decode cX9_pass 187 = .ok (.sipush 157, 3) := by decide +kernel
theorem dX9_pass_190 : decode cX9_pass 190 = .ok (.iload 4, 2) := by decide +kernel
theorem dX9_pass_192 : decode cX9_pass 192 = .ok (.iadd, 1) := by decide +kernel
theorem dX9_pass_193 : decode cX9_pass 193 = .ok (.iaload, 1) := by decide +kernel
theorem dX9_pass_194 : decode cX9_pass 194 = .ok (.ifCond .ne 42, 3) := by decide +kernel
theorem dX9_pass_197 : decode cX9_pass 197 = .ok (.aload_n 0, 1) := by decide +kernel
theorem dX9_pass_198 : decode cX9_pass 198 = .ok (.getfield 13, 3) := by decide +kernel
theorem dX9_pass_201 : decode cX9_pass 201 = .ok (.iconst 5, 1) := by decide +kernel
theorem dX9_pass_202 : decode cX9_pass 202 = .ok (.dup2, 1) := by decide +kernel
theorem dX9_pass_203 : decode cX9_pass 203 = .ok (.iaload, 1) := by decide +kernel
theorem dX9_pass_204 : decode cX9_pass 204 = .ok (.aload_n 0, 1) := by decide +kernel
theorem dX9_pass_205 : decode cX9_pass 205 = .ok (.getfield 13, 3) := by decide +kernel
theorem dX9_pass_208 : decode cX9_pass 208 = .ok (.bipush 121, 2) := by decide +kernel
theorem dX9_pass_210 : decode cX9_pass 210 = .ok (.iload 4, 2) := by decide +kernel
theorem dX9_pass_212 : decode cX9_pass 212 = .ok (.iadd, 1) := by decide +kernel
theorem dX9_pass_213 : decode cX9_pass 213 = .ok (.iaload, 1) := by decide +kernel
theorem dX9_pass_214 : decode cX9_pass 214 = .ok (.isub, 1) := by decide +kernel
theorem dX9_pass_215 : decode cX9_pass 215 = .ok (.iastore, 1) := by decide +kernel
theorem dX9_pass_216 : decode cX9_pass 216 = .ok (.aload_n 0, 1) := by decide +kernel
theorem dX9_pass_217 : decode cX9_pass 217 = .ok (.getfield 13, 3) := by decide +kernel
theorem dX9_pass_220 : decode cX9_pass 220 = .ok (.bipush 6, 2) := by decide +kernel
theorem dX9_pass_222 : decode cX9_pass 222 = .ok (.dup2, 1) := by decide +kernel
theorem dX9_pass_223 : decode cX9_pass 223 = .ok (.iaload, 1) := by decide +kernel
theorem dX9_pass_224 : decode cX9_pass 224 = .ok (.aload_n 0, 1) := by decide +kernel
theorem dX9_pass_225 : decode cX9_pass 225 = .ok (.getfield 13, 3) := by decide +kernel
theorem dX9_pass_228 : decode cX9_pass 228 = .ok (.bipush 121, 2) := by decide +kernel
theorem dX9_pass_230 : decode cX9_pass 230 = .ok (.iload 4, 2) := by decide +kernel
theorem dX9_pass_232 : decode cX9_pass 232 = .ok (.iadd, 1) := by decide +kernel
theorem dX9_pass_233 : decode cX9_pass 233 = .ok (.iaload, 1) := by decide +kernel
theorem dX9_pass_234 : decode cX9_pass 234 = .ok (.iadd, 1) := by decide +kernel
theorem dX9_pass_235 : decode cX9_pass 235 = .ok (.iastore, 1) := by decide +kernel
theorem dX9_pass_236 : decode cX9_pass 236 = .ok (.aload_n 0, 1) := by decide +kernel
theorem dX9_pass_237 : decode cX9_pass 237 = .ok (.getfield 13, 3) := by decide +kernel
theorem dX9_pass_240 : decode cX9_pass 240 = .ok (.sipush 157, 3) := by decide +kernel
theorem dX9_pass_243 : decode cX9_pass 243 = .ok (.iload 4, 2) := by decide +kernel
theorem dX9_pass_245 : decode cX9_pass 245 = .ok (.iadd, 1) := by decide +kernel
theorem dX9_pass_246 : decode cX9_pass 246 = .ok (.dup2, 1) := by decide +kernel
theorem dX9_pass_247 : decode cX9_pass 247 = .ok (.iaload, 1) := by decide +kernel
theorem dX9_pass_248 : decode cX9_pass 248 = .ok (.iconst 1, 1) := by decide +kernel
theorem dX9_pass_249 : decode cX9_pass 249 = .ok (.iadd, 1) := by decide +kernel
theorem dX9_pass_250 : decode cX9_pass 250 = .ok (.iastore, 1) := by decide +kernel
theorem dX9_pass_251 : decode cX9_pass 251 = .ok (.aload_n 0, 1) := by decide +kernel
theorem dX9_pass_252 : decode cX9_pass 252 = .ok (.getfield 13, 3) := by decide +kernel
theorem dX9_pass_255 : decode cX9_pass 255 = .ok (.sipush 145, 3) := by decide +kernel
theorem dX9_pass_258 : decode cX9_pass 258 = .ok (.iload 4, 2) := by decide +kernel
theorem dX9_pass_260 : decode cX9_pass 260 = .ok (.iadd, 1) := by decide +kernel
theorem dX9_pass_261 : decode cX9_pass 261 = .ok (.aload_n 0, 1) := by decide +kernel
theorem dX9_pass_262 : decode cX9_pass 262 = .ok (.getfield 13, 3) := by decide +kernel
theorem dX9_pass_265 : decode cX9_pass 265 = .ok (.sipush 157, 3) := by decide +kernel
theorem dX9_pass_268 : decode cX9_pass 268 = .ok (.iload 4, 2) := by decide +kernel
theorem dX9_pass_270 : decode cX9_pass 270 = .ok (.iadd, 1) := by decide +kernel
theorem dX9_pass_271 : decode cX9_pass 271 = .ok (.iaload, 1) := by decide +kernel
theorem dX9_pass_272 : decode cX9_pass 272 = .ok (.aload_n 0, 1) := by decide +kernel
theorem dX9_pass_273 : decode cX9_pass 273 = .ok (.getfield 13, 3) := by decide +kernel
theorem dX9_pass_276 : decode cX9_pass 276 = .ok (.bipush 109, 2) := by decide +kernel
theorem dX9_pass_278 : decode cX9_pass 278 = .ok (.iload 4, 2) := by decide +kernel
theorem dX9_pass_280 : decode cX9_pass 280 = .ok (.iadd, 1) := by decide +kernel
theorem dX9_pass_281 : decode cX9_pass 281 = .ok (.iaload, 1) := by decide +kernel
theorem dX9_pass_282 : decode cX9_pass 282 = .ok (.if_icmp .ne 7, 3) := by decide +kernel
theorem dX9_pass_285 : decode cX9_pass 285 = .ok (.iconst 2, 1) := by decide +kernel
theorem dX9_pass_286 : decode cX9_pass 286 = .ok (.goto 4, 3) := by decide +kernel
theorem dX9_pass_289 : decode cX9_pass 289 = .ok (.iconst 1, 1) := by decide +kernel
theorem dX9_pass_290 : decode cX9_pass 290 = .ok (.iastore, 1) := by decide +kernel
theorem dX9_pass_291 : decode cX9_pass 291 = .ok (.iload_n 3, 1) := by decide +kernel
theorem dX9_pass_292 : decode cX9_pass 292 = .ok (.aload_n 0, 1) := by decide +kernel
theorem dX9_pass_293 : decode cX9_pass 293 = .ok (.getfield 13, 3) := by decide +kernel
theorem dX9_pass_296 : decode cX9_pass 296 = .ok (.bipush 97, 2) := by decide +kernel
theorem dX9_pass_298 : decode cX9_pass 298 = .ok (.iload 4, 2) := by decide +kernel
theorem dX9_pass_300 : decode cX9_pass 300 = .ok (.iadd, 1) := by decide +kernel
theorem dX9_pass_301 : decode cX9_pass 301 = .ok (.iaload, 1) := by decide +kernel
theorem dX9_pass_302 : decode cX9_pass 302 = .ok (.isub, 1) := by decide +kernel
theorem dX9_pass_303 : decode cX9_pass 303 = .ok (.istore_n 3, 1) := by decide +kernel
theorem dX9_pass_304 : decode cX9_pass 304 = .ok (.iinc 4 1, 3) := by decide +kernel
theorem dX9_pass_307 : decode cX9_pass 307 = .ok (.goto (-286), 3) := by decide +kernel
theorem dX9_pass_310 : decode cX9_pass 310 = .ok (.aload_n 0, 1) := by decide +kernel
theorem dX9_pass_311 : decode cX9_pass 311 = .ok (.getfield 13, 3) := by decide +kernel
theorem dX9_pass_314 : decode cX9_pass 314 = .ok (.bipush 7, 2) := by decide +kernel
theorem dX9_pass_316 : decode cX9_pass 316 = .ok (.dup2, 1) := by decide +kernel
theorem dX9_pass_317 : decode cX9_pass 317 = .ok (.iaload, 1) := by decide +kernel
theorem dX9_pass_318 : decode cX9_pass 318 = .ok (.aload_n 0, 1) := by decide +kernel
theorem dX9_pass_319 : decode cX9_pass 319 = .ok (.getfield 29, 3) := by decide +kernel
theorem dX9_pass_322 : decode cX9_pass 322 = .ok (.iconst 3, 1) := by decide +kernel
theorem dX9_pass_323 : decode cX9_pass 323 = .ok (.iaload, 1) := by decide +kernel
theorem dX9_pass_324 : decode cX9_pass 324 = .ok (.iload_n 3, 1) := by decide +kernel
theorem dX9_pass_325 : decode cX9_pass 325 = .ok (.isub, 1) := by decide +kernel
theorem dX9_pass_326 : decode cX9_pass 326 = .ok (.iadd, 1) := by decide +kernel
theorem dX9_pass_327 : decode cX9_pass 327 = .ok (.iastore, 1) := by decide +kernel
theorem dX9_pass_328 : decode cX9_pass 328 = .ok (.iconst 0, 1) := by decide +kernel
theorem dX9_pass_329 : decode cX9_pass 329 = .ok (.istore 4, 2) := by decide +kernel
theorem dX9_pass_331 : decode cX9_pass 331 = .ok (.iconst 0, 1) := by decide +kernel
theorem dX9_pass_332 : decode cX9_pass 332 = .ok (.istore 5, 2) := by decide +kernel
theorem dX9_pass_334 : decode cX9_pass 334 = .ok (.iload 5, 2) := by decide +kernel
theorem dX9_pass_336 : decode cX9_pass 336 = .ok (.aload_n 0, 1) := by decide +kernel
theorem dX9_pass_337 : decode cX9_pass 337 = .ok (.getfield 13, 3) := by decide +kernel
theorem dX9_pass_340 : decode cX9_pass 340 = .ok (.bipush 12, 2) := by decide +kernel
theorem dX9_pass_342 : decode cX9_pass 342 = .ok (.iaload, 1) := by decide +kernel
theorem dX9_pass_343 : decode cX9_pass 343 = .ok (.if_icmp .ge 50, 3) := by decide +kernel
theorem dX9_pass_346 : decode cX9_pass 346 = .ok (.iload 4, 2) := by decide +kernel
theorem dX9_pass_348 : decode cX9_pass 348 = .ok (.aload_n 0, 1) := by decide +kernel
theorem dX9_pass_349 : decode cX9_pass 349 = .ok (.getfield 13, 3) := by decide +kernel
theorem dX9_pass_352 : decode cX9_pass 352 = .ok (.sipush 145, 3) := by decide +kernel
theorem dX9_pass_355 : decode cX9_pass 355 = .ok (.iload 5, 2) := by decide +kernel
theorem dX9_pass_357 : decode cX9_pass 357 = .ok (.iadd, 1) := by decide +kernel
theorem dX9_pass_358 : decode cX9_pass 358 = .ok (.iaload, 1) := by decide +kernel
theorem dX9_pass_359 : decode cX9_pass 359 = .ok (.iconst 1, 1) := by decide +kernel
theorem dX9_pass_360 : decode cX9_pass 360 = .ok (.if_icmp .ne 23, 3) := by decide +kernel
theorem dX9_pass_363 : decode cX9_pass 363 = .ok (.aload_n 0, 1) := by decide +kernel
theorem dX9_pass_364 : decode cX9_pass 364 = .ok (.iload 5, 2) := by decide +kernel
theorem dX9_pass_366 : decode cX9_pass 366 = .ok (.aload_n 0, 1) := by decide +kernel
theorem dX9_pass_367 : decode cX9_pass 367 = .ok (.getfield 13, 3) := by decide +kernel
theorem dX9_pass_370 : decode cX9_pass 370 = .ok (.iconst 0, 1) := by decide +kernel
theorem dX9_pass_371 : decode cX9_pass 371 = .ok (.iaload, 1) := by decide +kernel
theorem dX9_pass_372 : decode cX9_pass 372 = .ok (.invokevirtual 129, 3) := by decide +kernel
theorem dX9_pass_375 : decode cX9_pass 375 = .ok (.ifCond .ne 8, 3) := by decide +kernel
theorem dX9_pass_378 : decode cX9_pass 378 = .ok (.bipush 10, 2) := by decide +kernel
theorem dX9_pass_380 : decode cX9_pass 380 = .ok (.goto 4, 3) := by decide +kernel
theorem dX9_pass_383 : decode cX9_pass 383 = .ok (.iconst 0, 1) := by decide +kernel
theorem dX9_pass_384 : decode cX9_pass 384 = .ok (.iadd, 1) := by decide +kernel
theorem dX9_pass_385 : decode cX9_pass 385 = .ok (.istore 4, 2) := by decide +kernel
theorem dX9_pass_387 : decode cX9_pass 387 = .ok (.iinc 5 1, 3) := by decide +kernel
theorem dX9_pass_390 : decode cX9_pass 390 = .ok (.goto (-56), 3) := by decide +kernel
theorem dX9_pass_393 : decode cX9_pass 393 = .ok (.aload_n 0, 1) := by decide +kernel
theorem dX9_pass_394 : decode cX9_pass 394 = .ok (.getfield 13, 3) := by decide +kernel
theorem dX9_pass_397 : decode cX9_pass 397 = .ok (.iconst 2, 1) := by decide +kernel
theorem dX9_pass_398 : decode cX9_pass 398 = .ok (.dup2, 1) := by decide +kernel
theorem dX9_pass_399 : decode cX9_pass 399 = .ok (.iaload, 1) := by decide +kernel
theorem dX9_pass_400 : decode cX9_pass 400 = .ok (.iload 4, 2) := by decide +kernel
theorem dX9_pass_402 : decode cX9_pass 402 = .ok (.ifCond .le 8, 3) := by decide +kernel
theorem dX9_pass_405 : decode cX9_pass 405 = .ok (.iload 4, 2) := by decide +kernel
theorem dX9_pass_407 : decode cX9_pass 407 = .ok (.goto 25, 3) := by decide +kernel
theorem dX9_pass_410 : decode cX9_pass 410 = .ok (.aload_n 0, 1) := by decide +kernel
theorem dX9_pass_411 : decode cX9_pass 411 = .ok (.getfield 13, 3) := by decide +kernel
theorem dX9_pass_414 : decode cX9_pass 414 = .ok (.iconst 2, 1) := by decide +kernel
theorem dX9_pass_415 : decode cX9_pass 415 = .ok (.iaload, 1) := by decide +kernel
theorem dX9_pass_416 : decode cX9_pass 416 = .ok (.iconst 5, 1) := by decide +kernel
theorem dX9_pass_417 : decode cX9_pass 417 = .ok (.if_icmp .ge 13, 3) := by decide +kernel
theorem dX9_pass_420 : decode cX9_pass 420 = .ok (.aload_n 0, 1) := by decide +kernel
theorem dX9_pass_421 : decode cX9_pass 421 = .ok (.getfield 13, 3) := by decide +kernel
theorem dX9_pass_424 : decode cX9_pass 424 = .ok (.iconst 2, 1) := by decide +kernel
theorem dX9_pass_425 : decode cX9_pass 425 = .ok (.iaload, 1) := by decide +kernel
theorem dX9_pass_426 : decode cX9_pass 426 = .ok (.ineg, 1) := by decide +kernel
theorem dX9_pass_427 : decode cX9_pass 427 = .ok (.goto 5, 3) := by decide +kernel
theorem dX9_pass_430 : decode cX9_pass 430 = .ok (.bipush (-5), 2) := by decide +kernel
theorem dX9_pass_432 : decode cX9_pass 432 = .ok (.iadd, 1) := by decide +kernel
theorem dX9_pass_433 : decode cX9_pass 433 = .ok (.iastore, 1) := by decide +kernel
theorem dX9_pass_434 : decode cX9_pass 434 = .ok (.aload_n 0, 1) := by decide +kernel
theorem dX9_pass_435 : decode cX9_pass 435 = .ok (.aload_n 0, 1) := by decide +kernel
theorem dX9_pass_436 : decode cX9_pass 436 = .ok (.getfield 13, 3) := by decide +kernel
theorem dX9_pass_439 : decode cX9_pass 439 = .ok (.iconst 1, 1) := by decide +kernel
theorem dX9_pass_440 : decode cX9_pass 440 = .ok (.iaload, 1) := by decide +kernel
theorem dX9_pass_441 : decode cX9_pass 441 = .ok (.iload_n 2, 1) := by decide +kernel
theorem dX9_pass_442 : decode cX9_pass 442 = .ok (.invokevirtual 119, 3) := by decide +kernel
theorem dX9_pass_445 : decode cX9_pass 445 = .ok (.ifCond .ne 11, 3) := by decide +kernel
theorem dX9_pass_448 : decode cX9_pass 448 = .ok (.aload_n 0, 1) := by decide +kernel
theorem dX9_pass_449 : decode cX9_pass 449 = .ok (.iload_n 2, 1) := by decide +kernel
theorem dX9_pass_450 : decode cX9_pass 450 = .ok (.invokevirtual 136, 3) := by decide +kernel
theorem dX9_pass_453 : decode cX9_pass 453 = .ok (.goto (-19), 3) := by decide +kernel
theorem dX9_pass_456 : decode cX9_pass 456 = .ok (.aload_n 0, 1) := by decide +kernel
theorem dX9_pass_457 : decode cX9_pass 457 = .ok (.getfield 13, 3) := by decide +kernel
theorem dX9_pass_460 : decode cX9_pass 460 = .ok (.iconst 0, 1) := by decide +kernel
theorem dX9_pass_461 : decode cX9_pass 461 = .ok (.dup2, 1) := by decide +kernel
theorem dX9_pass_462 : decode cX9_pass 462 = .ok (.iaload, 1) := by decide +kernel
theorem dX9_pass_463 : decode cX9_pass 463 = .ok (.iconst 1, 1) := by decide +kernel
theorem dX9_pass_464 : decode cX9_pass 464 = .ok (.iadd, 1) := by decide +kernel
theorem dX9_pass_465 : decode cX9_pass 465 = .ok (.iastore, 1) := by decide +kernel
theorem dX9_pass_466 : decode cX9_pass 466 = .ok (.aload_n 0, 1) := by decide +kernel
theorem dX9_pass_467 : decode cX9_pass 467 = .ok (.getfield 13, 3) := by decide +kernel
theorem dX9_pass_470 : decode cX9_pass 470 = .ok (.iconst 3, 1) := by decide +kernel
theorem dX9_pass_471 : decode cX9_pass 471 = .ok (.iconst 0, 1) := by decide +kernel
theorem dX9_pass_472 : decode cX9_pass 472 = .ok (.iastore, 1) := by decide +kernel
theorem dX9_pass_473 : decode cX9_pass 473 = .ok (.aload_n 0, 1) := by decide +kernel
theorem dX9_pass_474 : decode cX9_pass 474 = .ok (.getfield 13, 3) := by decide +kernel
theorem dX9_pass_477 : decode cX9_pass 477 = .ok (.iconst 4, 1) := by decide +kernel
theorem dX9_pass_478 : decode cX9_pass 478 = .ok (.iconst 0, 1) := by decide +kernel
theorem dX9_pass_479 : decode cX9_pass 479 = .ok (.iastore, 1) := by decide +kernel
theorem dX9_pass_480 : decode cX9_pass 480 = .ok (.return_, 1) := by decide +kernel
set_option maxRecDepth 20000 in
theorem ggX9_hour_X9_in : GoodIn wsX9_hour wsX9_in := goodIn_r _ [6] (by decide +kernel) (by decide +kernel)
set_option maxRecDepth 20000 in
theorem gX9_hour_X9_in : GoodIn wsX9_hour (va_wsS RX9 46 yX9_in wsX9_in) := goodIn_app (goodIn_of _ (by decide +kernel)) ggX9_hour_X9_in
set_option maxRecDepth 20000 in
theorem ggX9_hour_X9_isLost : GoodIn wsX9_hour wsX9_isLost := goodIn_r _ [10, 2, 69, 70, 71, 72, 73, 74, 75, 76, 77, 78, 79, 80, 81, 82, 83, 84, 85, 86, 87] (by decide +kernel) (by decide +kernel)
set_option maxRecDepth 20000 in
theorem gX9_hour_X9_isLost : GoodIn wsX9_hour (wsV RX9 123 RX9 yX9_isLost wsX9_isLost) := goodIn_app (goodIn_of _ (by decide +kernel)) ggX9_hour_X9_isLost
set_option maxRecDepth 20000 in
theorem ggX9_hour_X9_pass : GoodIn wsX9_hour wsX9_pass := goodIn_r _ [14, 2, 15, 16, 17, 18, 5, 19, 20, 21, 22, 23, 24, 25, 26, 27, 28, 29, 30, 31, 32, 33, 34, 35, 36, 37, 38, 39, 40, 41, 42, 43, 44, 45, 46, 47, 48, 49, 50, 51, 52, 53, 54, 55, 56, 57, 58, 59, 60, 61, 62, 63, 64, 65, 66, 67, 68, 69, 70, 71, 72, 73, 74, 75, 76, 77, 78, 79, 80, 81, 82, 83, 84, 85, 86, 87] (by decide +kernel) (by decide +kernel)
set_option maxRecDepth 20000 in
theorem gX9_hour_X9_pass : GoodIn wsX9_hour (wsV RX9 140 RX9 yX9_pass wsX9_pass) := goodIn_app (goodIn_of _ (by decide +kernel)) ggX9_hour_X9_pass
theorem dX9_hour_0 : decode cX9_hour 0 = .ok (.aload_n 0, 1) := by decide +kernel
theorem dX9_hour_1 : decode cX9_hour 1 = .ok (.iconst 0, 1) := by decide +kernel
theorem dX9_hour_2 : decode cX9_hour 2 = .ok (.putfield 1, 3) := by decide +kernel
theorem dX9_hour_5 : decode cX9_hour 5 = .ok (.iload_n 1, 1) := by decide +kernel
theorem dX9_hour_6 : decode cX9_hour 6 = .ok (.i2l, 1) := by decide +kernel
theorem dX9_hour_7 : decode cX9_hour 7 = .ok (.lconst 0, 1) := by decide +kernel
theorem dX9_hour_8 : decode cX9_hour 8 = .ok (.iconst 1, 1) := by decide +kernel
theorem dX9_hour_9 : decode cX9_hour 9 = .ok (.aload_n 0, 1) := by decide +kernel
theorem dX9_hour_10 : decode cX9_hour 10 = .ok (.getfield 13, 3) := by decide +kernel
theorem dX9_hour_13 : decode cX9_hour 13 = .ok (.bipush 12, 2) := by decide +kernel
theorem dX9_hour_15 : decode cX9_hour 15 = .ok (.iaload, 1) := by decide +kernel
theorem dX9_hour_16 : decode cX9_hour 16 = .ok (.ishl, 1) := by decide +kernel
theorem dX9_hour_17 : decode cX9_hour 17 = .ok (.iconst 1, 1) := by decide +kernel
theorem dX9_hour_18 : decode cX9_hour 18 = .ok (.isub, 1) := by decide +kernel
theorem dX9_hour_19 : decode cX9_hour 19 = .ok (.i2l, 1) := by decide +kernel
theorem dX9_hour_20 : decode cX9_hour 20 = .ok (.invokestatic 46, 3) := by decide +kernel
theorem dX9_hour_23 : decode cX9_hour 23 = .ok (.ifCond .ne 5, 3) := by decide +kernel
theorem dX9_hour_26 : decode cX9_hour 26 = .ok (.iconst (-1), 1) := by decide +kernel
theorem dX9_hour_27 : decode cX9_hour 27 = .ok (.ireturn, 1) := by decide +kernel
theorem dX9_hour_28 : decode cX9_hour 28 = .ok (.aload_n 0, 1) := by decide +kernel
theorem dX9_hour_29 : decode cX9_hour 29 = .ok (.invokevirtual 123, 3) := by decide +kernel
theorem dX9_hour_32 : decode cX9_hour 32 = .ok (.ifCond .ne 14, 3) := by decide +kernel
theorem dX9_hour_35 : decode cX9_hour 35 = .ok (.aload_n 0, 1) := by decide +kernel
theorem dX9_hour_36 : decode cX9_hour 36 = .ok (.getfield 13, 3) := by decide +kernel
theorem dX9_hour_39 : decode cX9_hour 39 = .ok (.iconst 0, 1) := by decide +kernel
theorem dX9_hour_40 : decode cX9_hour 40 = .ok (.iaload, 1) := by decide +kernel
theorem dX9_hour_41 : decode cX9_hour 41 = .ok (.bipush 95, 2) := by decide +kernel
theorem dX9_hour_43 : decode cX9_hour 43 = .ok (.if_icmp .le 6, 3) := by decide +kernel
theorem dX9_hour_46 : decode cX9_hour 46 = .ok (.bipush (-2), 2) := by decide +kernel
theorem dX9_hour_48 : decode cX9_hour 48 = .ok (.ireturn, 1) := by decide +kernel
theorem dX9_hour_49 : decode cX9_hour 49 = .ok (.aload_n 0, 1) := by decide +kernel
theorem dX9_hour_50 : decode cX9_hour 50 = .ok (.iload_n 1, 1) := by decide +kernel
theorem dX9_hour_51 : decode cX9_hour 51 = .ok (.invokevirtual 140, 3) := by decide +kernel
theorem dX9_hour_54 : decode cX9_hour 54 = .ok (.aload_n 0, 1) := by decide +kernel
theorem dX9_hour_55 : decode cX9_hour 55 = .ok (.getfield 13, 3) := by decide +kernel
theorem dX9_hour_58 : decode cX9_hour 58 = .ok (.iconst 2, 1) := by decide +kernel
theorem dX9_hour_59 : decode cX9_hour 59 = .ok (.iaload, 1) := by decide +kernel
theorem dX9_hour_60 : decode cX9_hour 60 = .ok (.ireturn, 1) := by decide +kernel
set_option maxRecDepth 20000 in
theorem ggX9_rig_X9_in : GoodIn wsX9_rig wsX9_in := goodIn_r _ [6] (by decide +kernel) (by decide +kernel)
set_option maxRecDepth 20000 in
theorem gX9_rig_X9_in : GoodIn wsX9_rig (va_wsS RX9 46 yX9_in wsX9_in) := goodIn_app (goodIn_of _ (by decide +kernel)) ggX9_rig_X9_in
set_option maxRecDepth 20000 in
theorem ggX9_rig_X9_rains : GoodIn wsX9_rig wsX9_rains := goodIn_r _ [10, 11, 48, 49, 50, 51, 52, 53, 54, 55, 56, 57, 58, 59, 60, 61, 62, 63, 64, 65, 66] (by decide +kernel) (by decide +kernel)
set_option maxRecDepth 20000 in
theorem gX9_rig_X9_rains : GoodIn wsX9_rig (wsV RX9 116 RX9 yX9_rains wsX9_rains) := goodIn_app (goodIn_of _ (by decide +kernel)) ggX9_rig_X9_rains
set_option maxRecDepth 20000 in
theorem ggX9_rig_X9_holds : GoodIn wsX9_rig wsX9_holds := goodIn_r _ [15, 2, 16, 17, 18, 19, 5, 20, 21, 22, 23, 24, 25, 26, 27, 28, 29, 30, 31, 32, 33, 34, 35, 36, 37, 38, 39, 40, 41, 42, 43, 44, 45, 46, 47, 48, 49, 50, 51, 52, 53, 54, 55, 56, 57, 58, 59, 60, 61, 62, 63, 64, 65, 66] (by decide +kernel) (by decide +kernel)
set_option maxRecDepth 20000 in
theorem gX9_rig_X9_holds : GoodIn wsX9_rig (wsV RX9 119 RX9 yX9_holds wsX9_holds) := goodIn_app (goodIn_of _ (by decide +kernel)) ggX9_rig_X9_holds
theorem dX9_rig_0 : decode cX9_rig 0 = .ok (.aload_n 0, 1) := by decide +kernel
theorem dX9_rig_1 : decode cX9_rig 1 = .ok (.iconst 0, 1) := by decide +kernel
theorem dX9_rig_2 : decode cX9_rig 2 = .ok (.putfield 1, 3) := by decide +kernel
theorem dX9_rig_5 : decode cX9_rig 5 = .ok (.iload_n 1, 1) := by decide +kernel
theorem dX9_rig_6 : decode cX9_rig 6 = .ok (.i2l, 1) := by decide +kernel
theorem dX9_rig_7 : decode cX9_rig 7 = .ok (.lconst 0, 1) := by decide +kernel
theorem dX9_rig_8 : decode cX9_rig 8 = .ok (.aload_n 0, 1) := by decide +kernel
theorem dX9_rig_9 : decode cX9_rig 9 = .ok (.getfield 13, 3) := by decide +kernel
theorem dX9_rig_12 : decode cX9_rig 12 = .ok (.bipush 11, 2) := by decide +kernel
theorem dX9_rig_14 : decode cX9_rig 14 = .ok (.iaload, 1) := by decide +kernel
theorem dX9_rig_15 : decode cX9_rig 15 = .ok (.iconst 1, 1) := by decide +kernel
theorem dX9_rig_16 : decode cX9_rig 16 = .ok (.isub, 1) := by decide +kernel
theorem dX9_rig_17 : decode cX9_rig 17 = .ok (.i2l, 1) := by decide +kernel
theorem dX9_rig_18 : decode cX9_rig 18 = .ok (.invokestatic 46, 3) := by decide +kernel
theorem dX9_rig_21 : decode cX9_rig 21 = .ok (.ifCond .ne 5, 3) := by decide +kernel
theorem dX9_rig_24 : decode cX9_rig 24 = .ok (.iconst (-1), 1) := by decide +kernel
theorem dX9_rig_25 : decode cX9_rig 25 = .ok (.ireturn, 1) := by decide +kernel
theorem dX9_rig_26 : decode cX9_rig 26 = .ok (.aload_n 0, 1) := by decide +kernel
theorem dX9_rig_27 : decode cX9_rig 27 = .ok (.getfield 13, 3) := by decide +kernel
theorem dX9_rig_30 : decode cX9_rig 30 = .ok (.bipush 67, 2) := by decide +kernel
theorem dX9_rig_32 : decode cX9_rig 32 = .ok (.iload_n 1, 1) := by decide +kernel
theorem dX9_rig_33 : decode cX9_rig 33 = .ok (.iadd, 1) := by decide +kernel
theorem dX9_rig_34 : decode cX9_rig 34 = .ok (.iaload, 1) := by decide +kernel
theorem dX9_rig_35 : decode cX9_rig 35 = .ok (.istore_n 3, 1) := by decide +kernel
theorem dX9_rig_36 : decode cX9_rig 36 = .ok (.aload_n 0, 1) := by decide +kernel
theorem dX9_rig_37 : decode cX9_rig 37 = .ok (.getfield 13, 3) := by decide +kernel
theorem dX9_rig_40 : decode cX9_rig 40 = .ok (.bipush 67, 2) := by decide +kernel
theorem dX9_rig_42 : decode cX9_rig 42 = .ok (.iload_n 1, 1) := by decide +kernel
theorem dX9_rig_43 : decode cX9_rig 43 = .ok (.iadd, 1) := by decide +kernel
theorem dX9_rig_44 : decode cX9_rig 44 = .ok (.iload_n 2, 1) := by decide +kernel
theorem dX9_rig_45 : decode cX9_rig 45 = .ok (.ifCond .eq 7, 3) := by decide +kernel
theorem dX9_rig_48 : decode cX9_rig 48 = .ok (.iconst 1, 1) := by decide +kernel
theorem dX9_rig_49 : decode cX9_rig 49 = .ok (.goto 4, 3) := by decide +kernel
theorem dX9_rig_52 : decode cX9_rig 52 = .ok (.iconst 0, 1) := by decide +kernel
theorem dX9_rig_53 : decode cX9_rig 53 = .ok (.iastore, 1) := by decide +kernel
theorem dX9_rig_54 : decode cX9_rig 54 = .ok (.aload_n 0, 1) := by decide +kernel
theorem dX9_rig_55 : decode cX9_rig 55 = .ok (.aload_n 0, 1) := by decide +kernel
theorem dX9_rig_56 : decode cX9_rig 56 = .ok (.getfield 13, 3) := by decide +kernel
theorem dX9_rig_59 : decode cX9_rig 59 = .ok (.iconst 1, 1) := by decide +kernel
theorem dX9_rig_60 : decode cX9_rig 60 = .ok (.iaload, 1) := by decide +kernel
theorem dX9_rig_61 : decode cX9_rig 61 = .ok (.aload_n 0, 1) := by decide +kernel
theorem dX9_rig_62 : decode cX9_rig 62 = .ok (.aload_n 0, 1) := by decide +kernel
theorem dX9_rig_63 : decode cX9_rig 63 = .ok (.getfield 13, 3) := by decide +kernel
theorem dX9_rig_66 : decode cX9_rig 66 = .ok (.iconst 0, 1) := by decide +kernel
theorem dX9_rig_67 : decode cX9_rig 67 = .ok (.iaload, 1) := by decide +kernel
theorem dX9_rig_68 : decode cX9_rig 68 = .ok (.invokevirtual 116, 3) := by decide +kernel
theorem dX9_rig_71 : decode cX9_rig 71 = .ok (.invokevirtual 119, 3) := by decide +kernel
theorem dX9_rig_74 : decode cX9_rig 74 = .ok (.ifCond .ne 16, 3) := by decide +kernel
theorem dX9_rig_77 : decode cX9_rig 77 = .ok (.aload_n 0, 1) := by decide +kernel
theorem dX9_rig_78 : decode cX9_rig 78 = .ok (.getfield 13, 3) := by decide +kernel
theorem dX9_rig_81 : decode cX9_rig 81 = .ok (.bipush 67, 2) := by decide +kernel
theorem dX9_rig_83 : decode cX9_rig 83 = .ok (.iload_n 1, 1) := by decide +kernel
theorem dX9_rig_84 : decode cX9_rig 84 = .ok (.iadd, 1) := by decide +kernel
theorem dX9_rig_85 : decode cX9_rig 85 = .ok (.iload_n 3, 1) := by decide +kernel
theorem dX9_rig_86 : decode cX9_rig 86 = .ok (.iastore, 1) := by decide +kernel
theorem dX9_rig_87 : decode cX9_rig 87 = .ok (.bipush (-2), 2) := by decide +kernel
theorem dX9_rig_89 : decode cX9_rig 89 = .ok (.ireturn, 1) := by decide +kernel
theorem dX9_rig_90 : decode cX9_rig 90 = .ok (.iload_n 3, 1) := by decide +kernel
theorem dX9_rig_91 : decode cX9_rig 91 = .ok (.ireturn, 1) := by decide +kernel
theorem dX9_hoursFor_0 : decode cX9_hoursFor 0 = .ok (.aload_n 0, 1) := by decide +kernel
theorem dX9_hoursFor_1 : decode cX9_hoursFor 1 = .ok (.getfield 13, 3) := by decide +kernel
theorem dX9_hoursFor_4 : decode cX9_hoursFor 4 = .ok (.sipush 145, 3) := by decide +kernel
theorem dX9_hoursFor_7 : decode cX9_hoursFor 7 = .ok (.iload_n 1, 1) := by decide +kernel
theorem dX9_hoursFor_8 : decode cX9_hoursFor 8 = .ok (.iadd, 1) := by decide +kernel
theorem dX9_hoursFor_9 : decode cX9_hoursFor 9 = .ok (.iaload, 1) := by decide +kernel
theorem dX9_hoursFor_10 : decode cX9_hoursFor 10 = .ok (.ifCond .ne 7, 3) := by decide +kernel
theorem dX9_hoursFor_13 : decode cX9_hoursFor 13 = .ok (.iconst 1, 1) := by decide +kernel
theorem dX9_hoursFor_14 : decode cX9_hoursFor 14 = .ok (.goto 4, 3) := by decide +kernel
theorem dX9_hoursFor_17 : decode cX9_hoursFor 17 = .ok (.iconst 0, 1) := by decide +kernel
theorem dX9_hoursFor_18 : decode cX9_hoursFor 18 = .ok (.aload_n 0, 1) := by decide +kernel
theorem dX9_hoursFor_19 : decode cX9_hoursFor 19 = .ok (.getfield 13, 3) := by decide +kernel
theorem dX9_hoursFor_22 : decode cX9_hoursFor 22 = .ok (.bipush 109, 2) := by decide +kernel
theorem dX9_hoursFor_24 : decode cX9_hoursFor 24 = .ok (.iload_n 1, 1) := by decide +kernel
theorem dX9_hoursFor_25 : decode cX9_hoursFor 25 = .ok (.iadd, 1) := by decide +kernel
theorem dX9_hoursFor_26 : decode cX9_hoursFor 26 = .ok (.iaload, 1) := by decide +kernel
theorem dX9_hoursFor_27 : decode cX9_hoursFor 27 = .ok (.iadd, 1) := by decide +kernel
theorem dX9_hoursFor_28 : decode cX9_hoursFor 28 = .ok (.aload_n 0, 1) := by decide +kernel
theorem dX9_hoursFor_29 : decode cX9_hoursFor 29 = .ok (.getfield 13, 3) := by decide +kernel
theorem dX9_hoursFor_32 : decode cX9_hoursFor 32 = .ok (.sipush 157, 3) := by decide +kernel
theorem dX9_hoursFor_35 : decode cX9_hoursFor 35 = .ok (.iload_n 1, 1) := by decide +kernel
theorem dX9_hoursFor_36 : decode cX9_hoursFor 36 = .ok (.iadd, 1) := by decide +kernel
theorem dX9_hoursFor_37 : decode cX9_hoursFor 37 = .ok (.iaload, 1) := by decide +kernel
theorem dX9_hoursFor_38 : decode cX9_hoursFor 38 = .ok (.isub, 1) := by decide +kernel
theorem dX9_hoursFor_39 : decode cX9_hoursFor 39 = .ok (.ireturn, 1) := by decide +kernel
set_option maxRecDepth 20000 in
theorem ggX9_isPlan_X9_hoursFor : GoodIn wsX9_isPlan wsX9_hoursFor := goodIn_r _ [10, 4, 25, 26, 27, 28, 29, 30, 31, 32, 33, 34, 35, 36, 37, 38, 39, 40, 41, 42, 43] (by decide +kernel) (by decide +kernel)
set_option maxRecDepth 20000 in
theorem gX9_isPlan_X9_hoursFor : GoodIn wsX9_isPlan (wsV RX9 147 RX9 yX9_hoursFor wsX9_hoursFor) := goodIn_app (goodIn_of _ (by decide +kernel)) ggX9_isPlan_X9_hoursFor
set_option maxRecDepth 20000 in
theorem ggX9_isPlan_X9_rains : GoodIn wsX9_isPlan wsX9_rains := goodIn_r _ [14, 15, 25, 26, 27, 28, 29, 30, 31, 32, 33, 34, 35, 36, 37, 38, 39, 40, 41, 42, 43] (by decide +kernel) (by decide +kernel)
set_option maxRecDepth 20000 in
theorem gX9_isPlan_X9_rains : GoodIn wsX9_isPlan (wsV RX9 116 RX9 yX9_rains wsX9_rains) := goodIn_app (goodIn_of _ (by decide +kernel)) ggX9_isPlan_X9_rains
set_option maxRecDepth 20000 in
theorem ggX9_isPlan_X9_isBare : GoodIn wsX9_isPlan wsX9_isBare := goodIn_r _ [19, 4, 20, 21, 22, 9, 23, 24, 25, 26, 27, 28, 29, 30, 31, 32, 33, 34, 35, 36, 37, 38, 39, 40, 41, 42, 43] (by decide +kernel) (by decide +kernel)
set_option maxRecDepth 20000 in
theorem gX9_isPlan_X9_isBare : GoodIn wsX9_isPlan (wsV RX9 129 RX9 yX9_isBare wsX9_isBare) := goodIn_app (goodIn_of _ (by decide +kernel)) ggX9_isPlan_X9_isBare
theorem dX9_isPlan_0 : decode cX9_isPlan 0 = .ok (.iconst 0, 1) := by decide +kernel
theorem dX9_isPlan_1 : decode cX9_isPlan 1 = .ok (.istore_n 2, 1) := by decide +kernel
theorem dX9_isPlan_2 : decode cX9_isPlan 2 = .ok (.iconst 0, 1) := by decide +kernel
theorem dX9_isPlan_3 : decode cX9_isPlan 3 = .ok (.istore_n 3, 1) := by decide +kernel
theorem dX9_isPlan_4 : decode cX9_isPlan 4 = .ok (.iload_n 3, 1) := by decide +kernel
theorem dX9_isPlan_5 : decode cX9_isPlan 5 = .ok (.aload_n 0, 1) := by decide +kernel
theorem dX9_isPlan_6 : decode cX9_isPlan 6 = .ok (.getfield 144, 3) := by decide +kernel
theorem dX9_isPlan_9 : decode cX9_isPlan 9 = .ok (.if_icmp .ge 136, 3) := by decide +kernel
theorem dX9_isPlan_12 : decode cX9_isPlan 12 = .ok (.aload_n 0, 1) := by decide +kernel
theorem dX9_isPlan_13 : decode cX9_isPlan 13 = .ok (.getfield 32, 3) := by decide +kernel
theorem dX9_isPlan_16 : decode cX9_isPlan 16 = .ok (.iload_n 3, 1) := by decide +kernel
theorem dX9_isPlan_17 : decode cX9_isPlan 17 = .ok (.iaload, 1) := by decide +kernel
theorem dX9_isPlan_18 : decode cX9_isPlan 18 = .ok (.istore 4, 2) := by decide +kernel
theorem dX9_isPlan_20 : decode cX9_isPlan 20 = .ok (.aload_n 0, 1) := by decide +kernel
theorem dX9_isPlan_21 : decode cX9_isPlan 21 = .ok (.getfield 35, 3) := by decide +kernel
theorem dX9_isPlan_24 : decode cX9_isPlan 24 = .ok (.iload_n 3, 1) := by decide +kernel
theorem dX9_isPlan_25 : decode cX9_isPlan 25 = .ok (.iaload, 1) := by decide +kernel
theorem dX9_isPlan_26 : decode cX9_isPlan 26 = .ok (.ifCond .lt 113, 3) := by decide +kernel
theorem dX9_isPlan_29 : decode cX9_isPlan 29 = .ok (.iload_n 2, 1) := by decide +kernel
theorem dX9_isPlan_30 : decode cX9_isPlan 30 = .ok (.aload_n 0, 1) := by decide +kernel
theorem dX9_isPlan_31 : decode cX9_isPlan 31 = .ok (.getfield 13, 3) := by decide +kernel
theorem dX9_isPlan_34 : decode cX9_isPlan 34 = .ok (.sipush 157, 3) := by decide +kernel
theorem dX9_isPlan_37 : decode cX9_isPlan 37 = .ok (.iload 4, 2) := by decide +kernel
theorem dX9_isPlan_39 : decode cX9_isPlan 39 = .ok (.iadd, 1) := by decide +kernel
theorem dX9_isPlan_40 : decode cX9_isPlan 40 = .ok (.iaload, 1) := by decide +kernel
theorem dX9_isPlan_41 : decode cX9_isPlan 41 = .ok (.ifCond .ne 16, 3) := by decide +kernel
theorem dX9_isPlan_44 : decode cX9_isPlan 44 = .ok (.aload_n 0, 1) := by decide +kernel
theorem dX9_isPlan_45 : decode cX9_isPlan 45 = .ok (.getfield 13, 3) := by decide +kernel
theorem dX9_isPlan_48 : decode cX9_isPlan 48 = .ok (.bipush 121, 2) := by decide +kernel
theorem dX9_isPlan_50 : decode cX9_isPlan 50 = .ok (.iload 4, 2) := by decide +kernel
theorem dX9_isPlan_52 : decode cX9_isPlan 52 = .ok (.iadd, 1) := by decide +kernel
theorem dX9_isPlan_53 : decode cX9_isPlan 53 = .ok (.iaload, 1) := by decide +kernel
theorem dX9_isPlan_54 : decode cX9_isPlan 54 = .ok (.goto 4, 3) := by decide +kernel
theorem dX9_isPlan_57 : decode cX9_isPlan 57 = .ok (.iconst 0, 1) := by decide +kernel
theorem dX9_isPlan_58 : decode cX9_isPlan 58 = .ok (.iadd, 1) := by decide +kernel
theorem dX9_isPlan_59 : decode cX9_isPlan 59 = .ok (.istore_n 2, 1) := by decide +kernel
theorem dX9_isPlan_60 : decode cX9_isPlan 60 = .ok (.aload_n 0, 1) := by decide +kernel
theorem dX9_isPlan_61 : decode cX9_isPlan 61 = .ok (.getfield 35, 3) := by decide +kernel
theorem dX9_isPlan_64 : decode cX9_isPlan 64 = .ok (.iload_n 3, 1) := by decide +kernel
theorem dX9_isPlan_65 : decode cX9_isPlan 65 = .ok (.iaload, 1) := by decide +kernel
theorem dX9_isPlan_66 : decode cX9_isPlan 66 = .ok (.aload_n 0, 1) := by decide +kernel
theorem dX9_isPlan_67 : decode cX9_isPlan 67 = .ok (.iload 4, 2) := by decide +kernel
theorem dX9_isPlan_69 : decode cX9_isPlan 69 = .ok (.invokevirtual 147, 3) := by decide +kernel
theorem dX9_isPlan_72 : decode cX9_isPlan 72 = .ok (.iadd, 1) := by decide +kernel
theorem dX9_isPlan_73 : decode cX9_isPlan 73 = .ok (.iload_n 1, 1) := by decide +kernel
theorem dX9_isPlan_74 : decode cX9_isPlan 74 = .ok (.if_icmp .le 5, 3) := by decide +kernel
theorem dX9_isPlan_77 : decode cX9_isPlan 77 = .ok (.iconst 0, 1) := by decide +kernel
theorem dX9_isPlan_78 : decode cX9_isPlan 78 = .ok (.ireturn, 1) := by decide +kernel
theorem dX9_isPlan_79 : decode cX9_isPlan 79 = .ok (.iconst 0, 1) := by decide +kernel
theorem dX9_isPlan_80 : decode cX9_isPlan 80 = .ok (.istore 5, 2) := by decide +kernel
theorem dX9_isPlan_82 : decode cX9_isPlan 82 = .ok (.iload 5, 2) := by decide +kernel
theorem dX9_isPlan_84 : decode cX9_isPlan 84 = .ok (.aload_n 0, 1) := by decide +kernel
theorem dX9_isPlan_85 : decode cX9_isPlan 85 = .ok (.iload 4, 2) := by decide +kernel
theorem dX9_isPlan_87 : decode cX9_isPlan 87 = .ok (.invokevirtual 147, 3) := by decide +kernel
theorem dX9_isPlan_90 : decode cX9_isPlan 90 = .ok (.if_icmp .ge 49, 3) := by decide +kernel
theorem dX9_isPlan_93 : decode cX9_isPlan 93 = .ok (.aload_n 0, 1) := by decide +kernel
theorem dX9_isPlan_94 : decode cX9_isPlan 94 = .ok (.getfield 13, 3) := by decide +kernel
theorem dX9_isPlan_97 : decode cX9_isPlan 97 = .ok (.iconst 0, 1) := by decide +kernel
theorem dX9_isPlan_98 : decode cX9_isPlan 98 = .ok (.iaload, 1) := by decide +kernel
theorem dX9_isPlan_99 : decode cX9_isPlan 99 = .ok (.aload_n 0, 1) := by decide +kernel
theorem dX9_isPlan_100 : decode cX9_isPlan 100 = .ok (.getfield 35, 3) := by decide +kernel
theorem dX9_isPlan_103 : decode cX9_isPlan 103 = .ok (.iload_n 3, 1) := by decide +kernel
theorem dX9_isPlan_104 : decode cX9_isPlan 104 = .ok (.iaload, 1) := by decide +kernel
theorem dX9_isPlan_105 : decode cX9_isPlan 105 = .ok (.iadd, 1) := by decide +kernel
theorem dX9_isPlan_106 : decode cX9_isPlan 106 = .ok (.iload 5, 2) := by decide +kernel
theorem dX9_isPlan_108 : decode cX9_isPlan 108 = .ok (.iadd, 1) := by decide +kernel
theorem dX9_isPlan_109 : decode cX9_isPlan 109 = .ok (.istore 6, 2) := by decide +kernel
theorem dX9_isPlan_111 : decode cX9_isPlan 111 = .ok (.aload_n 0, 1) := by decide +kernel
theorem dX9_isPlan_112 : decode cX9_isPlan 112 = .ok (.iload 6, 2) := by decide +kernel
theorem dX9_isPlan_114 : decode cX9_isPlan 114 = .ok (.invokevirtual 116, 3) := by decide +kernel
theorem dX9_isPlan_117 : decode cX9_isPlan 117 = .ok (.ifCond .ne 14, 3) := by decide +kernel
theorem dX9_isPlan_120 : decode cX9_isPlan 120 = .ok (.aload_n 0, 1) := by decide +kernel
theorem dX9_isPlan_121 : decode cX9_isPlan 121 = .ok (.iload 4, 2) := by decide +kernel
theorem dX9_isPlan_123 : decode cX9_isPlan 123 = .ok (.iload 6, 2) := by decide +kernel
theorem dX9_isPlan_125 : decode cX9_isPlan 125 = .ok (.invokevirtual 129, 3) := by decide +kernel
theorem dX9_isPlan_128 : decode cX9_isPlan 128 = .ok (.ifCond .ne 5, 3) := by decide +kernel
theorem dX9_isPlan_131 : decode cX9_isPlan 131 = .ok (.iconst 0, 1) := by decide +kernel
theorem dX9_isPlan_132 : decode cX9_isPlan 132 = .ok (.ireturn, 1) := by decide +kernel
theorem dX9_isPlan_133 : decode cX9_isPlan 133 = .ok (.iinc 5 1, 3) := by decide +kernel
theorem dX9_isPlan_136 : decode cX9_isPlan 136 = .ok (.goto (-54), 3) := by decide +kernel
theorem dX9_isPlan_139 : decode cX9_isPlan 139 = .ok (.iinc 3 1, 3) := by decide +kernel
theorem dX9_isPlan_142 : decode cX9_isPlan 142 = .ok (.goto (-138), 3) := by decide +kernel
theorem dX9_isPlan_145 : decode cX9_isPlan 145 = .ok (.iconst 0, 1) := by decide +kernel
theorem dX9_isPlan_146 : decode cX9_isPlan 146 = .ok (.istore_n 3, 1) := by decide +kernel
theorem dX9_isPlan_147 : decode cX9_isPlan 147 = .ok (.iload_n 3, 1) := by decide +kernel
theorem dX9_isPlan_148 : decode cX9_isPlan 148 = .ok (.iload_n 1, 1) := by decide +kernel
theorem dX9_isPlan_149 : decode cX9_isPlan 149 = .ok (.if_icmp .ge 111, 3) := by decide +kernel
theorem dX9_isPlan_152 : decode cX9_isPlan 152 = .ok (.iconst 0, 1) := by decide +kernel
theorem dX9_isPlan_153 : decode cX9_isPlan 153 = .ok (.istore 4, 2) := by decide +kernel
theorem dX9_isPlan_155 : decode cX9_isPlan 155 = .ok (.iconst 0, 1) := by decide +kernel
theorem dX9_isPlan_156 : decode cX9_isPlan 156 = .ok (.istore 5, 2) := by decide +kernel
theorem dX9_isPlan_158 : decode cX9_isPlan 158 = .ok (.iload 5, 2) := by decide +kernel
theorem dX9_isPlan_160 : decode cX9_isPlan 160 = .ok (.aload_n 0, 1) := by decide +kernel
theorem dX9_isPlan_161 : decode cX9_isPlan 161 = .ok (.getfield 144, 3) := by decide +kernel
theorem dX9_isPlan_164 : decode cX9_isPlan 164 = .ok (.if_icmp .ge 77, 3) := by decide +kernel
theorem dX9_isPlan_167 : decode cX9_isPlan 167 = .ok (.iload 4, 2) := by decide +kernel
theorem dX9_isPlan_169 : decode cX9_isPlan 169 = .ok (.aload_n 0, 1) := by decide +kernel
theorem dX9_isPlan_170 : decode cX9_isPlan 170 = .ok (.getfield 35, 3) := by decide +kernel
theorem dX9_isPlan_173 : decode cX9_isPlan 173 = .ok (.iload 5, 2) := by decide +kernel
theorem dX9_isPlan_175 : decode cX9_isPlan 175 = .ok (.iaload, 1) := by decide +kernel
theorem dX9_isPlan_176 : decode cX9_isPlan 176 = .ok (.ifCond .lt 55, 3) := by decide +kernel
theorem dX9_isPlan_179 : decode cX9_isPlan 179 = .ok (.iload_n 3, 1) := by decide +kernel
theorem dX9_isPlan_180 : decode cX9_isPlan 180 = .ok (.aload_n 0, 1) := by decide +kernel
theorem dX9_isPlan_181 : decode cX9_isPlan 181 = .ok (.getfield 35, 3) := by decide +kernel
theorem dX9_isPlan_184 : decode cX9_isPlan 184 = .ok (.iload 5, 2) := by decide +kernel
theorem dX9_isPlan_186 : decode cX9_isPlan 186 = .ok (.iaload, 1) := by decide +kernel
theorem dX9_isPlan_187 : decode cX9_isPlan 187 = .ok (.if_icmp .lt 44, 3) := by decide +kernel
theorem dX9_isPlan_190 : decode cX9_isPlan 190 = .ok (.iload_n 3, 1) := by decide +kernel
theorem dX9_isPlan_191 : decode cX9_isPlan 191 = .ok (.aload_n 0, 1) := by decide +kernel
theorem dX9_isPlan_192 : decode cX9_isPlan 192 = .ok (.getfield 35, 3) := by decide +kernel
theorem dX9_isPlan_195 : decode cX9_isPlan 195 = .ok (.iload 5, 2) := by decide +kernel
theorem dX9_isPlan_197 : decode cX9_isPlan 197 = .ok (.iaload, 1) := by decide +kernel
theorem dX9_isPlan_198 : decode cX9_isPlan 198 = .ok (.aload_n 0, 1) := by decide +kernel
theorem dX9_isPlan_199 : decode cX9_isPlan 199 = .ok (.aload_n 0, 1) := by decide +kernel
theorem dX9_isPlan_200 : decode cX9_isPlan 200 = .ok (.getfield 32, 3) := by decide +kernel
theorem dX9_isPlan_203 : decode cX9_isPlan 203 = .ok (.iload 5, 2) := by decide +kernel
theorem dX9_isPlan_205 : decode cX9_isPlan 205 = .ok (.iaload, 1) := by decide +kernel
theorem dX9_isPlan_206 : decode cX9_isPlan 206 = .ok (.invokevirtual 147, 3) := by decide +kernel
theorem dX9_isPlan_209 : decode cX9_isPlan 209 = .ok (.iadd, 1) := by decide +kernel
theorem dX9_isPlan_210 : decode cX9_isPlan 210 = .ok (.if_icmp .ge 21, 3) := by decide +kernel
theorem dX9_isPlan_213 : decode cX9_isPlan 213 = .ok (.aload_n 0, 1) := by decide +kernel
theorem dX9_isPlan_214 : decode cX9_isPlan 214 = .ok (.getfield 13, 3) := by decide +kernel
theorem dX9_isPlan_217 : decode cX9_isPlan 217 = .ok (.bipush 97, 2) := by decide +kernel
theorem dX9_isPlan_219 : decode cX9_isPlan 219 = .ok (.aload_n 0, 1) := by decide +kernel
theorem dX9_isPlan_220 : decode cX9_isPlan 220 = .ok (.getfield 32, 3) := by decide +kernel
theorem dX9_isPlan_223 : decode cX9_isPlan 223 = .ok (.iload 5, 2) := by decide +kernel
theorem dX9_isPlan_225 : decode cX9_isPlan 225 = .ok (.iaload, 1) := by decide +kernel
theorem dX9_isPlan_226 : decode cX9_isPlan 226 = .ok (.iadd, 1) := by decide +kernel
theorem dX9_isPlan_227 : decode cX9_isPlan 227 = .ok (.iaload, 1) := by decide +kernel
theorem dX9_isPlan_228 : decode cX9_isPlan 228 = .ok (.goto 4, 3) := by decide +kernel
theorem dX9_isPlan_231 : decode cX9_isPlan 231 = .ok (.iconst 0, 1) := by decide +kernel
theorem dX9_isPlan_232 : decode cX9_isPlan 232 = .ok (.iadd, 1) := by decide +kernel
theorem dX9_isPlan_233 : decode cX9_isPlan 233 = .ok (.istore 4, 2) := by decide +kernel
theorem dX9_isPlan_235 : decode cX9_isPlan 235 = .ok (.iinc 5 1, 3) := by decide +kernel
theorem dX9_isPlan_238 : decode cX9_isPlan 238 = .ok (.goto (-80), 3) := by decide +kernel
theorem dX9_isPlan_241 : decode cX9_isPlan 241 = .ok (.iload 4, 2) := by decide +kernel
theorem dX9_isPlan_243 : decode cX9_isPlan 243 = .ok (.aload_n 0, 1) := by decide +kernel
theorem dX9_isPlan_244 : decode cX9_isPlan 244 = .ok (.getfield 29, 3) := by decide +kernel
theorem dX9_isPlan_247 : decode cX9_isPlan 247 = .ok (.iconst 3, 1) := by decide +kernel
theorem dX9_isPlan_248 : decode cX9_isPlan 248 = .ok (.iaload, 1) := by decide +kernel
theorem dX9_isPlan_249 : decode cX9_isPlan 249 = .ok (.if_icmp .le 5, 3) := by decide +kernel
theorem dX9_isPlan_252 : decode cX9_isPlan 252 = .ok (.iconst 0, 1) := by decide +kernel
theorem dX9_isPlan_253 : decode cX9_isPlan 253 = .ok (.ireturn, 1) := by decide +kernel
theorem dX9_isPlan_254 : decode cX9_isPlan 254 = .ok (.iinc 3 1, 3) := by decide +kernel
theorem dX9_isPlan_257 : decode cX9_isPlan 257 = .ok (.goto (-110), 3) := by decide +kernel
theorem dX9_isPlan_260 : decode cX9_isPlan 260 = .ok (.iload_n 2, 1) := by decide +kernel
theorem dX9_isPlan_261 : decode cX9_isPlan 261 = .ok (.aload_n 0, 1) := by decide +kernel
theorem dX9_isPlan_262 : decode cX9_isPlan 262 = .ok (.getfield 13, 3) := by decide +kernel
theorem dX9_isPlan_265 : decode cX9_isPlan 265 = .ok (.iconst 5, 1) := by decide +kernel
theorem dX9_isPlan_266 : decode cX9_isPlan 266 = .ok (.iaload, 1) := by decide +kernel
theorem dX9_isPlan_267 : decode cX9_isPlan 267 = .ok (.if_icmp .gt 7, 3) := by decide +kernel
theorem dX9_isPlan_270 : decode cX9_isPlan 270 = .ok (.iconst 1, 1) := by decide +kernel
theorem dX9_isPlan_271 : decode cX9_isPlan 271 = .ok (.goto 4, 3) := by decide +kernel
theorem dX9_isPlan_274 : decode cX9_isPlan 274 = .ok (.iconst 0, 1) := by decide +kernel
theorem dX9_isPlan_275 : decode cX9_isPlan 275 = .ok (.ireturn, 1) := by decide +kernel
set_option maxRecDepth 20000 in
theorem ggX9_findPlan_X9_isPlan : GoodIn wsX9_findPlan wsX9_isPlan := goodIn_r _ [13, 1, 3, 7, 2, 14, 15, 16, 17, 12, 18, 19, 20, 21, 22, 23, 24, 25, 26, 27, 28, 29, 30, 31, 32, 33, 34, 35, 36, 37, 38, 39, 40, 41, 42, 43, 44, 45, 46, 47, 48, 49, 50, 51] (by decide +kernel) (by decide +kernel)
