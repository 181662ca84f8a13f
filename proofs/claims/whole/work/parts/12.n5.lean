set_option maxRecDepth 20000 in
theorem ggX9_pass_X9_rains : GoodIn wsX9_pass wsX9_rains := goodIn_r _ [7, 8, 57, 58, 59, 60, 61, 62, 63, 64, 65, 66, 67, 68, 69, 70, 71, 72, 73, 74, 75] (by decide +kernel) (by decide +kernel)
set_option maxRecDepth 20000 in
theorem gX9_pass_X9_rains : GoodIn wsX9_pass (wsV RX9 116 RX9 yX9_rains wsX9_rains) := goodIn_app (goodIn_of _ (by decide +kernel)) ggX9_pass_X9_rains
set_option maxRecDepth 20000 in
theorem ggX9_pass_X9_isBare : GoodIn wsX9_pass wsX9_isBare := goodIn_r _ [12, 1, 13, 14, 15, 6, 16, 17, 57, 58, 59, 60, 61, 62, 63, 64, 65, 66, 67, 68, 69, 70, 71, 72, 73, 74, 75] (by decide +kernel) (by decide +kernel)
set_option maxRecDepth 20000 in
theorem gX9_pass_X9_isBare : GoodIn wsX9_pass (wsV RX9 129 RX9 yX9_isBare wsX9_isBare) := goodIn_app (goodIn_of _ (by decide +kernel)) ggX9_pass_X9_isBare
set_option maxRecDepth 20000 in
theorem ggX9_pass_X9_holds : GoodIn wsX9_pass wsX9_holds := goodIn_r _ [21, 1, 2, 22, 23, 24, 6, 25, 26, 27, 28, 29, 30, 31, 32, 33, 34, 35, 36, 37, 38, 39, 40, 41, 42, 43, 44, 45, 46, 47, 48, 49, 50, 51, 52, 57, 58, 59, 60, 61, 62, 63, 64, 65, 66, 67, 68, 69, 70, 71, 72, 73, 74, 75] (by decide +kernel) (by decide +kernel)
set_option maxRecDepth 20000 in
theorem gX9_pass_X9_holds : GoodIn wsX9_pass (wsV RX9 119 RX9 yX9_holds wsX9_holds) := goodIn_app (goodIn_of _ (by decide +kernel)) ggX9_pass_X9_holds
set_option maxRecDepth 20000 in
theorem ggX9_pass_X9_part : GoodIn wsX9_pass wsX9_part := goodIn_r _ [56, 1, 2, 34, 35, 36, 6, 37, 38, 39, 40, 41, 22, 23, 24, 25, 26, 27, 28, 29, 30, 31, 32, 33, 42, 43, 44, 45, 46, 47, 48, 49, 50, 51, 52, 57, 58, 59, 60, 61, 62, 63, 64, 65, 66, 67, 68, 69, 70, 71, 72, 73, 74, 75] (by decide +kernel) (by decide +kernel)
set_option maxRecDepth 20000 in
theorem gX9_pass_X9_part : GoodIn wsX9_pass (wsV RX9 136 RX9 yX9_part wsX9_part) := goodIn_app (goodIn_of _ (by decide +kernel)) ggX9_pass_X9_part
theorem dX9_pass_0 : decode cX9_pass 0 = .ok (.aload_n 0, 1) := by decide +kernel
theorem dX9_pass_1 : decode cX9_pass 1 = .ok (.aload_n 0, 1) := by decide +kernel
theorem dX9_pass_2 : decode cX9_pass 2 = .ok (.getfield 13, 3) := by decide +kernel
theorem dX9_pass_5 : decode cX9_pass 5 = .ok (.iconst 0, 1) := by decide +kernel
theorem dX9_pass_6 : decode cX9_pass 6 = .ok (.iaload, 1) := by decide +kernel
theorem dX9_pass_7 : decode cX9_pass 7 = .ok (.invokevirtual 116, 3) := by decide +kernel
theorem dX9_pass_10 : decode cX9_pass 10 = .ok (.istore_n 2, 1) := by decide +kernel
theorem dX9_pass_11 : decode cX9_pass 11 = .ok (.aload_n 0, 1) := by decide +kernel
theorem dX9_pass_12 : decode cX9_pass 12 = .ok (.getfield 29, 3) := by decide +kernel
theorem dX9_pass_15 : decode cX9_pass 15 = .ok (.iconst 3, 1) := by decide +kernel
theorem dX9_pass_16 : decode cX9_pass 16 = .ok (.iaload, 1) := by decide +kernel
theorem dX9_pass_17 : decode cX9_pass 17 = .ok (.istore_n 3, 1) := by decide +kernel
theorem dX9_pass_18 : decode cX9_pass 18 = .ok (.iconst 0, 1) := by decide +kernel
theorem dX9_pass_19 : decode cX9_pass 19 = .ok (.istore 4, 2) := by decide +kernel
theorem dX9_pass_21 : decode cX9_pass 21 = .ok (.iload 4, 2) := by decide +kernel
theorem dX9_pass_23 : decode cX9_pass 23 = .ok (.aload_n 0, 1) := by decide +kernel
theorem dX9_pass_24 : decode cX9_pass 24 = .ok (.getfield 13, 3) := by decide +kernel
theorem dX9_pass_27 : decode cX9_pass 27 = .ok (.bipush 12, 2) := by decide +kernel
theorem dX9_pass_29 : decode cX9_pass 29 = .ok (.iaload, 1) := by decide +kernel
theorem dX9_pass_30 : decode cX9_pass 30 = .ok (.if_icmp .ge 280, 3) := by decide +kernel
theorem dX9_pass_33 : decode cX9_pass 33 = .ok (.iload_n 1, 1) := by decide +kernel
theorem dX9_pass_34 : decode cX9_pass 34 = .ok (.iload 4, 2) := by decide +kernel
theorem dX9_pass_36 : decode cX9_pass 36 = .ok (.ishr, 1) := by decide +kernel
theorem dX9_pass_37 : decode cX9_pass 37 = .ok (.iconst 1, 1) := by decide +kernel
theorem dX9_pass_38 : decode cX9_pass 38 = .ok (.iand, 1) := by decide +kernel
theorem dX9_pass_39 : decode cX9_pass 39 = .ok (.iconst 1, 1) := by decide +kernel
theorem dX9_pass_40 : decode cX9_pass 40 = .ok (.if_icmp .ne 55, 3) := by decide +kernel
theorem dX9_pass_43 : decode cX9_pass 43 = .ok (.iload_n 2, 1) := by decide +kernel
theorem dX9_pass_44 : decode cX9_pass 44 = .ok (.ifCond .ne 51, 3) := by decide +kernel
theorem dX9_pass_47 : decode cX9_pass 47 = .ok (.aload_n 0, 1) := by decide +kernel
theorem dX9_pass_48 : decode cX9_pass 48 = .ok (.iload 4, 2) := by decide +kernel
theorem dX9_pass_50 : decode cX9_pass 50 = .ok (.aload_n 0, 1) := by decide +kernel
theorem dX9_pass_51 : decode cX9_pass 51 = .ok (.getfield 13, 3) := by decide +kernel
theorem dX9_pass_54 : decode cX9_pass 54 = .ok (.iconst 0, 1) := by decide +kernel
theorem dX9_pass_55 : decode cX9_pass 55 = .ok (.iaload, 1) := by decide +kernel
theorem dX9_pass_56 : decode cX9_pass 56 = .ok (.invokevirtual 129, 3) := by decide +kernel
theorem dX9_pass_59 : decode cX9_pass 59 = .ok (.ifCond .eq 36, 3) := by decide +kernel
theorem dX9_pass_62 : decode cX9_pass 62 = .ok (.aload_n 0, 1) := by decide +kernel
theorem dX9_pass_63 : decode cX9_pass 63 = .ok (.getfield 13, 3) := by decide +kernel
theorem dX9_pass_66 : decode cX9_pass 66 = .ok (.bipush 97, 2) := by decide +kernel
theorem dX9_pass_68 : decode cX9_pass 68 = .ok (.iload 4, 2) := by decide +kernel
theorem dX9_pass_70 : decode cX9_pass 70 = .ok (.iadd, 1) := by decide +kernel
theorem dX9_pass_71 : decode cX9_pass 71 = .ok (.iaload, 1) := by decide +kernel
theorem dX9_pass_72 : decode cX9_pass 72 = .ok (.iload_n 3, 1) := by decide +kernel
theorem dX9_pass_73 : decode cX9_pass 73 = .ok (.if_icmp .gt 22, 3) := by decide +kernel
theorem dX9_pass_76 : decode cX9_pass 76 = .ok (.aload_n 0, 1) := by decide +kernel
theorem dX9_pass_77 : decode cX9_pass 77 = .ok (.getfield 13, 3) := by decide +kernel
theorem dX9_pass_80 : decode cX9_pass 80 = .ok (.sipush 145, 3) := by decide +kernel
theorem dX9_pass_83 : decode cX9_pass 83 = .ok (.iload 4, 2) := by decide +kernel
theorem dX9_pass_85 : decode cX9_pass 85 = .ok (.iadd, 1) := by decide +kernel
theorem dX9_pass_86 : decode cX9_pass 86 = .ok (.iaload, 1) := by decide +kernel
theorem dX9_pass_87 : decode cX9_pass 87 = .ok (.iconst 2, 1) := by decide +kernel
theorem dX9_pass_88 : decode cX9_pass 88 = .ok (.if_icmp .eq 7, 3) := by decide +kernel
theorem dX9_pass_91 : decode cX9_pass 91 = .ok (.iconst 1, 1) := by decide +kernel
theorem dX9_pass_92 : decode cX9_pass 92 = .ok (.goto 4, 3) := by decide +kernel
theorem dX9_pass_95 : decode cX9_pass 95 = .ok (.iconst 0, 1) := by decide +kernel
theorem dX9_pass_96 : decode cX9_pass 96 = .ok (.istore 5, 2) := by decide +kernel
theorem dX9_pass_98 : decode cX9_pass 98 = .ok (.iload 5, 2) := by decide +kernel
theorem dX9_pass_100 : decode cX9_pass 100 = .ok (.ifCond .eq 45, 3) := by decide +kernel
theorem dX9_pass_103 : decode cX9_pass 103 = .ok (.aload_n 0, 1) := by decide +kernel
theorem dX9_pass_104 : decode cX9_pass 104 = .ok (.getfield 13, 3) := by decide +kernel
theorem dX9_pass_107 : decode cX9_pass 107 = .ok (.sipush 145, 3) := by decide +kernel
theorem dX9_pass_110 : decode cX9_pass 110 = .ok (.iload 4, 2) := by decide +kernel
theorem dX9_pass_112 : decode cX9_pass 112 = .ok (.iadd, 1) := by decide +kernel
theorem dX9_pass_113 : decode cX9_pass 113 = .ok (.iaload, 1) := by decide +kernel
theorem dX9_pass_114 : decode cX9_pass 114 = .ok (.ifCond .ne 31, 3) := by decide +kernel
theorem dX9_pass_117 : decode cX9_pass 117 = .ok (.aload_n 0, 1) := by decide +kernel
theorem dX9_pass_118 : decode cX9_pass 118 = .ok (.getfield 13, 3) := by decide +kernel
theorem dX9_pass_121 : decode cX9_pass 121 = .ok (.sipush 145, 3) := by decide +kernel
theorem dX9_pass_124 : decode cX9_pass 124 = .ok (.iload 4, 2) := by decide +kernel
theorem dX9_pass_126 : decode cX9_pass 126 = .ok (.iadd, 1) := by decide +kernel
theorem dX9_pass_127 : decode cX9_pass 127 = .ok (.iconst 1, 1) := by decide +kernel
theorem dX9_pass_128 : decode cX9_pass 128 = .ok (.iastore, 1) := by decide +kernel
theorem dX9_pass_129 : decode cX9_pass 129 = .ok (.iload_n 3, 1) := by decide +kernel
theorem dX9_pass_130 : decode cX9_pass 130 = .ok (.aload_n 0, 1) := by decide +kernel
theorem dX9_pass_131 : decode cX9_pass 131 = .ok (.getfield 13, 3) := by decide +kernel
theorem dX9_pass_134 : decode cX9_pass 134 = .ok (.bipush 97, 2) := by decide +kernel
theorem dX9_pass_136 : decode cX9_pass 136 = .ok (.iload 4, 2) := by decide +kernel
theorem dX9_pass_138 : decode cX9_pass 138 = .ok (.iadd, 1) := by decide +kernel
theorem dX9_pass_139 : decode cX9_pass 139 = .ok (.iaload, 1) := by decide +kernel
theorem dX9_pass_140 : decode cX9_pass 140 = .ok (.isub, 1) := by decide +kernel
theorem dX9_pass_141 : decode cX9_pass 141 = .ok (.istore_n 3, 1) := by decide +kernel
theorem dX9_pass_142 : decode cX9_pass 142 = .ok (.goto 162, 3) := by decide +kernel
theorem dX9_pass_145 : decode cX9_pass 145 = .ok (.iload 5, 2) := by decide +kernel
theorem dX9_pass_147 : decode cX9_pass 147 = .ok (.ifCond .eq 157, 3) := by decide +kernel
theorem dX9_pass_150 : decode cX9_pass 150 = .ok (.aload_n 0, 1) := by decide +kernel
theorem dX9_pass_151 : decode cX9_pass 151 = .ok (.getfield 13, 3) := by decide +kernel
theorem dX9_pass_154 : decode cX9_pass 154 = .ok (.sipush 157, 3) := by decide +kernel
theorem dX9_pass_157 : decode cX9_pass 157 = .ok (.iload 4, 2) := by decide +kernel
theorem dX9_pass_159 : decode cX9_pass 159 = .ok (.iadd, 1) := by decide +kernel
theorem dX9_pass_160 : decode cX9_pass 160 = .ok (.iaload, 1) := by decide +kernel
theorem dX9_pass_161 : decode cX9_pass 161 = .ok (.ifCond .gt 22, 3) := by decide +kernel
theorem dX9_pass_164 : decode cX9_pass 164 = .ok (.aload_n 0, 1) := by decide +kernel
theorem dX9_pass_165 : decode cX9_pass 165 = .ok (.getfield 13, 3) := by decide +kernel
theorem dX9_pass_168 : decode cX9_pass 168 = .ok (.bipush 121, 2) := by decide +kernel
theorem dX9_pass_170 : decode cX9_pass 170 = .ok (.iload 4, 2) := by decide +kernel
theorem dX9_pass_172 : decode cX9_pass 172 = .ok (.iadd, 1) := by decide +kernel
theorem dX9_pass_173 : decode cX9_pass 173 = .ok (.iaload, 1) := by decide +kernel
theorem dX9_pass_174 : decode cX9_pass 174 = .ok (.aload_n 0, 1) := by decide +kernel
theorem dX9_pass_175 : decode cX9_pass 175 = .ok (.getfield 13, 3) := by decide +kernel
theorem dX9_pass_178 : decode cX9_pass 178 = .ok (.iconst 5, 1) := by decide +kernel
theorem dX9_pass_179 : decode cX9_pass 179 = .ok (.iaload, 1) := by decide +kernel
theorem dX9_pass_180 : decode cX9_pass 180 = .ok (.if_icmp .gt 124, 3) := by decide +kernel
theorem dX9_pass_183 : decode cX9_pass 183 = .ok (.aload_n 0, 1) := by decide +kernel
theorem dX9_pass_184 : decode cX9_pass 184 = .ok (.getfield 13, 3) := by decide +kernel
theorem dX9_pass_187 : decode cX9_pass 187 = .ok (.sipush 157, 3) := by decide +kernel
theorem dX9_pass_190 : decode cX9_pass 190 = .ok (.iload 4, 2) := by decide +kernel
theorem dX9_pass_192 : decode cX9_pass 192 = .ok (.iadd, 1) := by decide +kernel
theorem dX9_pass_193 : decode cX9_pass 193 = .ok (.iaload, 1) := by decide +kernel
theorem dX9_pass_194 : decode cX9_pass 194 = .ok (.ifCond .ne 42, 3) := by decide +kernel
theorem dX9_pass_197 : decode cX9_pass 197 = .ok (.aload_n 0, 1) := by decide +kernel
theorem dX9_pass_198 : decode cX9_pass 198 = .ok (.getfield 13, 3) := by decide +kernel
theorem dX9_pass_201 : decode cX9_pass 201 = .ok (.iconst 5, 1) := by decide +kernel
theorem dX9_pass_202 : decode cX9_pass 202 = .ok (.dup2, 1) := by decide +kernel
theorem dX9_pass_203 : decode cX9_pass 203 = .ok (.iaload, 1) := by decide +kernel
theorem dX9_pass_204 : decode cX9_pass 204 = .ok (.aload_n 0, 1) := by decide +kernel
theorem dX9_pass_205 : decode cX9_pass 205 = .ok (.getfield 13, 3) := by decide +kernel
theorem dX9_pass_208 : decode cX9_pass 208 = .ok (.bipush 121, 2) := by decide +kernel
theorem dX9_pass_210 : decode cX9_pass 210 = .ok (.iload 4, 2) := by decide +kernel
theorem dX9_pass_212 : decode cX9_pass 212 = .ok (.iadd, 1) := by decide +kernel
theorem dX9_pass_213 : decode cX9_pass 213 = .ok (.iaload, 1) := by decide +kernel
theorem dX9_pass_214 : decode cX9_pass 214 = .ok (.isub, 1) := by decide +kernel
theorem dX9_pass_215 : decode cX9_pass 215 = .ok (.iastore, 1) := by decide +kernel
theorem dX9_pass_216 : decode cX9_pass 216 = .ok (.aload_n 0, 1) := by decide +kernel
theorem dX9_pass_217 : decode cX9_pass 217 = .ok (.getfield 13, 3) := by decide +kernel
theorem dX9_pass_220 : decode cX9_pass 220 = .ok (.bipush 6, 2) := by decide +kernel
theorem dX9_pass_222 : decode cX9_pass 222 = .ok (.dup2, 1) := by decide +kernel
theorem dX9_pass_223 : decode cX9_pass 223 = .ok (.iaload, 1) := by decide +kernel
theorem dX9_pass_224 : decode cX9_pass 224 = .ok (.aload_n 0, 1) := by decide +kernel
theorem dX9_pass_225 : decode cX9_pass 225 = .ok (.getfield 13, 3) := by decide +kernel
theorem dX9_pass_228 : decode cX9_pass 228 = .ok (.bipush 121, 2) := by decide +kernel
theorem dX9_pass_230 : decode cX9_pass 230 = .ok (.iload 4, 2) := by decide +kernel
theorem dX9_pass_232 : decode cX9_pass 232 = .ok (.iadd, 1) := by decide +kernel
theorem dX9_pass_233 : decode cX9_pass 233 = .ok (.iaload, 1) := by decide +kernel
theorem dX9_pass_234 : decode cX9_pass 234 = .ok (.iadd, 1) := by decide +kernel
theorem dX9_pass_235 : decode cX9_pass 235 = .ok (.iastore, 1) := by decide +kernel
theorem dX9_pass_236 : decode cX9_pass 236 = .ok (.aload_n 0, 1) := by decide +kernel
theorem dX9_pass_237 : decode cX9_pass 237 = .ok (.getfield 13, 3) := by decide +kernel
theorem dX9_pass_240 : decode cX9_pass 240 = .ok (.sipush 157, 3) := by decide +kernel
theorem dX9_pass_243 : decode cX9_pass 243 = .ok (.iload 4, 2) := by decide +kernel
theorem dX9_pass_245 : decode cX9_pass 245 = .ok (.iadd, 1) := by decide +kernel
theorem dX9_pass_246 : decode cX9_pass 246 = .ok (.dup2, 1) := by decide +kernel
theorem dX9_pass_247 : decode cX9_pass 247 = .ok (.iaload, 1) := by decide +kernel
theorem dX9_pass_248 : decode cX9_pass 248 = .ok (.iconst 1, 1) := by decide +kernel
theorem dX9_pass_249 : decode cX9_pass 249 = .ok (.iadd, 1) := by decide +kernel
theorem dX9_pass_250 : decode cX9_pass 250 = .ok (.iastore, 1) := by decide +kernel
theorem dX9_pass_251 : decode cX9_pass 251 = .ok (.aload_n 0, 1) := by decide +kernel
theorem dX9_pass_252 : decode cX9_pass 252 = .ok (.getfield 13, 3) := by decide +kernel
theorem dX9_pass_255 : decode cX9_pass 255 = .ok (.sipush 145, 3) := by decide +kernel
theorem dX9_pass_258 : decode cX9_pass 258 = .ok (.iload 4, 2) := by decide +kernel
theorem dX9_pass_260 : decode cX9_pass 260 = .ok (.iadd, 1) := by decide +kernel
theorem dX9_pass_261 : decode cX9_pass 261 = .ok (.aload_n 0, 1) := by decide +kernel
theorem dX9_pass_262 : decode cX9_pass 262 = .ok (.getfield 13, 3) := by decide +kernel
theorem dX9_pass_265 : decode cX9_pass 265 = .ok (.sipush 157, 3) := by decide +kernel
theorem dX9_pass_268 : decode cX9_pass 268 = .ok (.iload 4, 2) := by decide +kernel
theorem dX9_pass_270 : decode cX9_pass 270 = .ok (.iadd, 1) := by decide +kernel
theorem dX9_pass_271 : decode cX9_pass 271 = .ok (.iaload, 1) := by decide +kernel
theorem dX9_pass_272 : decode cX9_pass 272 = .ok (.aload_n 0, 1) := by decide +kernel
theorem dX9_pass_273 : decode cX9_pass 273 = .ok (.getfield 13, 3) := by decide +kernel
theorem dX9_pass_276 : decode cX9_pass 276 = .ok (.bipush 109, 2) := by decide +kernel
theorem dX9_pass_278 : decode cX9_pass 278 = .ok (.iload 4, 2) := by decide +kernel
theorem dX9_pass_280 : decode cX9_pass 280 = .ok (.iadd, 1) := by decide +kernel
theorem dX9_pass_281 : decode cX9_pass 281 = .ok (.iaload, 1) := by decide +kernel
theorem dX9_pass_282 : decode cX9_pass 282 = .ok (.if_icmp .ne 7, 3) := by decide +kernel
theorem dX9_pass_285 : decode cX9_pass 285 = .ok (.iconst 2, 1) := by decide +kernel
theorem dX9_pass_286 : decode cX9_pass 286 = .ok (.goto 4, 3) := by decide +kernel
theorem dX9_pass_289 : decode cX9_pass 289 = .ok (.iconst 1, 1) := by decide +kernel
theorem dX9_pass_290 : decode cX9_pass 290 = .ok (.iastore, 1) := by decide +kernel
theorem dX9_pass_291 : decode cX9_pass 291 = .ok (.iload_n 3, 1) := by decide +kernel
theorem dX9_pass_292 : decode cX9_pass 292 = .ok (.aload_n 0, 1) := by decide +kernel
theorem dX9_pass_293 : decode cX9_pass 293 = .ok (.getfield 13, 3) := by decide +kernel
theorem dX9_pass_296 : decode cX9_pass 296 = .ok (.bipush 97, 2) := by decide +kernel
theorem dX9_pass_298 : decode cX9_pass 298 = .ok (.iload 4, 2) := by decide +kernel
theorem dX9_pass_300 : decode cX9_pass 300 = .ok (.iadd, 1) := by decide +kernel
theorem dX9_pass_301 : decode cX9_pass 301 = .ok (.iaload, 1) := by decide +kernel
theorem dX9_pass_302 : decode cX9_pass 302 = .ok (.isub, 1) := by decide +kernel
theorem dX9_pass_303 : decode cX9_pass 303 = .ok (.istore_n 3, 1) := by decide +kernel
theorem dX9_pass_304 : decode cX9_pass 304 = .ok (.iinc 4 1, 3) := by decide +kernel
theorem dX9_pass_307 : decode cX9_pass 307 = .ok (.goto (-286), 3) := by decide +kernel
theorem dX9_pass_310 : decode cX9_pass 310 = .ok (.aload_n 0, 1) := by decide +kernel
theorem dX9_pass_311 : decode cX9_pass 311 = .ok (.getfield 13, 3) := by decide +kernel
theorem dX9_pass_314 : decode cX9_pass 314 = .ok (.bipush 7, 2) := by decide +kernel
theorem dX9_pass_316 : decode cX9_pass 316 = .ok (.dup2, 1) := by decide +kernel
theorem dX9_pass_317 : decode cX9_pass 317 = .ok (.iaload, 1) := by decide +kernel
theorem dX9_pass_318 : decode cX9_pass 318 = .ok (.aload_n 0, 1) := by decide +kernel
theorem dX9_pass_319 : decode cX9_pass 319 = .ok (.getfield 29, 3) := by decide +kernel
theorem dX9_pass_322 : decode cX9_pass 322 = .ok (.iconst 3, 1) := by decide +kernel
theorem dX9_pass_323 : decode cX9_pass 323 = .ok (.iaload, 1) := by decide +kernel
theorem dX9_pass_324 : decode cX9_pass 324 = .ok (.iload_n 3, 1) := by decide +kernel
theorem dX9_pass_325 : decode cX9_pass 325 = .ok (.isub, 1) := by decide +kernel
theorem dX9_pass_326 : decode cX9_pass 326 = .ok (.iadd, 1) := by decide +kernel
theorem dX9_pass_327 : decode cX9_pass 327 = .ok (.iastore, 1) := by decide +kernel
theorem dX9_pass_328 : decode cX9_pass 328 = .ok (.iconst 0, 1) := by decide +kernel
theorem dX9_pass_329 : decode cX9_pass 329 = .ok (.istore 4, 2) := by decide +kernel
theorem dX9_pass_331 : decode cX9_pass 331 = .ok (.iconst 0, 1) := by decide +kernel
theorem dX9_pass_332 : decode cX9_pass 332 = .ok (.istore 5, 2) := by decide +kernel
theorem dX9_pass_334 : decode cX9_pass 334 = .ok (.iload 5, 2) := by decide +kernel
theorem dX9_pass_336 : decode cX9_pass 336 = .ok (.aload_n 0, 1) := by decide +kernel
theorem dX9_pass_337 : decode cX9_pass 337 = .ok (.getfield 13, 3) := by decide +kernel
theorem dX9_pass_340 : decode cX9_pass 340 = .ok (.bipush 12, 2) := by decide +kernel
theorem dX9_pass_342 : decode cX9_pass 342 = .ok (.iaload, 1) := by decide +kernel
theorem dX9_pass_343 : decode cX9_pass 343 = .ok (.if_icmp .ge 50, 3) := by decide +kernel
theorem dX9_pass_346 : decode cX9_pass 346 = .ok (.iload 4, 2) := by decide +kernel
theorem dX9_pass_348 : decode cX9_pass 348 = .ok (.aload_n 0, 1) := by decide +kernel
theorem dX9_pass_349 : decode cX9_pass 349 = .ok (.getfield 13, 3) := by decide +kernel
theorem dX9_pass_352 : decode cX9_pass 352 = .ok (.sipush 145, 3) := by decide +kernel
theorem dX9_pass_355 : decode cX9_pass 355 = .ok (.iload 5, 2) := by decide +kernel
theorem dX9_pass_357 : decode cX9_pass 357 = .ok (.iadd, 1) := by decide +kernel
theorem dX9_pass_358 : decode cX9_pass 358 = .ok (.iaload, 1) := by decide +kernel
theorem dX9_pass_359 : decode cX9_pass 359 = .ok (.iconst 1, 1) := by decide +kernel
theorem dX9_pass_360 : decode cX9_pass 360 = .ok (.if_icmp .ne 23, 3) := by decide +kernel
theorem dX9_pass_363 : decode cX9_pass 363 = .ok (.aload_n 0, 1) := by decide +kernel
theorem dX9_pass_364 : decode cX9_pass 364 = .ok (.iload 5, 2) := by decide +kernel
theorem dX9_pass_366 : decode cX9_pass 366 = .ok (.aload_n 0, 1) := by decide +kernel
theorem dX9_pass_367 : decode cX9_pass 367 = .ok (.getfield 13, 3) := by decide +kernel
theorem dX9_pass_370 : decode cX9_pass 370 = .ok (.iconst 0, 1) := by decide +kernel
theorem dX9_pass_371 : decode cX9_pass 371 = .ok (.iaload, 1) := by decide +kernel
theorem dX9_pass_372 : decode cX9_pass 372 = .ok (.invokevirtual 129, 3) := by decide +kernel
theorem dX9_pass_375 : decode cX9_pass 375 = .ok (.ifCond .ne 8, 3) := by decide +kernel
theorem dX9_pass_378 : decode cX9_pass 378 = .ok (.bipush 10, 2) := by decide +kernel
theorem dX9_pass_380 : decode cX9_pass 380 = .ok (.goto 4, 3) := by decide +kernel
theorem dX9_pass_383 : decode cX9_pass 383 = .ok (.iconst 0, 1) := by decide +kernel
theorem dX9_pass_384 : decode cX9_pass 384 = .ok (.iadd, 1) := by decide +kernel
theorem dX9_pass_385 : decode cX9_pass 385 = .ok (.istore 4, 2) := by decide +kernel
theorem dX9_pass_387 : decode cX9_pass 387 = .ok (.iinc 5 1, 3) := by decide +kernel
theorem dX9_pass_390 : decode cX9_pass 390 = .ok (.goto (-56), 3) := by decide +kernel
theorem dX9_pass_393 : decode cX9_pass 393 = .ok (.aload_n 0, 1) := by decide +kernel
theorem dX9_pass_394 : decode cX9_pass 394 = .ok (.getfield 13, 3) := by decide +kernel
theorem dX9_pass_397 : decode cX9_pass 397 = .ok (.iconst 2, 1) := by decide +kernel
theorem dX9_pass_398 : decode cX9_pass 398 = .ok (.dup2, 1) := by decide +kernel
theorem dX9_pass_399 : decode cX9_pass 399 = .ok (.iaload, 1) := by decide +kernel
theorem dX9_pass_400 : decode cX9_pass 400 = .ok (.iload 4, 2) := by decide +kernel
theorem dX9_pass_402 : decode cX9_pass 402 = .ok (.ifCond .le 8, 3) := by decide +kernel
theorem dX9_pass_405 : decode cX9_pass 405 = .ok (.iload 4, 2) := by decide +kernel
theorem dX9_pass_407 : decode cX9_pass 407 = .ok (.goto 25, 3) := by decide +kernel
theorem dX9_pass_410 : decode cX9_pass 410 = .ok (.aload_n 0, 1) := by decide +kernel
theorem dX9_pass_411 : decode cX9_pass 411 = .ok (.getfield 13, 3) := by decide +kernel
theorem dX9_pass_414 : decode cX9_pass 414 = .ok (.iconst 2, 1) := by decide +kernel
theorem dX9_pass_415 : decode cX9_pass 415 = .ok (.iaload, 1) := by decide +kernel
theorem dX9_pass_416 : decode cX9_pass 416 = .ok (.iconst 5, 1) := by decide +kernel
theorem dX9_pass_417 : decode cX9_pass 417 = .ok (.if_icmp .ge 13, 3) := by decide +kernel
theorem dX9_pass_420 : decode cX9_pass 420 = .ok (.aload_n 0, 1) := by decide +kernel
theorem dX9_pass_421 : decode cX9_pass 421 = .ok (.getfield 13, 3) := by decide +kernel
theorem dX9_pass_424 : decode cX9_pass 424 = .ok (.iconst 2, 1) := by decide +kernel
theorem dX9_pass_425 : decode cX9_pass 425 = .ok (.iaload, 1) := by decide +kernel
theorem dX9_pass_426 : decode cX9_pass 426 = .ok (.ineg, 1) := by decide +kernel
theorem dX9_pass_427 : decode cX9_pass 427 = .ok (.goto 5, 3) := by decide +kernel
theorem dX9_pass_430 : decode cX9_pass 430 = .ok (.bipush (-5), 2) := by decide +kernel
theorem dX9_pass_432 : decode cX9_pass 432 = .ok (.iadd, 1) := by decide +kernel
theorem dX9_pass_433 : decode cX9_pass 433 = .ok (.iastore, 1) := by decide +kernel
theorem dX9_pass_434 : decode cX9_pass 434 = .ok (.aload_n 0, 1) := by decide +kernel
theorem dX9_pass_435 : decode cX9_pass 435 = .ok (.aload_n 0, 1) := by decide +kernel
theorem dX9_pass_436 : decode cX9_pass 436 = .ok (.getfield 13, 3) := by decide +kernel
theorem dX9_pass_439 : decode cX9_pass 439 = .ok (.iconst 1, 1) := by decide +kernel
theorem dX9_pass_440 : decode cX9_pass 440 = .ok (.iaload, 1) := by decide +kernel
theorem dX9_pass_441 : decode cX9_pass 441 = .ok (.iload_n 2, 1) := by decide +kernel
theorem dX9_pass_442 : decode cX9_pass 442 = .ok (.invokevirtual 119, 3) := by decide +kernel
theorem dX9_pass_445 : decode cX9_pass 445 = .ok (.ifCond .ne 11, 3) := by decide +kernel
theorem dX9_pass_448 : decode cX9_pass 448 = .ok (.aload_n 0, 1) := by decide +kernel
theorem dX9_pass_449 : decode cX9_pass 449 = .ok (.iload_n 2, 1) := by decide +kernel
theorem dX9_pass_450 : decode cX9_pass 450 = .ok (.invokevirtual 136, 3) := by decide +kernel
theorem dX9_pass_453 : decode cX9_pass 453 = .ok (.goto (-19), 3) := by decide +kernel
theorem dX9_pass_456 : decode cX9_pass 456 = .ok (.aload_n 0, 1) := by decide +kernel
theorem dX9_pass_457 : decode cX9_pass 457 = .ok (.getfield 13, 3) := by decide +kernel
theorem dX9_pass_460 : decode cX9_pass 460 = .ok (.iconst 0, 1) := by decide +kernel
theorem dX9_pass_461 : decode cX9_pass 461 = .ok (.dup2, 1) := by decide +kernel
theorem dX9_pass_462 : decode cX9_pass 462 = .ok (.iaload, 1) := by decide +kernel
theorem dX9_pass_463 : decode cX9_pass 463 = .ok (.iconst 1, 1) := by decide +kernel
theorem dX9_pass_464 : decode cX9_pass 464 = .ok (.iadd, 1) := by decide +kernel
theorem dX9_pass_465 : decode cX9_pass 465 = .ok (.iastore, 1) := by decide +kernel
theorem dX9_pass_466 : decode cX9_pass 466 = .ok (.aload_n 0, 1) := by decide +kernel
theorem dX9_pass_467 : decode cX9_pass 467 = .ok (.getfield 13, 3) := by decide +kernel
theorem dX9_pass_470 : decode cX9_pass 470 = .ok (.iconst 3, 1) := by decide +kernel
theorem dX9_pass_471 : decode cX9_pass 471 = .ok (.iconst 0, 1) := by decide +kernel
theorem dX9_pass_472 : decode cX9_pass 472 = .ok (.iastore, 1) := by decide +kernel
theorem dX9_pass_473 : decode cX9_pass 473 = .ok (.aload_n 0, 1) := by decide +kernel
theorem dX9_pass_474 : decode cX9_pass 474 = .ok (.getfield 13, 3) := by decide +kernel
theorem dX9_pass_477 : decode cX9_pass 477 = .ok (.iconst 4, 1) := by decide +kernel
theorem dX9_pass_478 : decode cX9_pass 478 = .ok (.iconst 0, 1) := by decide +kernel
theorem dX9_pass_479 : decode cX9_pass 479 = .ok (.iastore, 1) := by decide +kernel
theorem dX9_pass_480 : decode cX9_pass 480 = .ok (.return_, 1) := by decide +kernel
set_option maxRecDepth 20000 in
theorem ggX9_hour_X9_in : GoodIn wsX9_hour wsX9_in := goodIn_r _ [6] (by decide +kernel) (by decide +kernel)
set_option maxRecDepth 20000 in
theorem gX9_hour_X9_in : GoodIn wsX9_hour (va_wsS RX9 46 yX9_in wsX9_in) := goodIn_app (goodIn_of _ (by decide +kernel)) ggX9_hour_X9_in
set_option maxRecDepth 20000 in
theorem ggX9_hour_X9_isLost : GoodIn wsX9_hour wsX9_isLost := goodIn_r _ [10, 2, 69, 70, 71, 72, 73, 74, 75, 76, 77, 78, 79, 80, 81, 82, 83, 84, 85, 86, 87] (by decide +kernel) (by decide +kernel)
set_option maxRecDepth 20000 in
theorem gX9_hour_X9_isLost : GoodIn wsX9_hour (wsV RX9 123 RX9 yX9_isLost wsX9_isLost) := goodIn_app (goodIn_of _ (by decide +kernel)) ggX9_hour_X9_isLost
set_option maxRecDepth 20000 in
theorem ggX9_hour_X9_pass : GoodIn wsX9_hour wsX9_pass := goodIn_r _ [14, 2, 15, 16, 17, 18, 5, 19, 20, 21, 22, 23, 24, 25, 26, 27, 28, 29, 30, 31, 32, 33, 34, 35, 36, 37, 38, 39, 40, 41, 42, 43, 44, 45, 46, 47, 48, 49, 50, 51, 52, 53, 54, 55, 56, 57, 58, 59, 60, 61, 62, 63, 64, 65, 66, 67, 68, 69, 70, 71, 72, 73, 74, 75, 76, 77, 78, 79, 80, 81, 82, 83, 84, 85, 86, 87] (by decide +kernel) (by decide +kernel)
set_option maxRecDepth 20000 in
theorem gX9_hour_X9_pass : GoodIn wsX9_hour (wsV RX9 140 RX9 yX9_pass wsX9_pass) := goodIn_app (goodIn_of _ (by decide +kernel)) ggX9_hour_X9_pass
theorem dX9_hour_0 : decode cX9_hour 0 = .ok (.aload_n 0, 1) := by decide +kernel
theorem dX9_hour_1 : decode cX9_hour 1 = .ok (.iconst 0, 1) := by decide +kernel
theorem dX9_hour_2 : decode cX9_hour 2 = .ok (.putfield 1, 3) := by decide +kernel
theorem dX9_hour_5 : decode cX9_hour 5 = .ok (.iload_n 1, 1) := by decide +kernel
theorem dX9_hour_6 : decode cX9_hour 6 = .ok (.i2l, 1) := by decide +kernel
theorem dX9_hour_7 : decode cX9_hour 7 = .ok (.lconst 0, 1) := by decide +kernel
theorem dX9_hour_8 : decode cX9_hour 8 = .ok (.iconst 1, 1) := by decide +kernel
theorem dX9_hour_9 : decode cX9_hour 9 = .ok (.aload_n 0, 1) := by decide +kernel
theorem dX9_hour_10 : decode cX9_hour 10 = .ok (.getfield 13, 3) := by decide +kernel
theorem dX9_hour_13 : decode cX9_hour 13 = .ok (.bipush 12, 2) := by decide +kernel
theorem dX9_hour_15 : decode cX9_hour 15 = .ok (.iaload, 1) := by decide +kernel
theorem dX9_hour_16 : decode cX9_hour 16 = .ok (.ishl, 1) := by decide +kernel
theorem dX9_hour_17 : decode cX9_hour 17 = .ok (.iconst 1, 1) := by decide +kernel
theorem dX9_hour_18 : decode cX9_hour 18 = .ok (.isub, 1) := by decide +kernel
theorem dX9_hour_19 : decode cX9_hour 19 = .ok (.i2l, 1) := by decide +kernel
theorem dX9_hour_20 : decode cX9_hour 20 = .ok (.invokestatic 46, 3) := by decide +kernel
theorem dX9_hour_23 : decode cX9_hour 23 = .ok (.ifCond .ne 5, 3) := by decide +kernel
theorem dX9_hour_26 : decode cX9_hour 26 = .ok (.iconst (-1), 1) := by decide +kernel
theorem dX9_hour_27 : decode cX9_hour 27 = .ok (.ireturn, 1) := by decide +kernel
theorem dX9_hour_28 : decode cX9_hour 28 = .ok (.aload_n 0, 1) := by decide +kernel
theorem dX9_hour_29 : decode cX9_hour 29 = .ok (.invokevirtual 123, 3) := by decide +kernel
theorem dX9_hour_32 : decode cX9_hour 32 = .ok (.ifCond .ne 14, 3) := by decide +kernel
theorem dX9_hour_35 : decode cX9_hour 35 = .ok (.aload_n 0, 1) := by decide +kernel
theorem dX9_hour_36 : decode cX9_hour 36 = .ok (.getfield 13, 3) := by decide +kernel
theorem dX9_hour_39 : decode cX9_hour 39 = .ok (.iconst 0, 1) := by decide +kernel
theorem dX9_hour_40 : decode cX9_hour 40 = .ok (.iaload, 1) := by decide +kernel
theorem dX9_hour_41 : decode cX9_hour 41 = .ok (.bipush 95, 2) := by decide +kernel
theorem dX9_hour_43 : decode cX9_hour 43 = .ok (.if_icmp .le 6, 3) := by decide +kernel
theorem dX9_hour_46 : decode cX9_hour 46 = .ok (.bipush (-2), 2) := by decide +kernel
theorem dX9_hour_48 : decode cX9_hour 48 = .ok (.ireturn, 1) := by decide +kernel
theorem dX9_hour_49 : decode cX9_hour 49 = .ok (.aload_n 0, 1) := by decide +kernel
theorem dX9_hour_50 : decode cX9_hour 50 = .ok (.iload_n 1, 1) := by decide +kernel
theorem dX9_hour_51 : decode cX9_hour 51 = .ok (.invokevirtual 140, 3) := by decide +kernel
theorem dX9_hour_54 : decode cX9_hour 54 = .ok (.aload_n 0, 1) := by decide +kernel
theorem dX9_hour_55 : decode cX9_hour 55 = .ok (.getfield 13, 3) := by decide +kernel
theorem dX9_hour_58 : decode cX9_hour 58 = .ok (.iconst 2, 1) := by decide +kernel
theorem dX9_hour_59 : decode cX9_hour 59 = .ok (.iaload, 1) := by decide +kernel
theorem dX9_hour_60 : decode cX9_hour 60 = .ok (.ireturn, 1) := by decide +kernel
set_option maxRecDepth 20000 in
theorem ggX9_rig_X9_in : GoodIn wsX9_rig wsX9_in := goodIn_r _ [6] (by decide +kernel) (by decide +kernel)
set_option maxRecDepth 20000 in
theorem gX9_rig_X9_in : GoodIn wsX9_rig (va_wsS RX9 46 yX9_in wsX9_in) := goodIn_app (goodIn_of _ (by decide +kernel)) ggX9_rig_X9_in
set_option maxRecDepth 20000 in
theorem ggX9_rig_X9_rains : GoodIn wsX9_rig wsX9_rains := goodIn_r _ [10, 11, 48, 49, 50, 51, 52, 53, 54, 55, 56, 57, 58, 59, 60, 61, 62, 63, 64, 65, 66] (by decide +kernel) (by decide +kernel)
set_option maxRecDepth 20000 in
theorem gX9_rig_X9_rains : GoodIn wsX9_rig (wsV RX9 116 RX9 yX9_rains wsX9_rains) := goodIn_app (goodIn_of _ (by decide +kernel)) ggX9_rig_X9_rains
set_option maxRecDepth 20000 in
theorem ggX9_rig_X9_holds : GoodIn wsX9_rig wsX9_holds := goodIn_r _ [15, 2, 16, 17, 18, 19, 5, 20, 21, 22, 23, 24, 25, 26, 27, 28, 29, 30, 31, 32, 33, 34, 35, 36, 37, 38, 39, 40, 41, 42, 43, 44, 45, 46, 47, 48, 49, 50, 51, 52, 53, 54, 55, 56, 57, 58, 59, 60, 61, 62, 63, 64, 65, 66] (by decide +kernel) (by decide +kernel)
set_option maxRecDepth 20000 in
theorem gX9_rig_X9_holds : GoodIn wsX9_rig (wsV RX9 119 RX9 yX9_holds wsX9_holds) := goodIn_app (goodIn_of _ (by decide +kernel)) ggX9_rig_X9_holds
theorem dX9_rig_0 : decode cX9_rig 0 = .ok (.aload_n 0, 1) := by decide +kernel
theorem dX9_rig_1 : decode cX9_rig 1 = .ok (.iconst 0, 1) := by decide +kernel
theorem dX9_rig_2 : decode cX9_rig 2 = .ok (.putfield 1, 3) := by decide +kernel
theorem dX9_rig_5 : decode cX9_rig 5 = .ok (.iload_n 1, 1) := by decide +kernel
theorem dX9_rig_6 : decode cX9_rig 6 = .ok (.i2l, 1) := by decide +kernel
theorem dX9_rig_7 : decode cX9_rig 7 = .ok (.lconst 0, 1) := by decide +kernel
theorem dX9_rig_8 : decode cX9_rig 8 = .ok (.aload_n 0, 1) := by decide +kernel
theorem dX9_rig_9 : decode cX9_rig 9 = .ok (.getfield 13, 3) := by decide +kernel
theorem dX9_rig_12 : decode cX9_rig 12 = .ok (.bipush 11, 2) := by decide +kernel
theorem dX9_rig_14 : decode cX9_rig 14 = .ok (.iaload, 1) := by decide +kernel
theorem dX9_rig_15 : decode cX9_rig 15 = .ok (.iconst 1, 1) := by decide +kernel
theorem dX9_rig_16 : decode cX9_rig 16 = .ok (.isub, 1) := by decide +kernel
theorem dX9_rig_17 : decode cX9_rig 17 = .ok (.i2l, 1) := by decide +kernel
theorem dX9_rig_18 : decode cX9_rig 18 = .ok (.invokestatic 46, 3) := by decide +kernel
theorem dX9_rig_21 : decode cX9_rig 21 = .ok (.ifCond .ne 5, 3) := by decide +kernel
theorem dX9_rig_24 : decode cX9_rig 24 = .ok (.iconst (-1), 1) := by decide +kernel
theorem dX9_rig_25 : decode cX9_rig 25 = .ok (.ireturn, 1) := by decide +kernel
theorem dX9_rig_26 : decode cX9_rig 26 = .ok (.aload_n 0, 1) := by decide +kernel
theorem dX9_rig_27 : decode cX9_rig 27 = .ok (.getfield 13, 3) := by decide +kernel
theorem dX9_rig_30 : decode cX9_rig 30 = .ok (.bipush 67, 2) := by decide +kernel
theorem dX9_rig_32 : decode cX9_rig 32 = .ok (.iload_n 1, 1) := by decide +kernel
theorem dX9_rig_33 : decode cX9_rig 33 = .ok (.iadd, 1) := by decide +kernel
theorem dX9_rig_34 : decode cX9_rig 34 = .ok (.iaload, 1) := by decide +kernel
theorem dX9_rig_35 : decode cX9_rig 35 = .ok (.istore_n 3, 1) := by decide +kernel
theorem dX9_rig_36 : decode cX9_rig 36 = .ok (.aload_n 0, 1) := by decide +kernel
theorem dX9_rig_37 : decode cX9_rig 37 = .ok (.getfield 13, 3) := by decide +kernel
theorem dX9_rig_40 : decode cX9_rig 40 = .ok (.bipush 67, 2) := by decide +kernel
theorem dX9_rig_42 : decode cX9_rig 42 = .ok (.iload_n 1, 1) := by decide +kernel
theorem dX9_rig_43 : decode cX9_rig 43 = .ok (.iadd, 1) := by decide +kernel
theorem dX9_rig_44 : decode cX9_rig 44 = .ok (.iload_n 2, 1) := by decide +kernel
theorem dX9_rig_45 : decode cX9_rig 45 = .ok (.ifCond .eq 7, 3) := by decide +kernel
theorem dX9_rig_48 : decode cX9_rig 48 = .ok (.iconst 1, 1) := by decide +kernel
theorem dX9_rig_49 : decode cX9_rig 49 = .ok (.goto 4, 3) := by decide +kernel
theorem dX9_rig_52 : decode cX9_rig 52 = .ok (.iconst 0, 1) := by decide +kernel
theorem dX9_rig_53 : decode cX9_rig 53 = .ok (.iastore, 1) := by decide +kernel
theorem dX9_rig_54 : decode cX9_rig 54 = .ok (.aload_n 0, 1) := by decide +kernel
theorem dX9_rig_55 : decode cX9_rig 55 = .ok (.aload_n 0, 1) := by decide +kernel
theorem dX9_rig_56 : decode cX9_rig 56 = .ok (.getfield 13, 3) := by decide +kernel
theorem dX9_rig_59 : decode cX9_rig 59 = .ok (.iconst 1, 1) := by decide +kernel
theorem dX9_rig_60 : decode cX9_rig 60 = .ok (.iaload, 1) := by decide +kernel
theorem dX9_rig_61 : decode cX9_rig 61 = .ok (.aload_n 0, 1) := by decide +kernel
theorem dX9_rig_62 : decode cX9_rig 62 = .ok (.aload_n 0, 1) := by decide +kernel
theorem dX9_rig_63 : decode cX9_rig 63 = .ok (.getfield 13, 3) := by decide +kernel
theorem dX9_rig_66 : decode cX9_rig 66 = .ok (.iconst 0, 1) := by decide +kernel
theorem dX9_rig_67 : decode cX9_rig 67 = .ok (.iaload, 1) := by decide +kernel
theorem dX9_rig_68 : decode cX9_rig 68 = .ok (.invokevirtual 116, 3) := by decide +kernel
theorem dX9_rig_71 : decode cX9_rig 71 = .ok (.invokevirtual 119, 3) := by decide +kernel
theorem dX9_rig_74 : decode cX9_rig 74 = .ok (.ifCond .ne 16, 3) := by decide +kernel
theorem dX9_rig_77 : decode cX9_rig 77 = .ok (.aload_n 0, 1) := by decide +kernel
theorem dX9_rig_78 : decode cX9_rig 78 = .ok (.getfield 13, 3) := by decide +kernel
theorem dX9_rig_81 : decode cX9_rig 81 = .ok (.bipush 67, 2) := by decide +kernel
theorem dX9_rig_83 : decode cX9_rig 83 = .ok (.iload_n 1, 1) := by decide +kernel
theorem dX9_rig_84 : decode cX9_rig 84 = .ok (.iadd, 1) := by decide +kernel
theorem dX9_rig_85 : decode cX9_rig 85 = .ok (.iload_n 3, 1) := by decide +kernel
theorem dX9_rig_86 : decode cX9_rig 86 = .ok (.iastore, 1) := by decide +kernel
theorem dX9_rig_87 : decode cX9_rig 87 = .ok (.bipush (-2), 2) := by decide +kernel
theorem dX9_rig_89 : decode cX9_rig 89 = .ok (.ireturn, 1) := by decide +kernel
theorem dX9_rig_90 : decode cX9_rig 90 = .ok (.iload_n 3, 1) := by decide +kernel
theorem dX9_rig_91 : decode cX9_rig 91 = .ok (.ireturn, 1) := by decide +kernel
theorem dX9_hoursFor_0 : decode cX9_hoursFor 0 = .ok (.aload_n 0, 1) := by decide +kernel
theorem dX9_hoursFor_1 : decode cX9_hoursFor 1 = .ok (.getfield 13, 3) := by decide +kernel
theorem dX9_hoursFor_4 : decode cX9_hoursFor 4 = .ok (.sipush 145, 3) := by decide +kernel
theorem dX9_hoursFor_7 : decode cX9_hoursFor 7 = .ok (.iload_n 1, 1) := by decide +kernel
theorem dX9_hoursFor_8 : decode cX9_hoursFor 8 = .ok (.iadd, 1) := by decide +kernel
theorem dX9_hoursFor_9 : decode cX9_hoursFor 9 = .ok (.iaload, 1) := by decide +kernel
theorem dX9_hoursFor_10 : decode cX9_hoursFor 10 = .ok (.ifCond .ne 7, 3) := by decide +kernel
theorem dX9_hoursFor_13 : decode cX9_hoursFor 13 = .ok (.iconst 1, 1) := by decide +kernel
theorem dX9_hoursFor_14 : decode cX9_hoursFor 14 = .ok (.goto 4, 3) := by decide +kernel
theorem dX9_hoursFor_17 : decode cX9_hoursFor 17 = .ok (.iconst 0, 1) := by decide +kernel
theorem dX9_hoursFor_18 : decode cX9_hoursFor 18 = .ok (.aload_n 0, 1) := by decide +kernel
theorem dX9_hoursFor_19 : decode cX9_hoursFor 19 = .ok (.getfield 13, 3) := by decide +kernel
theorem dX9_hoursFor_22 : decode cX9_hoursFor 22 = .ok (.bipush 109, 2) := by decide +kernel
theorem dX9_hoursFor_24 : decode cX9_hoursFor 24 = .ok (.iload_n 1, 1) := by decide +kernel
theorem dX9_hoursFor_25 : decode cX9_hoursFor 25 = .ok (.iadd, 1) := by decide +kernel
theorem dX9_hoursFor_26 : decode cX9_hoursFor 26 = .ok (.iaload, 1) := by decide +kernel
theorem dX9_hoursFor_27 : decode cX9_hoursFor 27 = .ok (.iadd, 1) := by decide +kernel
theorem dX9_hoursFor_28 : decode cX9_hoursFor 28 = .ok (.aload_n 0, 1) := by decide +kernel
theorem dX9_hoursFor_29 : decode cX9_hoursFor 29 = .ok (.getfield 13, 3) := by decide +kernel
theorem dX9_hoursFor_32 : decode cX9_hoursFor 32 = .ok (.sipush 157, 3) := by decide +kernel
theorem dX9_hoursFor_35 : decode cX9_hoursFor 35 = .ok (.iload_n 1, 1) := by decide +kernel
theorem dX9_hoursFor_36 : decode cX9_hoursFor 36 = .ok (.iadd, 1) := by decide +kernel
theorem dX9_hoursFor_37 : decode cX9_hoursFor 37 = .ok (.iaload, 1) := by decide +kernel
theorem dX9_hoursFor_38 : decode cX9_hoursFor 38 = .ok (.isub, 1) := by decide +kernel
theorem dX9_hoursFor_39 : decode cX9_hoursFor 39 = .ok (.ireturn, 1) := by decide +kernel
set_option maxRecDepth 20000 in
theorem ggX9_isPlan_X9_hoursFor : GoodIn wsX9_isPlan wsX9_hoursFor := goodIn_r _ [10, 4, 25, 26, 27, 28, 29, 30, 31, 32, 33, 34, 35, 36, 37, 38, 39, 40, 41, 42, 43] (by decide +kernel) (by decide +kernel)
set_option maxRecDepth 20000 in
theorem gX9_isPlan_X9_hoursFor : GoodIn wsX9_isPlan (wsV RX9 147 RX9 yX9_hoursFor wsX9_hoursFor) := goodIn_app (goodIn_of _ (by decide +kernel)) ggX9_isPlan_X9_hoursFor
set_option maxRecDepth 20000 in
theorem ggX9_isPlan_X9_rains : GoodIn wsX9_isPlan wsX9_rains := goodIn_r _ [14, 15, 25, 26, 27, 28, 29, 30, 31, 32, 33, 34, 35, 36, 37, 38, 39, 40, 41, 42, 43] (by decide +kernel) (by decide +kernel)
set_option maxRecDepth 20000 in
theorem gX9_isPlan_X9_rains : GoodIn wsX9_isPlan (wsV RX9 116 RX9 yX9_rains wsX9_rains) := goodIn_app (goodIn_of _ (by decide +kernel)) ggX9_isPlan_X9_rains
set_option maxRecDepth 20000 in
theorem ggX9_isPlan_X9_isBare : GoodIn wsX9_isPlan wsX9_isBare := goodIn_r _ [19, 4, 20, 21, 22, 9, 23, 24, 25, 26, 27, 28, 29, 30, 31, 32, 33, 34, 35, 36, 37, 38, 39, 40, 41, 42, 43] (by decide +kernel) (by decide +kernel)
set_option maxRecDepth 20000 in
theorem gX9_isPlan_X9_isBare : GoodIn wsX9_isPlan (wsV RX9 129 RX9 yX9_isBare wsX9_isBare) := goodIn_app (goodIn_of _ (by decide +kernel)) ggX9_isPlan_X9_isBare
theorem dX9_isPlan_0 : decode cX9_isPlan 0 = .ok (.iconst 0, 1) := by decide +kernel
theorem dX9_isPlan_1 : decode cX9_isPlan 1 = .ok (.istore_n 2, 1) := by decide +kernel
theorem dX9_isPlan_2 : decode cX9_isPlan 2 = .ok (.iconst 0, 1) := by decide +kernel
theorem dX9_isPlan_3 : decode cX9_isPlan 3 = .ok (.istore_n 3, 1) := by decide +kernel
theorem dX9_isPlan_4 : decode cX9_isPlan 4 = .ok (.iload_n 3, 1) := by decide +kernel
theorem dX9_isPlan_5 : decode cX9_isPlan 5 = .ok (.aload_n 0, 1) := by decide +kernel
theorem dX9_isPlan_6 : decode cX9_isPlan 6 = .ok (.getfield 144, 3) := by decide +kernel
theorem dX9_isPlan_9 : decode cX9_isPlan 9 = .ok (.if_icmp .ge 136, 3) := by decide +kernel
theorem dX9_isPlan_12 : decode cX9_isPlan 12 = .ok (.aload_n 0, 1) := by decide +kernel
theorem dX9_isPlan_13 : decode cX9_isPlan 13 = .ok (.getfield 32, 3) := by decide +kernel
theorem dX9_isPlan_16 : decode cX9_isPlan 16 = .ok (.iload_n 3, 1) := by decide +kernel
theorem dX9_isPlan_17 : decode cX9_isPlan 17 = .ok (.iaload, 1) := by decide +kernel
theorem dX9_isPlan_18 : decode cX9_isPlan 18 = .ok (.istore 4, 2) := by decide +kernel
theorem dX9_isPlan_20 : decode cX9_isPlan 20 = .ok (.aload_n 0, 1) := by decide +kernel
theorem dX9_isPlan_21 : decode cX9_isPlan 21 = .ok (.getfield 35, 3) := by decide +kernel
theorem dX9_isPlan_24 : decode cX9_isPlan 24 = .ok (.iload_n 3, 1) := by decide +kernel
theorem dX9_isPlan_25 : decode cX9_isPlan 25 = .ok (.iaload, 1) := by decide +kernel
theorem dX9_isPlan_26 : decode cX9_isPlan 26 = .ok (.ifCond .lt 113, 3) := by decide +kernel
theorem dX9_isPlan_29 : decode cX9_isPlan 29 = .ok (.iload_n 2, 1) := by decide +kernel
theorem dX9_isPlan_30 : decode cX9_isPlan 30 = .ok (.aload_n 0, 1) := by decide +kernel
theorem dX9_isPlan_31 : decode cX9_isPlan 31 = .ok (.getfield 13, 3) := by decide +kernel
theorem dX9_isPlan_34 : decode cX9_isPlan 34 = .ok (.sipush 157, 3) := by decide +kernel
theorem dX9_isPlan_37 : decode cX9_isPlan 37 = .ok (.iload 4, 2) := by decide +kernel
theorem dX9_isPlan_39 : decode cX9_isPlan 39 = .ok (.iadd, 1) := by decide +kernel
theorem dX9_isPlan_40 : decode cX9_isPlan 40 = .ok (.iaload, 1) := by decide +kernel
theorem dX9_isPlan_41 : decode cX9_isPlan 41 = .ok (.ifCond .ne 16, 3) := by decide +kernel
theorem dX9_isPlan_44 : decode cX9_isPlan 44 = .ok (.aload_n 0, 1) := by decide +kernel
theorem dX9_isPlan_45 : decode cX9_isPlan 45 = .ok (.getfield 13, 3) := by decide +kernel
theorem dX9_isPlan_48 : decode cX9_isPlan 48 = .ok (.bipush 121, 2) := by decide +kernel
theorem dX9_isPlan_50 : decode cX9_isPlan 50 = .ok (.iload 4, 2) := by decide +kernel
theorem dX9_isPlan_52 : decode cX9_isPlan 52 = .ok (.iadd, 1) := by decide +kernel
theorem dX9_isPlan_53 : decode cX9_isPlan 53 = .ok (.iaload, 1) := by decide +kernel
theorem dX9_isPlan_54 : decode cX9_isPlan 54 = .ok (.goto 4, 3) := by decide +kernel
theorem dX9_isPlan_57 : decode cX9_isPlan 57 = .ok (.iconst 0, 1) := by decide +kernel
theorem dX9_isPlan_58 : decode cX9_isPlan 58 = .ok (.iadd, 1) := by decide +kernel
theorem dX9_isPlan_59 : decode cX9_isPlan 59 = .ok (.istore_n 2, 1) := by decide +kernel
theorem dX9_isPlan_60 : decode cX9_isPlan 60 = .ok (.aload_n 0, 1) := by decide +kernel
theorem dX9_isPlan_61 : decode cX9_isPlan 61 = .ok (.getfield 35, 3) := by decide +kernel
theorem dX9_isPlan_64 : decode cX9_isPlan 64 = .ok (.iload_n 3, 1) := by decide +kernel
theorem dX9_isPlan_65 : decode cX9_isPlan 65 = .ok (.iaload, 1) := by decide +kernel
theorem dX9_isPlan_66 : decode cX9_isPlan 66 = .ok (.aload_n 0, 1) := by decide +kernel
theorem dX9_isPlan_67 : decode cX9_isPlan 67 = .ok (.iload 4, 2) := by decide +kernel
theorem dX9_isPlan_69 : decode cX9_isPlan 69 = .ok (.invokevirtual 147, 3) := by decide +kernel
theorem dX9_isPlan_72 : decode cX9_isPlan 72 = .ok (.iadd, 1) := by decide +kernel
theorem dX9_isPlan_73 : decode cX9_isPlan 73 = .ok (.iload_n 1, 1) := by decide +kernel
theorem dX9_isPlan_74 : decode cX9_isPlan 74 = .ok (.if_icmp .le 5, 3) := by decide +kernel
theorem dX9_isPlan_77 : decode cX9_isPlan 77 = .ok (.iconst 0, 1) := by decide +kernel
theorem dX9_isPlan_78 : decode cX9_isPlan 78 = .ok (.ireturn, 1) := by decide +kernel
theorem dX9_isPlan_79 : decode cX9_isPlan 79 = .ok (.iconst 0, 1) := by decide +kernel
theorem dX9_isPlan_80 : decode cX9_isPlan 80 = .ok (.istore 5, 2) := by decide +kernel
theorem dX9_isPlan_82 : decode cX9_isPlan 82 = .ok (.iload 5, 2) := by decide +kernel
theorem dX9_isPlan_84 : decode cX9_isPlan 84 = .ok (.aload_n 0, 1) := by decide +kernel
theorem dX9_isPlan_85 : decode cX9_isPlan 85 = .ok (.iload 4, 2) := by decide +kernel
theorem dX9_isPlan_87 : decode cX9_isPlan 87 = .ok (.invokevirtual 147, 3) := by decide +kernel
theorem dX9_isPlan_90 : decode cX9_isPlan 90 = .ok (.if_icmp .ge 49, 3) := by decide +kernel
theorem dX9_isPlan_93 : decode cX9_isPlan 93 = .ok (.aload_n 0, 1) := by decide +kernel
theorem dX9_isPlan_94 : decode cX9_isPlan 94 = .ok (.getfield 13, 3) := by decide +kernel
theorem dX9_isPlan_97 : decode cX9_isPlan 97 = .ok (.iconst 0, 1) := by decide +kernel
theorem dX9_isPlan_98 : decode cX9_isPlan 98 = .ok (.iaload, 1) := by decide +kernel
theorem dX9_isPlan_99 : decode cX9_isPlan 99 = .ok (.aload_n 0, 1) := by decide +kernel
theorem dX9_isPlan_100 : decode cX9_isPlan 100 = .ok (.getfield 35, 3) := by decide +kernel
theorem dX9_isPlan_103 : decode cX9_isPlan 103 = .ok (.iload_n 3, 1) := by decide +kernel
theorem dX9_isPlan_104 : decode cX9_isPlan 104 = .ok (.iaload, 1) := by decide +kernel
theorem dX9_isPlan_105 : decode cX9_isPlan 105 = .ok (.iadd, 1) := by decide +kernel
theorem dX9_isPlan_106 : decode cX9_isPlan 106 = .ok (.iload 5, 2) := by decide +kernel
theorem dX9_isPlan_108 : decode cX9_isPlan 108 = .ok (.iadd, 1) := by decide +kernel
theorem dX9_isPlan_109 : decode cX9_isPlan 109 = .ok (.istore 6, 2) := by decide +kernel
theorem dX9_isPlan_111 : decode cX9_isPlan 111 = .ok (.aload_n 0, 1) := by decide +kernel
theorem dX9_isPlan_112 : decode cX9_isPlan 112 = .ok (.iload 6, 2) := by decide +kernel
theorem dX9_isPlan_114 : decode cX9_isPlan 114 = .ok (.invokevirtual 116, 3) := by decide +kernel
theorem dX9_isPlan_117 : decode cX9_isPlan 117 = .ok (.ifCond .ne 14, 3) := by decide +kernel
theorem dX9_isPlan_120 : decode cX9_isPlan 120 = .ok (.aload_n 0, 1) := by decide +kernel
theorem dX9_isPlan_121 : decode cX9_isPlan 121 = .ok (.iload 4, 2) := by decide +kernel
theorem dX9_isPlan_123 : decode cX9_isPlan 123 = .ok (.iload 6, 2) := by decide +kernel
theorem dX9_isPlan_125 : decode cX9_isPlan 125 = .ok (.invokevirtual 129, 3) := by decide +kernel
theorem dX9_isPlan_128 : decode cX9_isPlan 128 = .ok (.ifCond .ne 5, 3) := by decide +kernel
theorem dX9_isPlan_131 : decode cX9_isPlan 131 = .ok (.iconst 0, 1) := by decide +kernel
theorem dX9_isPlan_132 : decode cX9_isPlan 132 = .ok (.ireturn, 1) := by decide +kernel
theorem dX9_isPlan_133 : decode cX9_isPlan 133 = .ok (.iinc 5 1, 3) := by decide +kernel
theorem dX9_isPlan_136 : decode cX9_isPlan 136 = .ok (.goto (-54), 3) := by decide +kernel
theorem dX9_isPlan_139 : decode cX9_isPlan 139 = .ok (.iinc 3 1, 3) := by decide +kernel
theorem dX9_isPlan_142 : decode cX9_isPlan 142 = .ok (.goto (-138), 3) := by decide +kernel
theorem dX9_isPlan_145 : decode cX9_isPlan 145 = .ok (.iconst 0, 1) := by decide +kernel
theorem dX9_isPlan_146 : decode cX9_isPlan 146 = .ok (.istore_n 3, 1) := by decide +kernel
theorem dX9_isPlan_147 : decode cX9_isPlan 147 = .ok (.iload_n 3, 1) := by decide +kernel
theorem dX9_isPlan_148 : decode cX9_isPlan 148 = .ok (.iload_n 1, 1) := by decide +kernel
theorem dX9_isPlan_149 : decode cX9_isPlan 149 = .ok (.if_icmp .ge 111, 3) := by decide +kernel
theorem dX9_isPlan_152 : decode cX9_isPlan 152 = .ok (.iconst 0, 1) := by decide +kernel
theorem dX9_isPlan_153 : decode cX9_isPlan 153 = .ok (.istore 4, 2) := by decide +kernel
theorem dX9_isPlan_155 : decode cX9_isPlan 155 = .ok (.iconst 0, 1) := by decide +kernel
theorem dX9_isPlan_156 : decode cX9_isPlan 156 = .ok (.istore 5, 2) := by decide +kernel
theorem dX9_isPlan_158 : decode cX9_isPlan 158 = .ok (.iload 5, 2) := by decide +kernel
theorem dX9_isPlan_160 : decode cX9_isPlan 160 = .ok (.aload_n 0, 1) := by decide +kernel
theorem dX9_isPlan_161 : decode cX9_isPlan 161 = .ok (.getfield 144, 3) := by decide +kernel
theorem dX9_isPlan_164 : decode cX9_isPlan 164 = .ok (.if_icmp .ge 77, 3) := by decide +kernel
theorem dX9_isPlan_167 : decode cX9_isPlan 167 = .ok (.iload 4, 2) := by decide +kernel
theorem dX9_isPlan_169 : decode cX9_isPlan 169 = .ok (.aload_n 0, 1) := by decide +kernel
theorem dX9_isPlan_170 : decode cX9_isPlan 170 = .ok (.getfield 35, 3) := by decide +kernel
theorem dX9_isPlan_173 : decode cX9_isPlan 173 = .ok (.iload 5, 2) := by decide +kernel
theorem dX9_isPlan_175 : decode cX9_isPlan 175 = .ok (.iaload, 1) := by decide +kernel
theorem dX9_isPlan_176 : decode cX9_isPlan 176 = .ok (.ifCond .lt 55, 3) := by decide +kernel
theorem dX9_isPlan_179 : decode cX9_isPlan 179 = .ok (.iload_n 3, 1) := by decide +kernel
theorem dX9_isPlan_180 : decode cX9_isPlan 180 = .ok (.aload_n 0, 1) := by decide +kernel
theorem dX9_isPlan_181 : decode cX9_isPlan 181 = .ok (.getfield 35, 3) := by decide +kernel
theorem dX9_isPlan_184 : decode cX9_isPlan 184 = .ok (.iload 5, 2) := by decide +kernel
theorem dX9_isPlan_186 : decode cX9_isPlan 186 = .ok (.iaload, 1) := by decide +kernel
theorem dX9_isPlan_187 : decode cX9_isPlan 187 = .ok (.if_icmp .lt 44, 3) := by decide +kernel
theorem dX9_isPlan_190 : decode cX9_isPlan 190 = .ok (.iload_n 3, 1) := by decide +kernel
theorem dX9_isPlan_191 : decode cX9_isPlan 191 = .ok (.aload_n 0, 1) := by decide +kernel
theorem dX9_isPlan_192 : decode cX9_isPlan 192 = .ok (.getfield 35, 3) := by decide +kernel
theorem dX9_isPlan_195 : decode cX9_isPlan 195 = .ok (.iload 5, 2) := by decide +kernel
theorem dX9_isPlan_197 : decode cX9_isPlan 197 = .ok (.iaload, 1) := by decide +kernel
theorem dX9_isPlan_198 : decode cX9_isPlan 198 = .ok (.aload_n 0, 1) := by decide +kernel
theorem dX9_isPlan_199 : decode cX9_isPlan 199 = .ok (.aload_n 0, 1) := by decide +kernel
theorem dX9_isPlan_200 : decode cX9_isPlan 200 = .ok (.getfield 32, 3) := by decide +kernel
theorem dX9_isPlan_203 : decode cX9_isPlan 203 = .ok (.iload 5, 2) := by decide +kernel
theorem dX9_isPlan_205 : decode cX9_isPlan 205 = .ok (.iaload, 1) := by decide +kernel
theorem dX9_isPlan_206 : decode cX9_isPlan 206 = .ok (.invokevirtual 147, 3) := by decide +kernel
theorem dX9_isPlan_209 : decode cX9_isPlan 209 = .ok (.iadd, 1) := by decide +kernel
theorem dX9_isPlan_210 : decode cX9_isPlan 210 = .ok (.if_icmp .ge 21, 3) := by decide +kernel
theorem dX9_isPlan_213 : decode cX9_isPlan 213 = .ok (.aload_n 0, 1) := by decide +kernel
theorem dX9_isPlan_214 : decode cX9_isPlan 214 = .ok (.getfield 13, 3) := by decide +kernel
theorem dX9_isPlan_217 : decode cX9_isPlan 217 = .ok (.bipush 97, 2) := by decide +kernel
theorem dX9_isPlan_219 : decode cX9_isPlan 219 = .ok (.aload_n 0, 1) := by decide +kernel
theorem dX9_isPlan_220 : decode cX9_isPlan 220 = .ok (.getfield 32, 3) := by decide +kernel
theorem dX9_isPlan_223 : decode cX9_isPlan 223 = .ok (.iload 5, 2) := by decide +kernel
theorem dX9_isPlan_225 : decode cX9_isPlan 225 = .ok (.iaload, 1) := by decide +kernel
theorem dX9_isPlan_226 : decode cX9_isPlan 226 = .ok (.iadd, 1) := by decide +kernel
theorem dX9_isPlan_227 : decode cX9_isPlan 227 = .ok (.iaload, 1) := by decide +kernel
theorem dX9_isPlan_228 : decode cX9_isPlan 228 = .ok (.goto 4, 3) := by decide +kernel
theorem dX9_isPlan_231 : decode cX9_isPlan 231 = .ok (.iconst 0, 1) := by decide +kernel
theorem dX9_isPlan_232 : decode cX9_isPlan 232 = .ok (.iadd, 1) := by decide +kernel
theorem dX9_isPlan_233 : decode cX9_isPlan 233 = .ok (.istore 4, 2) := by decide +kernel
theorem dX9_isPlan_235 : decode cX9_isPlan 235 = .ok (.iinc 5 1, 3) := by decide +kernel
theorem dX9_isPlan_238 : decode cX9_isPlan 238 = .ok (.goto (-80), 3) := by decide +kernel
theorem dX9_isPlan_241 : decode cX9_isPlan 241 = .ok (.iload 4, 2) := by decide +kernel
theorem dX9_isPlan_243 : decode cX9_isPlan 243 = .ok (.aload_n 0, 1) := by decide +kernel
theorem dX9_isPlan_244 : decode cX9_isPlan 244 = .ok (.getfield 29, 3) := by decide +kernel
theorem dX9_isPlan_247 : decode cX9_isPlan 247 = .ok (.iconst 3, 1) := by decide +kernel
theorem dX9_isPlan_248 : decode cX9_isPlan 248 = .ok (.iaload, 1) := by decide +kernel
theorem dX9_isPlan_249 : decode cX9_isPlan 249 = .ok (.if_icmp .le 5, 3) := by decide +kernel
theorem dX9_isPlan_252 : decode cX9_isPlan 252 = .ok (.iconst 0, 1) := by decide +kernel
theorem dX9_isPlan_253 : decode cX9_isPlan 253 = .ok (.ireturn, 1) := by decide +kernel
theorem dX9_isPlan_254 : decode cX9_isPlan 254 = .ok (.iinc 3 1, 3) := by decide +kernel
theorem dX9_isPlan_257 : decode cX9_isPlan 257 = .ok (.goto (-110), 3) := by decide +kernel
theorem dX9_isPlan_260 : decode cX9_isPlan 260 = .ok (.iload_n 2, 1) := by decide +kernel
theorem dX9_isPlan_261 : decode cX9_isPlan 261 = .ok (.aload_n 0, 1) := by decide +kernel
theorem dX9_isPlan_262 : decode cX9_isPlan 262 = .ok (.getfield 13, 3) := by decide +kernel
theorem dX9_isPlan_265 : decode cX9_isPlan 265 = .ok (.iconst 5, 1) := by decide +kernel
theorem dX9_isPlan_266 : decode cX9_isPlan 266 = .ok (.iaload, 1) := by decide +kernel
theorem dX9_isPlan_267 : decode cX9_isPlan 267 = .ok (.if_icmp .gt 7, 3) := by decide +kernel
theorem dX9_isPlan_270 : decode cX9_isPlan 270 = .ok (.iconst 1, 1) := by decide +kernel
theorem dX9_isPlan_271 : decode cX9_isPlan 271 = .ok (.goto 4, 3) := by decide +kernel
theorem dX9_isPlan_274 : decode cX9_isPlan 274 = .ok (.iconst 0, 1) := by decide +kernel
theorem dX9_isPlan_275 : decode cX9_isPlan 275 = .ok (.ireturn, 1) := by decide +kernel
set_option maxRecDepth 20000 in
theorem ggX9_findPlan_X9_isPlan : GoodIn wsX9_findPlan wsX9_isPlan := goodIn_r _ [13, 1, 3, 7, 2, 14, 15, 16, 17, 12, 18, 19, 20, 21, 22, 23, 24, 25, 26, 27, 28, 29, 30, 31, 32, 33, 34, 35, 36, 37, 38, 39, 40, 41, 42, 43, 44, 45, 46, 47, 48, 49, 50, 51] (by decide +kernel) (by decide +kernel)
set_option maxRecDepth 20000 in
theorem gX9_findPlan_X9_isPlan : GoodIn wsX9_findPlan (wsV RX9 159 RX9 yX9_isPlan wsX9_isPlan) := goodIn_app (goodIn_of _ (by decide +kernel)) ggX9_findPlan_X9_isPlan
theorem dX9_findPlan_0 : decode cX9_findPlan 0 = .ok (.aload_n 0, 1) := by decide +kernel
theorem dX9_findPlan_1 : decode cX9_findPlan 1 = .ok (.iconst 0, 1) := by decide +kernel
theorem dX9_findPlan_2 : decode cX9_findPlan 2 = .ok (.putfield 144, 3) := by decide +kernel
theorem dX9_findPlan_5 : decode cX9_findPlan 5 = .ok (.iconst 0, 1) := by decide +kernel
theorem dX9_findPlan_6 : decode cX9_findPlan 6 = .ok (.istore_n 2, 1) := by decide +kernel
theorem dX9_findPlan_7 : decode cX9_findPlan 7 = .ok (.iload_n 2, 1) := by decide +kernel
theorem dX9_findPlan_8 : decode cX9_findPlan 8 = .ok (.aload_n 0, 1) := by decide +kernel
theorem dX9_findPlan_9 : decode cX9_findPlan 9 = .ok (.getfield 13, 3) := by decide +kernel
theorem dX9_findPlan_12 : decode cX9_findPlan 12 = .ok (.bipush 12, 2) := by decide +kernel
theorem dX9_findPlan_14 : decode cX9_findPlan 14 = .ok (.iaload, 1) := by decide +kernel
theorem dX9_findPlan_15 : decode cX9_findPlan 15 = .ok (.if_icmp .ge 51, 3) := by decide +kernel
theorem dX9_findPlan_18 : decode cX9_findPlan 18 = .ok (.aload_n 0, 1) := by decide +kernel
theorem dX9_findPlan_19 : decode cX9_findPlan 19 = .ok (.getfield 144, 3) := by decide +kernel
theorem dX9_findPlan_22 : decode cX9_findPlan 22 = .ok (.iconst 5, 1) := by decide +kernel
theorem dX9_findPlan_23 : decode cX9_findPlan 23 = .ok (.if_icmp .ge 37, 3) := by decide +kernel
theorem dX9_findPlan_26 : decode cX9_findPlan 26 = .ok (.aload_n 0, 1) := by decide +kernel
theorem dX9_findPlan_27 : decode cX9_findPlan 27 = .ok (.getfield 13, 3) := by decide +kernel
theorem dX9_findPlan_30 : decode cX9_findPlan 30 = .ok (.sipush 145, 3) := by decide +kernel
theorem dX9_findPlan_33 : decode cX9_findPlan 33 = .ok (.iload_n 2, 1) := by decide +kernel
theorem dX9_findPlan_34 : decode cX9_findPlan 34 = .ok (.iadd, 1) := by decide +kernel
theorem dX9_findPlan_35 : decode cX9_findPlan 35 = .ok (.iaload, 1) := by decide +kernel
theorem dX9_findPlan_36 : decode cX9_findPlan 36 = .ok (.iconst 2, 1) := by decide +kernel
theorem dX9_findPlan_37 : decode cX9_findPlan 37 = .ok (.if_icmp .eq 23, 3) := by decide +kernel
theorem dX9_findPlan_40 : decode cX9_findPlan 40 = .ok (.aload_n 0, 1) := by decide +kernel
theorem dX9_findPlan_41 : decode cX9_findPlan 41 = .ok (.getfield 32, 3) := by decide +kernel
theorem dX9_findPlan_44 : decode cX9_findPlan 44 = .ok (.aload_n 0, 1) := by decide +kernel
theorem dX9_findPlan_45 : decode cX9_findPlan 45 = .ok (.getfield 144, 3) := by decide +kernel
theorem dX9_findPlan_48 : decode cX9_findPlan 48 = .ok (.iload_n 2, 1) := by decide +kernel
theorem dX9_findPlan_49 : decode cX9_findPlan 49 = .ok (.iastore, 1) := by decide +kernel
theorem dX9_findPlan_50 : decode cX9_findPlan 50 = .ok (.aload_n 0, 1) := by decide +kernel
theorem dX9_findPlan_51 : decode cX9_findPlan 51 = .ok (.dup, 1) := by decide +kernel
theorem dX9_findPlan_52 : decode cX9_findPlan 52 = .ok (.getfield 144, 3) := by decide +kernel
theorem dX9_findPlan_55 : decode cX9_findPlan 55 = .ok (.iconst 1, 1) := by decide +kernel
theorem dX9_findPlan_56 : decode cX9_findPlan 56 = .ok (.iadd, 1) := by decide +kernel
theorem dX9_findPlan_57 : decode cX9_findPlan 57 = .ok (.putfield 144, 3) := by decide +kernel
theorem dX9_findPlan_60 : decode cX9_findPlan 60 = .ok (.iinc 2 1, 3) := by decide +kernel
theorem dX9_findPlan_63 : decode cX9_findPlan 63 = .ok (.goto (-56), 3) := by decide +kernel
theorem dX9_findPlan_66 : decode cX9_findPlan 66 = .ok (.aload_n 0, 1) := by decide +kernel
theorem dX9_findPlan_67 : decode cX9_findPlan 67 = .ok (.iconst (-1), 1) := by decide +kernel
theorem dX9_findPlan_68 : decode cX9_findPlan 68 = .ok (.putfield 150, 3) := by decide +kernel
theorem dX9_findPlan_71 : decode cX9_findPlan 71 = .ok (.iconst 0, 1) := by decide +kernel
theorem dX9_findPlan_72 : decode cX9_findPlan 72 = .ok (.istore_n 2, 1) := by decide +kernel
theorem dX9_findPlan_73 : decode cX9_findPlan 73 = .ok (.iload_n 2, 1) := by decide +kernel
theorem dX9_findPlan_74 : decode cX9_findPlan 74 = .ok (.iconst 1, 1) := by decide +kernel
theorem dX9_findPlan_75 : decode cX9_findPlan 75 = .ok (.aload_n 0, 1) := by decide +kernel
theorem dX9_findPlan_76 : decode cX9_findPlan 76 = .ok (.getfield 144, 3) := by decide +kernel
theorem dX9_findPlan_79 : decode cX9_findPlan 79 = .ok (.ishl, 1) := by decide +kernel
theorem dX9_findPlan_80 : decode cX9_findPlan 80 = .ok (.if_icmp .ge 314, 3) := by decide +kernel
theorem dX9_findPlan_83 : decode cX9_findPlan 83 = .ok (.iconst 0, 1) := by decide +kernel
theorem dX9_findPlan_84 : decode cX9_findPlan 84 = .ok (.istore_n 3, 1) := by decide +kernel
theorem dX9_findPlan_85 : decode cX9_findPlan 85 = .ok (.iconst 0, 1) := by decide +kernel
theorem dX9_findPlan_86 : decode cX9_findPlan 86 = .ok (.istore 4, 2) := by decide +kernel
theorem dX9_findPlan_88 : decode cX9_findPlan 88 = .ok (.iconst 0, 1) := by decide +kernel
theorem dX9_findPlan_89 : decode cX9_findPlan 89 = .ok (.istore 5, 2) := by decide +kernel
theorem dX9_findPlan_91 : decode cX9_findPlan 91 = .ok (.iconst 1, 1) := by decide +kernel
theorem dX9_findPlan_92 : decode cX9_findPlan 92 = .ok (.istore 6, 2) := by decide +kernel
theorem dX9_findPlan_94 : decode cX9_findPlan 94 = .ok (.iconst 0, 1) := by decide +kernel
theorem dX9_findPlan_95 : decode cX9_findPlan 95 = .ok (.istore 7, 2) := by decide +kernel
theorem dX9_findPlan_97 : decode cX9_findPlan 97 = .ok (.iload 7, 2) := by decide +kernel
theorem dX9_findPlan_99 : decode cX9_findPlan 99 = .ok (.aload_n 0, 1) := by decide +kernel
theorem dX9_findPlan_100 : decode cX9_findPlan 100 = .ok (.getfield 144, 3) := by decide +kernel
theorem dX9_findPlan_103 : decode cX9_findPlan 103 = .ok (.if_icmp .ge 90, 3) := by decide +kernel
theorem dX9_findPlan_106 : decode cX9_findPlan 106 = .ok (.iload_n 2, 1) := by decide +kernel
theorem dX9_findPlan_107 : decode cX9_findPlan 107 = .ok (.iload 7, 2) := by decide +kernel
theorem dX9_findPlan_109 : decode cX9_findPlan 109 = .ok (.ishr, 1) := by decide +kernel
theorem dX9_findPlan_110 : decode cX9_findPlan 110 = .ok (.iconst 1, 1) := by decide +kernel
theorem dX9_findPlan_111 : decode cX9_findPlan 111 = .ok (.iand, 1) := by decide +kernel
theorem dX9_findPlan_112 : decode cX9_findPlan 112 = .ok (.iconst 1, 1) := by decide +kernel
theorem dX9_findPlan_113 : decode cX9_findPlan 113 = .ok (.if_icmp .ne 74, 3) := by decide +kernel
theorem dX9_findPlan_116 : decode cX9_findPlan 116 = .ok (.aload_n 0, 1) := by decide +kernel
theorem dX9_findPlan_117 : decode cX9_findPlan 117 = .ok (.getfield 32, 3) := by decide +kernel
theorem dX9_findPlan_120 : decode cX9_findPlan 120 = .ok (.iload 7, 2) := by decide +kernel
theorem dX9_findPlan_122 : decode cX9_findPlan 122 = .ok (.iaload, 1) := by decide +kernel
theorem dX9_findPlan_123 : decode cX9_findPlan 123 = .ok (.istore 8, 2) := by decide +kernel
theorem dX9_findPlan_125 : decode cX9_findPlan 125 = .ok (.iload_n 3, 1) := by decide +kernel
theorem dX9_findPlan_126 : decode cX9_findPlan 126 = .ok (.aload_n 0, 1) := by decide +kernel
theorem dX9_findPlan_127 : decode cX9_findPlan 127 = .ok (.getfield 13, 3) := by decide +kernel
theorem dX9_findPlan_130 : decode cX9_findPlan 130 = .ok (.sipush 133, 3) := by decide +kernel
theorem dX9_findPlan_133 : decode cX9_findPlan 133 = .ok (.iload 8, 2) := by decide +kernel
theorem dX9_findPlan_135 : decode cX9_findPlan 135 = .ok (.iadd, 1) := by decide +kernel
theorem dX9_findPlan_136 : decode cX9_findPlan 136 = .ok (.iaload, 1) := by decide +kernel
theorem dX9_findPlan_137 : decode cX9_findPlan 137 = .ok (.iadd, 1) := by decide +kernel
theorem dX9_findPlan_138 : decode cX9_findPlan 138 = .ok (.istore_n 3, 1) := by decide +kernel
theorem dX9_findPlan_139 : decode cX9_findPlan 139 = .ok (.iload 4, 2) := by decide +kernel
theorem dX9_findPlan_141 : decode cX9_findPlan 141 = .ok (.aload_n 0, 1) := by decide +kernel
theorem dX9_findPlan_142 : decode cX9_findPlan 142 = .ok (.getfield 13, 3) := by decide +kernel
theorem dX9_findPlan_145 : decode cX9_findPlan 145 = .ok (.sipush 157, 3) := by decide +kernel
theorem dX9_findPlan_148 : decode cX9_findPlan 148 = .ok (.iload 8, 2) := by decide +kernel
theorem dX9_findPlan_150 : decode cX9_findPlan 150 = .ok (.iadd, 1) := by decide +kernel
theorem dX9_findPlan_151 : decode cX9_findPlan 151 = .ok (.iaload, 1) := by decide +kernel
theorem dX9_findPlan_152 : decode cX9_findPlan 152 = .ok (.ifCond .ne 16, 3) := by decide +kernel
theorem dX9_findPlan_155 : decode cX9_findPlan 155 = .ok (.aload_n 0, 1) := by decide +kernel
theorem dX9_findPlan_156 : decode cX9_findPlan 156 = .ok (.getfield 13, 3) := by decide +kernel
theorem dX9_findPlan_159 : decode cX9_findPlan 159 = .ok (.bipush 121, 2) := by decide +kernel
theorem dX9_findPlan_161 : decode cX9_findPlan 161 = .ok (.iload 8, 2) := by decide +kernel
theorem dX9_findPlan_163 : decode cX9_findPlan 163 = .ok (.iadd, 1) := by decide +kernel
theorem dX9_findPlan_164 : decode cX9_findPlan 164 = .ok (.iaload, 1) := by decide +kernel
theorem dX9_findPlan_165 : decode cX9_findPlan 165 = .ok (.goto 4, 3) := by decide +kernel
theorem dX9_findPlan_168 : decode cX9_findPlan 168 = .ok (.iconst 0, 1) := by decide +kernel
theorem dX9_findPlan_169 : decode cX9_findPlan 169 = .ok (.iadd, 1) := by decide +kernel
theorem dX9_findPlan_170 : decode cX9_findPlan 170 = .ok (.istore 4, 2) := by decide +kernel
theorem dX9_findPlan_172 : decode cX9_findPlan 172 = .ok (.iload 5, 2) := by decide +kernel
theorem dX9_findPlan_174 : decode cX9_findPlan 174 = .ok (.iconst 1, 1) := by decide +kernel
theorem dX9_findPlan_175 : decode cX9_findPlan 175 = .ok (.iload 8, 2) := by decide +kernel
theorem dX9_findPlan_177 : decode cX9_findPlan 177 = .ok (.ishl, 1) := by decide +kernel
theorem dX9_findPlan_178 : decode cX9_findPlan 178 = .ok (.ior, 1) := by decide +kernel
theorem dX9_findPlan_179 : decode cX9_findPlan 179 = .ok (.istore 5, 2) := by decide +kernel
theorem dX9_findPlan_181 : decode cX9_findPlan 181 = .ok (.iload 6, 2) := by decide +kernel
theorem dX9_findPlan_183 : decode cX9_findPlan 183 = .ok (.iload_n 1, 1) := by decide +kernel
theorem dX9_findPlan_184 : decode cX9_findPlan 184 = .ok (.imul, 1) := by decide +kernel
theorem dX9_findPlan_185 : decode cX9_findPlan 185 = .ok (.istore 6, 2) := by decide +kernel
theorem dX9_findPlan_187 : decode cX9_findPlan 187 = .ok (.iinc 7 1, 3) := by decide +kernel
theorem dX9_findPlan_190 : decode cX9_findPlan 190 = .ok (.goto (-93), 3) := by decide +kernel
theorem dX9_findPlan_193 : decode cX9_findPlan 193 = .ok (.iload_n 3, 1) := by decide +kernel
theorem dX9_findPlan_194 : decode cX9_findPlan 194 = .ok (.aload_n 0, 1) := by decide +kernel
theorem dX9_findPlan_195 : decode cX9_findPlan 195 = .ok (.getfield 150, 3) := by decide +kernel
theorem dX9_findPlan_198 : decode cX9_findPlan 198 = .ok (.if_icmp .gt 38, 3) := by decide +kernel
theorem dX9_findPlan_201 : decode cX9_findPlan 201 = .ok (.iload_n 3, 1) := by decide +kernel
theorem dX9_findPlan_202 : decode cX9_findPlan 202 = .ok (.aload_n 0, 1) := by decide +kernel
theorem dX9_findPlan_203 : decode cX9_findPlan 203 = .ok (.getfield 150, 3) := by decide +kernel
theorem dX9_findPlan_206 : decode cX9_findPlan 206 = .ok (.if_icmp .ne 34, 3) := by decide +kernel
theorem dX9_findPlan_209 : decode cX9_findPlan 209 = .ok (.iload 4, 2) := by decide +kernel
theorem dX9_findPlan_211 : decode cX9_findPlan 211 = .ok (.aload_n 0, 1) := by decide +kernel
theorem dX9_findPlan_212 : decode cX9_findPlan 212 = .ok (.getfield 153, 3) := by decide +kernel
theorem dX9_findPlan_215 : decode cX9_findPlan 215 = .ok (.if_icmp .lt 21, 3) := by decide +kernel
theorem dX9_findPlan_218 : decode cX9_findPlan 218 = .ok (.iload 4, 2) := by decide +kernel
theorem dX9_findPlan_220 : decode cX9_findPlan 220 = .ok (.aload_n 0, 1) := by decide +kernel
theorem dX9_findPlan_221 : decode cX9_findPlan 221 = .ok (.getfield 153, 3) := by decide +kernel
theorem dX9_findPlan_224 : decode cX9_findPlan 224 = .ok (.if_icmp .ne 16, 3) := by decide +kernel
theorem dX9_findPlan_227 : decode cX9_findPlan 227 = .ok (.iload 5, 2) := by decide +kernel
theorem dX9_findPlan_229 : decode cX9_findPlan 229 = .ok (.aload_n 0, 1) := by decide +kernel
theorem dX9_findPlan_230 : decode cX9_findPlan 230 = .ok (.getfield 156, 3) := by decide +kernel
theorem dX9_findPlan_233 : decode cX9_findPlan 233 = .ok (.if_icmp .ge 7, 3) := by decide +kernel
theorem dX9_findPlan_236 : decode cX9_findPlan 236 = .ok (.iconst 1, 1) := by decide +kernel
theorem dX9_findPlan_237 : decode cX9_findPlan 237 = .ok (.goto 4, 3) := by decide +kernel
theorem dX9_findPlan_240 : decode cX9_findPlan 240 = .ok (.iconst 0, 1) := by decide +kernel
theorem dX9_findPlan_241 : decode cX9_findPlan 241 = .ok (.istore 7, 2) := by decide +kernel
theorem dX9_findPlan_243 : decode cX9_findPlan 243 = .ok (.iconst 0, 1) := by decide +kernel
theorem dX9_findPlan_244 : decode cX9_findPlan 244 = .ok (.istore 8, 2) := by decide +kernel
theorem dX9_findPlan_246 : decode cX9_findPlan 246 = .ok (.iconst 0, 1) := by decide +kernel
theorem dX9_findPlan_247 : decode cX9_findPlan 247 = .ok (.istore 9, 2) := by decide +kernel
theorem dX9_findPlan_249 : decode cX9_findPlan 249 = .ok (.iload 9, 2) := by decide +kernel
theorem dX9_findPlan_251 : decode cX9_findPlan 251 = .ok (.iload 6, 2) := by decide +kernel
theorem dX9_findPlan_253 : decode cX9_findPlan 253 = .ok (.if_icmp .ge 84, 3) := by decide +kernel
theorem dX9_findPlan_256 : decode cX9_findPlan 256 = .ok (.iload 7, 2) := by decide +kernel
theorem dX9_findPlan_258 : decode cX9_findPlan 258 = .ok (.ifCond .eq 79, 3) := by decide +kernel
theorem dX9_findPlan_261 : decode cX9_findPlan 261 = .ok (.iload 8, 2) := by decide +kernel
theorem dX9_findPlan_263 : decode cX9_findPlan 263 = .ok (.ifCond .ne 74, 3) := by decide +kernel
theorem dX9_findPlan_266 : decode cX9_findPlan 266 = .ok (.iload 9, 2) := by decide +kernel
theorem dX9_findPlan_268 : decode cX9_findPlan 268 = .ok (.istore 10, 2) := by decide +kernel
theorem dX9_findPlan_270 : decode cX9_findPlan 270 = .ok (.aload_n 0, 1) := by decide +kernel
theorem dX9_findPlan_271 : decode cX9_findPlan 271 = .ok (.getfield 144, 3) := by decide +kernel
theorem dX9_findPlan_274 : decode cX9_findPlan 274 = .ok (.iconst 1, 1) := by decide +kernel
theorem dX9_findPlan_275 : decode cX9_findPlan 275 = .ok (.isub, 1) := by decide +kernel
theorem dX9_findPlan_276 : decode cX9_findPlan 276 = .ok (.istore 11, 2) := by decide +kernel
theorem dX9_findPlan_278 : decode cX9_findPlan 278 = .ok (.iload 11, 2) := by decide +kernel
theorem dX9_findPlan_280 : decode cX9_findPlan 280 = .ok (.ifCond .lt 44, 3) := by decide +kernel
theorem dX9_findPlan_283 : decode cX9_findPlan 283 = .ok (.aload_n 0, 1) := by decide +kernel
theorem dX9_findPlan_284 : decode cX9_findPlan 284 = .ok (.getfield 35, 3) := by decide +kernel
theorem dX9_findPlan_287 : decode cX9_findPlan 287 = .ok (.iload 11, 2) := by decide +kernel
theorem dX9_findPlan_289 : decode cX9_findPlan 289 = .ok (.iconst (-1), 1) := by decide +kernel
theorem dX9_findPlan_290 : decode cX9_findPlan 290 = .ok (.iastore, 1) := by decide +kernel
theorem dX9_findPlan_291 : decode cX9_findPlan 291 = .ok (.iload_n 2, 1) := by decide +kernel
theorem dX9_findPlan_292 : decode cX9_findPlan 292 = .ok (.iload 11, 2) := by decide +kernel
theorem dX9_findPlan_294 : decode cX9_findPlan 294 = .ok (.ishr, 1) := by decide +kernel
theorem dX9_findPlan_295 : decode cX9_findPlan 295 = .ok (.iconst 1, 1) := by decide +kernel
theorem dX9_findPlan_296 : decode cX9_findPlan 296 = .ok (.iand, 1) := by decide +kernel
theorem dX9_findPlan_297 : decode cX9_findPlan 297 = .ok (.iconst 1, 1) := by decide +kernel
theorem dX9_findPlan_298 : decode cX9_findPlan 298 = .ok (.if_icmp .ne 20, 3) := by decide +kernel
theorem dX9_findPlan_301 : decode cX9_findPlan 301 = .ok (.aload_n 0, 1) := by decide +kernel
theorem dX9_findPlan_302 : decode cX9_findPlan 302 = .ok (.getfield 35, 3) := by decide +kernel
theorem dX9_findPlan_305 : decode cX9_findPlan 305 = .ok (.iload 11, 2) := by decide +kernel
theorem dX9_findPlan_307 : decode cX9_findPlan 307 = .ok (.iload 10, 2) := by decide +kernel
theorem dX9_findPlan_309 : decode cX9_findPlan 309 = .ok (.iload_n 1, 1) := by decide +kernel
theorem dX9_findPlan_310 : decode cX9_findPlan 310 = .ok (.irem, 1) := by decide +kernel
theorem dX9_findPlan_311 : decode cX9_findPlan 311 = .ok (.iastore, 1) := by decide +kernel
theorem dX9_findPlan_312 : decode cX9_findPlan 312 = .ok (.iload 10, 2) := by decide +kernel
theorem dX9_findPlan_314 : decode cX9_findPlan 314 = .ok (.iload_n 1, 1) := by decide +kernel
theorem dX9_findPlan_315 : decode cX9_findPlan 315 = .ok (.idiv, 1) := by decide +kernel
theorem dX9_findPlan_316 : decode cX9_findPlan 316 = .ok (.istore 10, 2) := by decide +kernel
theorem dX9_findPlan_318 : decode cX9_findPlan 318 = .ok (.iinc 11 (-1), 3) := by decide +kernel
theorem dX9_findPlan_321 : decode cX9_findPlan 321 = .ok (.goto (-43), 3) := by decide +kernel
theorem dX9_findPlan_324 : decode cX9_findPlan 324 = .ok (.aload_n 0, 1) := by decide +kernel
theorem dX9_findPlan_325 : decode cX9_findPlan 325 = .ok (.iload_n 1, 1) := by decide +kernel
theorem dX9_findPlan_326 : decode cX9_findPlan 326 = .ok (.invokevirtual 159, 3) := by decide +kernel
theorem dX9_findPlan_329 : decode cX9_findPlan 329 = .ok (.istore 8, 2) := by decide +kernel
theorem dX9_findPlan_331 : decode cX9_findPlan 331 = .ok (.iinc 9 1, 3) := by decide +kernel
theorem dX9_findPlan_334 : decode cX9_findPlan 334 = .ok (.goto (-85), 3) := by decide +kernel
theorem dX9_findPlan_337 : decode cX9_findPlan 337 = .ok (.iload 8, 2) := by decide +kernel
theorem dX9_findPlan_339 : decode cX9_findPlan 339 = .ok (.ifCond .eq 49, 3) := by decide +kernel
theorem dX9_findPlan_342 : decode cX9_findPlan 342 = .ok (.aload_n 0, 1) := by decide +kernel
theorem dX9_findPlan_343 : decode cX9_findPlan 343 = .ok (.iload_n 3, 1) := by decide +kernel
theorem dX9_findPlan_344 : decode cX9_findPlan 344 = .ok (.putfield 150, 3) := by decide +kernel
theorem dX9_findPlan_347 : decode cX9_findPlan 347 = .ok (.aload_n 0, 1) := by decide +kernel
theorem dX9_findPlan_348 : decode cX9_findPlan 348 = .ok (.iload 4, 2) := by decide +kernel
theorem dX9_findPlan_350 : decode cX9_findPlan 350 = .ok (.putfield 153, 3) := by decide +kernel
theorem dX9_findPlan_353 : decode cX9_findPlan 353 = .ok (.aload_n 0, 1) := by decide +kernel
theorem dX9_findPlan_354 : decode cX9_findPlan 354 = .ok (.iload 5, 2) := by decide +kernel
theorem dX9_findPlan_356 : decode cX9_findPlan 356 = .ok (.putfield 156, 3) := by decide +kernel
theorem dX9_findPlan_359 : decode cX9_findPlan 359 = .ok (.iconst 0, 1) := by decide +kernel
theorem dX9_findPlan_360 : decode cX9_findPlan 360 = .ok (.istore 9, 2) := by decide +kernel
theorem dX9_findPlan_362 : decode cX9_findPlan 362 = .ok (.iload 9, 2) := by decide +kernel
theorem dX9_findPlan_364 : decode cX9_findPlan 364 = .ok (.iconst 5, 1) := by decide +kernel
theorem dX9_findPlan_365 : decode cX9_findPlan 365 = .ok (.if_icmp .ge 23, 3) := by decide +kernel
theorem dX9_findPlan_368 : decode cX9_findPlan 368 = .ok (.aload_n 0, 1) := by decide +kernel
theorem dX9_findPlan_369 : decode cX9_findPlan 369 = .ok (.getfield 38, 3) := by decide +kernel
theorem dX9_findPlan_372 : decode cX9_findPlan 372 = .ok (.iload 9, 2) := by decide +kernel
theorem dX9_findPlan_374 : decode cX9_findPlan 374 = .ok (.aload_n 0, 1) := by decide +kernel
theorem dX9_findPlan_375 : decode cX9_findPlan 375 = .ok (.getfield 35, 3) := by decide +kernel
theorem dX9_findPlan_378 : decode cX9_findPlan 378 = .ok (.iload 9, 2) := by decide +kernel
theorem dX9_findPlan_380 : decode cX9_findPlan 380 = .ok (.iaload, 1) := by decide +kernel
theorem dX9_findPlan_381 : decode cX9_findPlan 381 = .ok (.iastore, 1) := by decide +kernel
theorem dX9_findPlan_382 : decode cX9_findPlan 382 = .ok (.iinc 9 1, 3) := by decide +kernel
theorem dX9_findPlan_385 : decode cX9_findPlan 385 = .ok (.goto (-23), 3) := by decide +kernel
theorem dX9_findPlan_388 : decode cX9_findPlan 388 = .ok (.iinc 2 1, 3) := by decide +kernel
theorem dX9_findPlan_391 : decode cX9_findPlan 391 = .ok (.goto (-318), 3) := by decide +kernel
theorem dX9_findPlan_394 : decode cX9_findPlan 394 = .ok (.return_, 1) := by decide +kernel
set_option maxRecDepth 20000 in
theorem ggX9_plan_X9_in : GoodIn wsX9_plan wsX9_in := goodIn_r _ [13] (by decide +kernel) (by decide +kernel)
set_option maxRecDepth 20000 in
theorem gX9_plan_X9_in : GoodIn wsX9_plan (va_wsS RX9 46 yX9_in wsX9_in) := goodIn_app (goodIn_of _ (by decide +kernel)) ggX9_plan_X9_in
set_option maxRecDepth 20000 in
theorem ggX9_plan_X9_isLost : GoodIn wsX9_plan wsX9_isLost := goodIn_r _ [17, 3, 46, 47, 48, 49, 50, 51, 52, 53, 54, 55, 56, 57, 58, 59, 60, 61, 62, 63, 64] (by decide +kernel) (by decide +kernel)
set_option maxRecDepth 20000 in
theorem gX9_plan_X9_isLost : GoodIn wsX9_plan (wsV RX9 123 RX9 yX9_isLost wsX9_isLost) := goodIn_app (goodIn_of _ (by decide +kernel)) ggX9_plan_X9_isLost
set_option maxRecDepth 20000 in
theorem ggX9_plan_X9_findPlan : GoodIn wsX9_plan wsX9_findPlan := goodIn_r _ [21, 7, 3, 8, 4, 5, 6, 22, 9, 23, 24, 25, 12, 26, 27, 28, 29, 30, 31, 32, 33, 34, 35, 36, 37, 38, 39, 40, 41, 42, 43, 44, 45, 46, 47, 48, 49, 50, 51, 52, 53, 54, 55, 56, 57, 58, 59, 60, 61, 62, 63, 64] (by decide +kernel) (by decide +kernel)
set_option maxRecDepth 20000 in
theorem gX9_plan_X9_findPlan : GoodIn wsX9_plan (wsV RX9 162 RX9 yX9_findPlan wsX9_findPlan) := goodIn_app (goodIn_of _ (by decide +kernel)) ggX9_plan_X9_findPlan
theorem dX9_plan_0 : decode cX9_plan 0 = .ok (.aload_n 0, 1) := by decide +kernel
theorem dX9_plan_1 : decode cX9_plan 1 = .ok (.iconst 0, 1) := by decide +kernel
theorem dX9_plan_2 : decode cX9_plan 2 = .ok (.putfield 1, 3) := by decide +kernel
theorem dX9_plan_5 : decode cX9_plan 5 = .ok (.iload_n 1, 1) := by decide +kernel
theorem dX9_plan_6 : decode cX9_plan 6 = .ok (.i2l, 1) := by decide +kernel
theorem dX9_plan_7 : decode cX9_plan 7 = .ok (.lconst 1, 1) := by decide +kernel
theorem dX9_plan_8 : decode cX9_plan 8 = .ok (.ldc2_w 68, 3) := by decide +kernel
theorem dX9_plan_11 : decode cX9_plan 11 = .ok (.invokestatic 46, 3) := by decide +kernel
theorem dX9_plan_14 : decode cX9_plan 14 = .ok (.ifCond .eq 22, 3) := by decide +kernel
theorem dX9_plan_17 : decode cX9_plan 17 = .ok (.iload_n 2, 1) := by decide +kernel
theorem dX9_plan_18 : decode cX9_plan 18 = .ok (.i2l, 1) := by decide +kernel
theorem dX9_plan_19 : decode cX9_plan 19 = .ok (.lconst 0, 1) := by decide +kernel
theorem dX9_plan_20 : decode cX9_plan 20 = .ok (.iconst 2, 1) := by decide +kernel
theorem dX9_plan_21 : decode cX9_plan 21 = .ok (.aload_n 0, 1) := by decide +kernel
theorem dX9_plan_22 : decode cX9_plan 22 = .ok (.getfield 13, 3) := by decide +kernel
theorem dX9_plan_25 : decode cX9_plan 25 = .ok (.bipush 12, 2) := by decide +kernel
theorem dX9_plan_27 : decode cX9_plan 27 = .ok (.iaload, 1) := by decide +kernel
theorem dX9_plan_28 : decode cX9_plan 28 = .ok (.iadd, 1) := by decide +kernel
theorem dX9_plan_29 : decode cX9_plan 29 = .ok (.i2l, 1) := by decide +kernel
theorem dX9_plan_30 : decode cX9_plan 30 = .ok (.invokestatic 46, 3) := by decide +kernel
theorem dX9_plan_33 : decode cX9_plan 33 = .ok (.ifCond .ne 5, 3) := by decide +kernel
theorem dX9_plan_36 : decode cX9_plan 36 = .ok (.iconst (-1), 1) := by decide +kernel
theorem dX9_plan_37 : decode cX9_plan 37 = .ok (.ireturn, 1) := by decide +kernel
theorem dX9_plan_38 : decode cX9_plan 38 = .ok (.aload_n 0, 1) := by decide +kernel
theorem dX9_plan_39 : decode cX9_plan 39 = .ok (.invokevirtual 123, 3) := by decide +kernel
theorem dX9_plan_42 : decode cX9_plan 42 = .ok (.ifCond .ne 16, 3) := by decide +kernel
theorem dX9_plan_45 : decode cX9_plan 45 = .ok (.aload_n 0, 1) := by decide +kernel
theorem dX9_plan_46 : decode cX9_plan 46 = .ok (.getfield 13, 3) := by decide +kernel
theorem dX9_plan_49 : decode cX9_plan 49 = .ok (.iconst 0, 1) := by decide +kernel
theorem dX9_plan_50 : decode cX9_plan 50 = .ok (.iaload, 1) := by decide +kernel
theorem dX9_plan_51 : decode cX9_plan 51 = .ok (.iload_n 1, 1) := by decide +kernel
theorem dX9_plan_52 : decode cX9_plan 52 = .ok (.iadd, 1) := by decide +kernel
theorem dX9_plan_53 : decode cX9_plan 53 = .ok (.bipush 96, 2) := by decide +kernel
theorem dX9_plan_55 : decode cX9_plan 55 = .ok (.if_icmp .le 6, 3) := by decide +kernel
theorem dX9_plan_58 : decode cX9_plan 58 = .ok (.bipush (-2), 2) := by decide +kernel
theorem dX9_plan_60 : decode cX9_plan 60 = .ok (.ireturn, 1) := by decide +kernel
theorem dX9_plan_61 : decode cX9_plan 61 = .ok (.aload_n 0, 1) := by decide +kernel
theorem dX9_plan_62 : decode cX9_plan 62 = .ok (.iload_n 1, 1) := by decide +kernel
theorem dX9_plan_63 : decode cX9_plan 63 = .ok (.invokevirtual 162, 3) := by decide +kernel
theorem dX9_plan_66 : decode cX9_plan 66 = .ok (.iload_n 2, 1) := by decide +kernel
theorem dX9_plan_67 : decode cX9_plan 67 = .ok (.iconst 3, 1) := by decide +kernel
theorem dX9_plan_68 : decode cX9_plan 68 = .ok (.if_icmp .ge 31, 3) := by decide +kernel
theorem dX9_plan_71 : decode cX9_plan 71 = .ok (.iload_n 2, 1) := by decide +kernel
theorem dX9_plan_72 : decode cX9_plan 72 = .ok (.ifCond .ne 10, 3) := by decide +kernel
theorem dX9_plan_75 : decode cX9_plan 75 = .ok (.aload_n 0, 1) := by decide +kernel
theorem dX9_plan_76 : decode cX9_plan 76 = .ok (.getfield 150, 3) := by decide +kernel
theorem dX9_plan_79 : decode cX9_plan 79 = .ok (.goto 19, 3) := by decide +kernel
theorem dX9_plan_82 : decode cX9_plan 82 = .ok (.iload_n 2, 1) := by decide +kernel
theorem dX9_plan_83 : decode cX9_plan 83 = .ok (.iconst 1, 1) := by decide +kernel
theorem dX9_plan_84 : decode cX9_plan 84 = .ok (.if_icmp .ne 10, 3) := by decide +kernel
theorem dX9_plan_87 : decode cX9_plan 87 = .ok (.aload_n 0, 1) := by decide +kernel
theorem dX9_plan_88 : decode cX9_plan 88 = .ok (.getfield 153, 3) := by decide +kernel
theorem dX9_plan_91 : decode cX9_plan 91 = .ok (.goto 7, 3) := by decide +kernel
theorem dX9_plan_94 : decode cX9_plan 94 = .ok (.aload_n 0, 1) := by decide +kernel
theorem dX9_plan_95 : decode cX9_plan 95 = .ok (.getfield 156, 3) := by decide +kernel
theorem dX9_plan_98 : decode cX9_plan 98 = .ok (.ireturn, 1) := by decide +kernel
theorem dX9_plan_99 : decode cX9_plan 99 = .ok (.bipush (-4), 2) := by decide +kernel
theorem dX9_plan_101 : decode cX9_plan 101 = .ok (.istore_n 3, 1) := by decide +kernel
theorem dX9_plan_102 : decode cX9_plan 102 = .ok (.iconst 0, 1) := by decide +kernel
theorem dX9_plan_103 : decode cX9_plan 103 = .ok (.istore 4, 2) := by decide +kernel
theorem dX9_plan_105 : decode cX9_plan 105 = .ok (.iload 4, 2) := by decide +kernel
theorem dX9_plan_107 : decode cX9_plan 107 = .ok (.aload_n 0, 1) := by decide +kernel
theorem dX9_plan_108 : decode cX9_plan 108 = .ok (.getfield 144, 3) := by decide +kernel
theorem dX9_plan_111 : decode cX9_plan 111 = .ok (.if_icmp .ge 44, 3) := by decide +kernel
theorem dX9_plan_114 : decode cX9_plan 114 = .ok (.aload_n 0, 1) := by decide +kernel
theorem dX9_plan_115 : decode cX9_plan 115 = .ok (.getfield 32, 3) := by decide +kernel
theorem dX9_plan_118 : decode cX9_plan 118 = .ok (.iload 4, 2) := by decide +kernel
theorem dX9_plan_120 : decode cX9_plan 120 = .ok (.iaload, 1) := by decide +kernel
theorem dX9_plan_121 : decode cX9_plan 121 = .ok (.iload_n 2, 1) := by decide +kernel
theorem dX9_plan_122 : decode cX9_plan 122 = .ok (.iconst 3, 1) := by decide +kernel
theorem dX9_plan_123 : decode cX9_plan 123 = .ok (.isub, 1) := by decide +kernel
theorem dX9_plan_124 : decode cX9_plan 124 = .ok (.if_icmp .ne 23, 3) := by decide +kernel
theorem dX9_plan_127 : decode cX9_plan 127 = .ok (.aload_n 0, 1) := by decide +kernel
theorem dX9_plan_128 : decode cX9_plan 128 = .ok (.getfield 38, 3) := by decide +kernel
theorem dX9_plan_131 : decode cX9_plan 131 = .ok (.iload 4, 2) := by decide +kernel
theorem dX9_plan_133 : decode cX9_plan 133 = .ok (.iaload, 1) := by decide +kernel
theorem dX9_plan_134 : decode cX9_plan 134 = .ok (.ifCond .lt 13, 3) := by decide +kernel
theorem dX9_plan_137 : decode cX9_plan 137 = .ok (.aload_n 0, 1) := by decide +kernel
theorem dX9_plan_138 : decode cX9_plan 138 = .ok (.getfield 38, 3) := by decide +kernel
theorem dX9_plan_141 : decode cX9_plan 141 = .ok (.iload 4, 2) := by decide +kernel
theorem dX9_plan_143 : decode cX9_plan 143 = .ok (.iaload, 1) := by decide +kernel
theorem dX9_plan_144 : decode cX9_plan 144 = .ok (.goto 4, 3) := by decide +kernel
theorem dX9_plan_147 : decode cX9_plan 147 = .ok (.iload_n 3, 1) := by decide +kernel
theorem dX9_plan_148 : decode cX9_plan 148 = .ok (.istore_n 3, 1) := by decide +kernel
theorem dX9_plan_149 : decode cX9_plan 149 = .ok (.iinc 4 1, 3) := by decide +kernel
theorem dX9_plan_152 : decode cX9_plan 152 = .ok (.goto (-47), 3) := by decide +kernel
theorem dX9_plan_155 : decode cX9_plan 155 = .ok (.iload_n 3, 1) := by decide +kernel
theorem dX9_plan_156 : decode cX9_plan 156 = .ok (.ireturn, 1) := by decide +kernel
set_option maxRecDepth 20000 in
theorem ggX9_orders_X9_in : GoodIn wsX9_orders wsX9_in := goodIn_r _ [10] (by decide +kernel) (by decide +kernel)
set_option maxRecDepth 20000 in
theorem gX9_orders_X9_in : GoodIn wsX9_orders (va_wsS RX9 46 yX9_in wsX9_in) := goodIn_app (goodIn_of _ (by decide +kernel)) ggX9_orders_X9_in
set_option maxRecDepth 20000 in
theorem ggX9_orders_X9_isLost : GoodIn wsX9_orders wsX9_isLost := goodIn_r _ [14, 3, 46, 47, 48, 49, 50, 51, 52, 53, 54, 55, 56, 57, 58, 59, 60, 61, 62, 63, 64] (by decide +kernel) (by decide +kernel)
set_option maxRecDepth 20000 in
theorem gX9_orders_X9_isLost : GoodIn wsX9_orders (wsV RX9 123 RX9 yX9_isLost wsX9_isLost) := goodIn_app (goodIn_of _ (by decide +kernel)) ggX9_orders_X9_isLost
set_option maxRecDepth 20000 in
theorem ggX9_orders_X9_findPlan : GoodIn wsX9_orders wsX9_findPlan := goodIn_r _ [18, 4, 3, 6, 19, 20, 21, 22, 5, 23, 24, 25, 9, 26, 27, 28, 29, 30, 31, 32, 33, 34, 35, 36, 37, 38, 39, 40, 41, 42, 43, 44, 45, 46, 47, 48, 49, 50, 51, 52, 53, 54, 55, 56, 57, 58, 59, 60, 61, 62, 63, 64] (by decide +kernel) (by decide +kernel)
set_option maxRecDepth 20000 in
theorem gX9_orders_X9_findPlan : GoodIn wsX9_orders (wsV RX9 162 RX9 yX9_findPlan wsX9_findPlan) := goodIn_app (goodIn_of _ (by decide +kernel)) ggX9_orders_X9_findPlan
set_option maxRecDepth 20000 in
theorem ggX9_orders_X9_hoursFor : GoodIn wsX9_orders wsX9_hoursFor := goodIn_r _ [31, 3, 46, 47, 48, 49, 50, 51, 52, 53, 54, 55, 56, 57, 58, 59, 60, 61, 62, 63, 64] (by decide +kernel) (by decide +kernel)
set_option maxRecDepth 20000 in
theorem gX9_orders_X9_hoursFor : GoodIn wsX9_orders (wsV RX9 147 RX9 yX9_hoursFor wsX9_hoursFor) := goodIn_app (goodIn_of _ (by decide +kernel)) ggX9_orders_X9_hoursFor
theorem dX9_orders_0 : decode cX9_orders 0 = .ok (.aload_n 0, 1) := by decide +kernel
theorem dX9_orders_1 : decode cX9_orders 1 = .ok (.iconst 0, 1) := by decide +kernel
theorem dX9_orders_2 : decode cX9_orders 2 = .ok (.putfield 1, 3) := by decide +kernel
theorem dX9_orders_5 : decode cX9_orders 5 = .ok (.iload_n 1, 1) := by decide +kernel
theorem dX9_orders_6 : decode cX9_orders 6 = .ok (.i2l, 1) := by decide +kernel
theorem dX9_orders_7 : decode cX9_orders 7 = .ok (.lconst 1, 1) := by decide +kernel
theorem dX9_orders_8 : decode cX9_orders 8 = .ok (.ldc2_w 68, 3) := by decide +kernel
theorem dX9_orders_11 : decode cX9_orders 11 = .ok (.invokestatic 46, 3) := by decide +kernel
theorem dX9_orders_14 : decode cX9_orders 14 = .ok (.ifCond .eq 16, 3) := by decide +kernel
theorem dX9_orders_17 : decode cX9_orders 17 = .ok (.iload_n 2, 1) := by decide +kernel
theorem dX9_orders_18 : decode cX9_orders 18 = .ok (.i2l, 1) := by decide +kernel
theorem dX9_orders_19 : decode cX9_orders 19 = .ok (.lconst 0, 1) := by decide +kernel
theorem dX9_orders_20 : decode cX9_orders 20 = .ok (.iload_n 1, 1) := by decide +kernel
theorem dX9_orders_21 : decode cX9_orders 21 = .ok (.iconst 1, 1) := by decide +kernel
theorem dX9_orders_22 : decode cX9_orders 22 = .ok (.isub, 1) := by decide +kernel
theorem dX9_orders_23 : decode cX9_orders 23 = .ok (.i2l, 1) := by decide +kernel
theorem dX9_orders_24 : decode cX9_orders 24 = .ok (.invokestatic 46, 3) := by decide +kernel
theorem dX9_orders_27 : decode cX9_orders 27 = .ok (.ifCond .ne 5, 3) := by decide +kernel
theorem dX9_orders_30 : decode cX9_orders 30 = .ok (.iconst (-1), 1) := by decide +kernel
theorem dX9_orders_31 : decode cX9_orders 31 = .ok (.ireturn, 1) := by decide +kernel
theorem dX9_orders_32 : decode cX9_orders 32 = .ok (.aload_n 0, 1) := by decide +kernel
theorem dX9_orders_33 : decode cX9_orders 33 = .ok (.invokevirtual 123, 3) := by decide +kernel
theorem dX9_orders_36 : decode cX9_orders 36 = .ok (.ifCond .ne 16, 3) := by decide +kernel
theorem dX9_orders_39 : decode cX9_orders 39 = .ok (.aload_n 0, 1) := by decide +kernel
theorem dX9_orders_40 : decode cX9_orders 40 = .ok (.getfield 13, 3) := by decide +kernel
theorem dX9_orders_43 : decode cX9_orders 43 = .ok (.iconst 0, 1) := by decide +kernel
theorem dX9_orders_44 : decode cX9_orders 44 = .ok (.iaload, 1) := by decide +kernel
theorem dX9_orders_45 : decode cX9_orders 45 = .ok (.iload_n 1, 1) := by decide +kernel
theorem dX9_orders_46 : decode cX9_orders 46 = .ok (.iadd, 1) := by decide +kernel
theorem dX9_orders_47 : decode cX9_orders 47 = .ok (.bipush 96, 2) := by decide +kernel
theorem dX9_orders_49 : decode cX9_orders 49 = .ok (.if_icmp .le 6, 3) := by decide +kernel
theorem dX9_orders_52 : decode cX9_orders 52 = .ok (.bipush (-2), 2) := by decide +kernel
theorem dX9_orders_54 : decode cX9_orders 54 = .ok (.ireturn, 1) := by decide +kernel
theorem dX9_orders_55 : decode cX9_orders 55 = .ok (.aload_n 0, 1) := by decide +kernel
theorem dX9_orders_56 : decode cX9_orders 56 = .ok (.iload_n 1, 1) := by decide +kernel
theorem dX9_orders_57 : decode cX9_orders 57 = .ok (.invokevirtual 162, 3) := by decide +kernel
theorem dX9_orders_60 : decode cX9_orders 60 = .ok (.iconst 0, 1) := by decide +kernel
theorem dX9_orders_61 : decode cX9_orders 61 = .ok (.istore_n 3, 1) := by decide +kernel
theorem dX9_orders_62 : decode cX9_orders 62 = .ok (.iconst 0, 1) := by decide +kernel
theorem dX9_orders_63 : decode cX9_orders 63 = .ok (.istore 4, 2) := by decide +kernel
theorem dX9_orders_65 : decode cX9_orders 65 = .ok (.iload 4, 2) := by decide +kernel
theorem dX9_orders_67 : decode cX9_orders 67 = .ok (.aload_n 0, 1) := by decide +kernel
theorem dX9_orders_68 : decode cX9_orders 68 = .ok (.getfield 144, 3) := by decide +kernel
theorem dX9_orders_71 : decode cX9_orders 71 = .ok (.if_icmp .ge 69, 3) := by decide +kernel
theorem dX9_orders_74 : decode cX9_orders 74 = .ok (.iload_n 3, 1) := by decide +kernel
theorem dX9_orders_75 : decode cX9_orders 75 = .ok (.aload_n 0, 1) := by decide +kernel
theorem dX9_orders_76 : decode cX9_orders 76 = .ok (.getfield 38, 3) := by decide +kernel
theorem dX9_orders_79 : decode cX9_orders 79 = .ok (.iload 4, 2) := by decide +kernel
theorem dX9_orders_81 : decode cX9_orders 81 = .ok (.iaload, 1) := by decide +kernel
theorem dX9_orders_82 : decode cX9_orders 82 = .ok (.ifCond .lt 49, 3) := by decide +kernel
theorem dX9_orders_85 : decode cX9_orders 85 = .ok (.iload_n 2, 1) := by decide +kernel
theorem dX9_orders_86 : decode cX9_orders 86 = .ok (.aload_n 0, 1) := by decide +kernel
theorem dX9_orders_87 : decode cX9_orders 87 = .ok (.getfield 38, 3) := by decide +kernel
theorem dX9_orders_90 : decode cX9_orders 90 = .ok (.iload 4, 2) := by decide +kernel
theorem dX9_orders_92 : decode cX9_orders 92 = .ok (.iaload, 1) := by decide +kernel
theorem dX9_orders_93 : decode cX9_orders 93 = .ok (.if_icmp .lt 38, 3) := by decide +kernel
theorem dX9_orders_96 : decode cX9_orders 96 = .ok (.iload_n 2, 1) := by decide +kernel
theorem dX9_orders_97 : decode cX9_orders 97 = .ok (.aload_n 0, 1) := by decide +kernel
theorem dX9_orders_98 : decode cX9_orders 98 = .ok (.getfield 38, 3) := by decide +kernel
theorem dX9_orders_101 : decode cX9_orders 101 = .ok (.iload 4, 2) := by decide +kernel
theorem dX9_orders_103 : decode cX9_orders 103 = .ok (.iaload, 1) := by decide +kernel
theorem dX9_orders_104 : decode cX9_orders 104 = .ok (.aload_n 0, 1) := by decide +kernel
theorem dX9_orders_105 : decode cX9_orders 105 = .ok (.aload_n 0, 1) := by decide +kernel
theorem dX9_orders_106 : decode cX9_orders 106 = .ok (.getfield 32, 3) := by decide +kernel
theorem dX9_orders_109 : decode cX9_orders 109 = .ok (.iload 4, 2) := by decide +kernel
theorem dX9_orders_111 : decode cX9_orders 111 = .ok (.iaload, 1) := by decide +kernel
theorem dX9_orders_112 : decode cX9_orders 112 = .ok (.invokevirtual 147, 3) := by decide +kernel
theorem dX9_orders_115 : decode cX9_orders 115 = .ok (.iadd, 1) := by decide +kernel
theorem dX9_orders_116 : decode cX9_orders 116 = .ok (.if_icmp .ge 15, 3) := by decide +kernel
theorem dX9_orders_119 : decode cX9_orders 119 = .ok (.iconst 1, 1) := by decide +kernel
theorem dX9_orders_120 : decode cX9_orders 120 = .ok (.aload_n 0, 1) := by decide +kernel
theorem dX9_orders_121 : decode cX9_orders 121 = .ok (.getfield 32, 3) := by decide +kernel
theorem dX9_orders_124 : decode cX9_orders 124 = .ok (.iload 4, 2) := by decide +kernel
theorem dX9_orders_126 : decode cX9_orders 126 = .ok (.iaload, 1) := by decide +kernel
theorem dX9_orders_127 : decode cX9_orders 127 = .ok (.ishl, 1) := by decide +kernel
theorem dX9_orders_128 : decode cX9_orders 128 = .ok (.goto 4, 3) := by decide +kernel
theorem dX9_orders_131 : decode cX9_orders 131 = .ok (.iconst 0, 1) := by decide +kernel
theorem dX9_orders_132 : decode cX9_orders 132 = .ok (.ior, 1) := by decide +kernel
theorem dX9_orders_133 : decode cX9_orders 133 = .ok (.istore_n 3, 1) := by decide +kernel
theorem dX9_orders_134 : decode cX9_orders 134 = .ok (.iinc 4 1, 3) := by decide +kernel
theorem dX9_orders_137 : decode cX9_orders 137 = .ok (.goto (-72), 3) := by decide +kernel
theorem dX9_orders_140 : decode cX9_orders 140 = .ok (.iload_n 3, 1) := by decide +kernel
theorem dX9_orders_141 : decode cX9_orders 141 = .ok (.ireturn, 1) := by decide +kernel
set_option maxRecDepth 20000 in
theorem ggX9_findFloat_X9_states : GoodIn wsX9_findFloat wsX9_states := goodIn_r _ [10, 1, 77, 78, 79, 80, 81, 82, 83, 84, 85, 86, 87, 88, 89, 90, 91, 92, 93, 94, 95] (by decide +kernel) (by decide +kernel)
set_option maxRecDepth 20000 in
theorem gX9_findFloat_X9_states : GoodIn wsX9_findFloat (wsV RX9 109 RX9 yX9_states wsX9_states) := goodIn_app (goodIn_of _ (by decide +kernel)) ggX9_findFloat_X9_states
set_option maxRecDepth 20000 in
theorem ggX9_findFloat_X9_isLost : GoodIn wsX9_findFloat wsX9_isLost := goodIn_r _ [14, 1, 77, 78, 79, 80, 81, 82, 83, 84, 85, 86, 87, 88, 89, 90, 91, 92, 93, 94, 95] (by decide +kernel) (by decide +kernel)
set_option maxRecDepth 20000 in
theorem gX9_findFloat_X9_isLost : GoodIn wsX9_findFloat (wsV RX9 123 RX9 yX9_isLost wsX9_isLost) := goodIn_app (goodIn_of _ (by decide +kernel)) ggX9_findFloat_X9_isLost
set_option maxRecDepth 20000 in
theorem ggX9_findFloat_X9_pass : GoodIn wsX9_findFloat wsX9_pass := goodIn_r _ [18, 1, 19, 20, 21, 22, 9, 23, 24, 25, 26, 27, 28, 29, 30, 31, 32, 33, 34, 35, 36, 37, 38, 39, 40, 41, 42, 43, 44, 45, 46, 47, 48, 49, 50, 51, 52, 53, 54, 55, 56, 57, 58, 59, 60, 61, 62, 63, 64, 65, 66, 67, 68, 69, 70, 71, 72, 77, 78, 79, 80, 81, 82, 83, 84, 85, 86, 87, 88, 89, 90, 91, 92, 93, 94, 95] (by decide +kernel) (by decide +kernel)
set_option maxRecDepth 20000 in
theorem gX9_findFloat_X9_pass : GoodIn wsX9_findFloat (wsV RX9 140 RX9 yX9_pass wsX9_pass) := goodIn_app (goodIn_of _ (by decide +kernel)) ggX9_findFloat_X9_pass
set_option maxRecDepth 20000 in
theorem ggX9_findFloat_X9_total : GoodIn wsX9_findFloat wsX9_total := goodIn_r _ [49, 19, 1, 77, 78, 79, 80, 81, 82, 83, 84, 85, 86, 87, 88, 89, 90, 91, 92, 93, 94, 95] (by decide +kernel) (by decide +kernel)
set_option maxRecDepth 20000 in
theorem gX9_findFloat_X9_total : GoodIn wsX9_findFloat (wsV RX9 78 RX9 yX9_total wsX9_total) := goodIn_app (goodIn_of _ (by decide +kernel)) ggX9_findFloat_X9_total
set_option maxRecDepth 20000 in
theorem ggX9_findFloat_X9_floats : GoodIn wsX9_findFloat wsX9_floats := goodIn_r _ [76, 19, 29, 30, 31, 9, 32, 33, 77, 78, 79, 80, 81, 82, 83, 84, 85, 86, 87, 88, 89, 90, 91, 92, 93, 94, 95] (by decide +kernel) (by decide +kernel)
set_option maxRecDepth 20000 in
theorem gX9_findFloat_X9_floats : GoodIn wsX9_findFloat (wsV RX9 112 RX9 yX9_floats wsX9_floats) := goodIn_app (goodIn_of _ (by decide +kernel)) ggX9_findFloat_X9_floats
theorem dX9_findFloat_0 : decode cX9_findFloat 0 = .ok (.aload_n 0, 1) := by decide +kernel
theorem dX9_findFloat_1 : decode cX9_findFloat 1 = .ok (.getfield 13, 3) := by decide +kernel
theorem dX9_findFloat_4 : decode cX9_findFloat 4 = .ok (.iconst 0, 1) := by decide +kernel
theorem dX9_findFloat_5 : decode cX9_findFloat 5 = .ok (.iaload, 1) := by decide +kernel
theorem dX9_findFloat_6 : decode cX9_findFloat 6 = .ok (.istore_n 1, 1) := by decide +kernel
theorem dX9_findFloat_7 : decode cX9_findFloat 7 = .ok (.iconst 0, 1) := by decide +kernel
theorem dX9_findFloat_8 : decode cX9_findFloat 8 = .ok (.istore_n 2, 1) := by decide +kernel
theorem dX9_findFloat_9 : decode cX9_findFloat 9 = .ok (.iload_n 2, 1) := by decide +kernel
theorem dX9_findFloat_10 : decode cX9_findFloat 10 = .ok (.sipush 169, 3) := by decide +kernel
theorem dX9_findFloat_13 : decode cX9_findFloat 13 = .ok (.if_icmp .ge 21, 3) := by decide +kernel
theorem dX9_findFloat_16 : decode cX9_findFloat 16 = .ok (.aload_n 0, 1) := by decide +kernel
theorem dX9_findFloat_17 : decode cX9_findFloat 17 = .ok (.getfield 17, 3) := by decide +kernel
theorem dX9_findFloat_20 : decode cX9_findFloat 20 = .ok (.iload_n 2, 1) := by decide +kernel
theorem dX9_findFloat_21 : decode cX9_findFloat 21 = .ok (.aload_n 0, 1) := by decide +kernel
theorem dX9_findFloat_22 : decode cX9_findFloat 22 = .ok (.getfield 13, 3) := by decide +kernel
theorem dX9_findFloat_25 : decode cX9_findFloat 25 = .ok (.iload_n 2, 1) := by decide +kernel
theorem dX9_findFloat_26 : decode cX9_findFloat 26 = .ok (.iaload, 1) := by decide +kernel
theorem dX9_findFloat_27 : decode cX9_findFloat 27 = .ok (.iastore, 1) := by decide +kernel
theorem dX9_findFloat_28 : decode cX9_findFloat 28 = .ok (.iinc 2 1, 3) := by decide +kernel
theorem dX9_findFloat_31 : decode cX9_findFloat 31 = .ok (.goto (-22), 3) := by decide +kernel
theorem dX9_findFloat_34 : decode cX9_findFloat 34 = .ok (.aload_n 0, 1) := by decide +kernel
theorem dX9_findFloat_35 : decode cX9_findFloat 35 = .ok (.bipush (-4), 2) := by decide +kernel
theorem dX9_findFloat_37 : decode cX9_findFloat 37 = .ok (.putfield 165, 3) := by decide +kernel
theorem dX9_findFloat_40 : decode cX9_findFloat 40 = .ok (.iconst 1, 1) := by decide +kernel
theorem dX9_findFloat_41 : decode cX9_findFloat 41 = .ok (.istore_n 2, 1) := by decide +kernel
theorem dX9_findFloat_42 : decode cX9_findFloat 42 = .ok (.iload_n 2, 1) := by decide +kernel
theorem dX9_findFloat_43 : decode cX9_findFloat 43 = .ok (.ifCond .eq 96, 3) := by decide +kernel
theorem dX9_findFloat_46 : decode cX9_findFloat 46 = .ok (.aload_n 0, 1) := by decide +kernel
theorem dX9_findFloat_47 : decode cX9_findFloat 47 = .ok (.iconst 1, 1) := by decide +kernel
theorem dX9_findFloat_48 : decode cX9_findFloat 48 = .ok (.invokevirtual 109, 3) := by decide +kernel
theorem dX9_findFloat_51 : decode cX9_findFloat 51 = .ok (.ifCond .le 88, 3) := by decide +kernel
theorem dX9_findFloat_54 : decode cX9_findFloat 54 = .ok (.iconst 0, 1) := by decide +kernel
theorem dX9_findFloat_55 : decode cX9_findFloat 55 = .ok (.istore_n 3, 1) := by decide +kernel
theorem dX9_findFloat_56 : decode cX9_findFloat 56 = .ok (.iconst 0, 1) := by decide +kernel
theorem dX9_findFloat_57 : decode cX9_findFloat 57 = .ok (.istore 4, 2) := by decide +kernel
theorem dX9_findFloat_59 : decode cX9_findFloat 59 = .ok (.iload 4, 2) := by decide +kernel
theorem dX9_findFloat_61 : decode cX9_findFloat 61 = .ok (.aload_n 0, 1) := by decide +kernel
theorem dX9_findFloat_62 : decode cX9_findFloat 62 = .ok (.getfield 13, 3) := by decide +kernel
theorem dX9_findFloat_65 : decode cX9_findFloat 65 = .ok (.bipush 12, 2) := by decide +kernel
theorem dX9_findFloat_67 : decode cX9_findFloat 67 = .ok (.iaload, 1) := by decide +kernel
theorem dX9_findFloat_68 : decode cX9_findFloat 68 = .ok (.if_icmp .ge 35, 3) := by decide +kernel
theorem dX9_findFloat_71 : decode cX9_findFloat 71 = .ok (.iload_n 3, 1) := by decide +kernel
theorem dX9_findFloat_72 : decode cX9_findFloat 72 = .ok (.aload_n 0, 1) := by decide +kernel
theorem dX9_findFloat_73 : decode cX9_findFloat 73 = .ok (.getfield 13, 3) := by decide +kernel
theorem dX9_findFloat_76 : decode cX9_findFloat 76 = .ok (.sipush 145, 3) := by decide +kernel
theorem dX9_findFloat_79 : decode cX9_findFloat 79 = .ok (.iload 4, 2) := by decide +kernel
theorem dX9_findFloat_81 : decode cX9_findFloat 81 = .ok (.iadd, 1) := by decide +kernel
theorem dX9_findFloat_82 : decode cX9_findFloat 82 = .ok (.iaload, 1) := by decide +kernel
theorem dX9_findFloat_83 : decode cX9_findFloat 83 = .ok (.iconst 1, 1) := by decide +kernel
theorem dX9_findFloat_84 : decode cX9_findFloat 84 = .ok (.if_icmp .ne 10, 3) := by decide +kernel
theorem dX9_findFloat_87 : decode cX9_findFloat 87 = .ok (.iconst 1, 1) := by decide +kernel
theorem dX9_findFloat_88 : decode cX9_findFloat 88 = .ok (.iload 4, 2) := by decide +kernel
theorem dX9_findFloat_90 : decode cX9_findFloat 90 = .ok (.ishl, 1) := by decide +kernel
theorem dX9_findFloat_91 : decode cX9_findFloat 91 = .ok (.goto 4, 3) := by decide +kernel
theorem dX9_findFloat_94 : decode cX9_findFloat 94 = .ok (.iconst 0, 1) := by decide +kernel
theorem dX9_findFloat_95 : decode cX9_findFloat 95 = .ok (.ior, 1) := by decide +kernel
theorem dX9_findFloat_96 : decode cX9_findFloat 96 = .ok (.istore_n 3, 1) := by decide +kernel
theorem dX9_findFloat_97 : decode cX9_findFloat 97 = .ok (.iinc 4 1, 3) := by decide +kernel
theorem dX9_findFloat_100 : decode cX9_findFloat 100 = .ok (.goto (-41), 3) := by decide +kernel
theorem dX9_findFloat_103 : decode cX9_findFloat 103 = .ok (.aload_n 0, 1) := by decide +kernel
theorem dX9_findFloat_104 : decode cX9_findFloat 104 = .ok (.invokevirtual 123, 3) := by decide +kernel
theorem dX9_findFloat_107 : decode cX9_findFloat 107 = .ok (.ifCond .ne 18, 3) := by decide +kernel
theorem dX9_findFloat_110 : decode cX9_findFloat 110 = .ok (.aload_n 0, 1) := by decide +kernel
theorem dX9_findFloat_111 : decode cX9_findFloat 111 = .ok (.getfield 13, 3) := by decide +kernel
theorem dX9_findFloat_114 : decode cX9_findFloat 114 = .ok (.iconst 0, 1) := by decide +kernel
theorem dX9_findFloat_115 : decode cX9_findFloat 115 = .ok (.iaload, 1) := by decide +kernel
theorem dX9_findFloat_116 : decode cX9_findFloat 116 = .ok (.bipush 96, 2) := by decide +kernel
theorem dX9_findFloat_118 : decode cX9_findFloat 118 = .ok (.if_icmp .ge 7, 3) := by decide +kernel
theorem dX9_findFloat_121 : decode cX9_findFloat 121 = .ok (.iconst 1, 1) := by decide +kernel
theorem dX9_findFloat_122 : decode cX9_findFloat 122 = .ok (.goto 4, 3) := by decide +kernel
theorem dX9_findFloat_125 : decode cX9_findFloat 125 = .ok (.iconst 0, 1) := by decide +kernel
theorem dX9_findFloat_126 : decode cX9_findFloat 126 = .ok (.istore_n 2, 1) := by decide +kernel
theorem dX9_findFloat_127 : decode cX9_findFloat 127 = .ok (.iload_n 2, 1) := by decide +kernel
theorem dX9_findFloat_128 : decode cX9_findFloat 128 = .ok (.ifCond .eq 8, 3) := by decide +kernel
theorem dX9_findFloat_131 : decode cX9_findFloat 131 = .ok (.aload_n 0, 1) := by decide +kernel
theorem dX9_findFloat_132 : decode cX9_findFloat 132 = .ok (.iload_n 3, 1) := by decide +kernel
theorem dX9_findFloat_133 : decode cX9_findFloat 133 = .ok (.invokevirtual 140, 3) := by decide +kernel
theorem dX9_findFloat_136 : decode cX9_findFloat 136 = .ok (.goto (-94), 3) := by decide +kernel
theorem dX9_findFloat_139 : decode cX9_findFloat 139 = .ok (.iload_n 2, 1) := by decide +kernel
theorem dX9_findFloat_140 : decode cX9_findFloat 140 = .ok (.ifCond .eq 14, 3) := by decide +kernel
theorem dX9_findFloat_143 : decode cX9_findFloat 143 = .ok (.aload_n 0, 1) := by decide +kernel
theorem dX9_findFloat_144 : decode cX9_findFloat 144 = .ok (.invokevirtual 123, 3) := by decide +kernel
theorem dX9_findFloat_147 : decode cX9_findFloat 147 = .ok (.ifCond .ne 7, 3) := by decide +kernel
theorem dX9_findFloat_150 : decode cX9_findFloat 150 = .ok (.iconst 1, 1) := by decide +kernel
theorem dX9_findFloat_151 : decode cX9_findFloat 151 = .ok (.goto 4, 3) := by decide +kernel
theorem dX9_findFloat_154 : decode cX9_findFloat 154 = .ok (.iconst 0, 1) := by decide +kernel
theorem dX9_findFloat_155 : decode cX9_findFloat 155 = .ok (.istore_n 2, 1) := by decide +kernel
theorem dX9_findFloat_156 : decode cX9_findFloat 156 = .ok (.aload_n 0, 1) := by decide +kernel
theorem dX9_findFloat_157 : decode cX9_findFloat 157 = .ok (.aload_n 0, 1) := by decide +kernel
theorem dX9_findFloat_158 : decode cX9_findFloat 158 = .ok (.getfield 13, 3) := by decide +kernel
theorem dX9_findFloat_161 : decode cX9_findFloat 161 = .ok (.iconst 0, 1) := by decide +kernel
theorem dX9_findFloat_162 : decode cX9_findFloat 162 = .ok (.iaload, 1) := by decide +kernel
theorem dX9_findFloat_163 : decode cX9_findFloat 163 = .ok (.putfield 168, 3) := by decide +kernel
theorem dX9_findFloat_166 : decode cX9_findFloat 166 = .ok (.aload_n 0, 1) := by decide +kernel
theorem dX9_findFloat_167 : decode cX9_findFloat 167 = .ok (.getfield 168, 3) := by decide +kernel
theorem dX9_findFloat_170 : decode cX9_findFloat 170 = .ok (.aload_n 0, 1) := by decide +kernel
theorem dX9_findFloat_171 : decode cX9_findFloat 171 = .ok (.getfield 13, 3) := by decide +kernel
theorem dX9_findFloat_174 : decode cX9_findFloat 174 = .ok (.iconst 1, 1) := by decide +kernel
theorem dX9_findFloat_175 : decode cX9_findFloat 175 = .ok (.iaload, 1) := by decide +kernel
theorem dX9_findFloat_176 : decode cX9_findFloat 176 = .ok (.ifCond .ge 13, 3) := by decide +kernel
theorem dX9_findFloat_179 : decode cX9_findFloat 179 = .ok (.aload_n 0, 1) := by decide +kernel
theorem dX9_findFloat_180 : decode cX9_findFloat 180 = .ok (.getfield 13, 3) := by decide +kernel
theorem dX9_findFloat_183 : decode cX9_findFloat 183 = .ok (.iconst 1, 1) := by decide +kernel
theorem dX9_findFloat_184 : decode cX9_findFloat 184 = .ok (.iaload, 1) := by decide +kernel
theorem dX9_findFloat_185 : decode cX9_findFloat 185 = .ok (.ineg, 1) := by decide +kernel
theorem dX9_findFloat_186 : decode cX9_findFloat 186 = .ok (.goto 9, 3) := by decide +kernel
theorem dX9_findFloat_189 : decode cX9_findFloat 189 = .ok (.aload_n 0, 1) := by decide +kernel
theorem dX9_findFloat_190 : decode cX9_findFloat 190 = .ok (.getfield 13, 3) := by decide +kernel
theorem dX9_findFloat_193 : decode cX9_findFloat 193 = .ok (.iconst 1, 1) := by decide +kernel
theorem dX9_findFloat_194 : decode cX9_findFloat 194 = .ok (.iaload, 1) := by decide +kernel
theorem dX9_findFloat_195 : decode cX9_findFloat 195 = .ok (.iadd, 1) := by decide +kernel
theorem dX9_findFloat_196 : decode cX9_findFloat 196 = .ok (.istore_n 3, 1) := by decide +kernel
theorem dX9_findFloat_197 : decode cX9_findFloat 197 = .ok (.iconst 0, 1) := by decide +kernel
theorem dX9_findFloat_198 : decode cX9_findFloat 198 = .ok (.istore 4, 2) := by decide +kernel
theorem dX9_findFloat_200 : decode cX9_findFloat 200 = .ok (.iload 4, 2) := by decide +kernel
theorem dX9_findFloat_202 : decode cX9_findFloat 202 = .ok (.sipush 169, 3) := by decide +kernel
theorem dX9_findFloat_205 : decode cX9_findFloat 205 = .ok (.if_icmp .ge 23, 3) := by decide +kernel
theorem dX9_findFloat_208 : decode cX9_findFloat 208 = .ok (.aload_n 0, 1) := by decide +kernel
theorem dX9_findFloat_209 : decode cX9_findFloat 209 = .ok (.getfield 13, 3) := by decide +kernel
theorem dX9_findFloat_212 : decode cX9_findFloat 212 = .ok (.iload 4, 2) := by decide +kernel
theorem dX9_findFloat_214 : decode cX9_findFloat 214 = .ok (.aload_n 0, 1) := by decide +kernel
theorem dX9_findFloat_215 : decode cX9_findFloat 215 = .ok (.getfield 17, 3) := by decide +kernel
theorem dX9_findFloat_218 : decode cX9_findFloat 218 = .ok (.iload 4, 2) := by decide +kernel
theorem dX9_findFloat_220 : decode cX9_findFloat 220 = .ok (.iaload, 1) := by decide +kernel
theorem dX9_findFloat_221 : decode cX9_findFloat 221 = .ok (.iastore, 1) := by decide +kernel
theorem dX9_findFloat_222 : decode cX9_findFloat 222 = .ok (.iinc 4 1, 3) := by decide +kernel
theorem dX9_findFloat_225 : decode cX9_findFloat 225 = .ok (.goto (-25), 3) := by decide +kernel
theorem dX9_findFloat_228 : decode cX9_findFloat 228 = .ok (.iconst 0, 1) := by decide +kernel
theorem dX9_findFloat_229 : decode cX9_findFloat 229 = .ok (.istore 4, 2) := by decide +kernel
theorem dX9_findFloat_231 : decode cX9_findFloat 231 = .ok (.iload 4, 2) := by decide +kernel
theorem dX9_findFloat_233 : decode cX9_findFloat 233 = .ok (.iconst 1, 1) := by decide +kernel
theorem dX9_findFloat_234 : decode cX9_findFloat 234 = .ok (.aload_n 0, 1) := by decide +kernel
theorem dX9_findFloat_235 : decode cX9_findFloat 235 = .ok (.getfield 13, 3) := by decide +kernel
theorem dX9_findFloat_238 : decode cX9_findFloat 238 = .ok (.bipush 10, 2) := by decide +kernel
theorem dX9_findFloat_240 : decode cX9_findFloat 240 = .ok (.iaload, 1) := by decide +kernel
theorem dX9_findFloat_241 : decode cX9_findFloat 241 = .ok (.ishl, 1) := by decide +kernel
theorem dX9_findFloat_242 : decode cX9_findFloat 242 = .ok (.if_icmp .ge 236, 3) := by decide +kernel
theorem dX9_findFloat_245 : decode cX9_findFloat 245 = .ok (.iload_n 2, 1) := by decide +kernel
theorem dX9_findFloat_246 : decode cX9_findFloat 246 = .ok (.ifCond .eq 232, 3) := by decide +kernel
theorem dX9_findFloat_249 : decode cX9_findFloat 249 = .ok (.iconst 1, 1) := by decide +kernel
theorem dX9_findFloat_250 : decode cX9_findFloat 250 = .ok (.istore 5, 2) := by decide +kernel
theorem dX9_findFloat_252 : decode cX9_findFloat 252 = .ok (.aload_n 0, 1) := by decide +kernel
theorem dX9_findFloat_253 : decode cX9_findFloat 253 = .ok (.invokevirtual 78, 3) := by decide +kernel
theorem dX9_findFloat_256 : decode cX9_findFloat 256 = .ok (.istore 6, 2) := by decide +kernel
theorem dX9_findFloat_258 : decode cX9_findFloat 258 = .ok (.iconst 0, 1) := by decide +kernel
theorem dX9_findFloat_259 : decode cX9_findFloat 259 = .ok (.istore 7, 2) := by decide +kernel
theorem dX9_findFloat_261 : decode cX9_findFloat 261 = .ok (.iconst 0, 1) := by decide +kernel
theorem dX9_findFloat_262 : decode cX9_findFloat 262 = .ok (.istore 8, 2) := by decide +kernel
theorem dX9_findFloat_264 : decode cX9_findFloat 264 = .ok (.iload 8, 2) := by decide +kernel
theorem dX9_findFloat_266 : decode cX9_findFloat 266 = .ok (.aload_n 0, 1) := by decide +kernel
theorem dX9_findFloat_267 : decode cX9_findFloat 267 = .ok (.getfield 13, 3) := by decide +kernel
theorem dX9_findFloat_270 : decode cX9_findFloat 270 = .ok (.bipush 10, 2) := by decide +kernel
theorem dX9_findFloat_272 : decode cX9_findFloat 272 = .ok (.iaload, 1) := by decide +kernel
theorem dX9_findFloat_273 : decode cX9_findFloat 273 = .ok (.if_icmp .ge 105, 3) := by decide +kernel
theorem dX9_findFloat_276 : decode cX9_findFloat 276 = .ok (.iload 4, 2) := by decide +kernel
theorem dX9_findFloat_278 : decode cX9_findFloat 278 = .ok (.iload 8, 2) := by decide +kernel
theorem dX9_findFloat_280 : decode cX9_findFloat 280 = .ok (.ishr, 1) := by decide +kernel
theorem dX9_findFloat_281 : decode cX9_findFloat 281 = .ok (.iconst 1, 1) := by decide +kernel
theorem dX9_findFloat_282 : decode cX9_findFloat 282 = .ok (.iand, 1) := by decide +kernel
theorem dX9_findFloat_283 : decode cX9_findFloat 283 = .ok (.iconst 1, 1) := by decide +kernel
theorem dX9_findFloat_284 : decode cX9_findFloat 284 = .ok (.if_icmp .ne 88, 3) := by decide +kernel
theorem dX9_findFloat_287 : decode cX9_findFloat 287 = .ok (.aload_n 0, 1) := by decide +kernel
theorem dX9_findFloat_288 : decode cX9_findFloat 288 = .ok (.getfield 13, 3) := by decide +kernel
theorem dX9_findFloat_291 : decode cX9_findFloat 291 = .ok (.bipush 25, 2) := by decide +kernel
theorem dX9_findFloat_293 : decode cX9_findFloat 293 = .ok (.iload 8, 2) := by decide +kernel
theorem dX9_findFloat_295 : decode cX9_findFloat 295 = .ok (.iadd, 1) := by decide +kernel
theorem dX9_findFloat_296 : decode cX9_findFloat 296 = .ok (.iaload, 1) := by decide +kernel
theorem dX9_findFloat_297 : decode cX9_findFloat 297 = .ok (.istore 9, 2) := by decide +kernel
theorem dX9_findFloat_299 : decode cX9_findFloat 299 = .ok (.iload 5, 2) := by decide +kernel
theorem dX9_findFloat_301 : decode cX9_findFloat 301 = .ok (.ifCond .eq 50, 3) := by decide +kernel
theorem dX9_findFloat_304 : decode cX9_findFloat 304 = .ok (.aload_n 0, 1) := by decide +kernel
theorem dX9_findFloat_305 : decode cX9_findFloat 305 = .ok (.getfield 13, 3) := by decide +kernel
theorem dX9_findFloat_308 : decode cX9_findFloat 308 = .ok (.bipush 37, 2) := by decide +kernel
theorem dX9_findFloat_310 : decode cX9_findFloat 310 = .ok (.iload 8, 2) := by decide +kernel
theorem dX9_findFloat_312 : decode cX9_findFloat 312 = .ok (.iadd, 1) := by decide +kernel
theorem dX9_findFloat_313 : decode cX9_findFloat 313 = .ok (.iaload, 1) := by decide +kernel
theorem dX9_findFloat_314 : decode cX9_findFloat 314 = .ok (.ifCond .ne 37, 3) := by decide +kernel
theorem dX9_findFloat_317 : decode cX9_findFloat 317 = .ok (.iload 9, 2) := by decide +kernel
theorem dX9_findFloat_319 : decode cX9_findFloat 319 = .ok (.ifCond .lt 28, 3) := by decide +kernel
theorem dX9_findFloat_322 : decode cX9_findFloat 322 = .ok (.aload_n 0, 1) := by decide +kernel
theorem dX9_findFloat_323 : decode cX9_findFloat 323 = .ok (.getfield 13, 3) := by decide +kernel
theorem dX9_findFloat_326 : decode cX9_findFloat 326 = .ok (.bipush 37, 2) := by decide +kernel
theorem dX9_findFloat_328 : decode cX9_findFloat 328 = .ok (.iload 9, 2) := by decide +kernel
theorem dX9_findFloat_330 : decode cX9_findFloat 330 = .ok (.iadd, 1) := by decide +kernel
theorem dX9_findFloat_331 : decode cX9_findFloat 331 = .ok (.iaload, 1) := by decide +kernel
theorem dX9_findFloat_332 : decode cX9_findFloat 332 = .ok (.iconst 1, 1) := by decide +kernel
theorem dX9_findFloat_333 : decode cX9_findFloat 333 = .ok (.if_icmp .eq 14, 3) := by decide +kernel
theorem dX9_findFloat_336 : decode cX9_findFloat 336 = .ok (.iload 4, 2) := by decide +kernel
theorem dX9_findFloat_338 : decode cX9_findFloat 338 = .ok (.iload 9, 2) := by decide +kernel
theorem dX9_findFloat_340 : decode cX9_findFloat 340 = .ok (.ishr, 1) := by decide +kernel
theorem dX9_findFloat_341 : decode cX9_findFloat 341 = .ok (.iconst 1, 1) := by decide +kernel
theorem dX9_findFloat_342 : decode cX9_findFloat 342 = .ok (.iand, 1) := by decide +kernel
theorem dX9_findFloat_343 : decode cX9_findFloat 343 = .ok (.iconst 1, 1) := by decide +kernel
theorem dX9_findFloat_344 : decode cX9_findFloat 344 = .ok (.if_icmp .ne 7, 3) := by decide +kernel
theorem dX9_findFloat_347 : decode cX9_findFloat 347 = .ok (.iconst 1, 1) := by decide +kernel
theorem dX9_findFloat_348 : decode cX9_findFloat 348 = .ok (.goto 4, 3) := by decide +kernel
theorem dX9_findFloat_351 : decode cX9_findFloat 351 = .ok (.iconst 0, 1) := by decide +kernel
theorem dX9_findFloat_352 : decode cX9_findFloat 352 = .ok (.istore 5, 2) := by decide +kernel
theorem dX9_findFloat_354 : decode cX9_findFloat 354 = .ok (.iload 6, 2) := by decide +kernel
theorem dX9_findFloat_356 : decode cX9_findFloat 356 = .ok (.aload_n 0, 1) := by decide +kernel
theorem dX9_findFloat_357 : decode cX9_findFloat 357 = .ok (.getfield 13, 3) := by decide +kernel
theorem dX9_findFloat_360 : decode cX9_findFloat 360 = .ok (.bipush 13, 2) := by decide +kernel
theorem dX9_findFloat_362 : decode cX9_findFloat 362 = .ok (.iload 8, 2) := by decide +kernel
theorem dX9_findFloat_364 : decode cX9_findFloat 364 = .ok (.iadd, 1) := by decide +kernel
theorem dX9_findFloat_365 : decode cX9_findFloat 365 = .ok (.iaload, 1) := by decide +kernel
theorem dX9_findFloat_366 : decode cX9_findFloat 366 = .ok (.iadd, 1) := by decide +kernel
theorem dX9_findFloat_367 : decode cX9_findFloat 367 = .ok (.istore 6, 2) := by decide +kernel
theorem dX9_findFloat_369 : decode cX9_findFloat 369 = .ok (.iinc 7 1, 3) := by decide +kernel
theorem dX9_findFloat_372 : decode cX9_findFloat 372 = .ok (.iinc 8 1, 3) := by decide +kernel
theorem dX9_findFloat_375 : decode cX9_findFloat 375 = .ok (.goto (-111), 3) := by decide +kernel
theorem dX9_findFloat_378 : decode cX9_findFloat 378 = .ok (.iload_n 1, 1) := by decide +kernel
theorem dX9_findFloat_379 : decode cX9_findFloat 379 = .ok (.iload 7, 2) := by decide +kernel
theorem dX9_findFloat_381 : decode cX9_findFloat 381 = .ok (.iadd, 1) := by decide +kernel
theorem dX9_findFloat_382 : decode cX9_findFloat 382 = .ok (.istore 8, 2) := by decide +kernel
theorem dX9_findFloat_384 : decode cX9_findFloat 384 = .ok (.iload 8, 2) := by decide +kernel
theorem dX9_findFloat_386 : decode cX9_findFloat 386 = .ok (.iload_n 3, 1) := by decide +kernel
theorem dX9_findFloat_387 : decode cX9_findFloat 387 = .ok (.if_icmp .le 8, 3) := by decide +kernel
theorem dX9_findFloat_390 : decode cX9_findFloat 390 = .ok (.iload 8, 2) := by decide +kernel
theorem dX9_findFloat_392 : decode cX9_findFloat 392 = .ok (.goto 4, 3) := by decide +kernel
theorem dX9_findFloat_395 : decode cX9_findFloat 395 = .ok (.iload_n 3, 1) := by decide +kernel
theorem dX9_findFloat_396 : decode cX9_findFloat 396 = .ok (.istore 8, 2) := by decide +kernel
theorem dX9_findFloat_398 : decode cX9_findFloat 398 = .ok (.iconst 0, 1) := by decide +kernel
theorem dX9_findFloat_399 : decode cX9_findFloat 399 = .ok (.istore 9, 2) := by decide +kernel
theorem dX9_findFloat_401 : decode cX9_findFloat 401 = .ok (.iload 8, 2) := by decide +kernel
theorem dX9_findFloat_403 : decode cX9_findFloat 403 = .ok (.istore 10, 2) := by decide +kernel
theorem dX9_findFloat_405 : decode cX9_findFloat 405 = .ok (.iload 10, 2) := by decide +kernel
theorem dX9_findFloat_407 : decode cX9_findFloat 407 = .ok (.bipush 96, 2) := by decide +kernel
theorem dX9_findFloat_409 : decode cX9_findFloat 409 = .ok (.if_icmp .ge 63, 3) := by decide +kernel
theorem dX9_findFloat_412 : decode cX9_findFloat 412 = .ok (.iload 5, 2) := by decide +kernel
theorem dX9_findFloat_414 : decode cX9_findFloat 414 = .ok (.ifCond .eq 58, 3) := by decide +kernel
theorem dX9_findFloat_417 : decode cX9_findFloat 417 = .ok (.iload 9, 2) := by decide +kernel
theorem dX9_findFloat_419 : decode cX9_findFloat 419 = .ok (.ifCond .ne 53, 3) := by decide +kernel
theorem dX9_findFloat_422 : decode cX9_findFloat 422 = .ok (.aload_n 0, 1) := by decide +kernel
theorem dX9_findFloat_423 : decode cX9_findFloat 423 = .ok (.iload 10, 2) := by decide +kernel
theorem dX9_findFloat_425 : decode cX9_findFloat 425 = .ok (.iload 6, 2) := by decide +kernel
theorem dX9_findFloat_427 : decode cX9_findFloat 427 = .ok (.invokevirtual 112, 3) := by decide +kernel
theorem dX9_findFloat_430 : decode cX9_findFloat 430 = .ok (.ifCond .eq 36, 3) := by decide +kernel
theorem dX9_findFloat_433 : decode cX9_findFloat 433 = .ok (.iconst 1, 1) := by decide +kernel
theorem dX9_findFloat_434 : decode cX9_findFloat 434 = .ok (.istore 9, 2) := by decide +kernel
theorem dX9_findFloat_436 : decode cX9_findFloat 436 = .ok (.aload_n 0, 1) := by decide +kernel
theorem dX9_findFloat_437 : decode cX9_findFloat 437 = .ok (.getfield 165, 3) := by decide +kernel
theorem dX9_findFloat_440 : decode cX9_findFloat 440 = .ok (.bipush (-4), 2) := by decide +kernel
theorem dX9_findFloat_442 : decode cX9_findFloat 442 = .ok (.if_icmp .eq 12, 3) := by decide +kernel
theorem dX9_findFloat_445 : decode cX9_findFloat 445 = .ok (.iload 10, 2) := by decide +kernel
theorem dX9_findFloat_447 : decode cX9_findFloat 447 = .ok (.aload_n 0, 1) := by decide +kernel
theorem dX9_findFloat_448 : decode cX9_findFloat 448 = .ok (.getfield 165, 3) := by decide +kernel
theorem dX9_findFloat_451 : decode cX9_findFloat 451 = .ok (.if_icmp .ge 15, 3) := by decide +kernel
theorem dX9_findFloat_454 : decode cX9_findFloat 454 = .ok (.aload_n 0, 1) := by decide +kernel
theorem dX9_findFloat_455 : decode cX9_findFloat 455 = .ok (.iload 10, 2) := by decide +kernel
theorem dX9_findFloat_457 : decode cX9_findFloat 457 = .ok (.putfield 165, 3) := by decide +kernel
theorem dX9_findFloat_460 : decode cX9_findFloat 460 = .ok (.aload_n 0, 1) := by decide +kernel
theorem dX9_findFloat_461 : decode cX9_findFloat 461 = .ok (.iload 4, 2) := by decide +kernel
theorem dX9_findFloat_463 : decode cX9_findFloat 463 = .ok (.putfield 171, 3) := by decide +kernel
theorem dX9_findFloat_466 : decode cX9_findFloat 466 = .ok (.iinc 10 1, 3) := by decide +kernel
theorem dX9_findFloat_469 : decode cX9_findFloat 469 = .ok (.goto (-64), 3) := by decide +kernel
theorem dX9_findFloat_472 : decode cX9_findFloat 472 = .ok (.iinc 4 1, 3) := by decide +kernel
theorem dX9_findFloat_475 : decode cX9_findFloat 475 = .ok (.goto (-244), 3) := by decide +kernel
theorem dX9_findFloat_478 : decode cX9_findFloat 478 = .ok (.return_, 1) := by decide +kernel
set_option maxRecDepth 20000 in
theorem ggX9_toFloat_X9_in : GoodIn wsX9_toFloat wsX9_in := goodIn_r _ [10] (by decide +kernel) (by decide +kernel)
set_option maxRecDepth 20000 in
theorem gX9_toFloat_X9_in : GoodIn wsX9_toFloat (va_wsS RX9 46 yX9_in wsX9_in) := goodIn_app (goodIn_of _ (by decide +kernel)) ggX9_toFloat_X9_in
set_option maxRecDepth 20000 in
theorem ggX9_toFloat_X9_isLost : GoodIn wsX9_toFloat wsX9_isLost := goodIn_r _ [14, 3, 86, 87, 88, 89, 90, 91, 92, 93, 94, 95, 96, 97, 98, 99, 100, 101, 102, 103, 104] (by decide +kernel) (by decide +kernel)
set_option maxRecDepth 20000 in
theorem gX9_toFloat_X9_isLost : GoodIn wsX9_toFloat (wsV RX9 123 RX9 yX9_isLost wsX9_isLost) := goodIn_app (goodIn_of _ (by decide +kernel)) ggX9_toFloat_X9_isLost
set_option maxRecDepth 20000 in
theorem ggX9_toFloat_X9_findFloat : GoodIn wsX9_toFloat wsX9_findFloat := goodIn_r _ [18, 3, 19, 4, 6, 5, 20, 21, 22, 9, 23, 11, 12, 13, 14, 24, 25, 26, 27, 28, 29, 30, 31, 32, 33, 34, 35, 36, 37, 38, 39, 40, 41, 42, 43, 44, 45, 46, 47, 48, 49, 50, 51, 52, 53, 54, 55, 56, 57, 58, 59, 60, 61, 62, 63, 64, 65, 66, 67, 68, 69, 70, 71, 72, 73, 74, 75, 76, 77, 78, 79, 80, 81, 82, 83, 84, 85, 86, 87, 88, 89, 90, 91, 92, 93, 94, 95, 96, 97, 98, 99, 100, 101, 102, 103, 104] (by decide +kernel) (by decide +kernel)
set_option maxRecDepth 20000 in
theorem gX9_toFloat_X9_findFloat : GoodIn wsX9_toFloat (wsV RX9 174 RX9 yX9_findFloat wsX9_findFloat) := goodIn_app (goodIn_of _ (by decide +kernel)) ggX9_toFloat_X9_findFloat
theorem dX9_toFloat_0 : decode cX9_toFloat 0 = .ok (.aload_n 0, 1) := by decide +kernel
theorem dX9_toFloat_1 : decode cX9_toFloat 1 = .ok (.iconst 0, 1) := by decide +kernel
theorem dX9_toFloat_2 : decode cX9_toFloat 2 = .ok (.putfield 1, 3) := by decide +kernel
theorem dX9_toFloat_5 : decode cX9_toFloat 5 = .ok (.iload_n 1, 1) := by decide +kernel
theorem dX9_toFloat_6 : decode cX9_toFloat 6 = .ok (.i2l, 1) := by decide +kernel
theorem dX9_toFloat_7 : decode cX9_toFloat 7 = .ok (.lconst 0, 1) := by decide +kernel
theorem dX9_toFloat_8 : decode cX9_toFloat 8 = .ok (.ldc2_w 66, 3) := by decide +kernel
theorem dX9_toFloat_11 : decode cX9_toFloat 11 = .ok (.invokestatic 46, 3) := by decide +kernel
theorem dX9_toFloat_14 : decode cX9_toFloat 14 = .ok (.ifCond .ne 5, 3) := by decide +kernel
theorem dX9_toFloat_17 : decode cX9_toFloat 17 = .ok (.iconst (-1), 1) := by decide +kernel
theorem dX9_toFloat_18 : decode cX9_toFloat 18 = .ok (.ireturn, 1) := by decide +kernel
theorem dX9_toFloat_19 : decode cX9_toFloat 19 = .ok (.iconst 0, 1) := by decide +kernel
theorem dX9_toFloat_20 : decode cX9_toFloat 20 = .ok (.istore_n 2, 1) := by decide +kernel
theorem dX9_toFloat_21 : decode cX9_toFloat 21 = .ok (.iconst 0, 1) := by decide +kernel
theorem dX9_toFloat_22 : decode cX9_toFloat 22 = .ok (.istore_n 3, 1) := by decide +kernel
theorem dX9_toFloat_23 : decode cX9_toFloat 23 = .ok (.iload_n 3, 1) := by decide +kernel
theorem dX9_toFloat_24 : decode cX9_toFloat 24 = .ok (.aload_n 0, 1) := by decide +kernel
theorem dX9_toFloat_25 : decode cX9_toFloat 25 = .ok (.getfield 13, 3) := by decide +kernel
theorem dX9_toFloat_28 : decode cX9_toFloat 28 = .ok (.bipush 10, 2) := by decide +kernel
theorem dX9_toFloat_30 : decode cX9_toFloat 30 = .ok (.iaload, 1) := by decide +kernel
theorem dX9_toFloat_31 : decode cX9_toFloat 31 = .ok (.if_icmp .ge 23, 3) := by decide +kernel
theorem dX9_toFloat_34 : decode cX9_toFloat 34 = .ok (.iload_n 2, 1) := by decide +kernel
theorem dX9_toFloat_35 : decode cX9_toFloat 35 = .ok (.iconst 1, 1) := by decide +kernel
theorem dX9_toFloat_36 : decode cX9_toFloat 36 = .ok (.aload_n 0, 1) := by decide +kernel
theorem dX9_toFloat_37 : decode cX9_toFloat 37 = .ok (.getfield 13, 3) := by decide +kernel
theorem dX9_toFloat_40 : decode cX9_toFloat 40 = .ok (.bipush 37, 2) := by decide +kernel
theorem dX9_toFloat_42 : decode cX9_toFloat 42 = .ok (.iload_n 3, 1) := by decide +kernel
theorem dX9_toFloat_43 : decode cX9_toFloat 43 = .ok (.iadd, 1) := by decide +kernel
theorem dX9_toFloat_44 : decode cX9_toFloat 44 = .ok (.iaload, 1) := by decide +kernel
theorem dX9_toFloat_45 : decode cX9_toFloat 45 = .ok (.isub, 1) := by decide +kernel
theorem dX9_toFloat_46 : decode cX9_toFloat 46 = .ok (.iadd, 1) := by decide +kernel
theorem dX9_toFloat_47 : decode cX9_toFloat 47 = .ok (.istore_n 2, 1) := by decide +kernel
theorem dX9_toFloat_48 : decode cX9_toFloat 48 = .ok (.iinc 3 1, 3) := by decide +kernel
theorem dX9_toFloat_51 : decode cX9_toFloat 51 = .ok (.goto (-28), 3) := by decide +kernel
theorem dX9_toFloat_54 : decode cX9_toFloat 54 = .ok (.iload_n 2, 1) := by decide +kernel
theorem dX9_toFloat_55 : decode cX9_toFloat 55 = .ok (.bipush 8, 2) := by decide +kernel
theorem dX9_toFloat_57 : decode cX9_toFloat 57 = .ok (.if_icmp .gt 10, 3) := by decide +kernel
theorem dX9_toFloat_60 : decode cX9_toFloat 60 = .ok (.aload_n 0, 1) := by decide +kernel
theorem dX9_toFloat_61 : decode cX9_toFloat 61 = .ok (.invokevirtual 123, 3) := by decide +kernel
theorem dX9_toFloat_64 : decode cX9_toFloat 64 = .ok (.ifCond .eq 6, 3) := by decide +kernel
theorem dX9_toFloat_67 : decode cX9_toFloat 67 = .ok (.bipush (-2), 2) := by decide +kernel
theorem dX9_toFloat_69 : decode cX9_toFloat 69 = .ok (.ireturn, 1) := by decide +kernel
theorem dX9_toFloat_70 : decode cX9_toFloat 70 = .ok (.aload_n 0, 1) := by decide +kernel
theorem dX9_toFloat_71 : decode cX9_toFloat 71 = .ok (.invokevirtual 174, 3) := by decide +kernel
theorem dX9_toFloat_74 : decode cX9_toFloat 74 = .ok (.aload_n 0, 1) := by decide +kernel
theorem dX9_toFloat_75 : decode cX9_toFloat 75 = .ok (.getfield 165, 3) := by decide +kernel
theorem dX9_toFloat_78 : decode cX9_toFloat 78 = .ok (.bipush (-4), 2) := by decide +kernel
theorem dX9_toFloat_80 : decode cX9_toFloat 80 = .ok (.if_icmp .ne 8, 3) := by decide +kernel
theorem dX9_toFloat_83 : decode cX9_toFloat 83 = .ok (.bipush (-4), 2) := by decide +kernel
theorem dX9_toFloat_85 : decode cX9_toFloat 85 = .ok (.goto 30, 3) := by decide +kernel
theorem dX9_toFloat_88 : decode cX9_toFloat 88 = .ok (.iload_n 1, 1) := by decide +kernel
theorem dX9_toFloat_89 : decode cX9_toFloat 89 = .ok (.ifCond .ne 10, 3) := by decide +kernel
theorem dX9_toFloat_92 : decode cX9_toFloat 92 = .ok (.aload_n 0, 1) := by decide +kernel
theorem dX9_toFloat_93 : decode cX9_toFloat 93 = .ok (.getfield 165, 3) := by decide +kernel
theorem dX9_toFloat_96 : decode cX9_toFloat 96 = .ok (.goto 19, 3) := by decide +kernel
theorem dX9_toFloat_99 : decode cX9_toFloat 99 = .ok (.iload_n 1, 1) := by decide +kernel
theorem dX9_toFloat_100 : decode cX9_toFloat 100 = .ok (.iconst 1, 1) := by decide +kernel
theorem dX9_toFloat_101 : decode cX9_toFloat 101 = .ok (.if_icmp .ne 10, 3) := by decide +kernel
theorem dX9_toFloat_104 : decode cX9_toFloat 104 = .ok (.aload_n 0, 1) := by decide +kernel
theorem dX9_toFloat_105 : decode cX9_toFloat 105 = .ok (.getfield 171, 3) := by decide +kernel
theorem dX9_toFloat_108 : decode cX9_toFloat 108 = .ok (.goto 7, 3) := by decide +kernel
theorem dX9_toFloat_111 : decode cX9_toFloat 111 = .ok (.aload_n 0, 1) := by decide +kernel
theorem dX9_toFloat_112 : decode cX9_toFloat 112 = .ok (.getfield 168, 3) := by decide +kernel
theorem dX9_toFloat_115 : decode cX9_toFloat 115 = .ok (.ireturn, 1) := by decide +kernel
set_option maxRecDepth 20000 in
theorem ggX9_tap_X9_in : GoodIn wsX9_tap wsX9_in := goodIn_r _ [8] (by decide +kernel) (by decide +kernel)
set_option maxRecDepth 20000 in
theorem gX9_tap_X9_in : GoodIn wsX9_tap (va_wsS RX9 46 yX9_in wsX9_in) := goodIn_app (goodIn_of _ (by decide +kernel)) ggX9_tap_X9_in
theorem dX9_tap_0 : decode cX9_tap 0 = .ok (.aload_n 0, 1) := by decide +kernel
theorem dX9_tap_1 : decode cX9_tap 1 = .ok (.iconst 0, 1) := by decide +kernel
theorem dX9_tap_2 : decode cX9_tap 2 = .ok (.putfield 1, 3) := by decide +kernel
theorem dX9_tap_5 : decode cX9_tap 5 = .ok (.iload_n 1, 1) := by decide +kernel
theorem dX9_tap_6 : decode cX9_tap 6 = .ok (.i2l, 1) := by decide +kernel
theorem dX9_tap_7 : decode cX9_tap 7 = .ok (.lconst 0, 1) := by decide +kernel
theorem dX9_tap_8 : decode cX9_tap 8 = .ok (.ldc2_w 177, 3) := by decide +kernel
theorem dX9_tap_11 : decode cX9_tap 11 = .ok (.invokestatic 46, 3) := by decide +kernel
theorem dX9_tap_14 : decode cX9_tap 14 = .ok (.ifCond .eq 15, 3) := by decide +kernel
theorem dX9_tap_17 : decode cX9_tap 17 = .ok (.iload_n 2, 1) := by decide +kernel
theorem dX9_tap_18 : decode cX9_tap 18 = .ok (.i2l, 1) := by decide +kernel
theorem dX9_tap_19 : decode cX9_tap 19 = .ok (.ldc2_w 64, 3) := by decide +kernel
theorem dX9_tap_22 : decode cX9_tap 22 = .ok (.lconst 1, 1) := by decide +kernel
theorem dX9_tap_23 : decode cX9_tap 23 = .ok (.invokestatic 46, 3) := by decide +kernel
theorem dX9_tap_26 : decode cX9_tap 26 = .ok (.ifCond .ne 6, 3) := by decide +kernel
theorem dX9_tap_29 : decode cX9_tap 29 = .ok (.bipush (-100), 2) := by decide +kernel
theorem dX9_tap_31 : decode cX9_tap 31 = .ok (.ireturn, 1) := by decide +kernel
theorem dX9_tap_32 : decode cX9_tap 32 = .ok (.aload_n 0, 1) := by decide +kernel
theorem dX9_tap_33 : decode cX9_tap 33 = .ok (.getfield 41, 3) := by decide +kernel
theorem dX9_tap_36 : decode cX9_tap 36 = .ok (.iload_n 1, 1) := by decide +kernel
theorem dX9_tap_37 : decode cX9_tap 37 = .ok (.iaload, 1) := by decide +kernel
theorem dX9_tap_38 : decode cX9_tap 38 = .ok (.istore_n 3, 1) := by decide +kernel
theorem dX9_tap_39 : decode cX9_tap 39 = .ok (.aload_n 0, 1) := by decide +kernel
theorem dX9_tap_40 : decode cX9_tap 40 = .ok (.getfield 41, 3) := by decide +kernel
theorem dX9_tap_43 : decode cX9_tap 43 = .ok (.iload_n 1, 1) := by decide +kernel
theorem dX9_tap_44 : decode cX9_tap 44 = .ok (.iload_n 2, 1) := by decide +kernel
theorem dX9_tap_45 : decode cX9_tap 45 = .ok (.iastore, 1) := by decide +kernel
theorem dX9_tap_46 : decode cX9_tap 46 = .ok (.iload_n 3, 1) := by decide +kernel
theorem dX9_tap_47 : decode cX9_tap 47 = .ok (.ireturn, 1) := by decide +kernel
set_option maxRecDepth 20000 in
theorem ggX9_worm_X9_in : GoodIn wsX9_worm wsX9_in := goodIn_r _ [8] (by decide +kernel) (by decide +kernel)
set_option maxRecDepth 20000 in
theorem gX9_worm_X9_in : GoodIn wsX9_worm (va_wsS RX9 46 yX9_in wsX9_in) := goodIn_app (goodIn_of _ (by decide +kernel)) ggX9_worm_X9_in
theorem dX9_worm_0 : decode cX9_worm 0 = .ok (.aload_n 0, 1) := by decide +kernel
theorem dX9_worm_1 : decode cX9_worm 1 = .ok (.iconst 0, 1) := by decide +kernel
theorem dX9_worm_2 : decode cX9_worm 2 = .ok (.putfield 1, 3) := by decide +kernel
theorem dX9_worm_5 : decode cX9_worm 5 = .ok (.iload_n 1, 1) := by decide +kernel
theorem dX9_worm_6 : decode cX9_worm 6 = .ok (.i2l, 1) := by decide +kernel
theorem dX9_worm_7 : decode cX9_worm 7 = .ok (.lconst 1, 1) := by decide +kernel
theorem dX9_worm_8 : decode cX9_worm 8 = .ok (.ldc2_w 179, 3) := by decide +kernel
theorem dX9_worm_11 : decode cX9_worm 11 = .ok (.invokestatic 46, 3) := by decide +kernel
theorem dX9_worm_14 : decode cX9_worm 14 = .ok (.ifCond .eq 15, 3) := by decide +kernel
theorem dX9_worm_17 : decode cX9_worm 17 = .ok (.iload_n 2, 1) := by decide +kernel
theorem dX9_worm_18 : decode cX9_worm 18 = .ok (.i2l, 1) := by decide +kernel
theorem dX9_worm_19 : decode cX9_worm 19 = .ok (.lconst 0, 1) := by decide +kernel
theorem dX9_worm_20 : decode cX9_worm 20 = .ok (.ldc2_w 127, 3) := by decide +kernel
theorem dX9_worm_23 : decode cX9_worm 23 = .ok (.invokestatic 46, 3) := by decide +kernel
theorem dX9_worm_26 : decode cX9_worm 26 = .ok (.ifCond .ne 5, 3) := by decide +kernel
theorem dX9_worm_29 : decode cX9_worm 29 = .ok (.iconst (-1), 1) := by decide +kernel
theorem dX9_worm_30 : decode cX9_worm 30 = .ok (.ireturn, 1) := by decide +kernel
theorem dX9_worm_31 : decode cX9_worm 31 = .ok (.iload_n 2, 1) := by decide +kernel
theorem dX9_worm_32 : decode cX9_worm 32 = .ok (.iconst 2, 1) := by decide +kernel
theorem dX9_worm_33 : decode cX9_worm 33 = .ok (.if_icmp .ge 57, 3) := by decide +kernel
theorem dX9_worm_36 : decode cX9_worm 36 = .ok (.iconst 0, 1) := by decide +kernel
theorem dX9_worm_37 : decode cX9_worm 37 = .ok (.istore_n 3, 1) := by decide +kernel
theorem dX9_worm_38 : decode cX9_worm 38 = .ok (.iconst 0, 1) := by decide +kernel
theorem dX9_worm_39 : decode cX9_worm 39 = .ok (.istore 4, 2) := by decide +kernel
theorem dX9_worm_41 : decode cX9_worm 41 = .ok (.iload 4, 2) := by decide +kernel
theorem dX9_worm_43 : decode cX9_worm 43 = .ok (.iload_n 1, 1) := by decide +kernel
theorem dX9_worm_44 : decode cX9_worm 44 = .ok (.if_icmp .ge 44, 3) := by decide +kernel
theorem dX9_worm_47 : decode cX9_worm 47 = .ok (.iload_n 3, 1) := by decide +kernel
theorem dX9_worm_48 : decode cX9_worm 48 = .ok (.aload_n 0, 1) := by decide +kernel
theorem dX9_worm_49 : decode cX9_worm 49 = .ok (.getfield 41, 3) := by decide +kernel
theorem dX9_worm_52 : decode cX9_worm 52 = .ok (.iload 4, 2) := by decide +kernel
theorem dX9_worm_54 : decode cX9_worm 54 = .ok (.iaload, 1) := by decide +kernel
theorem dX9_worm_55 : decode cX9_worm 55 = .ok (.iconst 1, 1) := by decide +kernel
theorem dX9_worm_56 : decode cX9_worm 56 = .ok (.if_icmp .eq 19, 3) := by decide +kernel
theorem dX9_worm_59 : decode cX9_worm 59 = .ok (.iload_n 2, 1) := by decide +kernel
theorem dX9_worm_60 : decode cX9_worm 60 = .ok (.iconst 1, 1) := by decide +kernel
theorem dX9_worm_61 : decode cX9_worm 61 = .ok (.if_icmp .ne 18, 3) := by decide +kernel
theorem dX9_worm_64 : decode cX9_worm 64 = .ok (.aload_n 0, 1) := by decide +kernel
theorem dX9_worm_65 : decode cX9_worm 65 = .ok (.getfield 41, 3) := by decide +kernel
theorem dX9_worm_68 : decode cX9_worm 68 = .ok (.iload 4, 2) := by decide +kernel
theorem dX9_worm_70 : decode cX9_worm 70 = .ok (.iaload, 1) := by decide +kernel
theorem dX9_worm_71 : decode cX9_worm 71 = .ok (.iconst (-1), 1) := by decide +kernel
theorem dX9_worm_72 : decode cX9_worm 72 = .ok (.if_icmp .ne 7, 3) := by decide +kernel
theorem dX9_worm_75 : decode cX9_worm 75 = .ok (.iconst 1, 1) := by decide +kernel
theorem dX9_worm_76 : decode cX9_worm 76 = .ok (.goto 4, 3) := by decide +kernel
theorem dX9_worm_79 : decode cX9_worm 79 = .ok (.iconst 0, 1) := by decide +kernel
theorem dX9_worm_80 : decode cX9_worm 80 = .ok (.iadd, 1) := by decide +kernel
theorem dX9_worm_81 : decode cX9_worm 81 = .ok (.istore_n 3, 1) := by decide +kernel
theorem dX9_worm_82 : decode cX9_worm 82 = .ok (.iinc 4 1, 3) := by decide +kernel
theorem dX9_worm_85 : decode cX9_worm 85 = .ok (.goto (-44), 3) := by decide +kernel
theorem dX9_worm_88 : decode cX9_worm 88 = .ok (.iload_n 3, 1) := by decide +kernel
theorem dX9_worm_89 : decode cX9_worm 89 = .ok (.ireturn, 1) := by decide +kernel
theorem dX9_worm_90 : decode cX9_worm 90 = .ok (.iconst 0, 1) := by decide +kernel
theorem dX9_worm_91 : decode cX9_worm 91 = .ok (.istore_n 3, 1) := by decide +kernel
theorem dX9_worm_92 : decode cX9_worm 92 = .ok (.iload_n 2, 1) := by decide +kernel
theorem dX9_worm_93 : decode cX9_worm 93 = .ok (.iconst 2, 1) := by decide +kernel
theorem dX9_worm_94 : decode cX9_worm 94 = .ok (.if_icmp .ne 9, 3) := by decide +kernel
theorem dX9_worm_97 : decode cX9_worm 97 = .ok (.sipush 1000, 3) := by decide +kernel
theorem dX9_worm_100 : decode cX9_worm 100 = .ok (.goto 6, 3) := by decide +kernel
theorem dX9_worm_103 : decode cX9_worm 103 = .ok (.sipush (-1000), 3) := by decide +kernel
theorem dX9_worm_106 : decode cX9_worm 106 = .ok (.istore 4, 2) := by decide +kernel
theorem dX9_worm_108 : decode cX9_worm 108 = .ok (.iconst 0, 1) := by decide +kernel
theorem dX9_worm_109 : decode cX9_worm 109 = .ok (.istore 5, 2) := by decide +kernel
theorem dX9_worm_111 : decode cX9_worm 111 = .ok (.iload 5, 2) := by decide +kernel
theorem dX9_worm_113 : decode cX9_worm 113 = .ok (.iload_n 1, 1) := by decide +kernel
theorem dX9_worm_114 : decode cX9_worm 114 = .ok (.if_icmp .ge 152, 3) := by decide +kernel
theorem dX9_worm_117 : decode cX9_worm 117 = .ok (.iload_n 3, 1) := by decide +kernel
theorem dX9_worm_118 : decode cX9_worm 118 = .ok (.iconst 1, 1) := by decide +kernel
theorem dX9_worm_119 : decode cX9_worm 119 = .ok (.iadd, 1) := by decide +kernel
theorem dX9_worm_120 : decode cX9_worm 120 = .ok (.istore 6, 2) := by decide +kernel
theorem dX9_worm_122 : decode cX9_worm 122 = .ok (.iload 4, 2) := by decide +kernel
theorem dX9_worm_124 : decode cX9_worm 124 = .ok (.istore 7, 2) := by decide +kernel
theorem dX9_worm_126 : decode cX9_worm 126 = .ok (.iload_n 2, 1) := by decide +kernel
theorem dX9_worm_127 : decode cX9_worm 127 = .ok (.iconst 2, 1) := by decide +kernel
theorem dX9_worm_128 : decode cX9_worm 128 = .ok (.if_icmp .ne 20, 3) := by decide +kernel
theorem dX9_worm_131 : decode cX9_worm 131 = .ok (.iload 6, 2) := by decide +kernel
theorem dX9_worm_133 : decode cX9_worm 133 = .ok (.iload 4, 2) := by decide +kernel
theorem dX9_worm_135 : decode cX9_worm 135 = .ok (.if_icmp .ge 8, 3) := by decide +kernel
theorem dX9_worm_138 : decode cX9_worm 138 = .ok (.iload 6, 2) := by decide +kernel
theorem dX9_worm_140 : decode cX9_worm 140 = .ok (.goto 22, 3) := by decide +kernel
theorem dX9_worm_143 : decode cX9_worm 143 = .ok (.iload 4, 2) := by decide +kernel
theorem dX9_worm_145 : decode cX9_worm 145 = .ok (.goto 17, 3) := by decide +kernel
theorem dX9_worm_148 : decode cX9_worm 148 = .ok (.iload 6, 2) := by decide +kernel
theorem dX9_worm_150 : decode cX9_worm 150 = .ok (.iload 4, 2) := by decide +kernel
theorem dX9_worm_152 : decode cX9_worm 152 = .ok (.if_icmp .le 8, 3) := by decide +kernel
theorem dX9_worm_155 : decode cX9_worm 155 = .ok (.iload 6, 2) := by decide +kernel
theorem dX9_worm_157 : decode cX9_worm 157 = .ok (.goto 5, 3) := by decide +kernel
theorem dX9_worm_160 : decode cX9_worm 160 = .ok (.iload 4, 2) := by decide +kernel
theorem dX9_worm_162 : decode cX9_worm 162 = .ok (.istore 8, 2) := by decide +kernel
theorem dX9_worm_164 : decode cX9_worm 164 = .ok (.iload_n 2, 1) := by decide +kernel
theorem dX9_worm_165 : decode cX9_worm 165 = .ok (.iconst 2, 1) := by decide +kernel
theorem dX9_worm_166 : decode cX9_worm 166 = .ok (.if_icmp .ne 18, 3) := by decide +kernel
theorem dX9_worm_169 : decode cX9_worm 169 = .ok (.iload 7, 2) := by decide +kernel
theorem dX9_worm_171 : decode cX9_worm 171 = .ok (.iload_n 3, 1) := by decide +kernel
theorem dX9_worm_172 : decode cX9_worm 172 = .ok (.if_icmp .ge 8, 3) := by decide +kernel
theorem dX9_worm_175 : decode cX9_worm 175 = .ok (.iload 7, 2) := by decide +kernel
theorem dX9_worm_177 : decode cX9_worm 177 = .ok (.goto 19, 3) := by decide +kernel
theorem dX9_worm_180 : decode cX9_worm 180 = .ok (.iload_n 3, 1) := by decide +kernel
theorem dX9_worm_181 : decode cX9_worm 181 = .ok (.goto 15, 3) := by decide +kernel
theorem dX9_worm_184 : decode cX9_worm 184 = .ok (.iload 7, 2) := by decide +kernel
theorem dX9_worm_186 : decode cX9_worm 186 = .ok (.iload_n 3, 1) := by decide +kernel
theorem dX9_worm_187 : decode cX9_worm 187 = .ok (.if_icmp .le 8, 3) := by decide +kernel
theorem dX9_worm_190 : decode cX9_worm 190 = .ok (.iload 7, 2) := by decide +kernel
theorem dX9_worm_192 : decode cX9_worm 192 = .ok (.goto 4, 3) := by decide +kernel
theorem dX9_worm_195 : decode cX9_worm 195 = .ok (.iload_n 3, 1) := by decide +kernel
theorem dX9_worm_196 : decode cX9_worm 196 = .ok (.istore 9, 2) := by decide +kernel
theorem dX9_worm_198 : decode cX9_worm 198 = .ok (.aload_n 0, 1) := by decide +kernel
theorem dX9_worm_199 : decode cX9_worm 199 = .ok (.getfield 41, 3) := by decide +kernel
theorem dX9_worm_202 : decode cX9_worm 202 = .ok (.iload 5, 2) := by decide +kernel
theorem dX9_worm_204 : decode cX9_worm 204 = .ok (.iaload, 1) := by decide +kernel
theorem dX9_worm_205 : decode cX9_worm 205 = .ok (.ifCond .ne 20, 3) := by decide +kernel
theorem dX9_worm_208 : decode cX9_worm 208 = .ok (.iload_n 2, 1) := by decide +kernel
theorem dX9_worm_209 : decode cX9_worm 209 = .ok (.iconst 2, 1) := by decide +kernel
theorem dX9_worm_210 : decode cX9_worm 210 = .ok (.if_icmp .ne 9, 3) := by decide +kernel
theorem dX9_worm_213 : decode cX9_worm 213 = .ok (.sipush 1000, 3) := by decide +kernel
theorem dX9_worm_216 : decode cX9_worm 216 = .ok (.goto 11, 3) := by decide +kernel
theorem dX9_worm_219 : decode cX9_worm 219 = .ok (.sipush (-1000), 3) := by decide +kernel
theorem dX9_worm_222 : decode cX9_worm 222 = .ok (.goto 5, 3) := by decide +kernel
theorem dX9_worm_225 : decode cX9_worm 225 = .ok (.iload 8, 2) := by decide +kernel
theorem dX9_worm_227 : decode cX9_worm 227 = .ok (.istore 4, 2) := by decide +kernel
theorem dX9_worm_229 : decode cX9_worm 229 = .ok (.aload_n 0, 1) := by decide +kernel
theorem dX9_worm_230 : decode cX9_worm 230 = .ok (.getfield 41, 3) := by decide +kernel
theorem dX9_worm_233 : decode cX9_worm 233 = .ok (.iload 5, 2) := by decide +kernel
theorem dX9_worm_235 : decode cX9_worm 235 = .ok (.iaload, 1) := by decide +kernel
theorem dX9_worm_236 : decode cX9_worm 236 = .ok (.iconst 1, 1) := by decide +kernel
theorem dX9_worm_237 : decode cX9_worm 237 = .ok (.if_icmp .ne 20, 3) := by decide +kernel
theorem dX9_worm_240 : decode cX9_worm 240 = .ok (.iload_n 2, 1) := by decide +kernel
theorem dX9_worm_241 : decode cX9_worm 241 = .ok (.iconst 2, 1) := by decide +kernel
theorem dX9_worm_242 : decode cX9_worm 242 = .ok (.if_icmp .ne 9, 3) := by decide +kernel
theorem dX9_worm_245 : decode cX9_worm 245 = .ok (.sipush 1000, 3) := by decide +kernel
theorem dX9_worm_248 : decode cX9_worm 248 = .ok (.goto 11, 3) := by decide +kernel
theorem dX9_worm_251 : decode cX9_worm 251 = .ok (.sipush (-1000), 3) := by decide +kernel
theorem dX9_worm_254 : decode cX9_worm 254 = .ok (.goto 5, 3) := by decide +kernel
theorem dX9_worm_257 : decode cX9_worm 257 = .ok (.iload 9, 2) := by decide +kernel
theorem dX9_worm_259 : decode cX9_worm 259 = .ok (.istore_n 3, 1) := by decide +kernel
theorem dX9_worm_260 : decode cX9_worm 260 = .ok (.iinc 5 1, 3) := by decide +kernel
theorem dX9_worm_263 : decode cX9_worm 263 = .ok (.goto (-152), 3) := by decide +kernel
theorem dX9_worm_266 : decode cX9_worm 266 = .ok (.iload_n 2, 1) := by decide +kernel
theorem dX9_worm_267 : decode cX9_worm 267 = .ok (.iconst 2, 1) := by decide +kernel
theorem dX9_worm_268 : decode cX9_worm 268 = .ok (.if_icmp .ne 18, 3) := by decide +kernel
theorem dX9_worm_271 : decode cX9_worm 271 = .ok (.iload_n 3, 1) := by decide +kernel
theorem dX9_worm_272 : decode cX9_worm 272 = .ok (.iload 4, 2) := by decide +kernel
theorem dX9_worm_274 : decode cX9_worm 274 = .ok (.if_icmp .ge 7, 3) := by decide +kernel
theorem dX9_worm_277 : decode cX9_worm 277 = .ok (.iload_n 3, 1) := by decide +kernel
theorem dX9_worm_278 : decode cX9_worm 278 = .ok (.goto 20, 3) := by decide +kernel
theorem dX9_worm_281 : decode cX9_worm 281 = .ok (.iload 4, 2) := by decide +kernel
theorem dX9_worm_283 : decode cX9_worm 283 = .ok (.goto 15, 3) := by decide +kernel
theorem dX9_worm_286 : decode cX9_worm 286 = .ok (.iload_n 3, 1) := by decide +kernel
theorem dX9_worm_287 : decode cX9_worm 287 = .ok (.iload 4, 2) := by decide +kernel
theorem dX9_worm_289 : decode cX9_worm 289 = .ok (.if_icmp .le 7, 3) := by decide +kernel
theorem dX9_worm_292 : decode cX9_worm 292 = .ok (.iload_n 3, 1) := by decide +kernel
theorem dX9_worm_293 : decode cX9_worm 293 = .ok (.goto 5, 3) := by decide +kernel
theorem dX9_worm_296 : decode cX9_worm 296 = .ok (.iload 4, 2) := by decide +kernel
theorem dX9_worm_298 : decode cX9_worm 298 = .ok (.ireturn, 1) := by decide +kernel
theorem dX9_book_0 : decode cX9_book 0 = .ok (.aload_n 0, 1) := by decide +kernel
theorem dX9_book_1 : decode cX9_book 1 = .ok (.iconst 0, 1) := by decide +kernel
theorem dX9_book_2 : decode cX9_book 2 = .ok (.putfield 1, 3) := by decide +kernel
theorem dX9_book_5 : decode cX9_book 5 = .ok (.iload_n 1, 1) := by decide +kernel
theorem dX9_book_6 : decode cX9_book 6 = .ok (.tableswitch 131 0 5 #[38, 46, 54, 62, 70, 124], 38) := by decide +kernel
theorem dX9_book_44 : decode cX9_book 44 = .ok (.aload_n 0, 1) := by decide +kernel
theorem dX9_book_45 : decode cX9_book 45 = .ok (.getfield 13, 3) := by decide +kernel
theorem dX9_book_48 : decode cX9_book 48 = .ok (.bipush 6, 2) := by decide +kernel
theorem dX9_book_50 : decode cX9_book 50 = .ok (.iaload, 1) := by decide +kernel
theorem dX9_book_51 : decode cX9_book 51 = .ok (.ireturn, 1) := by decide +kernel
theorem dX9_book_52 : decode cX9_book 52 = .ok (.aload_n 0, 1) := by decide +kernel
theorem dX9_book_53 : decode cX9_book 53 = .ok (.getfield 13, 3) := by decide +kernel
theorem dX9_book_56 : decode cX9_book 56 = .ok (.bipush 7, 2) := by decide +kernel
theorem dX9_book_58 : decode cX9_book 58 = .ok (.iaload, 1) := by decide +kernel
theorem dX9_book_59 : decode cX9_book 59 = .ok (.ireturn, 1) := by decide +kernel
theorem dX9_book_60 : decode cX9_book 60 = .ok (.aload_n 0, 1) := by decide +kernel
theorem dX9_book_61 : decode cX9_book 61 = .ok (.getfield 13, 3) := by decide +kernel
theorem dX9_book_64 : decode cX9_book 64 = .ok (.bipush 8, 2) := by decide +kernel
theorem dX9_book_66 : decode cX9_book 66 = .ok (.iaload, 1) := by decide +kernel
theorem dX9_book_67 : decode cX9_book 67 = .ok (.ireturn, 1) := by decide +kernel
theorem dX9_book_68 : decode cX9_book 68 = .ok (.aload_n 0, 1) := by decide +kernel
theorem dX9_book_69 : decode cX9_book 69 = .ok (.getfield 13, 3) := by decide +kernel
theorem dX9_book_72 : decode cX9_book 72 = .ok (.bipush 9, 2) := by decide +kernel
theorem dX9_book_74 : decode cX9_book 74 = .ok (.iaload, 1) := by decide +kernel
theorem dX9_book_75 : decode cX9_book 75 = .ok (.ireturn, 1) := by decide +kernel
theorem dX9_book_76 : decode cX9_book 76 = .ok (.iconst 0, 1) := by decide +kernel
theorem dX9_book_77 : decode cX9_book 77 = .ok (.istore_n 2, 1) := by decide +kernel
theorem dX9_book_78 : decode cX9_book 78 = .ok (.iconst 0, 1) := by decide +kernel
theorem dX9_book_79 : decode cX9_book 79 = .ok (.istore_n 3, 1) := by decide +kernel
theorem dX9_book_80 : decode cX9_book 80 = .ok (.iload_n 3, 1) := by decide +kernel
theorem dX9_book_81 : decode cX9_book 81 = .ok (.aload_n 0, 1) := by decide +kernel
theorem dX9_book_82 : decode cX9_book 82 = .ok (.getfield 13, 3) := by decide +kernel
theorem dX9_book_85 : decode cX9_book 85 = .ok (.bipush 12, 2) := by decide +kernel
theorem dX9_book_87 : decode cX9_book 87 = .ok (.iaload, 1) := by decide +kernel
theorem dX9_book_88 : decode cX9_book 88 = .ok (.if_icmp .ge 40, 3) := by decide +kernel
theorem dX9_book_91 : decode cX9_book 91 = .ok (.iload_n 2, 1) := by decide +kernel
theorem dX9_book_92 : decode cX9_book 92 = .ok (.aload_n 0, 1) := by decide +kernel
theorem dX9_book_93 : decode cX9_book 93 = .ok (.getfield 13, 3) := by decide +kernel
theorem dX9_book_96 : decode cX9_book 96 = .ok (.sipush 145, 3) := by decide +kernel
theorem dX9_book_99 : decode cX9_book 99 = .ok (.iload_n 3, 1) := by decide +kernel
theorem dX9_book_100 : decode cX9_book 100 = .ok (.iadd, 1) := by decide +kernel
theorem dX9_book_101 : decode cX9_book 101 = .ok (.iaload, 1) := by decide +kernel
theorem dX9_book_102 : decode cX9_book 102 = .ok (.iconst 2, 1) := by decide +kernel
theorem dX9_book_103 : decode cX9_book 103 = .ok (.if_icmp .ne 16, 3) := by decide +kernel
theorem dX9_book_106 : decode cX9_book 106 = .ok (.aload_n 0, 1) := by decide +kernel
theorem dX9_book_107 : decode cX9_book 107 = .ok (.getfield 13, 3) := by decide +kernel
theorem dX9_book_110 : decode cX9_book 110 = .ok (.sipush 133, 3) := by decide +kernel
theorem dX9_book_113 : decode cX9_book 113 = .ok (.iload_n 3, 1) := by decide +kernel
theorem dX9_book_114 : decode cX9_book 114 = .ok (.iadd, 1) := by decide +kernel
theorem dX9_book_115 : decode cX9_book 115 = .ok (.iaload, 1) := by decide +kernel
theorem dX9_book_116 : decode cX9_book 116 = .ok (.goto 4, 3) := by decide +kernel
theorem dX9_book_119 : decode cX9_book 119 = .ok (.iconst 0, 1) := by decide +kernel
theorem dX9_book_120 : decode cX9_book 120 = .ok (.iadd, 1) := by decide +kernel
theorem dX9_book_121 : decode cX9_book 121 = .ok (.istore_n 2, 1) := by decide +kernel
theorem dX9_book_122 : decode cX9_book 122 = .ok (.iinc 3 1, 3) := by decide +kernel
theorem dX9_book_125 : decode cX9_book 125 = .ok (.goto (-45), 3) := by decide +kernel
theorem dX9_book_128 : decode cX9_book 128 = .ok (.iload_n 2, 1) := by decide +kernel
theorem dX9_book_129 : decode cX9_book 129 = .ok (.ireturn, 1) := by decide +kernel
theorem dX9_book_130 : decode cX9_book 130 = .ok (.aload_n 0, 1) := by decide +kernel
theorem dX9_book_131 : decode cX9_book 131 = .ok (.getfield 13, 3) := by decide +kernel
theorem dX9_book_134 : decode cX9_book 134 = .ok (.iconst 5, 1) := by decide +kernel
theorem dX9_book_135 : decode cX9_book 135 = .ok (.iaload, 1) := by decide +kernel
theorem dX9_book_136 : decode cX9_book 136 = .ok (.ireturn, 1) := by decide +kernel
theorem dX9_book_137 : decode cX9_book 137 = .ok (.iconst (-1), 1) := by decide +kernel
theorem dX9_book_138 : decode cX9_book 138 = .ok (.ireturn, 1) := by decide +kernel
theorem dX9_keep_0 : decode cX9_keep 0 = .ok (.aload_n 0, 1) := by decide +kernel
theorem dX9_keep_1 : decode cX9_keep 1 = .ok (.iconst 0, 1) := by decide +kernel
theorem dX9_keep_2 : decode cX9_keep 2 = .ok (.putfield 1, 3) := by decide +kernel
theorem dX9_keep_5 : decode cX9_keep 5 = .ok (.aload_n 0, 1) := by decide +kernel
theorem dX9_keep_6 : decode cX9_keep 6 = .ok (.getfield 181, 3) := by decide +kernel
theorem dX9_keep_9 : decode cX9_keep 9 = .ok (.iconst 3, 1) := by decide +kernel
theorem dX9_keep_10 : decode cX9_keep 10 = .ok (.if_icmp .ne 6, 3) := by decide +kernel
theorem dX9_keep_13 : decode cX9_keep 13 = .ok (.bipush (-3), 2) := by decide +kernel
theorem dX9_keep_15 : decode cX9_keep 15 = .ok (.ireturn, 1) := by decide +kernel
theorem dX9_keep_16 : decode cX9_keep 16 = .ok (.iconst 0, 1) := by decide +kernel
theorem dX9_keep_17 : decode cX9_keep 17 = .ok (.istore_n 1, 1) := by decide +kernel
theorem dX9_keep_18 : decode cX9_keep 18 = .ok (.iload_n 1, 1) := by decide +kernel
theorem dX9_keep_19 : decode cX9_keep 19 = .ok (.sipush 169, 3) := by decide +kernel
theorem dX9_keep_22 : decode cX9_keep 22 = .ok (.if_icmp .ge 30, 3) := by decide +kernel
theorem dX9_keep_25 : decode cX9_keep 25 = .ok (.aload_n 0, 1) := by decide +kernel
theorem dX9_keep_26 : decode cX9_keep 26 = .ok (.getfield 20, 3) := by decide +kernel
theorem dX9_keep_29 : decode cX9_keep 29 = .ok (.sipush 169, 3) := by decide +kernel
theorem dX9_keep_32 : decode cX9_keep 32 = .ok (.aload_n 0, 1) := by decide +kernel
theorem dX9_keep_33 : decode cX9_keep 33 = .ok (.getfield 181, 3) := by decide +kernel
theorem dX9_keep_36 : decode cX9_keep 36 = .ok (.imul, 1) := by decide +kernel
theorem dX9_keep_37 : decode cX9_keep 37 = .ok (.iload_n 1, 1) := by decide +kernel
theorem dX9_keep_38 : decode cX9_keep 38 = .ok (.iadd, 1) := by decide +kernel
theorem dX9_keep_39 : decode cX9_keep 39 = .ok (.aload_n 0, 1) := by decide +kernel
theorem dX9_keep_40 : decode cX9_keep 40 = .ok (.getfield 13, 3) := by decide +kernel
theorem dX9_keep_43 : decode cX9_keep 43 = .ok (.iload_n 1, 1) := by decide +kernel
theorem dX9_keep_44 : decode cX9_keep 44 = .ok (.iaload, 1) := by decide +kernel
theorem dX9_keep_45 : decode cX9_keep 45 = .ok (.iastore, 1) := by decide +kernel
theorem dX9_keep_46 : decode cX9_keep 46 = .ok (.iinc 1 1, 3) := by decide +kernel
theorem dX9_keep_49 : decode cX9_keep 49 = .ok (.goto (-31), 3) := by decide +kernel
theorem dX9_keep_52 : decode cX9_keep 52 = .ok (.aload_n 0, 1) := by decide +kernel
theorem dX9_keep_53 : decode cX9_keep 53 = .ok (.dup, 1) := by decide +kernel
theorem dX9_keep_54 : decode cX9_keep 54 = .ok (.getfield 181, 3) := by decide +kernel
theorem dX9_keep_57 : decode cX9_keep 57 = .ok (.iconst 1, 1) := by decide +kernel
theorem dX9_keep_58 : decode cX9_keep 58 = .ok (.iadd, 1) := by decide +kernel
theorem dX9_keep_59 : decode cX9_keep 59 = .ok (.putfield 181, 3) := by decide +kernel
theorem dX9_keep_62 : decode cX9_keep 62 = .ok (.aload_n 0, 1) := by decide +kernel
theorem dX9_keep_63 : decode cX9_keep 63 = .ok (.getfield 181, 3) := by decide +kernel
theorem dX9_keep_66 : decode cX9_keep 66 = .ok (.ireturn, 1) := by decide +kernel
theorem dX9_back_0 : decode cX9_back 0 = .ok (.aload_n 0, 1) := by decide +kernel
theorem dX9_back_1 : decode cX9_back 1 = .ok (.iconst 0, 1) := by decide +kernel
theorem dX9_back_2 : decode cX9_back 2 = .ok (.putfield 1, 3) := by decide +kernel
theorem dX9_back_5 : decode cX9_back 5 = .ok (.aload_n 0, 1) := by decide +kernel
theorem dX9_back_6 : decode cX9_back 6 = .ok (.getfield 181, 3) := by decide +kernel
theorem dX9_back_9 : decode cX9_back 9 = .ok (.ifCond .ne 6, 3) := by decide +kernel
theorem dX9_back_12 : decode cX9_back 12 = .ok (.bipush (-2), 2) := by decide +kernel
theorem dX9_back_14 : decode cX9_back 14 = .ok (.ireturn, 1) := by decide +kernel
theorem dX9_back_15 : decode cX9_back 15 = .ok (.aload_n 0, 1) := by decide +kernel
theorem dX9_back_16 : decode cX9_back 16 = .ok (.dup, 1) := by decide +kernel
theorem dX9_back_17 : decode cX9_back 17 = .ok (.getfield 181, 3) := by decide +kernel
theorem dX9_back_20 : decode cX9_back 20 = .ok (.iconst 1, 1) := by decide +kernel
theorem dX9_back_21 : decode cX9_back 21 = .ok (.isub, 1) := by decide +kernel
theorem dX9_back_22 : decode cX9_back 22 = .ok (.putfield 181, 3) := by decide +kernel
theorem dX9_back_25 : decode cX9_back 25 = .ok (.iconst 0, 1) := by decide +kernel
theorem dX9_back_26 : decode cX9_back 26 = .ok (.istore_n 1, 1) := by decide +kernel
theorem dX9_back_27 : decode cX9_back 27 = .ok (.iload_n 1, 1) := by decide +kernel
theorem dX9_back_28 : decode cX9_back 28 = .ok (.sipush 169, 3) := by decide +kernel
theorem dX9_back_31 : decode cX9_back 31 = .ok (.if_icmp .ge 30, 3) := by decide +kernel
theorem dX9_back_34 : decode cX9_back 34 = .ok (.aload_n 0, 1) := by decide +kernel
theorem dX9_back_35 : decode cX9_back 35 = .ok (.getfield 13, 3) := by decide +kernel
theorem dX9_back_38 : decode cX9_back 38 = .ok (.iload_n 1, 1) := by decide +kernel
theorem dX9_back_39 : decode cX9_back 39 = .ok (.aload_n 0, 1) := by decide +kernel
theorem dX9_back_40 : decode cX9_back 40 = .ok (.getfield 20, 3) := by decide +kernel
theorem dX9_back_43 : decode cX9_back 43 = .ok (.sipush 169, 3) := by decide +kernel
theorem dX9_back_46 : decode cX9_back 46 = .ok (.aload_n 0, 1) := by decide +kernel
theorem dX9_back_47 : decode cX9_back 47 = .ok (.getfield 181, 3) := by decide +kernel
theorem dX9_back_50 : decode cX9_back 50 = .ok (.imul, 1) := by decide +kernel
theorem dX9_back_51 : decode cX9_back 51 = .ok (.iload_n 1, 1) := by decide +kernel
theorem dX9_back_52 : decode cX9_back 52 = .ok (.iadd, 1) := by decide +kernel
theorem dX9_back_53 : decode cX9_back 53 = .ok (.iaload, 1) := by decide +kernel
theorem dX9_back_54 : decode cX9_back 54 = .ok (.iastore, 1) := by decide +kernel
theorem dX9_back_55 : decode cX9_back 55 = .ok (.iinc 1 1, 3) := by decide +kernel
theorem dX9_back_58 : decode cX9_back 58 = .ok (.goto (-31), 3) := by decide +kernel
theorem dX9_back_61 : decode cX9_back 61 = .ok (.aload_n 0, 1) := by decide +kernel
theorem dX9_back_62 : decode cX9_back 62 = .ok (.getfield 181, 3) := by decide +kernel
theorem dX9_back_65 : decode cX9_back 65 = .ok (.ireturn, 1) := by decide +kernel
set_option maxRecDepth 20000 in
theorem ggX9_count_X9_wholes : GoodIn wsX9_count wsX9_wholes := goodIn_r _ [8, 2, 13, 14, 15, 16, 17, 18, 19, 20, 21, 22, 23, 24, 25, 26, 27, 28, 29, 30, 31] (by decide +kernel) (by decide +kernel)
set_option maxRecDepth 20000 in
theorem gX9_count_X9_wholes : GoodIn wsX9_count (wsV RX9 82 RX9 yX9_wholes wsX9_wholes) := goodIn_app (goodIn_of _ (by decide +kernel)) ggX9_count_X9_wholes
set_option maxRecDepth 20000 in
theorem ggX9_count_X9_states : GoodIn wsX9_count wsX9_states := goodIn_r _ [12, 2, 13, 14, 15, 16, 17, 18, 19, 20, 21, 22, 23, 24, 25, 26, 27, 28, 29, 30, 31] (by decide +kernel) (by decide +kernel)
set_option maxRecDepth 20000 in
theorem gX9_count_X9_states : GoodIn wsX9_count (wsV RX9 109 RX9 yX9_states wsX9_states) := goodIn_app (goodIn_of _ (by decide +kernel)) ggX9_count_X9_states
theorem dX9_count_0 : decode cX9_count 0 = .ok (.aload_n 0, 1) := by decide +kernel
theorem dX9_count_1 : decode cX9_count 1 = .ok (.iconst 0, 1) := by decide +kernel
theorem dX9_count_2 : decode cX9_count 2 = .ok (.putfield 1, 3) := by decide +kernel
theorem dX9_count_5 : decode cX9_count 5 = .ok (.iconst 0, 1) := by decide +kernel
theorem dX9_count_6 : decode cX9_count 6 = .ok (.istore_n 2, 1) := by decide +kernel
theorem dX9_count_7 : decode cX9_count 7 = .ok (.iload_n 1, 1) := by decide +kernel
theorem dX9_count_8 : decode cX9_count 8 = .ok (.tableswitch 138 0 8 #[52, 60, 93, 101, 106, 114, 120, 126, 133], 52) := by decide +kernel
theorem dX9_count_60 : decode cX9_count 60 = .ok (.aload_n 0, 1) := by decide +kernel
theorem dX9_count_61 : decode cX9_count 61 = .ok (.getfield 13, 3) := by decide +kernel
theorem dX9_count_64 : decode cX9_count 64 = .ok (.bipush 10, 2) := by decide +kernel
theorem dX9_count_66 : decode cX9_count 66 = .ok (.iaload, 1) := by decide +kernel
theorem dX9_count_67 : decode cX9_count 67 = .ok (.ireturn, 1) := by decide +kernel
theorem dX9_count_68 : decode cX9_count 68 = .ok (.iconst 0, 1) := by decide +kernel
theorem dX9_count_69 : decode cX9_count 69 = .ok (.istore_n 3, 1) := by decide +kernel
theorem dX9_count_70 : decode cX9_count 70 = .ok (.iload_n 3, 1) := by decide +kernel
theorem dX9_count_71 : decode cX9_count 71 = .ok (.aload_n 0, 1) := by decide +kernel
theorem dX9_count_72 : decode cX9_count 72 = .ok (.getfield 13, 3) := by decide +kernel
theorem dX9_count_75 : decode cX9_count 75 = .ok (.bipush 10, 2) := by decide +kernel
theorem dX9_count_77 : decode cX9_count 77 = .ok (.iaload, 1) := by decide +kernel
theorem dX9_count_78 : decode cX9_count 78 = .ok (.if_icmp .ge 21, 3) := by decide +kernel
theorem dX9_count_81 : decode cX9_count 81 = .ok (.iload_n 2, 1) := by decide +kernel
theorem dX9_count_82 : decode cX9_count 82 = .ok (.aload_n 0, 1) := by decide +kernel
theorem dX9_count_83 : decode cX9_count 83 = .ok (.getfield 13, 3) := by decide +kernel
theorem dX9_count_86 : decode cX9_count 86 = .ok (.bipush 37, 2) := by decide +kernel
theorem dX9_count_88 : decode cX9_count 88 = .ok (.iload_n 3, 1) := by decide +kernel
theorem dX9_count_89 : decode cX9_count 89 = .ok (.iadd, 1) := by decide +kernel
theorem dX9_count_90 : decode cX9_count 90 = .ok (.iaload, 1) := by decide +kernel
theorem dX9_count_91 : decode cX9_count 91 = .ok (.iadd, 1) := by decide +kernel
theorem dX9_count_92 : decode cX9_count 92 = .ok (.istore_n 2, 1) := by decide +kernel
theorem dX9_count_93 : decode cX9_count 93 = .ok (.iinc 3 1, 3) := by decide +kernel
theorem dX9_count_96 : decode cX9_count 96 = .ok (.goto (-26), 3) := by decide +kernel
theorem dX9_count_99 : decode cX9_count 99 = .ok (.iload_n 2, 1) := by decide +kernel
theorem dX9_count_100 : decode cX9_count 100 = .ok (.ireturn, 1) := by decide +kernel
theorem dX9_count_101 : decode cX9_count 101 = .ok (.aload_n 0, 1) := by decide +kernel
theorem dX9_count_102 : decode cX9_count 102 = .ok (.getfield 13, 3) := by decide +kernel
theorem dX9_count_105 : decode cX9_count 105 = .ok (.bipush 11, 2) := by decide +kernel
theorem dX9_count_107 : decode cX9_count 107 = .ok (.iaload, 1) := by decide +kernel
theorem dX9_count_108 : decode cX9_count 108 = .ok (.ireturn, 1) := by decide +kernel
theorem dX9_count_109 : decode cX9_count 109 = .ok (.aload_n 0, 1) := by decide +kernel
theorem dX9_count_110 : decode cX9_count 110 = .ok (.invokevirtual 82, 3) := by decide +kernel
theorem dX9_count_113 : decode cX9_count 113 = .ok (.ireturn, 1) := by decide +kernel
theorem dX9_count_114 : decode cX9_count 114 = .ok (.aload_n 0, 1) := by decide +kernel
theorem dX9_count_115 : decode cX9_count 115 = .ok (.getfield 13, 3) := by decide +kernel
theorem dX9_count_118 : decode cX9_count 118 = .ok (.bipush 12, 2) := by decide +kernel
theorem dX9_count_120 : decode cX9_count 120 = .ok (.iaload, 1) := by decide +kernel
theorem dX9_count_121 : decode cX9_count 121 = .ok (.ireturn, 1) := by decide +kernel
theorem dX9_count_122 : decode cX9_count 122 = .ok (.aload_n 0, 1) := by decide +kernel
theorem dX9_count_123 : decode cX9_count 123 = .ok (.iconst 1, 1) := by decide +kernel
theorem dX9_count_124 : decode cX9_count 124 = .ok (.invokevirtual 109, 3) := by decide +kernel
theorem dX9_count_127 : decode cX9_count 127 = .ok (.ireturn, 1) := by decide +kernel
theorem dX9_count_128 : decode cX9_count 128 = .ok (.aload_n 0, 1) := by decide +kernel
theorem dX9_count_129 : decode cX9_count 129 = .ok (.iconst 2, 1) := by decide +kernel
theorem dX9_count_130 : decode cX9_count 130 = .ok (.invokevirtual 109, 3) := by decide +kernel
theorem dX9_count_133 : decode cX9_count 133 = .ok (.ireturn, 1) := by decide +kernel
theorem dX9_count_134 : decode cX9_count 134 = .ok (.aload_n 0, 1) := by decide +kernel
theorem dX9_count_135 : decode cX9_count 135 = .ok (.getfield 13, 3) := by decide +kernel
theorem dX9_count_138 : decode cX9_count 138 = .ok (.iconst 0, 1) := by decide +kernel
theorem dX9_count_139 : decode cX9_count 139 = .ok (.iaload, 1) := by decide +kernel
theorem dX9_count_140 : decode cX9_count 140 = .ok (.ireturn, 1) := by decide +kernel
theorem dX9_count_141 : decode cX9_count 141 = .ok (.aload_n 0, 1) := by decide +kernel
theorem dX9_count_142 : decode cX9_count 142 = .ok (.getfield 181, 3) := by decide +kernel
theorem dX9_count_145 : decode cX9_count 145 = .ok (.ireturn, 1) := by decide +kernel
theorem dX9_count_146 : decode cX9_count 146 = .ok (.iconst (-1), 1) := by decide +kernel
theorem dX9_count_147 : decode cX9_count 147 = .ok (.ireturn, 1) := by decide +kernel
