theorem dX9_in_0 : decode cX9_in 0 = .ok (.lload_n 0, 1) := by decide +kernel
theorem dX9_in_1 : decode cX9_in 1 = .ok (.lload_n 2, 1) := by decide +kernel
theorem dX9_in_2 : decode cX9_in 2 = .ok (.lcmp, 1) := by decide +kernel
theorem dX9_in_3 : decode cX9_in 3 = .ok (.ifCond .lt 14, 3) := by decide +kernel
theorem dX9_in_6 : decode cX9_in 6 = .ok (.lload_n 0, 1) := by decide +kernel
theorem dX9_in_7 : decode cX9_in 7 = .ok (.lload 4, 2) := by decide +kernel
theorem dX9_in_9 : decode cX9_in 9 = .ok (.lcmp, 1) := by decide +kernel
theorem dX9_in_10 : decode cX9_in 10 = .ok (.ifCond .gt 7, 3) := by decide +kernel
theorem dX9_in_13 : decode cX9_in 13 = .ok (.iconst 1, 1) := by decide +kernel
theorem dX9_in_14 : decode cX9_in 14 = .ok (.goto 4, 3) := by decide +kernel
theorem dX9_in_17 : decode cX9_in 17 = .ok (.iconst 0, 1) := by decide +kernel
theorem dX9_in_18 : decode cX9_in 18 = .ok (.ireturn, 1) := by decide +kernel
theorem dX9_init_0 : decode cX9_init 0 = .ok (.aload_n 0, 1) := by decide +kernel
theorem dX9_init_1 : decode cX9_init 1 = .ok (.invokespecial 7, 3) := by decide +kernel
theorem dX9_init_4 : decode cX9_init 4 = .ok (.aload_n 0, 1) := by decide +kernel
theorem dX9_init_5 : decode cX9_init 5 = .ok (.sipush 169, 3) := by decide +kernel
theorem dX9_init_8 : decode cX9_init 8 = .ok (.newarray .int, 2) := by decide +kernel
theorem dX9_init_10 : decode cX9_init 10 = .ok (.putfield 13, 3) := by decide +kernel
theorem dX9_init_13 : decode cX9_init 13 = .ok (.aload_n 0, 1) := by decide +kernel
theorem dX9_init_14 : decode cX9_init 14 = .ok (.sipush 169, 3) := by decide +kernel
theorem dX9_init_17 : decode cX9_init 17 = .ok (.newarray .int, 2) := by decide +kernel
theorem dX9_init_19 : decode cX9_init 19 = .ok (.putfield 17, 3) := by decide +kernel
theorem dX9_init_22 : decode cX9_init 22 = .ok (.aload_n 0, 1) := by decide +kernel
theorem dX9_init_23 : decode cX9_init 23 = .ok (.sipush 507, 3) := by decide +kernel
theorem dX9_init_26 : decode cX9_init 26 = .ok (.newarray .int, 2) := by decide +kernel
theorem dX9_init_28 : decode cX9_init 28 = .ok (.putfield 20, 3) := by decide +kernel
theorem dX9_init_31 : decode cX9_init 31 = .ok (.aload_n 0, 1) := by decide +kernel
theorem dX9_init_32 : decode cX9_init 32 = .ok (.bipush 96, 2) := by decide +kernel
theorem dX9_init_34 : decode cX9_init 34 = .ok (.newarray .int, 2) := by decide +kernel
theorem dX9_init_36 : decode cX9_init 36 = .ok (.putfield 23, 3) := by decide +kernel
theorem dX9_init_39 : decode cX9_init 39 = .ok (.aload_n 0, 1) := by decide +kernel
theorem dX9_init_40 : decode cX9_init 40 = .ok (.bipush 96, 2) := by decide +kernel
theorem dX9_init_42 : decode cX9_init 42 = .ok (.newarray .int, 2) := by decide +kernel
theorem dX9_init_44 : decode cX9_init 44 = .ok (.putfield 26, 3) := by decide +kernel
theorem dX9_init_47 : decode cX9_init 47 = .ok (.aload_n 0, 1) := by decide +kernel
theorem dX9_init_48 : decode cX9_init 48 = .ok (.bipush 8, 2) := by decide +kernel
theorem dX9_init_50 : decode cX9_init 50 = .ok (.newarray .int, 2) := by decide +kernel
theorem dX9_init_52 : decode cX9_init 52 = .ok (.dup, 1) := by decide +kernel
theorem dX9_init_53 : decode cX9_init 53 = .ok (.iconst 0, 1) := by decide +kernel
theorem dX9_init_54 : decode cX9_init 54 = .ok (.bipush 10, 2) := by decide +kernel
theorem dX9_init_56 : decode cX9_init 56 = .ok (.iastore, 1) := by decide +kernel
theorem dX9_init_57 : decode cX9_init 57 = .ok (.dup, 1) := by decide +kernel
theorem dX9_init_58 : decode cX9_init 58 = .ok (.iconst 1, 1) := by decide +kernel
theorem dX9_init_59 : decode cX9_init 59 = .ok (.sipush 400, 3) := by decide +kernel
theorem dX9_init_62 : decode cX9_init 62 = .ok (.iastore, 1) := by decide +kernel
theorem dX9_init_63 : decode cX9_init 63 = .ok (.dup, 1) := by decide +kernel
theorem dX9_init_64 : decode cX9_init 64 = .ok (.iconst 2, 1) := by decide +kernel
theorem dX9_init_65 : decode cX9_init 65 = .ok (.iconst 0, 1) := by decide +kernel
theorem dX9_init_66 : decode cX9_init 66 = .ok (.iastore, 1) := by decide +kernel
theorem dX9_init_67 : decode cX9_init 67 = .ok (.dup, 1) := by decide +kernel
theorem dX9_init_68 : decode cX9_init 68 = .ok (.iconst 3, 1) := by decide +kernel
theorem dX9_init_69 : decode cX9_init 69 = .ok (.bipush 10, 2) := by decide +kernel
theorem dX9_init_71 : decode cX9_init 71 = .ok (.iastore, 1) := by decide +kernel
theorem dX9_init_72 : decode cX9_init 72 = .ok (.dup, 1) := by decide +kernel
theorem dX9_init_73 : decode cX9_init 73 = .ok (.iconst 4, 1) := by decide +kernel
theorem dX9_init_74 : decode cX9_init 74 = .ok (.bipush 100, 2) := by decide +kernel
theorem dX9_init_76 : decode cX9_init 76 = .ok (.iastore, 1) := by decide +kernel
theorem dX9_init_77 : decode cX9_init 77 = .ok (.dup, 1) := by decide +kernel
theorem dX9_init_78 : decode cX9_init 78 = .ok (.iconst 5, 1) := by decide +kernel
theorem dX9_init_79 : decode cX9_init 79 = .ok (.sipush 200, 3) := by decide +kernel
theorem dX9_init_82 : decode cX9_init 82 = .ok (.iastore, 1) := by decide +kernel
theorem dX9_init_83 : decode cX9_init 83 = .ok (.dup, 1) := by decide +kernel
theorem dX9_init_84 : decode cX9_init 84 = .ok (.bipush 6, 2) := by decide +kernel
theorem dX9_init_86 : decode cX9_init 86 = .ok (.sipush 200, 3) := by decide +kernel
theorem dX9_init_89 : decode cX9_init 89 = .ok (.iastore, 1) := by decide +kernel
theorem dX9_init_90 : decode cX9_init 90 = .ok (.dup, 1) := by decide +kernel
theorem dX9_init_91 : decode cX9_init 91 = .ok (.bipush 7, 2) := by decide +kernel
theorem dX9_init_93 : decode cX9_init 93 = .ok (.sipush 200, 3) := by decide +kernel
theorem dX9_init_96 : decode cX9_init 96 = .ok (.iastore, 1) := by decide +kernel
theorem dX9_init_97 : decode cX9_init 97 = .ok (.putfield 29, 3) := by decide +kernel
theorem dX9_init_100 : decode cX9_init 100 = .ok (.aload_n 0, 1) := by decide +kernel
theorem dX9_init_101 : decode cX9_init 101 = .ok (.iconst 5, 1) := by decide +kernel
theorem dX9_init_102 : decode cX9_init 102 = .ok (.newarray .int, 2) := by decide +kernel
theorem dX9_init_104 : decode cX9_init 104 = .ok (.putfield 32, 3) := by decide +kernel
theorem dX9_init_107 : decode cX9_init 107 = .ok (.aload_n 0, 1) := by decide +kernel
theorem dX9_init_108 : decode cX9_init 108 = .ok (.iconst 5, 1) := by decide +kernel
theorem dX9_init_109 : decode cX9_init 109 = .ok (.newarray .int, 2) := by decide +kernel
theorem dX9_init_111 : decode cX9_init 111 = .ok (.putfield 35, 3) := by decide +kernel
theorem dX9_init_114 : decode cX9_init 114 = .ok (.aload_n 0, 1) := by decide +kernel
theorem dX9_init_115 : decode cX9_init 115 = .ok (.iconst 5, 1) := by decide +kernel
theorem dX9_init_116 : decode cX9_init 116 = .ok (.newarray .int, 2) := by decide +kernel
theorem dX9_init_118 : decode cX9_init 118 = .ok (.putfield 38, 3) := by decide +kernel
theorem dX9_init_121 : decode cX9_init 121 = .ok (.aload_n 0, 1) := by decide +kernel
theorem dX9_init_122 : decode cX9_init 122 = .ok (.bipush 30, 2) := by decide +kernel
theorem dX9_init_124 : decode cX9_init 124 = .ok (.newarray .int, 2) := by decide +kernel
theorem dX9_init_126 : decode cX9_init 126 = .ok (.dup, 1) := by decide +kernel
theorem dX9_init_127 : decode cX9_init 127 = .ok (.iconst 0, 1) := by decide +kernel
theorem dX9_init_128 : decode cX9_init 128 = .ok (.iconst (-1), 1) := by decide +kernel
theorem dX9_init_129 : decode cX9_init 129 = .ok (.iastore, 1) := by decide +kernel
theorem dX9_init_130 : decode cX9_init 130 = .ok (.dup, 1) := by decide +kernel
theorem dX9_init_131 : decode cX9_init 131 = .ok (.iconst 1, 1) := by decide +kernel
theorem dX9_init_132 : decode cX9_init 132 = .ok (.iconst (-1), 1) := by decide +kernel
theorem dX9_init_133 : decode cX9_init 133 = .ok (.iastore, 1) := by decide +kernel
theorem dX9_init_134 : decode cX9_init 134 = .ok (.dup, 1) := by decide +kernel
theorem dX9_init_135 : decode cX9_init 135 = .ok (.iconst 2, 1) := by decide +kernel
theorem dX9_init_136 : decode cX9_init 136 = .ok (.iconst (-1), 1) := by decide +kernel
theorem dX9_init_137 : decode cX9_init 137 = .ok (.iastore, 1) := by decide +kernel
theorem dX9_init_138 : decode cX9_init 138 = .ok (.dup, 1) := by decide +kernel
theorem dX9_init_139 : decode cX9_init 139 = .ok (.iconst 3, 1) := by decide +kernel
theorem dX9_init_140 : decode cX9_init 140 = .ok (.iconst (-1), 1) := by decide +kernel
theorem dX9_init_141 : decode cX9_init 141 = .ok (.iastore, 1) := by decide +kernel
theorem dX9_init_142 : decode cX9_init 142 = .ok (.dup, 1) := by decide +kernel
theorem dX9_init_143 : decode cX9_init 143 = .ok (.iconst 4, 1) := by decide +kernel
theorem dX9_init_144 : decode cX9_init 144 = .ok (.iconst (-1), 1) := by decide +kernel
theorem dX9_init_145 : decode cX9_init 145 = .ok (.iastore, 1) := by decide +kernel
theorem dX9_init_146 : decode cX9_init 146 = .ok (.dup, 1) := by decide +kernel
theorem dX9_init_147 : decode cX9_init 147 = .ok (.iconst 5, 1) := by decide +kernel
theorem dX9_init_148 : decode cX9_init 148 = .ok (.iconst (-1), 1) := by decide +kernel
theorem dX9_init_149 : decode cX9_init 149 = .ok (.iastore, 1) := by decide +kernel
theorem dX9_init_150 : decode cX9_init 150 = .ok (.dup, 1) := by decide +kernel
theorem dX9_init_151 : decode cX9_init 151 = .ok (.bipush 6, 2) := by decide +kernel
theorem dX9_init_153 : decode cX9_init 153 = .ok (.iconst (-1), 1) := by decide +kernel
theorem dX9_init_154 : decode cX9_init 154 = .ok (.iastore, 1) := by decide +kernel
theorem dX9_init_155 : decode cX9_init 155 = .ok (.dup, 1) := by decide +kernel
theorem dX9_init_156 : decode cX9_init 156 = .ok (.bipush 7, 2) := by decide +kernel
theorem dX9_init_158 : decode cX9_init 158 = .ok (.iconst (-1), 1) := by decide +kernel
theorem dX9_init_159 : decode cX9_init 159 = .ok (.iastore, 1) := by decide +kernel
theorem dX9_init_160 : decode cX9_init 160 = .ok (.dup, 1) := by decide +kernel
theorem dX9_init_161 : decode cX9_init 161 = .ok (.bipush 8, 2) := by decide +kernel
theorem dX9_init_163 : decode cX9_init 163 = .ok (.iconst (-1), 1) := by decide +kernel
theorem dX9_init_164 : decode cX9_init 164 = .ok (.iastore, 1) := by decide +kernel
theorem dX9_init_165 : decode cX9_init 165 = .ok (.dup, 1) := by decide +kernel
theorem dX9_init_166 : decode cX9_init 166 = .ok (.bipush 9, 2) := by decide +kernel
theorem dX9_init_168 : decode cX9_init 168 = .ok (.iconst (-1), 1) := by decide +kernel
theorem dX9_init_169 : decode cX9_init 169 = .ok (.iastore, 1) := by decide +kernel
theorem dX9_init_170 : decode cX9_init 170 = .ok (.dup, 1) := by decide +kernel
theorem dX9_init_171 : decode cX9_init 171 = .ok (.bipush 10, 2) := by decide +kernel
theorem dX9_init_173 : decode cX9_init 173 = .ok (.iconst (-1), 1) := by decide +kernel
theorem dX9_init_174 : decode cX9_init 174 = .ok (.iastore, 1) := by decide +kernel
theorem dX9_init_175 : decode cX9_init 175 = .ok (.dup, 1) := by decide +kernel
theorem dX9_init_176 : decode cX9_init 176 = .ok (.bipush 11, 2) := by decide +kernel
theorem dX9_init_178 : decode cX9_init 178 = .ok (.iconst (-1), 1) := by decide +kernel
theorem dX9_init_179 : decode cX9_init 179 = .ok (.iastore, 1) := by decide +kernel
theorem dX9_init_180 : decode cX9_init 180 = .ok (.dup, 1) := by decide +kernel
theorem dX9_init_181 : decode cX9_init 181 = .ok (.bipush 12, 2) := by decide +kernel
theorem dX9_init_183 : decode cX9_init 183 = .ok (.iconst (-1), 1) := by decide +kernel
theorem dX9_init_184 : decode cX9_init 184 = .ok (.iastore, 1) := by decide +kernel
theorem dX9_init_185 : decode cX9_init 185 = .ok (.dup, 1) := by decide +kernel
theorem dX9_init_186 : decode cX9_init 186 = .ok (.bipush 13, 2) := by decide +kernel
theorem dX9_init_188 : decode cX9_init 188 = .ok (.iconst (-1), 1) := by decide +kernel
theorem dX9_init_189 : decode cX9_init 189 = .ok (.iastore, 1) := by decide +kernel
theorem dX9_init_190 : decode cX9_init 190 = .ok (.dup, 1) := by decide +kernel
theorem dX9_init_191 : decode cX9_init 191 = .ok (.bipush 14, 2) := by decide +kernel
theorem dX9_init_193 : decode cX9_init 193 = .ok (.iconst (-1), 1) := by decide +kernel
theorem dX9_init_194 : decode cX9_init 194 = .ok (.iastore, 1) := by decide +kernel
theorem dX9_init_195 : decode cX9_init 195 = .ok (.dup, 1) := by decide +kernel
theorem dX9_init_196 : decode cX9_init 196 = .ok (.bipush 15, 2) := by decide +kernel
theorem dX9_init_198 : decode cX9_init 198 = .ok (.iconst (-1), 1) := by decide +kernel
theorem dX9_init_199 : decode cX9_init 199 = .ok (.iastore, 1) := by decide +kernel
theorem dX9_init_200 : decode cX9_init 200 = .ok (.dup, 1) := by decide +kernel
theorem dX9_init_201 : decode cX9_init 201 = .ok (.bipush 16, 2) := by decide +kernel
theorem dX9_init_203 : decode cX9_init 203 = .ok (.iconst (-1), 1) := by decide +kernel
theorem dX9_init_204 : decode cX9_init 204 = .ok (.iastore, 1) := by decide +kernel
theorem dX9_init_205 : decode cX9_init 205 = .ok (.dup, 1) := by decide +kernel
theorem dX9_init_206 : decode cX9_init 206 = .ok (.bipush 17, 2) := by decide +kernel
theorem dX9_init_208 : decode cX9_init 208 = .ok (.iconst (-1), 1) := by decide +kernel
theorem dX9_init_209 : decode cX9_init 209 = .ok (.iastore, 1) := by decide +kernel
theorem dX9_init_210 : decode cX9_init 210 = .ok (.dup, 1) := by decide +kernel
theorem dX9_init_211 : decode cX9_init 211 = .ok (.bipush 18, 2) := by decide +kernel
theorem dX9_init_213 : decode cX9_init 213 = .ok (.iconst (-1), 1) := by decide +kernel
theorem dX9_init_214 : decode cX9_init 214 = .ok (.iastore, 1) := by decide +kernel
theorem dX9_init_215 : decode cX9_init 215 = .ok (.dup, 1) := by decide +kernel
theorem dX9_init_216 : decode cX9_init 216 = .ok (.bipush 19, 2) := by decide +kernel
theorem dX9_init_218 : decode cX9_init 218 = .ok (.iconst (-1), 1) := by decide +kernel
theorem dX9_init_219 : decode cX9_init 219 = .ok (.iastore, 1) := by decide +kernel
theorem dX9_init_220 : decode cX9_init 220 = .ok (.dup, 1) := by decide +kernel
theorem dX9_init_221 : decode cX9_init 221 = .ok (.bipush 20, 2) := by decide +kernel
theorem dX9_init_223 : decode cX9_init 223 = .ok (.iconst (-1), 1) := by decide +kernel
theorem dX9_init_224 : decode cX9_init 224 = .ok (.iastore, 1) := by decide +kernel
theorem dX9_init_225 : decode cX9_init 225 = .ok (.dup, 1) := by decide +kernel
theorem dX9_init_226 : decode cX9_init 226 = .ok (.bipush 21, 2) := by decide +kernel
theorem dX9_init_228 : decode cX9_init 228 = .ok (.iconst (-1), 1) := by decide +kernel
theorem dX9_init_229 : decode cX9_init 229 = .ok (.iastore, 1) := by decide +kernel
theorem dX9_init_230 : decode cX9_init 230 = .ok (.dup, 1) := by decide +kernel
theorem dX9_init_231 : decode cX9_init 231 = .ok (.bipush 22, 2) := by decide +kernel
theorem dX9_init_233 : decode cX9_init 233 = .ok (.iconst (-1), 1) := by decide +kernel
theorem dX9_init_234 : decode cX9_init 234 = .ok (.iastore, 1) := by decide +kernel
theorem dX9_init_235 : decode cX9_init 235 = .ok (.dup, 1) := by decide +kernel
theorem dX9_init_236 : decode cX9_init 236 = .ok (.bipush 23, 2) := by decide +kernel
theorem dX9_init_238 : decode cX9_init 238 = .ok (.iconst (-1), 1) := by decide +kernel
theorem dX9_init_239 : decode cX9_init 239 = .ok (.iastore, 1) := by decide +kernel
theorem dX9_init_240 : decode cX9_init 240 = .ok (.dup, 1) := by decide +kernel
theorem dX9_init_241 : decode cX9_init 241 = .ok (.bipush 24, 2) := by decide +kernel
theorem dX9_init_243 : decode cX9_init 243 = .ok (.iconst (-1), 1) := by decide +kernel
theorem dX9_init_244 : decode cX9_init 244 = .ok (.iastore, 1) := by decide +kernel
theorem dX9_init_245 : decode cX9_init 245 = .ok (.dup, 1) := by decide +kernel
theorem dX9_init_246 : decode cX9_init 246 = .ok (.bipush 25, 2) := by decide +kernel
theorem dX9_init_248 : decode cX9_init 248 = .ok (.iconst (-1), 1) := by decide +kernel
theorem dX9_init_249 : decode cX9_init 249 = .ok (.iastore, 1) := by decide +kernel
theorem dX9_init_250 : decode cX9_init 250 = .ok (.dup, 1) := by decide +kernel
theorem dX9_init_251 : decode cX9_init 251 = .ok (.bipush 26, 2) := by decide +kernel
theorem dX9_init_253 : decode cX9_init 253 = .ok (.iconst (-1), 1) := by decide +kernel
theorem dX9_init_254 : decode cX9_init 254 = .ok (.iastore, 1) := by decide +kernel
theorem dX9_init_255 : decode cX9_init 255 = .ok (.dup, 1) := by decide +kernel
theorem dX9_init_256 : decode cX9_init 256 = .ok (.bipush 27, 2) := by decide +kernel
theorem dX9_init_258 : decode cX9_init 258 = .ok (.iconst (-1), 1) := by decide +kernel
theorem dX9_init_259 : decode cX9_init 259 = .ok (.iastore, 1) := by decide +kernel
theorem dX9_init_260 : decode cX9_init 260 = .ok (.dup, 1) := by decide +kernel
theorem dX9_init_261 : decode cX9_init 261 = .ok (.bipush 28, 2) := by decide +kernel
theorem dX9_init_263 : decode cX9_init 263 = .ok (.iconst (-1), 1) := by decide +kernel
theorem dX9_init_264 : decode cX9_init 264 = .ok (.iastore, 1) := by decide +kernel
theorem dX9_init_265 : decode cX9_init 265 = .ok (.dup, 1) := by decide +kernel
theorem dX9_init_266 : decode cX9_init 266 = .ok (.bipush 29, 2) := by decide +kernel
theorem dX9_init_268 : decode cX9_init 268 = .ok (.iconst (-1), 1) := by decide +kernel
theorem dX9_init_269 : decode cX9_init 269 = .ok (.iastore, 1) := by decide +kernel
theorem dX9_init_270 : decode cX9_init 270 = .ok (.putfield 41, 3) := by decide +kernel
theorem dX9_init_273 : decode cX9_init 273 = .ok (.iconst 0, 1) := by decide +kernel
theorem dX9_init_274 : decode cX9_init 274 = .ok (.istore_n 1, 1) := by decide +kernel
theorem dX9_init_275 : decode cX9_init 275 = .ok (.iload_n 1, 1) := by decide +kernel
theorem dX9_init_276 : decode cX9_init 276 = .ok (.bipush 96, 2) := by decide +kernel
theorem dX9_init_278 : decode cX9_init 278 = .ok (.if_icmp .ge 17, 3) := by decide +kernel
theorem dX9_init_281 : decode cX9_init 281 = .ok (.aload_n 0, 1) := by decide +kernel
theorem dX9_init_282 : decode cX9_init 282 = .ok (.getfield 23, 3) := by decide +kernel
theorem dX9_init_285 : decode cX9_init 285 = .ok (.iload_n 1, 1) := by decide +kernel
theorem dX9_init_286 : decode cX9_init 286 = .ok (.bipush 30, 2) := by decide +kernel
theorem dX9_init_288 : decode cX9_init 288 = .ok (.iastore, 1) := by decide +kernel
theorem dX9_init_289 : decode cX9_init 289 = .ok (.iinc 1 1, 3) := by decide +kernel
theorem dX9_init_292 : decode cX9_init 292 = .ok (.goto (-17), 3) := by decide +kernel
theorem dX9_init_295 : decode cX9_init 295 = .ok (.aload_n 0, 1) := by decide +kernel
theorem dX9_init_296 : decode cX9_init 296 = .ok (.getfield 13, 3) := by decide +kernel
theorem dX9_init_299 : decode cX9_init 299 = .ok (.iconst 5, 1) := by decide +kernel
theorem dX9_init_300 : decode cX9_init 300 = .ok (.bipush 100, 2) := by decide +kernel
theorem dX9_init_302 : decode cX9_init 302 = .ok (.iastore, 1) := by decide +kernel
theorem dX9_init_303 : decode cX9_init 303 = .ok (.return_, 1) := by decide +kernel
set_option maxRecDepth 20000 in
theorem ggX9_isHour_X9_in : GoodIn wsX9_isHour wsX9_in := goodIn_r _ [5] (by decide +kernel) (by decide +kernel)
set_option maxRecDepth 20000 in
theorem gX9_isHour_X9_in : GoodIn wsX9_isHour (va_wsS RX9 46 yX9_in wsX9_in) := goodIn_app (goodIn_of _ (by decide +kernel)) ggX9_isHour_X9_in
theorem dX9_isHour_0 : decode cX9_isHour 0 = .ok (.iload_n 0, 1) := by decide +kernel
theorem dX9_isHour_1 : decode cX9_isHour 1 = .ok (.i2l, 1) := by decide +kernel
theorem dX9_isHour_2 : decode cX9_isHour 2 = .ok (.lconst 0, 1) := by decide +kernel
theorem dX9_isHour_3 : decode cX9_isHour 3 = .ok (.ldc2_w 44, 3) := by decide +kernel
theorem dX9_isHour_6 : decode cX9_isHour 6 = .ok (.invokestatic 46, 3) := by decide +kernel
theorem dX9_isHour_9 : decode cX9_isHour 9 = .ok (.ireturn, 1) := by decide +kernel
theorem dX9_tideIn_0 : decode cX9_tideIn 0 = .ok (.aload_n 0, 1) := by decide +kernel
theorem dX9_tideIn_1 : decode cX9_tideIn 1 = .ok (.getfield 23, 3) := by decide +kernel
theorem dX9_tideIn_4 : decode cX9_tideIn 4 = .ok (.iload_n 1, 1) := by decide +kernel
theorem dX9_tideIn_5 : decode cX9_tideIn 5 = .ok (.bipush 95, 2) := by decide +kernel
theorem dX9_tideIn_7 : decode cX9_tideIn 7 = .ok (.if_icmp .le 8, 3) := by decide +kernel
theorem dX9_tideIn_10 : decode cX9_tideIn 10 = .ok (.bipush 95, 2) := by decide +kernel
theorem dX9_tideIn_12 : decode cX9_tideIn 12 = .ok (.goto 4, 3) := by decide +kernel
theorem dX9_tideIn_15 : decode cX9_tideIn 15 = .ok (.iload_n 1, 1) := by decide +kernel
theorem dX9_tideIn_16 : decode cX9_tideIn 16 = .ok (.iaload, 1) := by decide +kernel
theorem dX9_tideIn_17 : decode cX9_tideIn 17 = .ok (.ireturn, 1) := by decide +kernel
theorem dX9_rains_0 : decode cX9_rains 0 = .ok (.aload_n 0, 1) := by decide +kernel
theorem dX9_rains_1 : decode cX9_rains 1 = .ok (.getfield 26, 3) := by decide +kernel
theorem dX9_rains_4 : decode cX9_rains 4 = .ok (.iload_n 1, 1) := by decide +kernel
theorem dX9_rains_5 : decode cX9_rains 5 = .ok (.bipush 95, 2) := by decide +kernel
theorem dX9_rains_7 : decode cX9_rains 7 = .ok (.if_icmp .le 8, 3) := by decide +kernel
theorem dX9_rains_10 : decode cX9_rains 10 = .ok (.bipush 95, 2) := by decide +kernel
theorem dX9_rains_12 : decode cX9_rains 12 = .ok (.goto 4, 3) := by decide +kernel
theorem dX9_rains_15 : decode cX9_rains 15 = .ok (.iload_n 1, 1) := by decide +kernel
theorem dX9_rains_16 : decode cX9_rains 16 = .ok (.iaload, 1) := by decide +kernel
theorem dX9_rains_17 : decode cX9_rains 17 = .ok (.iconst 1, 1) := by decide +kernel
theorem dX9_rains_18 : decode cX9_rains 18 = .ok (.if_icmp .ne 7, 3) := by decide +kernel
theorem dX9_rains_21 : decode cX9_rains 21 = .ok (.iconst 1, 1) := by decide +kernel
theorem dX9_rains_22 : decode cX9_rains 22 = .ok (.goto 4, 3) := by decide +kernel
theorem dX9_rains_25 : decode cX9_rains 25 = .ok (.iconst 0, 1) := by decide +kernel
theorem dX9_rains_26 : decode cX9_rains 26 = .ok (.ireturn, 1) := by decide +kernel
set_option maxRecDepth 20000 in
theorem ggX9_tide_X9_isHour : GoodIn wsX9_tide wsX9_isHour := goodIn_r _ [7, 8, 9, 10, 6, 11] (by decide +kernel) (by decide +kernel)
set_option maxRecDepth 20000 in
theorem gX9_tide_X9_isHour : GoodIn wsX9_tide (va_wsS RX9 50 yX9_isHour wsX9_isHour) := goodIn_app (goodIn_of _ (by decide +kernel)) ggX9_tide_X9_isHour
set_option maxRecDepth 20000 in
theorem ggX9_tide_X9_in : GoodIn wsX9_tide wsX9_in := goodIn_r _ [11] (by decide +kernel) (by decide +kernel)
set_option maxRecDepth 20000 in
theorem gX9_tide_X9_in : GoodIn wsX9_tide (va_wsS RX9 46 yX9_in wsX9_in) := goodIn_app (goodIn_of _ (by decide +kernel)) ggX9_tide_X9_in
theorem dX9_tide_0 : decode cX9_tide 0 = .ok (.aload_n 0, 1) := by decide +kernel
theorem dX9_tide_1 : decode cX9_tide 1 = .ok (.iconst 0, 1) := by decide +kernel
theorem dX9_tide_2 : decode cX9_tide 2 = .ok (.putfield 1, 3) := by decide +kernel
theorem dX9_tide_5 : decode cX9_tide 5 = .ok (.iload_n 1, 1) := by decide +kernel
theorem dX9_tide_6 : decode cX9_tide 6 = .ok (.invokestatic 50, 3) := by decide +kernel
theorem dX9_tide_9 : decode cX9_tide 9 = .ok (.ifCond .eq 15, 3) := by decide +kernel
theorem dX9_tide_12 : decode cX9_tide 12 = .ok (.iload_n 2, 1) := by decide +kernel
theorem dX9_tide_13 : decode cX9_tide 13 = .ok (.i2l, 1) := by decide +kernel
theorem dX9_tide_14 : decode cX9_tide 14 = .ok (.lconst 0, 1) := by decide +kernel
theorem dX9_tide_15 : decode cX9_tide 15 = .ok (.ldc2_w 54, 3) := by decide +kernel
theorem dX9_tide_18 : decode cX9_tide 18 = .ok (.invokestatic 46, 3) := by decide +kernel
theorem dX9_tide_21 : decode cX9_tide 21 = .ok (.ifCond .ne 5, 3) := by decide +kernel
theorem dX9_tide_24 : decode cX9_tide 24 = .ok (.iconst (-1), 1) := by decide +kernel
theorem dX9_tide_25 : decode cX9_tide 25 = .ok (.ireturn, 1) := by decide +kernel
theorem dX9_tide_26 : decode cX9_tide 26 = .ok (.aload_n 0, 1) := by decide +kernel
theorem dX9_tide_27 : decode cX9_tide 27 = .ok (.getfield 23, 3) := by decide +kernel
theorem dX9_tide_30 : decode cX9_tide 30 = .ok (.iload_n 1, 1) := by decide +kernel
theorem dX9_tide_31 : decode cX9_tide 31 = .ok (.iaload, 1) := by decide +kernel
theorem dX9_tide_32 : decode cX9_tide 32 = .ok (.istore_n 3, 1) := by decide +kernel
theorem dX9_tide_33 : decode cX9_tide 33 = .ok (.aload_n 0, 1) := by decide +kernel
theorem dX9_tide_34 : decode cX9_tide 34 = .ok (.getfield 23, 3) := by decide +kernel
theorem dX9_tide_37 : decode cX9_tide 37 = .ok (.iload_n 1, 1) := by decide +kernel
theorem dX9_tide_38 : decode cX9_tide 38 = .ok (.iload_n 2, 1) := by decide +kernel
theorem dX9_tide_39 : decode cX9_tide 39 = .ok (.iastore, 1) := by decide +kernel
theorem dX9_tide_40 : decode cX9_tide 40 = .ok (.iload_n 3, 1) := by decide +kernel
theorem dX9_tide_41 : decode cX9_tide 41 = .ok (.ireturn, 1) := by decide +kernel
set_option maxRecDepth 20000 in
theorem ggX9_tides_X9_isHour : GoodIn wsX9_tides wsX9_isHour := goodIn_r _ [9, 10, 11, 12, 8, 13] (by decide +kernel) (by decide +kernel)
set_option maxRecDepth 20000 in
theorem gX9_tides_X9_isHour : GoodIn wsX9_tides (va_wsS RX9 50 yX9_isHour wsX9_isHour) := goodIn_app (goodIn_of _ (by decide +kernel)) ggX9_tides_X9_isHour
set_option maxRecDepth 20000 in
theorem ggX9_tides_X9_in : GoodIn wsX9_tides wsX9_in := goodIn_r _ [13] (by decide +kernel) (by decide +kernel)
set_option maxRecDepth 20000 in
theorem gX9_tides_X9_in : GoodIn wsX9_tides (va_wsS RX9 46 yX9_in wsX9_in) := goodIn_app (goodIn_of _ (by decide +kernel)) ggX9_tides_X9_in
theorem dX9_tides_0 : decode cX9_tides 0 = .ok (.aload_n 0, 1) := by decide +kernel
theorem dX9_tides_1 : decode cX9_tides 1 = .ok (.iconst 0, 1) := by decide +kernel
theorem dX9_tides_2 : decode cX9_tides 2 = .ok (.putfield 1, 3) := by decide +kernel
theorem dX9_tides_5 : decode cX9_tides 5 = .ok (.iload_n 1, 1) := by decide +kernel
theorem dX9_tides_6 : decode cX9_tides 6 = .ok (.invokestatic 50, 3) := by decide +kernel
theorem dX9_tides_9 : decode cX9_tides 9 = .ok (.ifCond .eq 40, 3) := by decide +kernel
theorem dX9_tides_12 : decode cX9_tides 12 = .ok (.iload_n 2, 1) := by decide +kernel
theorem dX9_tides_13 : decode cX9_tides 13 = .ok (.i2l, 1) := by decide +kernel
theorem dX9_tides_14 : decode cX9_tides 14 = .ok (.lconst 1, 1) := by decide +kernel
theorem dX9_tides_15 : decode cX9_tides 15 = .ok (.ldc2_w 56, 3) := by decide +kernel
theorem dX9_tides_18 : decode cX9_tides 18 = .ok (.invokestatic 46, 3) := by decide +kernel
theorem dX9_tides_21 : decode cX9_tides 21 = .ok (.ifCond .eq 28, 3) := by decide +kernel
theorem dX9_tides_24 : decode cX9_tides 24 = .ok (.iload_n 1, 1) := by decide +kernel
theorem dX9_tides_25 : decode cX9_tides 25 = .ok (.iload_n 2, 1) := by decide +kernel
theorem dX9_tides_26 : decode cX9_tides 26 = .ok (.iadd, 1) := by decide +kernel
theorem dX9_tides_27 : decode cX9_tides 27 = .ok (.bipush 96, 2) := by decide +kernel
theorem dX9_tides_29 : decode cX9_tides 29 = .ok (.if_icmp .gt 20, 3) := by decide +kernel
theorem dX9_tides_32 : decode cX9_tides 32 = .ok (.iload_n 2, 1) := by decide +kernel
theorem dX9_tides_33 : decode cX9_tides 33 = .ok (.bipush 8, 2) := by decide +kernel
theorem dX9_tides_35 : decode cX9_tides 35 = .ok (.if_icmp .ge 16, 3) := by decide +kernel
theorem dX9_tides_38 : decode cX9_tides 38 = .ok (.lload_n 3, 1) := by decide +kernel
theorem dX9_tides_39 : decode cX9_tides 39 = .ok (.bipush 8, 2) := by decide +kernel
theorem dX9_tides_41 : decode cX9_tides 41 = .ok (.iload_n 2, 1) := by decide +kernel
theorem dX9_tides_42 : decode cX9_tides 42 = .ok (.imul, 1) := by decide +kernel
theorem dX9_tides_43 : decode cX9_tides 43 = .ok (.lushr, 1) := by decide +kernel
theorem dX9_tides_44 : decode cX9_tides 44 = .ok (.lconst 0, 1) := by decide +kernel
theorem dX9_tides_45 : decode cX9_tides 45 = .ok (.lcmp, 1) := by decide +kernel
theorem dX9_tides_46 : decode cX9_tides 46 = .ok (.ifCond .eq 5, 3) := by decide +kernel
theorem dX9_tides_49 : decode cX9_tides 49 = .ok (.iconst (-1), 1) := by decide +kernel
theorem dX9_tides_50 : decode cX9_tides 50 = .ok (.ireturn, 1) := by decide +kernel
theorem dX9_tides_51 : decode cX9_tides 51 = .ok (.iconst 0, 1) := by decide +kernel
theorem dX9_tides_52 : decode cX9_tides 52 = .ok (.istore 5, 2) := by decide +kernel
theorem dX9_tides_54 : decode cX9_tides 54 = .ok (.iload 5, 2) := by decide +kernel
theorem dX9_tides_56 : decode cX9_tides 56 = .ok (.iload_n 2, 1) := by decide +kernel
theorem dX9_tides_57 : decode cX9_tides 57 = .ok (.if_icmp .ge 29, 3) := by decide +kernel
theorem dX9_tides_60 : decode cX9_tides 60 = .ok (.lload_n 3, 1) := by decide +kernel
theorem dX9_tides_61 : decode cX9_tides 61 = .ok (.bipush 8, 2) := by decide +kernel
theorem dX9_tides_63 : decode cX9_tides 63 = .ok (.iload 5, 2) := by decide +kernel
theorem dX9_tides_65 : decode cX9_tides 65 = .ok (.imul, 1) := by decide +kernel
theorem dX9_tides_66 : decode cX9_tides 66 = .ok (.lshr, 1) := by decide +kernel
theorem dX9_tides_67 : decode cX9_tides 67 = .ok (.ldc2_w 58, 3) := by decide +kernel
theorem dX9_tides_70 : decode cX9_tides 70 = .ok (.land, 1) := by decide +kernel
theorem dX9_tides_71 : decode cX9_tides 71 = .ok (.ldc2_w 54, 3) := by decide +kernel
theorem dX9_tides_74 : decode cX9_tides 74 = .ok (.lcmp, 1) := by decide +kernel
theorem dX9_tides_75 : decode cX9_tides 75 = .ok (.ifCond .le 5, 3) := by decide +kernel
theorem dX9_tides_78 : decode cX9_tides 78 = .ok (.iconst (-1), 1) := by decide +kernel
theorem dX9_tides_79 : decode cX9_tides 79 = .ok (.ireturn, 1) := by decide +kernel
theorem dX9_tides_80 : decode cX9_tides 80 = .ok (.iinc 5 1, 3) := by decide +kernel
theorem dX9_tides_83 : decode cX9_tides 83 = .ok (.goto (-29), 3) := by decide +kernel
theorem dX9_tides_86 : decode cX9_tides 86 = .ok (.iconst 0, 1) := by decide +kernel
theorem dX9_tides_87 : decode cX9_tides 87 = .ok (.istore 5, 2) := by decide +kernel
theorem dX9_tides_89 : decode cX9_tides 89 = .ok (.iload 5, 2) := by decide +kernel
theorem dX9_tides_91 : decode cX9_tides 91 = .ok (.iload_n 2, 1) := by decide +kernel
theorem dX9_tides_92 : decode cX9_tides 92 = .ok (.if_icmp .ge 30, 3) := by decide +kernel
theorem dX9_tides_95 : decode cX9_tides 95 = .ok (.aload_n 0, 1) := by decide +kernel
theorem dX9_tides_96 : decode cX9_tides 96 = .ok (.getfield 23, 3) := by decide +kernel
theorem dX9_tides_99 : decode cX9_tides 99 = .ok (.iload_n 1, 1) := by decide +kernel
theorem dX9_tides_100 : decode cX9_tides 100 = .ok (.iload 5, 2) := by decide +kernel
theorem dX9_tides_102 : decode cX9_tides 102 = .ok (.iadd, 1) := by decide +kernel
theorem dX9_tides_103 : decode cX9_tides 103 = .ok (.lload_n 3, 1) := by decide +kernel
theorem dX9_tides_104 : decode cX9_tides 104 = .ok (.bipush 8, 2) := by decide +kernel
theorem dX9_tides_106 : decode cX9_tides 106 = .ok (.iload 5, 2) := by decide +kernel
theorem dX9_tides_108 : decode cX9_tides 108 = .ok (.imul, 1) := by decide +kernel
theorem dX9_tides_109 : decode cX9_tides 109 = .ok (.lshr, 1) := by decide +kernel
theorem dX9_tides_110 : decode cX9_tides 110 = .ok (.ldc2_w 58, 3) := by decide +kernel
theorem dX9_tides_113 : decode cX9_tides 113 = .ok (.land, 1) := by decide +kernel
theorem dX9_tides_114 : decode cX9_tides 114 = .ok (.l2i, 1) := by decide +kernel
theorem dX9_tides_115 : decode cX9_tides 115 = .ok (.iastore, 1) := by decide +kernel
theorem dX9_tides_116 : decode cX9_tides 116 = .ok (.iinc 5 1, 3) := by decide +kernel
theorem dX9_tides_119 : decode cX9_tides 119 = .ok (.goto (-30), 3) := by decide +kernel
theorem dX9_tides_122 : decode cX9_tides 122 = .ok (.iload_n 2, 1) := by decide +kernel
theorem dX9_tides_123 : decode cX9_tides 123 = .ok (.ireturn, 1) := by decide +kernel
set_option maxRecDepth 20000 in
theorem ggX9_rain_X9_isHour : GoodIn wsX9_rain wsX9_isHour := goodIn_r _ [6, 7, 8, 9, 5, 10] (by decide +kernel) (by decide +kernel)
set_option maxRecDepth 20000 in
theorem gX9_rain_X9_isHour : GoodIn wsX9_rain (va_wsS RX9 50 yX9_isHour wsX9_isHour) := goodIn_app (goodIn_of _ (by decide +kernel)) ggX9_rain_X9_isHour
theorem dX9_rain_0 : decode cX9_rain 0 = .ok (.aload_n 0, 1) := by decide +kernel
theorem dX9_rain_1 : decode cX9_rain 1 = .ok (.iconst 0, 1) := by decide +kernel
theorem dX9_rain_2 : decode cX9_rain 2 = .ok (.putfield 1, 3) := by decide +kernel
theorem dX9_rain_5 : decode cX9_rain 5 = .ok (.iload_n 1, 1) := by decide +kernel
theorem dX9_rain_6 : decode cX9_rain 6 = .ok (.invokestatic 50, 3) := by decide +kernel
theorem dX9_rain_9 : decode cX9_rain 9 = .ok (.ifCond .ne 5, 3) := by decide +kernel
theorem dX9_rain_12 : decode cX9_rain 12 = .ok (.iconst (-1), 1) := by decide +kernel
theorem dX9_rain_13 : decode cX9_rain 13 = .ok (.ireturn, 1) := by decide +kernel
theorem dX9_rain_14 : decode cX9_rain 14 = .ok (.aload_n 0, 1) := by decide +kernel
theorem dX9_rain_15 : decode cX9_rain 15 = .ok (.getfield 26, 3) := by decide +kernel
theorem dX9_rain_18 : decode cX9_rain 18 = .ok (.iload_n 1, 1) := by decide +kernel
theorem dX9_rain_19 : decode cX9_rain 19 = .ok (.iaload, 1) := by decide +kernel
theorem dX9_rain_20 : decode cX9_rain 20 = .ok (.istore_n 3, 1) := by decide +kernel
theorem dX9_rain_21 : decode cX9_rain 21 = .ok (.aload_n 0, 1) := by decide +kernel
theorem dX9_rain_22 : decode cX9_rain 22 = .ok (.getfield 26, 3) := by decide +kernel
theorem dX9_rain_25 : decode cX9_rain 25 = .ok (.iload_n 1, 1) := by decide +kernel
theorem dX9_rain_26 : decode cX9_rain 26 = .ok (.iload_n 2, 1) := by decide +kernel
theorem dX9_rain_27 : decode cX9_rain 27 = .ok (.ifCond .eq 7, 3) := by decide +kernel
theorem dX9_rain_30 : decode cX9_rain 30 = .ok (.iconst 1, 1) := by decide +kernel
theorem dX9_rain_31 : decode cX9_rain 31 = .ok (.goto 4, 3) := by decide +kernel
theorem dX9_rain_34 : decode cX9_rain 34 = .ok (.iconst 0, 1) := by decide +kernel
theorem dX9_rain_35 : decode cX9_rain 35 = .ok (.iastore, 1) := by decide +kernel
theorem dX9_rain_36 : decode cX9_rain 36 = .ok (.iload_n 3, 1) := by decide +kernel
theorem dX9_rain_37 : decode cX9_rain 37 = .ok (.ireturn, 1) := by decide +kernel
set_option maxRecDepth 20000 in
theorem ggX9_rule_X9_in : GoodIn wsX9_rule wsX9_in := goodIn_r _ [8] (by decide +kernel) (by decide +kernel)
set_option maxRecDepth 20000 in
theorem gX9_rule_X9_in : GoodIn wsX9_rule (va_wsS RX9 46 yX9_in wsX9_in) := goodIn_app (goodIn_of _ (by decide +kernel)) ggX9_rule_X9_in
theorem dX9_rule_0 : decode cX9_rule 0 = .ok (.aload_n 0, 1) := by decide +kernel
theorem dX9_rule_1 : decode cX9_rule 1 = .ok (.iconst 0, 1) := by decide +kernel
theorem dX9_rule_2 : decode cX9_rule 2 = .ok (.putfield 1, 3) := by decide +kernel
theorem dX9_rule_5 : decode cX9_rule 5 = .ok (.iload_n 1, 1) := by decide +kernel
theorem dX9_rule_6 : decode cX9_rule 6 = .ok (.i2l, 1) := by decide +kernel
theorem dX9_rule_7 : decode cX9_rule 7 = .ok (.lconst 0, 1) := by decide +kernel
theorem dX9_rule_8 : decode cX9_rule 8 = .ok (.ldc2_w 60, 3) := by decide +kernel
theorem dX9_rule_11 : decode cX9_rule 11 = .ok (.invokestatic 46, 3) := by decide +kernel
theorem dX9_rule_14 : decode cX9_rule 14 = .ok (.ifCond .ne 5, 3) := by decide +kernel
theorem dX9_rule_17 : decode cX9_rule 17 = .ok (.iconst (-1), 1) := by decide +kernel
theorem dX9_rule_18 : decode cX9_rule 18 = .ok (.ireturn, 1) := by decide +kernel
theorem dX9_rule_19 : decode cX9_rule 19 = .ok (.iload_n 1, 1) := by decide +kernel
theorem dX9_rule_20 : decode cX9_rule 20 = .ok (.iconst 1, 1) := by decide +kernel
theorem dX9_rule_21 : decode cX9_rule 21 = .ok (.if_icmp .ne 8, 3) := by decide +kernel
theorem dX9_rule_24 : decode cX9_rule 24 = .ok (.bipush 100, 2) := by decide +kernel
theorem dX9_rule_26 : decode cX9_rule 26 = .ok (.goto 13, 3) := by decide +kernel
theorem dX9_rule_29 : decode cX9_rule 29 = .ok (.iload_n 1, 1) := by decide +kernel
theorem dX9_rule_30 : decode cX9_rule 30 = .ok (.iconst 3, 1) := by decide +kernel
theorem dX9_rule_31 : decode cX9_rule 31 = .ok (.if_icmp .ne 7, 3) := by decide +kernel
theorem dX9_rule_34 : decode cX9_rule 34 = .ok (.iconst 1, 1) := by decide +kernel
theorem dX9_rule_35 : decode cX9_rule 35 = .ok (.goto 4, 3) := by decide +kernel
theorem dX9_rule_38 : decode cX9_rule 38 = .ok (.iconst 0, 1) := by decide +kernel
theorem dX9_rule_39 : decode cX9_rule 39 = .ok (.istore_n 3, 1) := by decide +kernel
theorem dX9_rule_40 : decode cX9_rule 40 = .ok (.iload_n 1, 1) := by decide +kernel
theorem dX9_rule_41 : decode cX9_rule 41 = .ok (.ifCond .ne 8, 3) := by decide +kernel
theorem dX9_rule_44 : decode cX9_rule 44 = .ok (.bipush 40, 2) := by decide +kernel
theorem dX9_rule_46 : decode cX9_rule 46 = .ok (.goto 27, 3) := by decide +kernel
theorem dX9_rule_49 : decode cX9_rule 49 = .ok (.iload_n 1, 1) := by decide +kernel
theorem dX9_rule_50 : decode cX9_rule 50 = .ok (.iconst 2, 1) := by decide +kernel
theorem dX9_rule_51 : decode cX9_rule 51 = .ok (.if_icmp .ne 9, 3) := by decide +kernel
theorem dX9_rule_54 : decode cX9_rule 54 = .ok (.sipush 2000, 3) := by decide +kernel
theorem dX9_rule_57 : decode cX9_rule 57 = .ok (.goto 16, 3) := by decide +kernel
theorem dX9_rule_60 : decode cX9_rule 60 = .ok (.iload_n 1, 1) := by decide +kernel
theorem dX9_rule_61 : decode cX9_rule 61 = .ok (.iconst 3, 1) := by decide +kernel
theorem dX9_rule_62 : decode cX9_rule 62 = .ok (.if_icmp .ne 8, 3) := by decide +kernel
theorem dX9_rule_65 : decode cX9_rule 65 = .ok (.bipush 20, 2) := by decide +kernel
theorem dX9_rule_67 : decode cX9_rule 67 = .ok (.goto 6, 3) := by decide +kernel
theorem dX9_rule_70 : decode cX9_rule 70 = .ok (.sipush 1000, 3) := by decide +kernel
theorem dX9_rule_73 : decode cX9_rule 73 = .ok (.istore 4, 2) := by decide +kernel
theorem dX9_rule_75 : decode cX9_rule 75 = .ok (.iload_n 2, 1) := by decide +kernel
theorem dX9_rule_76 : decode cX9_rule 76 = .ok (.i2l, 1) := by decide +kernel
theorem dX9_rule_77 : decode cX9_rule 77 = .ok (.iload_n 3, 1) := by decide +kernel
theorem dX9_rule_78 : decode cX9_rule 78 = .ok (.i2l, 1) := by decide +kernel
theorem dX9_rule_79 : decode cX9_rule 79 = .ok (.iload 4, 2) := by decide +kernel
theorem dX9_rule_81 : decode cX9_rule 81 = .ok (.i2l, 1) := by decide +kernel
theorem dX9_rule_82 : decode cX9_rule 82 = .ok (.invokestatic 46, 3) := by decide +kernel
theorem dX9_rule_85 : decode cX9_rule 85 = .ok (.ifCond .ne 5, 3) := by decide +kernel
theorem dX9_rule_88 : decode cX9_rule 88 = .ok (.iconst (-1), 1) := by decide +kernel
theorem dX9_rule_89 : decode cX9_rule 89 = .ok (.ireturn, 1) := by decide +kernel
theorem dX9_rule_90 : decode cX9_rule 90 = .ok (.iload_n 1, 1) := by decide +kernel
theorem dX9_rule_91 : decode cX9_rule 91 = .ok (.iconst 4, 1) := by decide +kernel
theorem dX9_rule_92 : decode cX9_rule 92 = .ok (.if_icmp .ne 12, 3) := by decide +kernel
theorem dX9_rule_95 : decode cX9_rule 95 = .ok (.aload_n 0, 1) := by decide +kernel
theorem dX9_rule_96 : decode cX9_rule 96 = .ok (.getfield 13, 3) := by decide +kernel
theorem dX9_rule_99 : decode cX9_rule 99 = .ok (.iconst 5, 1) := by decide +kernel
theorem dX9_rule_100 : decode cX9_rule 100 = .ok (.iaload, 1) := by decide +kernel
theorem dX9_rule_101 : decode cX9_rule 101 = .ok (.goto 9, 3) := by decide +kernel
theorem dX9_rule_104 : decode cX9_rule 104 = .ok (.aload_n 0, 1) := by decide +kernel
theorem dX9_rule_105 : decode cX9_rule 105 = .ok (.getfield 29, 3) := by decide +kernel
theorem dX9_rule_108 : decode cX9_rule 108 = .ok (.iload_n 1, 1) := by decide +kernel
theorem dX9_rule_109 : decode cX9_rule 109 = .ok (.iaload, 1) := by decide +kernel
theorem dX9_rule_110 : decode cX9_rule 110 = .ok (.istore 5, 2) := by decide +kernel
theorem dX9_rule_112 : decode cX9_rule 112 = .ok (.aload_n 0, 1) := by decide +kernel
theorem dX9_rule_113 : decode cX9_rule 113 = .ok (.getfield 29, 3) := by decide +kernel
theorem dX9_rule_116 : decode cX9_rule 116 = .ok (.iload_n 1, 1) := by decide +kernel
theorem dX9_rule_117 : decode cX9_rule 117 = .ok (.iload_n 2, 1) := by decide +kernel
theorem dX9_rule_118 : decode cX9_rule 118 = .ok (.iastore, 1) := by decide +kernel
theorem dX9_rule_119 : decode cX9_rule 119 = .ok (.iload_n 1, 1) := by decide +kernel
theorem dX9_rule_120 : decode cX9_rule 120 = .ok (.iconst 4, 1) := by decide +kernel
theorem dX9_rule_121 : decode cX9_rule 121 = .ok (.if_icmp .ne 10, 3) := by decide +kernel
theorem dX9_rule_124 : decode cX9_rule 124 = .ok (.aload_n 0, 1) := by decide +kernel
theorem dX9_rule_125 : decode cX9_rule 125 = .ok (.getfield 13, 3) := by decide +kernel
theorem dX9_rule_128 : decode cX9_rule 128 = .ok (.iconst 5, 1) := by decide +kernel
theorem dX9_rule_129 : decode cX9_rule 129 = .ok (.iload_n 2, 1) := by decide +kernel
theorem dX9_rule_130 : decode cX9_rule 130 = .ok (.iastore, 1) := by decide +kernel
theorem dX9_rule_131 : decode cX9_rule 131 = .ok (.iload 5, 2) := by decide +kernel
theorem dX9_rule_133 : decode cX9_rule 133 = .ok (.ireturn, 1) := by decide +kernel
set_option maxRecDepth 20000 in
theorem ggX9_thing_X9_in : GoodIn wsX9_thing wsX9_in := goodIn_r _ [8] (by decide +kernel) (by decide +kernel)
set_option maxRecDepth 20000 in
theorem gX9_thing_X9_in : GoodIn wsX9_thing (va_wsS RX9 46 yX9_in wsX9_in) := goodIn_app (goodIn_of _ (by decide +kernel)) ggX9_thing_X9_in
theorem dX9_thing_0 : decode cX9_thing 0 = .ok (.aload_n 0, 1) := by decide +kernel
theorem dX9_thing_1 : decode cX9_thing 1 = .ok (.iconst 0, 1) := by decide +kernel
theorem dX9_thing_2 : decode cX9_thing 2 = .ok (.putfield 1, 3) := by decide +kernel
theorem dX9_thing_5 : decode cX9_thing 5 = .ok (.aload_n 0, 1) := by decide +kernel
theorem dX9_thing_6 : decode cX9_thing 6 = .ok (.getfield 13, 3) := by decide +kernel
theorem dX9_thing_9 : decode cX9_thing 9 = .ok (.bipush 10, 2) := by decide +kernel
theorem dX9_thing_11 : decode cX9_thing 11 = .ok (.iaload, 1) := by decide +kernel
theorem dX9_thing_12 : decode cX9_thing 12 = .ok (.istore_n 3, 1) := by decide +kernel
theorem dX9_thing_13 : decode cX9_thing 13 = .ok (.iload_n 1, 1) := by decide +kernel
theorem dX9_thing_14 : decode cX9_thing 14 = .ok (.i2l, 1) := by decide +kernel
theorem dX9_thing_15 : decode cX9_thing 15 = .ok (.lconst 1, 1) := by decide +kernel
theorem dX9_thing_16 : decode cX9_thing 16 = .ok (.ldc2_w 62, 3) := by decide +kernel
theorem dX9_thing_19 : decode cX9_thing 19 = .ok (.invokestatic 46, 3) := by decide +kernel
theorem dX9_thing_22 : decode cX9_thing 22 = .ok (.ifCond .eq 18, 3) := by decide +kernel
theorem dX9_thing_25 : decode cX9_thing 25 = .ok (.iload_n 2, 1) := by decide +kernel
theorem dX9_thing_26 : decode cX9_thing 26 = .ok (.i2l, 1) := by decide +kernel
theorem dX9_thing_27 : decode cX9_thing 27 = .ok (.ldc2_w 64, 3) := by decide +kernel
theorem dX9_thing_30 : decode cX9_thing 30 = .ok (.iload_n 3, 1) := by decide +kernel
theorem dX9_thing_31 : decode cX9_thing 31 = .ok (.iconst 1, 1) := by decide +kernel
theorem dX9_thing_32 : decode cX9_thing 32 = .ok (.isub, 1) := by decide +kernel
theorem dX9_thing_33 : decode cX9_thing 33 = .ok (.i2l, 1) := by decide +kernel
theorem dX9_thing_34 : decode cX9_thing 34 = .ok (.invokestatic 46, 3) := by decide +kernel
theorem dX9_thing_37 : decode cX9_thing 37 = .ok (.ifCond .ne 5, 3) := by decide +kernel
theorem dX9_thing_40 : decode cX9_thing 40 = .ok (.iconst (-1), 1) := by decide +kernel
theorem dX9_thing_41 : decode cX9_thing 41 = .ok (.ireturn, 1) := by decide +kernel
theorem dX9_thing_42 : decode cX9_thing 42 = .ok (.iload_n 2, 1) := by decide +kernel
theorem dX9_thing_43 : decode cX9_thing 43 = .ok (.ifCond .lt 18, 3) := by decide +kernel
theorem dX9_thing_46 : decode cX9_thing 46 = .ok (.aload_n 0, 1) := by decide +kernel
theorem dX9_thing_47 : decode cX9_thing 47 = .ok (.getfield 13, 3) := by decide +kernel
theorem dX9_thing_50 : decode cX9_thing 50 = .ok (.bipush 37, 2) := by decide +kernel
theorem dX9_thing_52 : decode cX9_thing 52 = .ok (.iload_n 2, 1) := by decide +kernel
theorem dX9_thing_53 : decode cX9_thing 53 = .ok (.iadd, 1) := by decide +kernel
theorem dX9_thing_54 : decode cX9_thing 54 = .ok (.iaload, 1) := by decide +kernel
theorem dX9_thing_55 : decode cX9_thing 55 = .ok (.ifCond .ne 6, 3) := by decide +kernel
theorem dX9_thing_58 : decode cX9_thing 58 = .ok (.bipush (-2), 2) := by decide +kernel
theorem dX9_thing_60 : decode cX9_thing 60 = .ok (.ireturn, 1) := by decide +kernel
theorem dX9_thing_61 : decode cX9_thing 61 = .ok (.iload_n 3, 1) := by decide +kernel
theorem dX9_thing_62 : decode cX9_thing 62 = .ok (.bipush 12, 2) := by decide +kernel
theorem dX9_thing_64 : decode cX9_thing 64 = .ok (.if_icmp .ne 6, 3) := by decide +kernel
theorem dX9_thing_67 : decode cX9_thing 67 = .ok (.bipush (-3), 2) := by decide +kernel
theorem dX9_thing_69 : decode cX9_thing 69 = .ok (.ireturn, 1) := by decide +kernel
theorem dX9_thing_70 : decode cX9_thing 70 = .ok (.aload_n 0, 1) := by decide +kernel
theorem dX9_thing_71 : decode cX9_thing 71 = .ok (.getfield 13, 3) := by decide +kernel
theorem dX9_thing_74 : decode cX9_thing 74 = .ok (.bipush 13, 2) := by decide +kernel
theorem dX9_thing_76 : decode cX9_thing 76 = .ok (.iload_n 3, 1) := by decide +kernel
theorem dX9_thing_77 : decode cX9_thing 77 = .ok (.iadd, 1) := by decide +kernel
theorem dX9_thing_78 : decode cX9_thing 78 = .ok (.iload_n 1, 1) := by decide +kernel
theorem dX9_thing_79 : decode cX9_thing 79 = .ok (.iastore, 1) := by decide +kernel
theorem dX9_thing_80 : decode cX9_thing 80 = .ok (.aload_n 0, 1) := by decide +kernel
theorem dX9_thing_81 : decode cX9_thing 81 = .ok (.getfield 13, 3) := by decide +kernel
theorem dX9_thing_84 : decode cX9_thing 84 = .ok (.bipush 25, 2) := by decide +kernel
theorem dX9_thing_86 : decode cX9_thing 86 = .ok (.iload_n 3, 1) := by decide +kernel
theorem dX9_thing_87 : decode cX9_thing 87 = .ok (.iadd, 1) := by decide +kernel
theorem dX9_thing_88 : decode cX9_thing 88 = .ok (.iload_n 2, 1) := by decide +kernel
theorem dX9_thing_89 : decode cX9_thing 89 = .ok (.iastore, 1) := by decide +kernel
theorem dX9_thing_90 : decode cX9_thing 90 = .ok (.aload_n 0, 1) := by decide +kernel
theorem dX9_thing_91 : decode cX9_thing 91 = .ok (.getfield 13, 3) := by decide +kernel
theorem dX9_thing_94 : decode cX9_thing 94 = .ok (.bipush 37, 2) := by decide +kernel
theorem dX9_thing_96 : decode cX9_thing 96 = .ok (.iload_n 3, 1) := by decide +kernel
theorem dX9_thing_97 : decode cX9_thing 97 = .ok (.iadd, 1) := by decide +kernel
theorem dX9_thing_98 : decode cX9_thing 98 = .ok (.iconst 1, 1) := by decide +kernel
theorem dX9_thing_99 : decode cX9_thing 99 = .ok (.iastore, 1) := by decide +kernel
theorem dX9_thing_100 : decode cX9_thing 100 = .ok (.aload_n 0, 1) := by decide +kernel
theorem dX9_thing_101 : decode cX9_thing 101 = .ok (.getfield 13, 3) := by decide +kernel
theorem dX9_thing_104 : decode cX9_thing 104 = .ok (.bipush 10, 2) := by decide +kernel
theorem dX9_thing_106 : decode cX9_thing 106 = .ok (.dup2, 1) := by decide +kernel
theorem dX9_thing_107 : decode cX9_thing 107 = .ok (.iaload, 1) := by decide +kernel
theorem dX9_thing_108 : decode cX9_thing 108 = .ok (.iconst 1, 1) := by decide +kernel
theorem dX9_thing_109 : decode cX9_thing 109 = .ok (.iadd, 1) := by decide +kernel
theorem dX9_thing_110 : decode cX9_thing 110 = .ok (.iastore, 1) := by decide +kernel
theorem dX9_thing_111 : decode cX9_thing 111 = .ok (.iload_n 3, 1) := by decide +kernel
theorem dX9_thing_112 : decode cX9_thing 112 = .ok (.ireturn, 1) := by decide +kernel
set_option maxRecDepth 20000 in
theorem ggX9_tackle_X9_in : GoodIn wsX9_tackle wsX9_in := goodIn_r _ [9] (by decide +kernel) (by decide +kernel)
set_option maxRecDepth 20000 in
theorem gX9_tackle_X9_in : GoodIn wsX9_tackle (va_wsS RX9 46 yX9_in wsX9_in) := goodIn_app (goodIn_of _ (by decide +kernel)) ggX9_tackle_X9_in
theorem dX9_tackle_0 : decode cX9_tackle 0 = .ok (.aload_n 0, 1) := by decide +kernel
theorem dX9_tackle_1 : decode cX9_tackle 1 = .ok (.iconst 0, 1) := by decide +kernel
theorem dX9_tackle_2 : decode cX9_tackle 2 = .ok (.putfield 1, 3) := by decide +kernel
theorem dX9_tackle_5 : decode cX9_tackle 5 = .ok (.iload_n 1, 1) := by decide +kernel
theorem dX9_tackle_6 : decode cX9_tackle 6 = .ok (.i2l, 1) := by decide +kernel
theorem dX9_tackle_7 : decode cX9_tackle 7 = .ok (.lconst 0, 1) := by decide +kernel
theorem dX9_tackle_8 : decode cX9_tackle 8 = .ok (.ldc2_w 66, 3) := by decide +kernel
theorem dX9_tackle_11 : decode cX9_tackle 11 = .ok (.invokestatic 46, 3) := by decide +kernel
theorem dX9_tackle_14 : decode cX9_tackle 14 = .ok (.ifCond .eq 27, 3) := by decide +kernel
theorem dX9_tackle_17 : decode cX9_tackle 17 = .ok (.iload_n 2, 1) := by decide +kernel
theorem dX9_tackle_18 : decode cX9_tackle 18 = .ok (.i2l, 1) := by decide +kernel
theorem dX9_tackle_19 : decode cX9_tackle 19 = .ok (.lconst 1, 1) := by decide +kernel
theorem dX9_tackle_20 : decode cX9_tackle 20 = .ok (.ldc2_w 68, 3) := by decide +kernel
theorem dX9_tackle_23 : decode cX9_tackle 23 = .ok (.invokestatic 46, 3) := by decide +kernel
theorem dX9_tackle_26 : decode cX9_tackle 26 = .ok (.ifCond .eq 15, 3) := by decide +kernel
theorem dX9_tackle_29 : decode cX9_tackle 29 = .ok (.iload_n 3, 1) := by decide +kernel
theorem dX9_tackle_30 : decode cX9_tackle 30 = .ok (.i2l, 1) := by decide +kernel
theorem dX9_tackle_31 : decode cX9_tackle 31 = .ok (.lconst 1, 1) := by decide +kernel
theorem dX9_tackle_32 : decode cX9_tackle 32 = .ok (.ldc2_w 70, 3) := by decide +kernel
theorem dX9_tackle_35 : decode cX9_tackle 35 = .ok (.invokestatic 46, 3) := by decide +kernel
theorem dX9_tackle_38 : decode cX9_tackle 38 = .ok (.ifCond .ne 5, 3) := by decide +kernel
theorem dX9_tackle_41 : decode cX9_tackle 41 = .ok (.iconst (-1), 1) := by decide +kernel
theorem dX9_tackle_42 : decode cX9_tackle 42 = .ok (.ireturn, 1) := by decide +kernel
theorem dX9_tackle_43 : decode cX9_tackle 43 = .ok (.aload_n 0, 1) := by decide +kernel
theorem dX9_tackle_44 : decode cX9_tackle 44 = .ok (.getfield 13, 3) := by decide +kernel
theorem dX9_tackle_47 : decode cX9_tackle 47 = .ok (.bipush 11, 2) := by decide +kernel
theorem dX9_tackle_49 : decode cX9_tackle 49 = .ok (.iaload, 1) := by decide +kernel
theorem dX9_tackle_50 : decode cX9_tackle 50 = .ok (.istore 4, 2) := by decide +kernel
theorem dX9_tackle_52 : decode cX9_tackle 52 = .ok (.iload 4, 2) := by decide +kernel
theorem dX9_tackle_54 : decode cX9_tackle 54 = .ok (.bipush 6, 2) := by decide +kernel
theorem dX9_tackle_56 : decode cX9_tackle 56 = .ok (.if_icmp .ne 6, 3) := by decide +kernel
theorem dX9_tackle_59 : decode cX9_tackle 59 = .ok (.bipush (-3), 2) := by decide +kernel
theorem dX9_tackle_61 : decode cX9_tackle 61 = .ok (.ireturn, 1) := by decide +kernel
theorem dX9_tackle_62 : decode cX9_tackle 62 = .ok (.aload_n 0, 1) := by decide +kernel
theorem dX9_tackle_63 : decode cX9_tackle 63 = .ok (.getfield 13, 3) := by decide +kernel
theorem dX9_tackle_66 : decode cX9_tackle 66 = .ok (.bipush 49, 2) := by decide +kernel
theorem dX9_tackle_68 : decode cX9_tackle 68 = .ok (.iload 4, 2) := by decide +kernel
theorem dX9_tackle_70 : decode cX9_tackle 70 = .ok (.iadd, 1) := by decide +kernel
theorem dX9_tackle_71 : decode cX9_tackle 71 = .ok (.iload_n 1, 1) := by decide +kernel
theorem dX9_tackle_72 : decode cX9_tackle 72 = .ok (.iastore, 1) := by decide +kernel
theorem dX9_tackle_73 : decode cX9_tackle 73 = .ok (.aload_n 0, 1) := by decide +kernel
theorem dX9_tackle_74 : decode cX9_tackle 74 = .ok (.getfield 13, 3) := by decide +kernel
theorem dX9_tackle_77 : decode cX9_tackle 77 = .ok (.bipush 55, 2) := by decide +kernel
theorem dX9_tackle_79 : decode cX9_tackle 79 = .ok (.iload 4, 2) := by decide +kernel
theorem dX9_tackle_81 : decode cX9_tackle 81 = .ok (.iadd, 1) := by decide +kernel
theorem dX9_tackle_82 : decode cX9_tackle 82 = .ok (.iload_n 2, 1) := by decide +kernel
theorem dX9_tackle_83 : decode cX9_tackle 83 = .ok (.iastore, 1) := by decide +kernel
theorem dX9_tackle_84 : decode cX9_tackle 84 = .ok (.aload_n 0, 1) := by decide +kernel
theorem dX9_tackle_85 : decode cX9_tackle 85 = .ok (.getfield 13, 3) := by decide +kernel
theorem dX9_tackle_88 : decode cX9_tackle 88 = .ok (.bipush 61, 2) := by decide +kernel
theorem dX9_tackle_90 : decode cX9_tackle 90 = .ok (.iload 4, 2) := by decide +kernel
theorem dX9_tackle_92 : decode cX9_tackle 92 = .ok (.iadd, 1) := by decide +kernel
theorem dX9_tackle_93 : decode cX9_tackle 93 = .ok (.iload_n 3, 1) := by decide +kernel
theorem dX9_tackle_94 : decode cX9_tackle 94 = .ok (.iastore, 1) := by decide +kernel
theorem dX9_tackle_95 : decode cX9_tackle 95 = .ok (.aload_n 0, 1) := by decide +kernel
theorem dX9_tackle_96 : decode cX9_tackle 96 = .ok (.getfield 13, 3) := by decide +kernel
theorem dX9_tackle_99 : decode cX9_tackle 99 = .ok (.bipush 67, 2) := by decide +kernel
theorem dX9_tackle_101 : decode cX9_tackle 101 = .ok (.iload 4, 2) := by decide +kernel
theorem dX9_tackle_103 : decode cX9_tackle 103 = .ok (.iadd, 1) := by decide +kernel
theorem dX9_tackle_104 : decode cX9_tackle 104 = .ok (.iconst 1, 1) := by decide +kernel
theorem dX9_tackle_105 : decode cX9_tackle 105 = .ok (.iastore, 1) := by decide +kernel
theorem dX9_tackle_106 : decode cX9_tackle 106 = .ok (.aload_n 0, 1) := by decide +kernel
theorem dX9_tackle_107 : decode cX9_tackle 107 = .ok (.getfield 13, 3) := by decide +kernel
theorem dX9_tackle_110 : decode cX9_tackle 110 = .ok (.bipush 11, 2) := by decide +kernel
theorem dX9_tackle_112 : decode cX9_tackle 112 = .ok (.dup2, 1) := by decide +kernel
theorem dX9_tackle_113 : decode cX9_tackle 113 = .ok (.iaload, 1) := by decide +kernel
theorem dX9_tackle_114 : decode cX9_tackle 114 = .ok (.iconst 1, 1) := by decide +kernel
theorem dX9_tackle_115 : decode cX9_tackle 115 = .ok (.iadd, 1) := by decide +kernel
theorem dX9_tackle_116 : decode cX9_tackle 116 = .ok (.iastore, 1) := by decide +kernel
theorem dX9_tackle_117 : decode cX9_tackle 117 = .ok (.iload 4, 2) := by decide +kernel
theorem dX9_tackle_119 : decode cX9_tackle 119 = .ok (.ireturn, 1) := by decide +kernel
set_option maxRecDepth 20000 in
theorem ggX9_seam_X9_in : GoodIn wsX9_seam wsX9_in := goodIn_r _ [11] (by decide +kernel) (by decide +kernel)
set_option maxRecDepth 20000 in
theorem gX9_seam_X9_in : GoodIn wsX9_seam (va_wsS RX9 46 yX9_in wsX9_in) := goodIn_app (goodIn_of _ (by decide +kernel)) ggX9_seam_X9_in
theorem dX9_seam_0 : decode cX9_seam 0 = .ok (.aload_n 0, 1) := by decide +kernel
theorem dX9_seam_1 : decode cX9_seam 1 = .ok (.iconst 0, 1) := by decide +kernel
theorem dX9_seam_2 : decode cX9_seam 2 = .ok (.putfield 1, 3) := by decide +kernel
theorem dX9_seam_5 : decode cX9_seam 5 = .ok (.iload_n 1, 1) := by decide +kernel
theorem dX9_seam_6 : decode cX9_seam 6 = .ok (.i2l, 1) := by decide +kernel
theorem dX9_seam_7 : decode cX9_seam 7 = .ok (.lconst 1, 1) := by decide +kernel
theorem dX9_seam_8 : decode cX9_seam 8 = .ok (.ldc2_w 72, 3) := by decide +kernel
theorem dX9_seam_11 : decode cX9_seam 11 = .ok (.invokestatic 46, 3) := by decide +kernel
theorem dX9_seam_14 : decode cX9_seam 14 = .ok (.ifCond .eq 64, 3) := by decide +kernel
theorem dX9_seam_17 : decode cX9_seam 17 = .ok (.iload_n 2, 1) := by decide +kernel
theorem dX9_seam_18 : decode cX9_seam 18 = .ok (.i2l, 1) := by decide +kernel
theorem dX9_seam_19 : decode cX9_seam 19 = .ok (.lconst 0, 1) := by decide +kernel
theorem dX9_seam_20 : decode cX9_seam 20 = .ok (.lconst 1, 1) := by decide +kernel
theorem dX9_seam_21 : decode cX9_seam 21 = .ok (.invokestatic 46, 3) := by decide +kernel
theorem dX9_seam_24 : decode cX9_seam 24 = .ok (.ifCond .eq 54, 3) := by decide +kernel
theorem dX9_seam_27 : decode cX9_seam 27 = .ok (.iload_n 3, 1) := by decide +kernel
theorem dX9_seam_28 : decode cX9_seam 28 = .ok (.i2l, 1) := by decide +kernel
theorem dX9_seam_29 : decode cX9_seam 29 = .ok (.lconst 1, 1) := by decide +kernel
theorem dX9_seam_30 : decode cX9_seam 30 = .ok (.ldc2_w 68, 3) := by decide +kernel
theorem dX9_seam_33 : decode cX9_seam 33 = .ok (.invokestatic 46, 3) := by decide +kernel
theorem dX9_seam_36 : decode cX9_seam 36 = .ok (.ifCond .eq 42, 3) := by decide +kernel
theorem dX9_seam_39 : decode cX9_seam 39 = .ok (.iload 4, 2) := by decide +kernel
theorem dX9_seam_41 : decode cX9_seam 41 = .ok (.i2l, 1) := by decide +kernel
theorem dX9_seam_42 : decode cX9_seam 42 = .ok (.lconst 1, 1) := by decide +kernel
theorem dX9_seam_43 : decode cX9_seam 43 = .ok (.ldc2_w 74, 3) := by decide +kernel
theorem dX9_seam_46 : decode cX9_seam 46 = .ok (.invokestatic 46, 3) := by decide +kernel
theorem dX9_seam_49 : decode cX9_seam 49 = .ok (.ifCond .eq 29, 3) := by decide +kernel
theorem dX9_seam_52 : decode cX9_seam 52 = .ok (.iload 5, 2) := by decide +kernel
theorem dX9_seam_54 : decode cX9_seam 54 = .ok (.i2l, 1) := by decide +kernel
theorem dX9_seam_55 : decode cX9_seam 55 = .ok (.lconst 0, 1) := by decide +kernel
theorem dX9_seam_56 : decode cX9_seam 56 = .ok (.ldc2_w 76, 3) := by decide +kernel
theorem dX9_seam_59 : decode cX9_seam 59 = .ok (.invokestatic 46, 3) := by decide +kernel
theorem dX9_seam_62 : decode cX9_seam 62 = .ok (.ifCond .eq 16, 3) := by decide +kernel
theorem dX9_seam_65 : decode cX9_seam 65 = .ok (.iload 6, 2) := by decide +kernel
theorem dX9_seam_67 : decode cX9_seam 67 = .ok (.i2l, 1) := by decide +kernel
theorem dX9_seam_68 : decode cX9_seam 68 = .ok (.lconst 1, 1) := by decide +kernel
theorem dX9_seam_69 : decode cX9_seam 69 = .ok (.ldc2_w 62, 3) := by decide +kernel
theorem dX9_seam_72 : decode cX9_seam 72 = .ok (.invokestatic 46, 3) := by decide +kernel
theorem dX9_seam_75 : decode cX9_seam 75 = .ok (.ifCond .ne 5, 3) := by decide +kernel
theorem dX9_seam_78 : decode cX9_seam 78 = .ok (.iconst (-1), 1) := by decide +kernel
theorem dX9_seam_79 : decode cX9_seam 79 = .ok (.ireturn, 1) := by decide +kernel
theorem dX9_seam_80 : decode cX9_seam 80 = .ok (.aload_n 0, 1) := by decide +kernel
theorem dX9_seam_81 : decode cX9_seam 81 = .ok (.getfield 13, 3) := by decide +kernel
theorem dX9_seam_84 : decode cX9_seam 84 = .ok (.bipush 12, 2) := by decide +kernel
theorem dX9_seam_86 : decode cX9_seam 86 = .ok (.iaload, 1) := by decide +kernel
theorem dX9_seam_87 : decode cX9_seam 87 = .ok (.istore 7, 2) := by decide +kernel
theorem dX9_seam_89 : decode cX9_seam 89 = .ok (.iload 7, 2) := by decide +kernel
theorem dX9_seam_91 : decode cX9_seam 91 = .ok (.bipush 12, 2) := by decide +kernel
theorem dX9_seam_93 : decode cX9_seam 93 = .ok (.if_icmp .ne 6, 3) := by decide +kernel
theorem dX9_seam_96 : decode cX9_seam 96 = .ok (.bipush (-3), 2) := by decide +kernel
theorem dX9_seam_98 : decode cX9_seam 98 = .ok (.ireturn, 1) := by decide +kernel
theorem dX9_seam_99 : decode cX9_seam 99 = .ok (.aload_n 0, 1) := by decide +kernel
theorem dX9_seam_100 : decode cX9_seam 100 = .ok (.getfield 13, 3) := by decide +kernel
theorem dX9_seam_103 : decode cX9_seam 103 = .ok (.bipush 73, 2) := by decide +kernel
theorem dX9_seam_105 : decode cX9_seam 105 = .ok (.iload 7, 2) := by decide +kernel
theorem dX9_seam_107 : decode cX9_seam 107 = .ok (.iadd, 1) := by decide +kernel
theorem dX9_seam_108 : decode cX9_seam 108 = .ok (.iload_n 1, 1) := by decide +kernel
theorem dX9_seam_109 : decode cX9_seam 109 = .ok (.iastore, 1) := by decide +kernel
theorem dX9_seam_110 : decode cX9_seam 110 = .ok (.aload_n 0, 1) := by decide +kernel
theorem dX9_seam_111 : decode cX9_seam 111 = .ok (.getfield 13, 3) := by decide +kernel
theorem dX9_seam_114 : decode cX9_seam 114 = .ok (.bipush 85, 2) := by decide +kernel
theorem dX9_seam_116 : decode cX9_seam 116 = .ok (.iload 7, 2) := by decide +kernel
theorem dX9_seam_118 : decode cX9_seam 118 = .ok (.iadd, 1) := by decide +kernel
theorem dX9_seam_119 : decode cX9_seam 119 = .ok (.iload_n 2, 1) := by decide +kernel
theorem dX9_seam_120 : decode cX9_seam 120 = .ok (.iastore, 1) := by decide +kernel
theorem dX9_seam_121 : decode cX9_seam 121 = .ok (.aload_n 0, 1) := by decide +kernel
theorem dX9_seam_122 : decode cX9_seam 122 = .ok (.getfield 13, 3) := by decide +kernel
theorem dX9_seam_125 : decode cX9_seam 125 = .ok (.bipush 97, 2) := by decide +kernel
theorem dX9_seam_127 : decode cX9_seam 127 = .ok (.iload 7, 2) := by decide +kernel
theorem dX9_seam_129 : decode cX9_seam 129 = .ok (.iadd, 1) := by decide +kernel
theorem dX9_seam_130 : decode cX9_seam 130 = .ok (.iload_n 3, 1) := by decide +kernel
theorem dX9_seam_131 : decode cX9_seam 131 = .ok (.iastore, 1) := by decide +kernel
theorem dX9_seam_132 : decode cX9_seam 132 = .ok (.aload_n 0, 1) := by decide +kernel
theorem dX9_seam_133 : decode cX9_seam 133 = .ok (.getfield 13, 3) := by decide +kernel
theorem dX9_seam_136 : decode cX9_seam 136 = .ok (.bipush 109, 2) := by decide +kernel
theorem dX9_seam_138 : decode cX9_seam 138 = .ok (.iload 7, 2) := by decide +kernel
theorem dX9_seam_140 : decode cX9_seam 140 = .ok (.iadd, 1) := by decide +kernel
theorem dX9_seam_141 : decode cX9_seam 141 = .ok (.iload 4, 2) := by decide +kernel
theorem dX9_seam_143 : decode cX9_seam 143 = .ok (.iastore, 1) := by decide +kernel
theorem dX9_seam_144 : decode cX9_seam 144 = .ok (.aload_n 0, 1) := by decide +kernel
theorem dX9_seam_145 : decode cX9_seam 145 = .ok (.getfield 13, 3) := by decide +kernel
theorem dX9_seam_148 : decode cX9_seam 148 = .ok (.bipush 121, 2) := by decide +kernel
theorem dX9_seam_150 : decode cX9_seam 150 = .ok (.iload 7, 2) := by decide +kernel
theorem dX9_seam_152 : decode cX9_seam 152 = .ok (.iadd, 1) := by decide +kernel
theorem dX9_seam_153 : decode cX9_seam 153 = .ok (.iload 5, 2) := by decide +kernel
theorem dX9_seam_155 : decode cX9_seam 155 = .ok (.iastore, 1) := by decide +kernel
theorem dX9_seam_156 : decode cX9_seam 156 = .ok (.aload_n 0, 1) := by decide +kernel
theorem dX9_seam_157 : decode cX9_seam 157 = .ok (.getfield 13, 3) := by decide +kernel
theorem dX9_seam_160 : decode cX9_seam 160 = .ok (.sipush 133, 3) := by decide +kernel
theorem dX9_seam_163 : decode cX9_seam 163 = .ok (.iload 7, 2) := by decide +kernel
theorem dX9_seam_165 : decode cX9_seam 165 = .ok (.iadd, 1) := by decide +kernel
theorem dX9_seam_166 : decode cX9_seam 166 = .ok (.iload 6, 2) := by decide +kernel
theorem dX9_seam_168 : decode cX9_seam 168 = .ok (.iastore, 1) := by decide +kernel
theorem dX9_seam_169 : decode cX9_seam 169 = .ok (.aload_n 0, 1) := by decide +kernel
theorem dX9_seam_170 : decode cX9_seam 170 = .ok (.getfield 13, 3) := by decide +kernel
theorem dX9_seam_173 : decode cX9_seam 173 = .ok (.sipush 145, 3) := by decide +kernel
theorem dX9_seam_176 : decode cX9_seam 176 = .ok (.iload 7, 2) := by decide +kernel
theorem dX9_seam_178 : decode cX9_seam 178 = .ok (.iadd, 1) := by decide +kernel
theorem dX9_seam_179 : decode cX9_seam 179 = .ok (.iconst 0, 1) := by decide +kernel
theorem dX9_seam_180 : decode cX9_seam 180 = .ok (.iastore, 1) := by decide +kernel
theorem dX9_seam_181 : decode cX9_seam 181 = .ok (.aload_n 0, 1) := by decide +kernel
theorem dX9_seam_182 : decode cX9_seam 182 = .ok (.getfield 13, 3) := by decide +kernel
theorem dX9_seam_185 : decode cX9_seam 185 = .ok (.sipush 157, 3) := by decide +kernel
theorem dX9_seam_188 : decode cX9_seam 188 = .ok (.iload 7, 2) := by decide +kernel
theorem dX9_seam_190 : decode cX9_seam 190 = .ok (.iadd, 1) := by decide +kernel
theorem dX9_seam_191 : decode cX9_seam 191 = .ok (.iconst 0, 1) := by decide +kernel
theorem dX9_seam_192 : decode cX9_seam 192 = .ok (.iastore, 1) := by decide +kernel
theorem dX9_seam_193 : decode cX9_seam 193 = .ok (.aload_n 0, 1) := by decide +kernel
theorem dX9_seam_194 : decode cX9_seam 194 = .ok (.getfield 13, 3) := by decide +kernel
theorem dX9_seam_197 : decode cX9_seam 197 = .ok (.bipush 12, 2) := by decide +kernel
theorem dX9_seam_199 : decode cX9_seam 199 = .ok (.dup2, 1) := by decide +kernel
theorem dX9_seam_200 : decode cX9_seam 200 = .ok (.iaload, 1) := by decide +kernel
theorem dX9_seam_201 : decode cX9_seam 201 = .ok (.iconst 1, 1) := by decide +kernel
theorem dX9_seam_202 : decode cX9_seam 202 = .ok (.iadd, 1) := by decide +kernel
theorem dX9_seam_203 : decode cX9_seam 203 = .ok (.iastore, 1) := by decide +kernel
theorem dX9_seam_204 : decode cX9_seam 204 = .ok (.iload 7, 2) := by decide +kernel
theorem dX9_seam_206 : decode cX9_seam 206 = .ok (.ireturn, 1) := by decide +kernel
theorem dX9_total_0 : decode cX9_total 0 = .ok (.aload_n 0, 1) := by decide +kernel
theorem dX9_total_1 : decode cX9_total 1 = .ok (.getfield 29, 3) := by decide +kernel
theorem dX9_total_4 : decode cX9_total 4 = .ok (.iconst 1, 1) := by decide +kernel
theorem dX9_total_5 : decode cX9_total 5 = .ok (.iaload, 1) := by decide +kernel
theorem dX9_total_6 : decode cX9_total 6 = .ok (.istore_n 1, 1) := by decide +kernel
theorem dX9_total_7 : decode cX9_total 7 = .ok (.iconst 0, 1) := by decide +kernel
theorem dX9_total_8 : decode cX9_total 8 = .ok (.istore_n 2, 1) := by decide +kernel
theorem dX9_total_9 : decode cX9_total 9 = .ok (.iload_n 2, 1) := by decide +kernel
theorem dX9_total_10 : decode cX9_total 10 = .ok (.aload_n 0, 1) := by decide +kernel
theorem dX9_total_11 : decode cX9_total 11 = .ok (.getfield 13, 3) := by decide +kernel
theorem dX9_total_14 : decode cX9_total 14 = .ok (.bipush 10, 2) := by decide +kernel
theorem dX9_total_16 : decode cX9_total 16 = .ok (.iaload, 1) := by decide +kernel
theorem dX9_total_17 : decode cX9_total 17 = .ok (.if_icmp .ge 38, 3) := by decide +kernel
theorem dX9_total_20 : decode cX9_total 20 = .ok (.iload_n 1, 1) := by decide +kernel
theorem dX9_total_21 : decode cX9_total 21 = .ok (.aload_n 0, 1) := by decide +kernel
theorem dX9_total_22 : decode cX9_total 22 = .ok (.getfield 13, 3) := by decide +kernel
theorem dX9_total_25 : decode cX9_total 25 = .ok (.bipush 37, 2) := by decide +kernel
theorem dX9_total_27 : decode cX9_total 27 = .ok (.iload_n 2, 1) := by decide +kernel
theorem dX9_total_28 : decode cX9_total 28 = .ok (.iadd, 1) := by decide +kernel
theorem dX9_total_29 : decode cX9_total 29 = .ok (.iaload, 1) := by decide +kernel
theorem dX9_total_30 : decode cX9_total 30 = .ok (.iconst 1, 1) := by decide +kernel
theorem dX9_total_31 : decode cX9_total 31 = .ok (.if_icmp .ne 15, 3) := by decide +kernel
theorem dX9_total_34 : decode cX9_total 34 = .ok (.aload_n 0, 1) := by decide +kernel
theorem dX9_total_35 : decode cX9_total 35 = .ok (.getfield 13, 3) := by decide +kernel
theorem dX9_total_38 : decode cX9_total 38 = .ok (.bipush 13, 2) := by decide +kernel
theorem dX9_total_40 : decode cX9_total 40 = .ok (.iload_n 2, 1) := by decide +kernel
theorem dX9_total_41 : decode cX9_total 41 = .ok (.iadd, 1) := by decide +kernel
theorem dX9_total_42 : decode cX9_total 42 = .ok (.iaload, 1) := by decide +kernel
theorem dX9_total_43 : decode cX9_total 43 = .ok (.goto 4, 3) := by decide +kernel
theorem dX9_total_46 : decode cX9_total 46 = .ok (.iconst 0, 1) := by decide +kernel
theorem dX9_total_47 : decode cX9_total 47 = .ok (.iadd, 1) := by decide +kernel
theorem dX9_total_48 : decode cX9_total 48 = .ok (.istore_n 1, 1) := by decide +kernel
theorem dX9_total_49 : decode cX9_total 49 = .ok (.iinc 2 1, 3) := by decide +kernel
theorem dX9_total_52 : decode cX9_total 52 = .ok (.goto (-43), 3) := by decide +kernel
theorem dX9_total_55 : decode cX9_total 55 = .ok (.iload_n 1, 1) := by decide +kernel
theorem dX9_total_56 : decode cX9_total 56 = .ok (.ireturn, 1) := by decide +kernel
set_option maxRecDepth 20000 in
theorem ggX9_force_X9_total : GoodIn wsX9_force wsX9_total := goodIn_r _ [5, 6, 7, 8, 9, 10, 11, 12, 13, 14, 15, 16, 17, 18, 19, 20, 21, 22, 23, 24, 25, 26] (by decide +kernel) (by decide +kernel)
set_option maxRecDepth 20000 in
theorem gX9_force_X9_total : GoodIn wsX9_force (wsV RX9 78 RX9 yX9_total wsX9_total) := goodIn_app (goodIn_of _ (by decide +kernel)) ggX9_force_X9_total
theorem dX9_force_0 : decode cX9_force 0 = .ok (.aload_n 0, 1) := by decide +kernel
theorem dX9_force_1 : decode cX9_force 1 = .ok (.invokevirtual 78, 3) := by decide +kernel
theorem dX9_force_4 : decode cX9_force 4 = .ok (.iload_n 1, 1) := by decide +kernel
theorem dX9_force_5 : decode cX9_force 5 = .ok (.ifCond .ge 8, 3) := by decide +kernel
theorem dX9_force_8 : decode cX9_force 8 = .ok (.iload_n 1, 1) := by decide +kernel
theorem dX9_force_9 : decode cX9_force 9 = .ok (.ineg, 1) := by decide +kernel
theorem dX9_force_10 : decode cX9_force 10 = .ok (.goto 4, 3) := by decide +kernel
theorem dX9_force_13 : decode cX9_force 13 = .ok (.iload_n 1, 1) := by decide +kernel
theorem dX9_force_14 : decode cX9_force 14 = .ok (.imul, 1) := by decide +kernel
theorem dX9_force_15 : decode cX9_force 15 = .ok (.bipush 10, 2) := by decide +kernel
theorem dX9_force_17 : decode cX9_force 17 = .ok (.idiv, 1) := by decide +kernel
theorem dX9_force_18 : decode cX9_force 18 = .ok (.ireturn, 1) := by decide +kernel
theorem dX9_wholes_0 : decode cX9_wholes 0 = .ok (.iconst 0, 1) := by decide +kernel
theorem dX9_wholes_1 : decode cX9_wholes 1 = .ok (.istore_n 1, 1) := by decide +kernel
theorem dX9_wholes_2 : decode cX9_wholes 2 = .ok (.iconst 0, 1) := by decide +kernel
theorem dX9_wholes_3 : decode cX9_wholes 3 = .ok (.istore_n 2, 1) := by decide +kernel
theorem dX9_wholes_4 : decode cX9_wholes 4 = .ok (.iload_n 2, 1) := by decide +kernel
theorem dX9_wholes_5 : decode cX9_wholes 5 = .ok (.aload_n 0, 1) := by decide +kernel
theorem dX9_wholes_6 : decode cX9_wholes 6 = .ok (.getfield 13, 3) := by decide +kernel
theorem dX9_wholes_9 : decode cX9_wholes 9 = .ok (.bipush 11, 2) := by decide +kernel
theorem dX9_wholes_11 : decode cX9_wholes 11 = .ok (.iaload, 1) := by decide +kernel
theorem dX9_wholes_12 : decode cX9_wholes 12 = .ok (.if_icmp .ge 21, 3) := by decide +kernel
theorem dX9_wholes_15 : decode cX9_wholes 15 = .ok (.iload_n 1, 1) := by decide +kernel
theorem dX9_wholes_16 : decode cX9_wholes 16 = .ok (.aload_n 0, 1) := by decide +kernel
theorem dX9_wholes_17 : decode cX9_wholes 17 = .ok (.getfield 13, 3) := by decide +kernel
theorem dX9_wholes_20 : decode cX9_wholes 20 = .ok (.bipush 67, 2) := by decide +kernel
theorem dX9_wholes_22 : decode cX9_wholes 22 = .ok (.iload_n 2, 1) := by decide +kernel
theorem dX9_wholes_23 : decode cX9_wholes 23 = .ok (.iadd, 1) := by decide +kernel
theorem dX9_wholes_24 : decode cX9_wholes 24 = .ok (.iaload, 1) := by decide +kernel
theorem dX9_wholes_25 : decode cX9_wholes 25 = .ok (.iadd, 1) := by decide +kernel
theorem dX9_wholes_26 : decode cX9_wholes 26 = .ok (.istore_n 1, 1) := by decide +kernel
theorem dX9_wholes_27 : decode cX9_wholes 27 = .ok (.iinc 2 1, 3) := by decide +kernel
theorem dX9_wholes_30 : decode cX9_wholes 30 = .ok (.goto (-26), 3) := by decide +kernel
theorem dX9_wholes_33 : decode cX9_wholes 33 = .ok (.iload_n 1, 1) := by decide +kernel
theorem dX9_wholes_34 : decode cX9_wholes 34 = .ok (.ireturn, 1) := by decide +kernel
theorem dX9_up_0 : decode cX9_up 0 = .ok (.iload_n 0, 1) := by decide +kernel
theorem dX9_up_1 : decode cX9_up 1 = .ok (.iload_n 1, 1) := by decide +kernel
theorem dX9_up_2 : decode cX9_up 2 = .ok (.iadd, 1) := by decide +kernel
theorem dX9_up_3 : decode cX9_up 3 = .ok (.iconst 1, 1) := by decide +kernel
theorem dX9_up_4 : decode cX9_up 4 = .ok (.isub, 1) := by decide +kernel
theorem dX9_up_5 : decode cX9_up 5 = .ok (.iload_n 1, 1) := by decide +kernel
theorem dX9_up_6 : decode cX9_up 6 = .ok (.idiv, 1) := by decide +kernel
theorem dX9_up_7 : decode cX9_up 7 = .ok (.ireturn, 1) := by decide +kernel
set_option maxRecDepth 20000 in
theorem ggX9_takes_X9_wholes : GoodIn wsX9_takes wsX9_wholes := goodIn_r _ [5, 6, 19, 20, 21, 22, 23, 24, 25, 26, 27, 28, 29, 30, 31, 32, 33, 34, 35, 36, 37] (by decide +kernel) (by decide +kernel)
set_option maxRecDepth 20000 in
theorem gX9_takes_X9_wholes : GoodIn wsX9_takes (wsV RX9 82 RX9 yX9_wholes wsX9_wholes) := goodIn_app (goodIn_of _ (by decide +kernel)) ggX9_takes_X9_wholes
set_option maxRecDepth 20000 in
theorem ggX9_takes_X9_force : GoodIn wsX9_takes wsX9_force := goodIn_r _ [10, 11, 12, 13, 4, 14, 15, 6, 19, 20, 21, 22, 23, 24, 25, 26, 27, 28, 29, 30, 31, 32, 33, 34, 35, 36, 37] (by decide +kernel) (by decide +kernel)
set_option maxRecDepth 20000 in
theorem gX9_takes_X9_force : GoodIn wsX9_takes (wsV RX9 85 RX9 yX9_force wsX9_force) := goodIn_app (goodIn_of _ (by decide +kernel)) ggX9_takes_X9_force
set_option maxRecDepth 20000 in
theorem ggX9_takes_X9_up : GoodIn wsX9_takes wsX9_up := goodIn_r _ [18] (by decide +kernel) (by decide +kernel)
set_option maxRecDepth 20000 in
theorem gX9_takes_X9_up : GoodIn wsX9_takes (va_wsS RX9 89 yX9_up wsX9_up) := goodIn_app (goodIn_of _ (by decide +kernel)) ggX9_takes_X9_up
theorem dX9_takes_0 : decode cX9_takes 0 = .ok (.aload_n 0, 1) := by decide +kernel
theorem dX9_takes_1 : decode cX9_takes 1 = .ok (.invokevirtual 82, 3) := by decide +kernel
theorem dX9_takes_4 : decode cX9_takes 4 = .ok (.istore_n 2, 1) := by decide +kernel
theorem dX9_takes_5 : decode cX9_takes 5 = .ok (.iload_n 2, 1) := by decide +kernel
theorem dX9_takes_6 : decode cX9_takes 6 = .ok (.ifCond .ne 7, 3) := by decide +kernel
theorem dX9_takes_9 : decode cX9_takes 9 = .ok (.iconst 0, 1) := by decide +kernel
theorem dX9_takes_10 : decode cX9_takes 10 = .ok (.goto 12, 3) := by decide +kernel
theorem dX9_takes_13 : decode cX9_takes 13 = .ok (.aload_n 0, 1) := by decide +kernel
theorem dX9_takes_14 : decode cX9_takes 14 = .ok (.iload_n 1, 1) := by decide +kernel
theorem dX9_takes_15 : decode cX9_takes 15 = .ok (.invokevirtual 85, 3) := by decide +kernel
theorem dX9_takes_18 : decode cX9_takes 18 = .ok (.iload_n 2, 1) := by decide +kernel
theorem dX9_takes_19 : decode cX9_takes 19 = .ok (.invokestatic 89, 3) := by decide +kernel
theorem dX9_takes_22 : decode cX9_takes 22 = .ok (.ireturn, 1) := by decide +kernel
set_option maxRecDepth 20000 in
theorem ggX9_ropeOf_X9_takes : GoodIn wsX9_ropeOf wsX9_takes := goodIn_r _ [6, 7, 8, 9, 5, 10, 1, 11, 12, 13, 14, 15, 16, 17, 18, 19, 20, 21, 22, 23, 24, 25, 26, 27, 28, 29, 30, 31, 32, 33, 34, 35, 36, 37, 38, 39, 40, 41] (by decide +kernel) (by decide +kernel)
set_option maxRecDepth 20000 in
theorem gX9_ropeOf_X9_takes : GoodIn wsX9_ropeOf (wsV RX9 93 RX9 yX9_takes wsX9_takes) := goodIn_app (goodIn_of _ (by decide +kernel)) ggX9_ropeOf_X9_takes
set_option maxRecDepth 20000 in
theorem ggX9_ropeOf_X9_up : GoodIn wsX9_ropeOf wsX9_up := goodIn_r _ [22] (by decide +kernel) (by decide +kernel)
set_option maxRecDepth 20000 in
theorem gX9_ropeOf_X9_up : GoodIn wsX9_ropeOf (va_wsS RX9 89 yX9_up wsX9_up) := goodIn_app (goodIn_of _ (by decide +kernel)) ggX9_ropeOf_X9_up
theorem dX9_ropeOf_0 : decode cX9_ropeOf 0 = .ok (.aload_n 0, 1) := by decide +kernel
theorem dX9_ropeOf_1 : decode cX9_ropeOf 1 = .ok (.iload_n 2, 1) := by decide +kernel
theorem dX9_ropeOf_2 : decode cX9_ropeOf 2 = .ok (.invokevirtual 93, 3) := by decide +kernel
theorem dX9_ropeOf_5 : decode cX9_ropeOf 5 = .ok (.aload_n 0, 1) := by decide +kernel
theorem dX9_ropeOf_6 : decode cX9_ropeOf 6 = .ok (.getfield 13, 3) := by decide +kernel
theorem dX9_ropeOf_9 : decode cX9_ropeOf 9 = .ok (.bipush 55, 2) := by decide +kernel
theorem dX9_ropeOf_11 : decode cX9_ropeOf 11 = .ok (.iload_n 1, 1) := by decide +kernel
theorem dX9_ropeOf_12 : decode cX9_ropeOf 12 = .ok (.iadd, 1) := by decide +kernel
theorem dX9_ropeOf_13 : decode cX9_ropeOf 13 = .ok (.iaload, 1) := by decide +kernel
theorem dX9_ropeOf_14 : decode cX9_ropeOf 14 = .ok (.invokestatic 89, 3) := by decide +kernel
theorem dX9_ropeOf_17 : decode cX9_ropeOf 17 = .ok (.ireturn, 1) := by decide +kernel
theorem dX9_may_0 : decode cX9_may 0 = .ok (.iload_n 2, 1) := by decide +kernel
theorem dX9_may_1 : decode cX9_may 1 = .ok (.ifCond .eq 19, 3) := by decide +kernel
theorem dX9_may_4 : decode cX9_may 4 = .ok (.aload_n 0, 1) := by decide +kernel
theorem dX9_may_5 : decode cX9_may 5 = .ok (.getfield 13, 3) := by decide +kernel
theorem dX9_may_8 : decode cX9_may 8 = .ok (.bipush 61, 2) := by decide +kernel
theorem dX9_may_10 : decode cX9_may 10 = .ok (.iload_n 1, 1) := by decide +kernel
theorem dX9_may_11 : decode cX9_may 11 = .ok (.iadd, 1) := by decide +kernel
theorem dX9_may_12 : decode cX9_may 12 = .ok (.iaload, 1) := by decide +kernel
theorem dX9_may_13 : decode cX9_may 13 = .ok (.iconst 3, 1) := by decide +kernel
theorem dX9_may_14 : decode cX9_may 14 = .ok (.imul, 1) := by decide +kernel
theorem dX9_may_15 : decode cX9_may 15 = .ok (.iconst 4, 1) := by decide +kernel
theorem dX9_may_16 : decode cX9_may 16 = .ok (.idiv, 1) := by decide +kernel
theorem dX9_may_17 : decode cX9_may 17 = .ok (.goto 12, 3) := by decide +kernel
theorem dX9_may_20 : decode cX9_may 20 = .ok (.aload_n 0, 1) := by decide +kernel
theorem dX9_may_21 : decode cX9_may 21 = .ok (.getfield 13, 3) := by decide +kernel
theorem dX9_may_24 : decode cX9_may 24 = .ok (.bipush 61, 2) := by decide +kernel
theorem dX9_may_26 : decode cX9_may 26 = .ok (.iload_n 1, 1) := by decide +kernel
theorem dX9_may_27 : decode cX9_may 27 = .ok (.iadd, 1) := by decide +kernel
theorem dX9_may_28 : decode cX9_may 28 = .ok (.iaload, 1) := by decide +kernel
theorem dX9_may_29 : decode cX9_may 29 = .ok (.ireturn, 1) := by decide +kernel
set_option maxRecDepth 20000 in
theorem ggX9_mastOf_X9_takes : GoodIn wsX9_mastOf wsX9_takes := goodIn_r _ [6, 7, 8, 9, 5, 10, 1, 11, 12, 13, 14, 15, 16, 17, 18, 19, 20, 21, 22, 23, 24, 25, 26, 27, 28, 29, 30, 31, 32, 33, 34, 35, 36, 37, 38, 39, 40, 41] (by decide +kernel) (by decide +kernel)
set_option maxRecDepth 20000 in
theorem gX9_mastOf_X9_takes : GoodIn wsX9_mastOf (wsV RX9 93 RX9 yX9_takes wsX9_takes) := goodIn_app (goodIn_of _ (by decide +kernel)) ggX9_mastOf_X9_takes
theorem dX9_mastOf_0 : decode cX9_mastOf 0 = .ok (.iconst 0, 1) := by decide +kernel
theorem dX9_mastOf_1 : decode cX9_mastOf 1 = .ok (.istore_n 3, 1) := by decide +kernel
theorem dX9_mastOf_2 : decode cX9_mastOf 2 = .ok (.iconst 0, 1) := by decide +kernel
theorem dX9_mastOf_3 : decode cX9_mastOf 3 = .ok (.istore 4, 2) := by decide +kernel
theorem dX9_mastOf_5 : decode cX9_mastOf 5 = .ok (.iload 4, 2) := by decide +kernel
theorem dX9_mastOf_7 : decode cX9_mastOf 7 = .ok (.aload_n 0, 1) := by decide +kernel
theorem dX9_mastOf_8 : decode cX9_mastOf 8 = .ok (.getfield 13, 3) := by decide +kernel
theorem dX9_mastOf_11 : decode cX9_mastOf 11 = .ok (.bipush 11, 2) := by decide +kernel
theorem dX9_mastOf_13 : decode cX9_mastOf 13 = .ok (.iaload, 1) := by decide +kernel
theorem dX9_mastOf_14 : decode cX9_mastOf 14 = .ok (.if_icmp .ge 49, 3) := by decide +kernel
theorem dX9_mastOf_17 : decode cX9_mastOf 17 = .ok (.iload_n 3, 1) := by decide +kernel
theorem dX9_mastOf_18 : decode cX9_mastOf 18 = .ok (.aload_n 0, 1) := by decide +kernel
theorem dX9_mastOf_19 : decode cX9_mastOf 19 = .ok (.getfield 13, 3) := by decide +kernel
theorem dX9_mastOf_22 : decode cX9_mastOf 22 = .ok (.bipush 67, 2) := by decide +kernel
theorem dX9_mastOf_24 : decode cX9_mastOf 24 = .ok (.iload 4, 2) := by decide +kernel
theorem dX9_mastOf_26 : decode cX9_mastOf 26 = .ok (.iadd, 1) := by decide +kernel
theorem dX9_mastOf_27 : decode cX9_mastOf 27 = .ok (.iaload, 1) := by decide +kernel
theorem dX9_mastOf_28 : decode cX9_mastOf 28 = .ok (.iconst 1, 1) := by decide +kernel
theorem dX9_mastOf_29 : decode cX9_mastOf 29 = .ok (.if_icmp .ne 25, 3) := by decide +kernel
theorem dX9_mastOf_32 : decode cX9_mastOf 32 = .ok (.aload_n 0, 1) := by decide +kernel
theorem dX9_mastOf_33 : decode cX9_mastOf 33 = .ok (.getfield 13, 3) := by decide +kernel
theorem dX9_mastOf_36 : decode cX9_mastOf 36 = .ok (.bipush 49, 2) := by decide +kernel
theorem dX9_mastOf_38 : decode cX9_mastOf 38 = .ok (.iload 4, 2) := by decide +kernel
theorem dX9_mastOf_40 : decode cX9_mastOf 40 = .ok (.iadd, 1) := by decide +kernel
theorem dX9_mastOf_41 : decode cX9_mastOf 41 = .ok (.iaload, 1) := by decide +kernel
theorem dX9_mastOf_42 : decode cX9_mastOf 42 = .ok (.iload_n 1, 1) := by decide +kernel
theorem dX9_mastOf_43 : decode cX9_mastOf 43 = .ok (.if_icmp .ne 11, 3) := by decide +kernel
theorem dX9_mastOf_46 : decode cX9_mastOf 46 = .ok (.aload_n 0, 1) := by decide +kernel
theorem dX9_mastOf_47 : decode cX9_mastOf 47 = .ok (.iload_n 2, 1) := by decide +kernel
theorem dX9_mastOf_48 : decode cX9_mastOf 48 = .ok (.invokevirtual 93, 3) := by decide +kernel
theorem dX9_mastOf_51 : decode cX9_mastOf 51 = .ok (.goto 4, 3) := by decide +kernel
theorem dX9_mastOf_54 : decode cX9_mastOf 54 = .ok (.iconst 0, 1) := by decide +kernel
theorem dX9_mastOf_55 : decode cX9_mastOf 55 = .ok (.iadd, 1) := by decide +kernel
theorem dX9_mastOf_56 : decode cX9_mastOf 56 = .ok (.istore_n 3, 1) := by decide +kernel
theorem dX9_mastOf_57 : decode cX9_mastOf 57 = .ok (.iinc 4 1, 3) := by decide +kernel
theorem dX9_mastOf_60 : decode cX9_mastOf 60 = .ok (.goto (-55), 3) := by decide +kernel
theorem dX9_mastOf_63 : decode cX9_mastOf 63 = .ok (.iload_n 3, 1) := by decide +kernel
theorem dX9_mastOf_64 : decode cX9_mastOf 64 = .ok (.ireturn, 1) := by decide +kernel
set_option maxRecDepth 20000 in
theorem ggX9_holds_X9_wholes : GoodIn wsX9_holds wsX9_wholes := goodIn_r _ [7, 1, 35, 36, 37, 38, 39, 40, 41, 42, 43, 44, 45, 46, 47, 48, 49, 50, 51, 52, 53] (by decide +kernel) (by decide +kernel)
set_option maxRecDepth 20000 in
theorem gX9_holds_X9_wholes : GoodIn wsX9_holds (wsV RX9 82 RX9 yX9_wholes wsX9_wholes) := goodIn_app (goodIn_of _ (by decide +kernel)) ggX9_holds_X9_wholes
set_option maxRecDepth 20000 in
theorem ggX9_holds_X9_force : GoodIn wsX9_holds wsX9_force := goodIn_r _ [11, 12, 13, 14, 6, 15, 2, 1, 35, 36, 37, 38, 39, 40, 41, 42, 43, 44, 45, 46, 47, 48, 49, 50, 51, 52, 53] (by decide +kernel) (by decide +kernel)
set_option maxRecDepth 20000 in
theorem gX9_holds_X9_force : GoodIn wsX9_holds (wsV RX9 85 RX9 yX9_force wsX9_force) := goodIn_app (goodIn_of _ (by decide +kernel)) ggX9_holds_X9_force
set_option maxRecDepth 20000 in
theorem ggX9_holds_X9_ropeOf : GoodIn wsX9_holds wsX9_ropeOf := goodIn_r _ [19, 1, 20, 21, 22, 6, 23, 3, 4, 5, 7, 8, 9, 10, 11, 12, 13, 14, 15, 2, 24, 25, 26, 35, 36, 37, 38, 39, 40, 41, 42, 43, 44, 45, 46, 47, 48, 49, 50, 51, 52, 53] (by decide +kernel) (by decide +kernel)
set_option maxRecDepth 20000 in
theorem gX9_holds_X9_ropeOf : GoodIn wsX9_holds (wsV RX9 96 RX9 yX9_ropeOf wsX9_ropeOf) := goodIn_app (goodIn_of _ (by decide +kernel)) ggX9_holds_X9_ropeOf
set_option maxRecDepth 20000 in
theorem ggX9_holds_X9_may : GoodIn wsX9_holds wsX9_may := goodIn_r _ [30, 1, 35, 36, 37, 38, 39, 40, 41, 42, 43, 44, 45, 46, 47, 48, 49, 50, 51, 52, 53] (by decide +kernel) (by decide +kernel)
set_option maxRecDepth 20000 in
theorem gX9_holds_X9_may : GoodIn wsX9_holds (wsV RX9 99 RX9 yX9_may wsX9_may) := goodIn_app (goodIn_of _ (by decide +kernel)) ggX9_holds_X9_may
set_option maxRecDepth 20000 in
theorem ggX9_holds_X9_mastOf : GoodIn wsX9_holds wsX9_mastOf := goodIn_r _ [34, 1, 20, 21, 22, 6, 23, 3, 4, 5, 7, 8, 9, 10, 11, 12, 13, 14, 15, 2, 24, 25, 26, 35, 36, 37, 38, 39, 40, 41, 42, 43, 44, 45, 46, 47, 48, 49, 50, 51, 52, 53] (by decide +kernel) (by decide +kernel)
set_option maxRecDepth 20000 in
theorem gX9_holds_X9_mastOf : GoodIn wsX9_holds (wsV RX9 103 RX9 yX9_mastOf wsX9_mastOf) := goodIn_app (goodIn_of _ (by decide +kernel)) ggX9_holds_X9_mastOf
theorem dX9_holds_0 : decode cX9_holds 0 = .ok (.aload_n 0, 1) := by decide +kernel
theorem dX9_holds_1 : decode cX9_holds 1 = .ok (.invokevirtual 82, 3) := by decide +kernel
theorem dX9_holds_4 : decode cX9_holds 4 = .ok (.ifCond .gt 11, 3) := by decide +kernel
theorem dX9_holds_7 : decode cX9_holds 7 = .ok (.aload_n 0, 1) := by decide +kernel
theorem dX9_holds_8 : decode cX9_holds 8 = .ok (.iload_n 1, 1) := by decide +kernel
theorem dX9_holds_9 : decode cX9_holds 9 = .ok (.invokevirtual 85, 3) := by decide +kernel
theorem dX9_holds_12 : decode cX9_holds 12 = .ok (.ifCond .ne 7, 3) := by decide +kernel
theorem dX9_holds_15 : decode cX9_holds 15 = .ok (.iconst 1, 1) := by decide +kernel
theorem dX9_holds_16 : decode cX9_holds 16 = .ok (.goto 4, 3) := by decide +kernel
theorem dX9_holds_19 : decode cX9_holds 19 = .ok (.iconst 0, 1) := by decide +kernel
theorem dX9_holds_20 : decode cX9_holds 20 = .ok (.istore_n 3, 1) := by decide +kernel
theorem dX9_holds_21 : decode cX9_holds 21 = .ok (.iconst 0, 1) := by decide +kernel
theorem dX9_holds_22 : decode cX9_holds 22 = .ok (.istore 4, 2) := by decide +kernel
theorem dX9_holds_24 : decode cX9_holds 24 = .ok (.iload 4, 2) := by decide +kernel
theorem dX9_holds_26 : decode cX9_holds 26 = .ok (.aload_n 0, 1) := by decide +kernel
theorem dX9_holds_27 : decode cX9_holds 27 = .ok (.getfield 13, 3) := by decide +kernel
theorem dX9_holds_30 : decode cX9_holds 30 = .ok (.bipush 11, 2) := by decide +kernel
theorem dX9_holds_32 : decode cX9_holds 32 = .ok (.iaload, 1) := by decide +kernel
theorem dX9_holds_33 : decode cX9_holds 33 = .ok (.if_icmp .ge 49, 3) := by decide +kernel
theorem dX9_holds_36 : decode cX9_holds 36 = .ok (.iload_n 3, 1) := by decide +kernel
theorem dX9_holds_37 : decode cX9_holds 37 = .ok (.ifCond .eq 37, 3) := by decide +kernel
theorem dX9_holds_40 : decode cX9_holds 40 = .ok (.aload_n 0, 1) := by decide +kernel
theorem dX9_holds_41 : decode cX9_holds 41 = .ok (.getfield 13, 3) := by decide +kernel
theorem dX9_holds_44 : decode cX9_holds 44 = .ok (.bipush 67, 2) := by decide +kernel
theorem dX9_holds_46 : decode cX9_holds 46 = .ok (.iload 4, 2) := by decide +kernel
theorem dX9_holds_48 : decode cX9_holds 48 = .ok (.iadd, 1) := by decide +kernel
theorem dX9_holds_49 : decode cX9_holds 49 = .ok (.iaload, 1) := by decide +kernel
theorem dX9_holds_50 : decode cX9_holds 50 = .ok (.ifCond .eq 20, 3) := by decide +kernel
theorem dX9_holds_53 : decode cX9_holds 53 = .ok (.aload_n 0, 1) := by decide +kernel
theorem dX9_holds_54 : decode cX9_holds 54 = .ok (.iload 4, 2) := by decide +kernel
theorem dX9_holds_56 : decode cX9_holds 56 = .ok (.iload_n 1, 1) := by decide +kernel
theorem dX9_holds_57 : decode cX9_holds 57 = .ok (.invokevirtual 96, 3) := by decide +kernel
theorem dX9_holds_60 : decode cX9_holds 60 = .ok (.aload_n 0, 1) := by decide +kernel
theorem dX9_holds_61 : decode cX9_holds 61 = .ok (.iload 4, 2) := by decide +kernel
theorem dX9_holds_63 : decode cX9_holds 63 = .ok (.iload_n 2, 1) := by decide +kernel
theorem dX9_holds_64 : decode cX9_holds 64 = .ok (.invokevirtual 99, 3) := by decide +kernel
theorem dX9_holds_67 : decode cX9_holds 67 = .ok (.if_icmp .gt 7, 3) := by decide +kernel
theorem dX9_holds_70 : decode cX9_holds 70 = .ok (.iconst 1, 1) := by decide +kernel
theorem dX9_holds_71 : decode cX9_holds 71 = .ok (.goto 4, 3) := by decide +kernel
theorem dX9_holds_74 : decode cX9_holds 74 = .ok (.iconst 0, 1) := by decide +kernel
theorem dX9_holds_75 : decode cX9_holds 75 = .ok (.istore_n 3, 1) := by decide +kernel
theorem dX9_holds_76 : decode cX9_holds 76 = .ok (.iinc 4 1, 3) := by decide +kernel
theorem dX9_holds_79 : decode cX9_holds 79 = .ok (.goto (-55), 3) := by decide +kernel
theorem dX9_holds_82 : decode cX9_holds 82 = .ok (.iconst 0, 1) := by decide +kernel
theorem dX9_holds_83 : decode cX9_holds 83 = .ok (.istore 4, 2) := by decide +kernel
theorem dX9_holds_85 : decode cX9_holds 85 = .ok (.iload 4, 2) := by decide +kernel
theorem dX9_holds_87 : decode cX9_holds 87 = .ok (.iconst 3, 1) := by decide +kernel
theorem dX9_holds_88 : decode cX9_holds 88 = .ok (.if_icmp .ge 38, 3) := by decide +kernel
theorem dX9_holds_91 : decode cX9_holds 91 = .ok (.iload_n 3, 1) := by decide +kernel
theorem dX9_holds_92 : decode cX9_holds 92 = .ok (.ifCond .eq 26, 3) := by decide +kernel
theorem dX9_holds_95 : decode cX9_holds 95 = .ok (.aload_n 0, 1) := by decide +kernel
theorem dX9_holds_96 : decode cX9_holds 96 = .ok (.iload 4, 2) := by decide +kernel
theorem dX9_holds_98 : decode cX9_holds 98 = .ok (.iload_n 1, 1) := by decide +kernel
theorem dX9_holds_99 : decode cX9_holds 99 = .ok (.invokevirtual 103, 3) := by decide +kernel
theorem dX9_holds_102 : decode cX9_holds 102 = .ok (.aload_n 0, 1) := by decide +kernel
theorem dX9_holds_103 : decode cX9_holds 103 = .ok (.getfield 29, 3) := by decide +kernel
theorem dX9_holds_106 : decode cX9_holds 106 = .ok (.iconst 5, 1) := by decide +kernel
theorem dX9_holds_107 : decode cX9_holds 107 = .ok (.iload 4, 2) := by decide +kernel
theorem dX9_holds_109 : decode cX9_holds 109 = .ok (.iadd, 1) := by decide +kernel
theorem dX9_holds_110 : decode cX9_holds 110 = .ok (.iaload, 1) := by decide +kernel
theorem dX9_holds_111 : decode cX9_holds 111 = .ok (.if_icmp .gt 7, 3) := by decide +kernel
theorem dX9_holds_114 : decode cX9_holds 114 = .ok (.iconst 1, 1) := by decide +kernel
theorem dX9_holds_115 : decode cX9_holds 115 = .ok (.goto 4, 3) := by decide +kernel
theorem dX9_holds_118 : decode cX9_holds 118 = .ok (.iconst 0, 1) := by decide +kernel
theorem dX9_holds_119 : decode cX9_holds 119 = .ok (.istore_n 3, 1) := by decide +kernel
theorem dX9_holds_120 : decode cX9_holds 120 = .ok (.iinc 4 1, 3) := by decide +kernel
theorem dX9_holds_123 : decode cX9_holds 123 = .ok (.goto (-38), 3) := by decide +kernel
theorem dX9_holds_126 : decode cX9_holds 126 = .ok (.iload_n 3, 1) := by decide +kernel
theorem dX9_holds_127 : decode cX9_holds 127 = .ok (.ireturn, 1) := by decide +kernel
theorem dX9_isLost_0 : decode cX9_isLost 0 = .ok (.aload_n 0, 1) := by decide +kernel
theorem dX9_isLost_1 : decode cX9_isLost 1 = .ok (.getfield 13, 3) := by decide +kernel
theorem dX9_isLost_4 : decode cX9_isLost 4 = .ok (.iconst 2, 1) := by decide +kernel
theorem dX9_isLost_5 : decode cX9_isLost 5 = .ok (.iaload, 1) := by decide +kernel
theorem dX9_isLost_6 : decode cX9_isLost 6 = .ok (.bipush 100, 2) := by decide +kernel
theorem dX9_isLost_8 : decode cX9_isLost 8 = .ok (.if_icmp .le 7, 3) := by decide +kernel
theorem dX9_isLost_11 : decode cX9_isLost 11 = .ok (.iconst 1, 1) := by decide +kernel
theorem dX9_isLost_12 : decode cX9_isLost 12 = .ok (.goto 4, 3) := by decide +kernel
theorem dX9_isLost_15 : decode cX9_isLost 15 = .ok (.iconst 0, 1) := by decide +kernel
theorem dX9_isLost_16 : decode cX9_isLost 16 = .ok (.ireturn, 1) := by decide +kernel
theorem dX9_states_0 : decode cX9_states 0 = .ok (.iconst 0, 1) := by decide +kernel
theorem dX9_states_1 : decode cX9_states 1 = .ok (.istore_n 2, 1) := by decide +kernel
theorem dX9_states_2 : decode cX9_states 2 = .ok (.iconst 0, 1) := by decide +kernel
theorem dX9_states_3 : decode cX9_states 3 = .ok (.istore_n 3, 1) := by decide +kernel
theorem dX9_states_4 : decode cX9_states 4 = .ok (.iload_n 3, 1) := by decide +kernel
theorem dX9_states_5 : decode cX9_states 5 = .ok (.aload_n 0, 1) := by decide +kernel
theorem dX9_states_6 : decode cX9_states 6 = .ok (.getfield 13, 3) := by decide +kernel
theorem dX9_states_9 : decode cX9_states 9 = .ok (.bipush 12, 2) := by decide +kernel
theorem dX9_states_11 : decode cX9_states 11 = .ok (.iaload, 1) := by decide +kernel
theorem dX9_states_12 : decode cX9_states 12 = .ok (.if_icmp .ge 31, 3) := by decide +kernel
theorem dX9_states_15 : decode cX9_states 15 = .ok (.iload_n 2, 1) := by decide +kernel
theorem dX9_states_16 : decode cX9_states 16 = .ok (.aload_n 0, 1) := by decide +kernel
theorem dX9_states_17 : decode cX9_states 17 = .ok (.getfield 13, 3) := by decide +kernel
theorem dX9_states_20 : decode cX9_states 20 = .ok (.sipush 145, 3) := by decide +kernel
theorem dX9_states_23 : decode cX9_states 23 = .ok (.iload_n 3, 1) := by decide +kernel
theorem dX9_states_24 : decode cX9_states 24 = .ok (.iadd, 1) := by decide +kernel
theorem dX9_states_25 : decode cX9_states 25 = .ok (.iaload, 1) := by decide +kernel
theorem dX9_states_26 : decode cX9_states 26 = .ok (.iload_n 1, 1) := by decide +kernel
theorem dX9_states_27 : decode cX9_states 27 = .ok (.if_icmp .ne 7, 3) := by decide +kernel
theorem dX9_states_30 : decode cX9_states 30 = .ok (.iconst 1, 1) := by decide +kernel
theorem dX9_states_31 : decode cX9_states 31 = .ok (.goto 4, 3) := by decide +kernel
theorem dX9_states_34 : decode cX9_states 34 = .ok (.iconst 0, 1) := by decide +kernel
theorem dX9_states_35 : decode cX9_states 35 = .ok (.iadd, 1) := by decide +kernel
theorem dX9_states_36 : decode cX9_states 36 = .ok (.istore_n 2, 1) := by decide +kernel
theorem dX9_states_37 : decode cX9_states 37 = .ok (.iinc 3 1, 3) := by decide +kernel
theorem dX9_states_40 : decode cX9_states 40 = .ok (.goto (-36), 3) := by decide +kernel
theorem dX9_states_43 : decode cX9_states 43 = .ok (.iload_n 2, 1) := by decide +kernel
theorem dX9_states_44 : decode cX9_states 44 = .ok (.ireturn, 1) := by decide +kernel
set_option maxRecDepth 20000 in
theorem ggX9_floats_X9_tideIn : GoodIn wsX9_floats wsX9_tideIn := goodIn_r _ [6, 7, 8, 9, 10, 11, 12, 13, 14, 15, 16, 17, 18, 19, 20, 21, 22, 23, 24, 25, 26] (by decide +kernel) (by decide +kernel)
set_option maxRecDepth 20000 in
theorem gX9_floats_X9_tideIn : GoodIn wsX9_floats (wsV RX9 106 RX9 yX9_tideIn wsX9_tideIn) := goodIn_app (goodIn_of _ (by decide +kernel)) ggX9_floats_X9_tideIn
theorem dX9_floats_0 : decode cX9_floats 0 = .ok (.iload_n 2, 1) := by decide +kernel
theorem dX9_floats_1 : decode cX9_floats 1 = .ok (.aload_n 0, 1) := by decide +kernel
theorem dX9_floats_2 : decode cX9_floats 2 = .ok (.getfield 29, 3) := by decide +kernel
theorem dX9_floats_5 : decode cX9_floats 5 = .ok (.iconst 2, 1) := by decide +kernel
theorem dX9_floats_6 : decode cX9_floats 6 = .ok (.iaload, 1) := by decide +kernel
theorem dX9_floats_7 : decode cX9_floats 7 = .ok (.if_icmp .lt 26, 3) := by decide +kernel
theorem dX9_floats_10 : decode cX9_floats 10 = .ok (.aload_n 0, 1) := by decide +kernel
theorem dX9_floats_11 : decode cX9_floats 11 = .ok (.iload_n 1, 1) := by decide +kernel
theorem dX9_floats_12 : decode cX9_floats 12 = .ok (.invokevirtual 106, 3) := by decide +kernel
theorem dX9_floats_15 : decode cX9_floats 15 = .ok (.iload_n 2, 1) := by decide +kernel
theorem dX9_floats_16 : decode cX9_floats 16 = .ok (.bipush 20, 2) := by decide +kernel
theorem dX9_floats_18 : decode cX9_floats 18 = .ok (.idiv, 1) := by decide +kernel
theorem dX9_floats_19 : decode cX9_floats 19 = .ok (.aload_n 0, 1) := by decide +kernel
theorem dX9_floats_20 : decode cX9_floats 20 = .ok (.getfield 29, 3) := by decide +kernel
theorem dX9_floats_23 : decode cX9_floats 23 = .ok (.iconst 0, 1) := by decide +kernel
theorem dX9_floats_24 : decode cX9_floats 24 = .ok (.iaload, 1) := by decide +kernel
theorem dX9_floats_25 : decode cX9_floats 25 = .ok (.iadd, 1) := by decide +kernel
theorem dX9_floats_26 : decode cX9_floats 26 = .ok (.if_icmp .lt 7, 3) := by decide +kernel
theorem dX9_floats_29 : decode cX9_floats 29 = .ok (.iconst 1, 1) := by decide +kernel
theorem dX9_floats_30 : decode cX9_floats 30 = .ok (.goto 4, 3) := by decide +kernel
theorem dX9_floats_33 : decode cX9_floats 33 = .ok (.iconst 0, 1) := by decide +kernel
theorem dX9_floats_34 : decode cX9_floats 34 = .ok (.ireturn, 1) := by decide +kernel
set_option maxRecDepth 20000 in
theorem ggX9_ship_X9_total : GoodIn wsX9_ship wsX9_total := goodIn_r _ [7, 8, 2, 62, 63, 64, 65, 66, 67, 68, 69, 70, 71, 72, 73, 74, 75, 76, 77, 78, 79, 80] (by decide +kernel) (by decide +kernel)
set_option maxRecDepth 20000 in
theorem gX9_ship_X9_total : GoodIn wsX9_ship (wsV RX9 78 RX9 yX9_total wsX9_total) := goodIn_app (goodIn_of _ (by decide +kernel)) ggX9_ship_X9_total
set_option maxRecDepth 20000 in
theorem ggX9_ship_X9_force : GoodIn wsX9_ship wsX9_force := goodIn_r _ [12, 3, 4, 5, 6, 7, 8, 2, 62, 63, 64, 65, 66, 67, 68, 69, 70, 71, 72, 73, 74, 75, 76, 77, 78, 79, 80] (by decide +kernel) (by decide +kernel)
set_option maxRecDepth 20000 in
theorem gX9_ship_X9_force : GoodIn wsX9_ship (wsV RX9 85 RX9 yX9_force wsX9_force) := goodIn_app (goodIn_of _ (by decide +kernel)) ggX9_ship_X9_force
set_option maxRecDepth 20000 in
theorem ggX9_ship_X9_states : GoodIn wsX9_ship wsX9_states := goodIn_r _ [16, 2, 62, 63, 64, 65, 66, 67, 68, 69, 70, 71, 72, 73, 74, 75, 76, 77, 78, 79, 80] (by decide +kernel) (by decide +kernel)
set_option maxRecDepth 20000 in
theorem gX9_ship_X9_states : GoodIn wsX9_ship (wsV RX9 109 RX9 yX9_states wsX9_states) := goodIn_app (goodIn_of _ (by decide +kernel)) ggX9_ship_X9_states
set_option maxRecDepth 20000 in
theorem ggX9_ship_X9_floats : GoodIn wsX9_ship wsX9_floats := goodIn_r _ [20, 8, 21, 22, 23, 6, 24, 25, 62, 63, 64, 65, 66, 67, 68, 69, 70, 71, 72, 73, 74, 75, 76, 77, 78, 79, 80] (by decide +kernel) (by decide +kernel)
set_option maxRecDepth 20000 in
theorem gX9_ship_X9_floats : GoodIn wsX9_ship (wsV RX9 112 RX9 yX9_floats wsX9_floats) := goodIn_app (goodIn_of _ (by decide +kernel)) ggX9_ship_X9_floats
set_option maxRecDepth 20000 in
theorem ggX9_ship_X9_rains : GoodIn wsX9_ship wsX9_rains := goodIn_r _ [29, 30, 62, 63, 64, 65, 66, 67, 68, 69, 70, 71, 72, 73, 74, 75, 76, 77, 78, 79, 80] (by decide +kernel) (by decide +kernel)
set_option maxRecDepth 20000 in
theorem gX9_ship_X9_rains : GoodIn wsX9_ship (wsV RX9 116 RX9 yX9_rains wsX9_rains) := goodIn_app (goodIn_of _ (by decide +kernel)) ggX9_ship_X9_rains
set_option maxRecDepth 20000 in
theorem ggX9_ship_X9_holds : GoodIn wsX9_ship wsX9_holds := goodIn_r _ [34, 2, 8, 35, 36, 37, 6, 38, 9, 10, 11, 12, 3, 4, 5, 7, 39, 40, 41, 42, 43, 44, 45, 46, 47, 48, 49, 50, 51, 52, 53, 54, 55, 56, 57, 62, 63, 64, 65, 66, 67, 68, 69, 70, 71, 72, 73, 74, 75, 76, 77, 78, 79, 80] (by decide +kernel) (by decide +kernel)
set_option maxRecDepth 20000 in
theorem gX9_ship_X9_holds : GoodIn wsX9_ship (wsV RX9 119 RX9 yX9_holds wsX9_holds) := goodIn_app (goodIn_of _ (by decide +kernel)) ggX9_ship_X9_holds
set_option maxRecDepth 20000 in
theorem ggX9_ship_X9_isLost : GoodIn wsX9_ship wsX9_isLost := goodIn_r _ [61, 2, 62, 63, 64, 65, 66, 67, 68, 69, 70, 71, 72, 73, 74, 75, 76, 77, 78, 79, 80] (by decide +kernel) (by decide +kernel)
set_option maxRecDepth 20000 in
theorem gX9_ship_X9_isLost : GoodIn wsX9_ship (wsV RX9 123 RX9 yX9_isLost wsX9_isLost) := goodIn_app (goodIn_of _ (by decide +kernel)) ggX9_ship_X9_isLost
theorem dX9_ship_0 : decode cX9_ship 0 = .ok (.aload_n 0, 1) := by decide +kernel
theorem dX9_ship_1 : decode cX9_ship 1 = .ok (.iconst 0, 1) := by decide +kernel
theorem dX9_ship_2 : decode cX9_ship 2 = .ok (.putfield 1, 3) := by decide +kernel
theorem dX9_ship_5 : decode cX9_ship 5 = .ok (.iload_n 1, 1) := by decide +kernel
theorem dX9_ship_6 : decode cX9_ship 6 = .ok (.tableswitch 166 0 7 #[46, 51, 59, 66, 77, 84, 124, 153], 46) := by decide +kernel
theorem dX9_ship_52 : decode cX9_ship 52 = .ok (.aload_n 0, 1) := by decide +kernel
theorem dX9_ship_53 : decode cX9_ship 53 = .ok (.invokevirtual 78, 3) := by decide +kernel
theorem dX9_ship_56 : decode cX9_ship 56 = .ok (.ireturn, 1) := by decide +kernel
theorem dX9_ship_57 : decode cX9_ship 57 = .ok (.aload_n 0, 1) := by decide +kernel
theorem dX9_ship_58 : decode cX9_ship 58 = .ok (.invokevirtual 78, 3) := by decide +kernel
theorem dX9_ship_61 : decode cX9_ship 61 = .ok (.bipush 20, 2) := by decide +kernel
theorem dX9_ship_63 : decode cX9_ship 63 = .ok (.idiv, 1) := by decide +kernel
theorem dX9_ship_64 : decode cX9_ship 64 = .ok (.ireturn, 1) := by decide +kernel
theorem dX9_ship_65 : decode cX9_ship 65 = .ok (.aload_n 0, 1) := by decide +kernel
theorem dX9_ship_66 : decode cX9_ship 66 = .ok (.getfield 13, 3) := by decide +kernel
theorem dX9_ship_69 : decode cX9_ship 69 = .ok (.iconst 1, 1) := by decide +kernel
theorem dX9_ship_70 : decode cX9_ship 70 = .ok (.iaload, 1) := by decide +kernel
theorem dX9_ship_71 : decode cX9_ship 71 = .ok (.ireturn, 1) := by decide +kernel
theorem dX9_ship_72 : decode cX9_ship 72 = .ok (.aload_n 0, 1) := by decide +kernel
theorem dX9_ship_73 : decode cX9_ship 73 = .ok (.aload_n 0, 1) := by decide +kernel
theorem dX9_ship_74 : decode cX9_ship 74 = .ok (.getfield 13, 3) := by decide +kernel
theorem dX9_ship_77 : decode cX9_ship 77 = .ok (.iconst 1, 1) := by decide +kernel
theorem dX9_ship_78 : decode cX9_ship 78 = .ok (.iaload, 1) := by decide +kernel
theorem dX9_ship_79 : decode cX9_ship 79 = .ok (.invokevirtual 85, 3) := by decide +kernel
theorem dX9_ship_82 : decode cX9_ship 82 = .ok (.ireturn, 1) := by decide +kernel
theorem dX9_ship_83 : decode cX9_ship 83 = .ok (.aload_n 0, 1) := by decide +kernel
theorem dX9_ship_84 : decode cX9_ship 84 = .ok (.getfield 13, 3) := by decide +kernel
theorem dX9_ship_87 : decode cX9_ship 87 = .ok (.iconst 2, 1) := by decide +kernel
theorem dX9_ship_88 : decode cX9_ship 88 = .ok (.iaload, 1) := by decide +kernel
theorem dX9_ship_89 : decode cX9_ship 89 = .ok (.ireturn, 1) := by decide +kernel
theorem dX9_ship_90 : decode cX9_ship 90 = .ok (.aload_n 0, 1) := by decide +kernel
theorem dX9_ship_91 : decode cX9_ship 91 = .ok (.getfield 13, 3) := by decide +kernel
theorem dX9_ship_94 : decode cX9_ship 94 = .ok (.iconst 1, 1) := by decide +kernel
theorem dX9_ship_95 : decode cX9_ship 95 = .ok (.iaload, 1) := by decide +kernel
theorem dX9_ship_96 : decode cX9_ship 96 = .ok (.ifCond .ne 32, 3) := by decide +kernel
theorem dX9_ship_99 : decode cX9_ship 99 = .ok (.aload_n 0, 1) := by decide +kernel
theorem dX9_ship_100 : decode cX9_ship 100 = .ok (.iconst 1, 1) := by decide +kernel
theorem dX9_ship_101 : decode cX9_ship 101 = .ok (.invokevirtual 109, 3) := by decide +kernel
theorem dX9_ship_104 : decode cX9_ship 104 = .ok (.ifCond .ne 24, 3) := by decide +kernel
theorem dX9_ship_107 : decode cX9_ship 107 = .ok (.aload_n 0, 1) := by decide +kernel
theorem dX9_ship_108 : decode cX9_ship 108 = .ok (.aload_n 0, 1) := by decide +kernel
theorem dX9_ship_109 : decode cX9_ship 109 = .ok (.getfield 13, 3) := by decide +kernel
theorem dX9_ship_112 : decode cX9_ship 112 = .ok (.iconst 0, 1) := by decide +kernel
theorem dX9_ship_113 : decode cX9_ship 113 = .ok (.iaload, 1) := by decide +kernel
theorem dX9_ship_114 : decode cX9_ship 114 = .ok (.aload_n 0, 1) := by decide +kernel
theorem dX9_ship_115 : decode cX9_ship 115 = .ok (.invokevirtual 78, 3) := by decide +kernel
theorem dX9_ship_118 : decode cX9_ship 118 = .ok (.invokevirtual 112, 3) := by decide +kernel
theorem dX9_ship_121 : decode cX9_ship 121 = .ok (.ifCond .eq 7, 3) := by decide +kernel
theorem dX9_ship_124 : decode cX9_ship 124 = .ok (.iconst 1, 1) := by decide +kernel
theorem dX9_ship_125 : decode cX9_ship 125 = .ok (.goto 4, 3) := by decide +kernel
theorem dX9_ship_128 : decode cX9_ship 128 = .ok (.iconst 0, 1) := by decide +kernel
theorem dX9_ship_129 : decode cX9_ship 129 = .ok (.ireturn, 1) := by decide +kernel
theorem dX9_ship_130 : decode cX9_ship 130 = .ok (.aload_n 0, 1) := by decide +kernel
theorem dX9_ship_131 : decode cX9_ship 131 = .ok (.aload_n 0, 1) := by decide +kernel
theorem dX9_ship_132 : decode cX9_ship 132 = .ok (.getfield 13, 3) := by decide +kernel
theorem dX9_ship_135 : decode cX9_ship 135 = .ok (.iconst 1, 1) := by decide +kernel
theorem dX9_ship_136 : decode cX9_ship 136 = .ok (.iaload, 1) := by decide +kernel
theorem dX9_ship_137 : decode cX9_ship 137 = .ok (.aload_n 0, 1) := by decide +kernel
theorem dX9_ship_138 : decode cX9_ship 138 = .ok (.aload_n 0, 1) := by decide +kernel
theorem dX9_ship_139 : decode cX9_ship 139 = .ok (.getfield 13, 3) := by decide +kernel
theorem dX9_ship_142 : decode cX9_ship 142 = .ok (.iconst 0, 1) := by decide +kernel
theorem dX9_ship_143 : decode cX9_ship 143 = .ok (.iaload, 1) := by decide +kernel
theorem dX9_ship_144 : decode cX9_ship 144 = .ok (.invokevirtual 116, 3) := by decide +kernel
theorem dX9_ship_147 : decode cX9_ship 147 = .ok (.invokevirtual 119, 3) := by decide +kernel
theorem dX9_ship_150 : decode cX9_ship 150 = .ok (.ifCond .eq 7, 3) := by decide +kernel
theorem dX9_ship_153 : decode cX9_ship 153 = .ok (.iconst 1, 1) := by decide +kernel
theorem dX9_ship_154 : decode cX9_ship 154 = .ok (.goto 4, 3) := by decide +kernel
theorem dX9_ship_157 : decode cX9_ship 157 = .ok (.iconst 0, 1) := by decide +kernel
theorem dX9_ship_158 : decode cX9_ship 158 = .ok (.ireturn, 1) := by decide +kernel
theorem dX9_ship_159 : decode cX9_ship 159 = .ok (.aload_n 0, 1) := by decide +kernel
theorem dX9_ship_160 : decode cX9_ship 160 = .ok (.invokevirtual 123, 3) := by decide +kernel
theorem dX9_ship_163 : decode cX9_ship 163 = .ok (.ifCond .eq 7, 3) := by decide +kernel
theorem dX9_ship_166 : decode cX9_ship 166 = .ok (.iconst 1, 1) := by decide +kernel
theorem dX9_ship_167 : decode cX9_ship 167 = .ok (.goto 4, 3) := by decide +kernel
theorem dX9_ship_170 : decode cX9_ship 170 = .ok (.iconst 0, 1) := by decide +kernel
theorem dX9_ship_171 : decode cX9_ship 171 = .ok (.ireturn, 1) := by decide +kernel
theorem dX9_ship_172 : decode cX9_ship 172 = .ok (.bipush (-100), 2) := by decide +kernel
theorem dX9_ship_174 : decode cX9_ship 174 = .ok (.ireturn, 1) := by decide +kernel
set_option maxRecDepth 20000 in
theorem ggX9_tackleTold_X9_in : GoodIn wsX9_tackleTold wsX9_in := goodIn_r _ [7] (by decide +kernel) (by decide +kernel)
set_option maxRecDepth 20000 in
theorem gX9_tackleTold_X9_in : GoodIn wsX9_tackleTold (va_wsS RX9 46 yX9_in wsX9_in) := goodIn_app (goodIn_of _ (by decide +kernel)) ggX9_tackleTold_X9_in
set_option maxRecDepth 20000 in
theorem ggX9_tackleTold_X9_takes : GoodIn wsX9_tackleTold wsX9_takes := goodIn_r _ [11, 12, 13, 14, 6, 15, 2, 16, 17, 18, 19, 20, 21, 22, 23, 24, 25, 26, 27, 41, 42, 43, 44, 45, 46, 47, 48, 49, 50, 51, 52, 53, 54, 55, 56, 57, 58, 59] (by decide +kernel) (by decide +kernel)
set_option maxRecDepth 20000 in
theorem gX9_tackleTold_X9_takes : GoodIn wsX9_tackleTold (wsV RX9 93 RX9 yX9_takes wsX9_takes) := goodIn_app (goodIn_of _ (by decide +kernel)) ggX9_tackleTold_X9_takes
set_option maxRecDepth 20000 in
theorem ggX9_tackleTold_X9_ropeOf : GoodIn wsX9_tackleTold wsX9_ropeOf := goodIn_r _ [31, 2, 8, 9, 10, 6, 11, 12, 13, 14, 15, 16, 17, 18, 19, 20, 21, 22, 23, 24, 25, 26, 27, 41, 42, 43, 44, 45, 46, 47, 48, 49, 50, 51, 52, 53, 54, 55, 56, 57, 58, 59] (by decide +kernel) (by decide +kernel)
set_option maxRecDepth 20000 in
theorem gX9_tackleTold_X9_ropeOf : GoodIn wsX9_tackleTold (wsV RX9 96 RX9 yX9_ropeOf wsX9_ropeOf) := goodIn_app (goodIn_of _ (by decide +kernel)) ggX9_tackleTold_X9_ropeOf
set_option maxRecDepth 20000 in
theorem ggX9_tackleTold_X9_rains : GoodIn wsX9_tackleTold wsX9_rains := goodIn_r _ [35, 36, 41, 42, 43, 44, 45, 46, 47, 48, 49, 50, 51, 52, 53, 54, 55, 56, 57, 58, 59] (by decide +kernel) (by decide +kernel)
set_option maxRecDepth 20000 in
theorem gX9_tackleTold_X9_rains : GoodIn wsX9_tackleTold (wsV RX9 116 RX9 yX9_rains wsX9_rains) := goodIn_app (goodIn_of _ (by decide +kernel)) ggX9_tackleTold_X9_rains
set_option maxRecDepth 20000 in
theorem ggX9_tackleTold_X9_may : GoodIn wsX9_tackleTold wsX9_may := goodIn_r _ [40, 2, 41, 42, 43, 44, 45, 46, 47, 48, 49, 50, 51, 52, 53, 54, 55, 56, 57, 58, 59] (by decide +kernel) (by decide +kernel)
set_option maxRecDepth 20000 in
theorem gX9_tackleTold_X9_may : GoodIn wsX9_tackleTold (wsV RX9 99 RX9 yX9_may wsX9_may) := goodIn_app (goodIn_of _ (by decide +kernel)) ggX9_tackleTold_X9_may
theorem dX9_tackleTold_0 : decode cX9_tackleTold 0 = .ok (.aload_n 0, 1) := by decide +kernel
theorem dX9_tackleTold_1 : decode cX9_tackleTold 1 = .ok (.iconst 0, 1) := by decide +kernel
theorem dX9_tackleTold_2 : decode cX9_tackleTold 2 = .ok (.putfield 1, 3) := by decide +kernel
theorem dX9_tackleTold_5 : decode cX9_tackleTold 5 = .ok (.iload_n 1, 1) := by decide +kernel
theorem dX9_tackleTold_6 : decode cX9_tackleTold 6 = .ok (.i2l, 1) := by decide +kernel
theorem dX9_tackleTold_7 : decode cX9_tackleTold 7 = .ok (.lconst 0, 1) := by decide +kernel
theorem dX9_tackleTold_8 : decode cX9_tackleTold 8 = .ok (.aload_n 0, 1) := by decide +kernel
theorem dX9_tackleTold_9 : decode cX9_tackleTold 9 = .ok (.getfield 13, 3) := by decide +kernel
theorem dX9_tackleTold_12 : decode cX9_tackleTold 12 = .ok (.bipush 11, 2) := by decide +kernel
theorem dX9_tackleTold_14 : decode cX9_tackleTold 14 = .ok (.iaload, 1) := by decide +kernel
theorem dX9_tackleTold_15 : decode cX9_tackleTold 15 = .ok (.iconst 1, 1) := by decide +kernel
theorem dX9_tackleTold_16 : decode cX9_tackleTold 16 = .ok (.isub, 1) := by decide +kernel
theorem dX9_tackleTold_17 : decode cX9_tackleTold 17 = .ok (.i2l, 1) := by decide +kernel
theorem dX9_tackleTold_18 : decode cX9_tackleTold 18 = .ok (.invokestatic 46, 3) := by decide +kernel
theorem dX9_tackleTold_21 : decode cX9_tackleTold 21 = .ok (.ifCond .eq 15, 3) := by decide +kernel
theorem dX9_tackleTold_24 : decode cX9_tackleTold 24 = .ok (.iload_n 2, 1) := by decide +kernel
theorem dX9_tackleTold_25 : decode cX9_tackleTold 25 = .ok (.i2l, 1) := by decide +kernel
theorem dX9_tackleTold_26 : decode cX9_tackleTold 26 = .ok (.lconst 0, 1) := by decide +kernel
theorem dX9_tackleTold_27 : decode cX9_tackleTold 27 = .ok (.ldc2_w 127, 3) := by decide +kernel
theorem dX9_tackleTold_30 : decode cX9_tackleTold 30 = .ok (.invokestatic 46, 3) := by decide +kernel
theorem dX9_tackleTold_33 : decode cX9_tackleTold 33 = .ok (.ifCond .ne 5, 3) := by decide +kernel
theorem dX9_tackleTold_36 : decode cX9_tackleTold 36 = .ok (.iconst (-1), 1) := by decide +kernel
theorem dX9_tackleTold_37 : decode cX9_tackleTold 37 = .ok (.ireturn, 1) := by decide +kernel
theorem dX9_tackleTold_38 : decode cX9_tackleTold 38 = .ok (.aload_n 0, 1) := by decide +kernel
theorem dX9_tackleTold_39 : decode cX9_tackleTold 39 = .ok (.getfield 13, 3) := by decide +kernel
theorem dX9_tackleTold_42 : decode cX9_tackleTold 42 = .ok (.bipush 67, 2) := by decide +kernel
theorem dX9_tackleTold_44 : decode cX9_tackleTold 44 = .ok (.iload_n 1, 1) := by decide +kernel
theorem dX9_tackleTold_45 : decode cX9_tackleTold 45 = .ok (.iadd, 1) := by decide +kernel
theorem dX9_tackleTold_46 : decode cX9_tackleTold 46 = .ok (.iaload, 1) := by decide +kernel
theorem dX9_tackleTold_47 : decode cX9_tackleTold 47 = .ok (.ifCond .ne 5, 3) := by decide +kernel
theorem dX9_tackleTold_50 : decode cX9_tackleTold 50 = .ok (.iconst 0, 1) := by decide +kernel
theorem dX9_tackleTold_51 : decode cX9_tackleTold 51 = .ok (.ireturn, 1) := by decide +kernel
theorem dX9_tackleTold_52 : decode cX9_tackleTold 52 = .ok (.iload_n 2, 1) := by decide +kernel
theorem dX9_tackleTold_53 : decode cX9_tackleTold 53 = .ok (.ifCond .ne 16, 3) := by decide +kernel
theorem dX9_tackleTold_56 : decode cX9_tackleTold 56 = .ok (.aload_n 0, 1) := by decide +kernel
theorem dX9_tackleTold_57 : decode cX9_tackleTold 57 = .ok (.aload_n 0, 1) := by decide +kernel
theorem dX9_tackleTold_58 : decode cX9_tackleTold 58 = .ok (.getfield 13, 3) := by decide +kernel
theorem dX9_tackleTold_61 : decode cX9_tackleTold 61 = .ok (.iconst 1, 1) := by decide +kernel
theorem dX9_tackleTold_62 : decode cX9_tackleTold 62 = .ok (.iaload, 1) := by decide +kernel
theorem dX9_tackleTold_63 : decode cX9_tackleTold 63 = .ok (.invokevirtual 93, 3) := by decide +kernel
theorem dX9_tackleTold_66 : decode cX9_tackleTold 66 = .ok (.goto 46, 3) := by decide +kernel
theorem dX9_tackleTold_69 : decode cX9_tackleTold 69 = .ok (.iload_n 2, 1) := by decide +kernel
theorem dX9_tackleTold_70 : decode cX9_tackleTold 70 = .ok (.iconst 1, 1) := by decide +kernel
theorem dX9_tackleTold_71 : decode cX9_tackleTold 71 = .ok (.if_icmp .ne 17, 3) := by decide +kernel
theorem dX9_tackleTold_74 : decode cX9_tackleTold 74 = .ok (.aload_n 0, 1) := by decide +kernel
theorem dX9_tackleTold_75 : decode cX9_tackleTold 75 = .ok (.iload_n 1, 1) := by decide +kernel
theorem dX9_tackleTold_76 : decode cX9_tackleTold 76 = .ok (.aload_n 0, 1) := by decide +kernel
theorem dX9_tackleTold_77 : decode cX9_tackleTold 77 = .ok (.getfield 13, 3) := by decide +kernel
theorem dX9_tackleTold_80 : decode cX9_tackleTold 80 = .ok (.iconst 1, 1) := by decide +kernel
theorem dX9_tackleTold_81 : decode cX9_tackleTold 81 = .ok (.iaload, 1) := by decide +kernel
theorem dX9_tackleTold_82 : decode cX9_tackleTold 82 = .ok (.invokevirtual 96, 3) := by decide +kernel
theorem dX9_tackleTold_85 : decode cX9_tackleTold 85 = .ok (.goto 27, 3) := by decide +kernel
theorem dX9_tackleTold_88 : decode cX9_tackleTold 88 = .ok (.iload_n 2, 1) := by decide +kernel
theorem dX9_tackleTold_89 : decode cX9_tackleTold 89 = .ok (.iconst 2, 1) := by decide +kernel
theorem dX9_tackleTold_90 : decode cX9_tackleTold 90 = .ok (.if_icmp .ne 21, 3) := by decide +kernel
theorem dX9_tackleTold_93 : decode cX9_tackleTold 93 = .ok (.aload_n 0, 1) := by decide +kernel
theorem dX9_tackleTold_94 : decode cX9_tackleTold 94 = .ok (.iload_n 1, 1) := by decide +kernel
theorem dX9_tackleTold_95 : decode cX9_tackleTold 95 = .ok (.aload_n 0, 1) := by decide +kernel
theorem dX9_tackleTold_96 : decode cX9_tackleTold 96 = .ok (.aload_n 0, 1) := by decide +kernel
theorem dX9_tackleTold_97 : decode cX9_tackleTold 97 = .ok (.getfield 13, 3) := by decide +kernel
theorem dX9_tackleTold_100 : decode cX9_tackleTold 100 = .ok (.iconst 0, 1) := by decide +kernel
theorem dX9_tackleTold_101 : decode cX9_tackleTold 101 = .ok (.iaload, 1) := by decide +kernel
theorem dX9_tackleTold_102 : decode cX9_tackleTold 102 = .ok (.invokevirtual 116, 3) := by decide +kernel
theorem dX9_tackleTold_105 : decode cX9_tackleTold 105 = .ok (.invokevirtual 99, 3) := by decide +kernel
theorem dX9_tackleTold_108 : decode cX9_tackleTold 108 = .ok (.goto 4, 3) := by decide +kernel
theorem dX9_tackleTold_111 : decode cX9_tackleTold 111 = .ok (.iconst 1, 1) := by decide +kernel
theorem dX9_tackleTold_112 : decode cX9_tackleTold 112 = .ok (.ireturn, 1) := by decide +kernel
set_option maxRecDepth 20000 in
theorem ggX9_greatest_X9_holds : GoodIn wsX9_greatest wsX9_holds := goodIn_r _ [6, 7, 8, 9, 10, 11, 5, 12, 13, 14, 15, 16, 17, 18, 19, 20, 21, 22, 23, 24, 25, 26, 27, 28, 29, 30, 31, 32, 33, 34, 35, 36, 37, 38, 39, 40, 41, 42, 43, 44, 45, 46, 47, 48, 49, 50, 51, 52, 53, 54, 55, 56, 57, 58] (by decide +kernel) (by decide +kernel)
set_option maxRecDepth 20000 in
theorem gX9_greatest_X9_holds : GoodIn wsX9_greatest (wsV RX9 119 RX9 yX9_holds wsX9_holds) := goodIn_app (goodIn_of _ (by decide +kernel)) ggX9_greatest_X9_holds
theorem dX9_greatest_0 : decode cX9_greatest 0 = .ok (.aload_n 0, 1) := by decide +kernel
theorem dX9_greatest_1 : decode cX9_greatest 1 = .ok (.iconst 0, 1) := by decide +kernel
theorem dX9_greatest_2 : decode cX9_greatest 2 = .ok (.putfield 1, 3) := by decide +kernel
theorem dX9_greatest_5 : decode cX9_greatest 5 = .ok (.bipush 9, 2) := by decide +kernel
theorem dX9_greatest_7 : decode cX9_greatest 7 = .ok (.istore_n 2, 1) := by decide +kernel
theorem dX9_greatest_8 : decode cX9_greatest 8 = .ok (.aload_n 0, 1) := by decide +kernel
theorem dX9_greatest_9 : decode cX9_greatest 9 = .ok (.iload_n 2, 1) := by decide +kernel
theorem dX9_greatest_10 : decode cX9_greatest 10 = .ok (.iload_n 1, 1) := by decide +kernel
theorem dX9_greatest_11 : decode cX9_greatest 11 = .ok (.invokevirtual 119, 3) := by decide +kernel
theorem dX9_greatest_14 : decode cX9_greatest 14 = .ok (.ifCond .ne 9, 3) := by decide +kernel
theorem dX9_greatest_17 : decode cX9_greatest 17 = .ok (.iinc 2 (-1), 3) := by decide +kernel
theorem dX9_greatest_20 : decode cX9_greatest 20 = .ok (.goto (-12), 3) := by decide +kernel
theorem dX9_greatest_23 : decode cX9_greatest 23 = .ok (.iload_n 2, 1) := by decide +kernel
theorem dX9_greatest_24 : decode cX9_greatest 24 = .ok (.ireturn, 1) := by decide +kernel
set_option maxRecDepth 20000 in
theorem ggX9_isBare_X9_tideIn : GoodIn wsX9_isBare wsX9_tideIn := goodIn_r _ [6, 7, 8, 9, 10, 11, 12, 13, 14, 15, 16, 17, 18, 19, 20, 21, 22, 23, 24, 25, 26] (by decide +kernel) (by decide +kernel)
set_option maxRecDepth 20000 in
theorem gX9_isBare_X9_tideIn : GoodIn wsX9_isBare (wsV RX9 106 RX9 yX9_tideIn wsX9_tideIn) := goodIn_app (goodIn_of _ (by decide +kernel)) ggX9_isBare_X9_tideIn
theorem dX9_isBare_0 : decode cX9_isBare 0 = .ok (.iconst 4, 1) := by decide +kernel
theorem dX9_isBare_1 : decode cX9_isBare 1 = .ok (.aload_n 0, 1) := by decide +kernel
theorem dX9_isBare_2 : decode cX9_isBare 2 = .ok (.getfield 13, 3) := by decide +kernel
theorem dX9_isBare_5 : decode cX9_isBare 5 = .ok (.bipush 73, 2) := by decide +kernel
theorem dX9_isBare_7 : decode cX9_isBare 7 = .ok (.iload_n 1, 1) := by decide +kernel
theorem dX9_isBare_8 : decode cX9_isBare 8 = .ok (.iadd, 1) := by decide +kernel
theorem dX9_isBare_9 : decode cX9_isBare 9 = .ok (.iaload, 1) := by decide +kernel
theorem dX9_isBare_10 : decode cX9_isBare 10 = .ok (.imul, 1) := by decide +kernel
theorem dX9_isBare_11 : decode cX9_isBare 11 = .ok (.aload_n 0, 1) := by decide +kernel
theorem dX9_isBare_12 : decode cX9_isBare 12 = .ok (.getfield 13, 3) := by decide +kernel
theorem dX9_isBare_15 : decode cX9_isBare 15 = .ok (.bipush 85, 2) := by decide +kernel
theorem dX9_isBare_17 : decode cX9_isBare 17 = .ok (.iload_n 1, 1) := by decide +kernel
theorem dX9_isBare_18 : decode cX9_isBare 18 = .ok (.iadd, 1) := by decide +kernel
theorem dX9_isBare_19 : decode cX9_isBare 19 = .ok (.iaload, 1) := by decide +kernel
theorem dX9_isBare_20 : decode cX9_isBare 20 = .ok (.ifCond .ne 14, 3) := by decide +kernel
theorem dX9_isBare_23 : decode cX9_isBare 23 = .ok (.iconst 3, 1) := by decide +kernel
theorem dX9_isBare_24 : decode cX9_isBare 24 = .ok (.aload_n 0, 1) := by decide +kernel
theorem dX9_isBare_25 : decode cX9_isBare 25 = .ok (.getfield 13, 3) := by decide +kernel
theorem dX9_isBare_28 : decode cX9_isBare 28 = .ok (.iconst 1, 1) := by decide +kernel
theorem dX9_isBare_29 : decode cX9_isBare 29 = .ok (.iaload, 1) := by decide +kernel
theorem dX9_isBare_30 : decode cX9_isBare 30 = .ok (.imul, 1) := by decide +kernel
theorem dX9_isBare_31 : decode cX9_isBare 31 = .ok (.goto 12, 3) := by decide +kernel
theorem dX9_isBare_34 : decode cX9_isBare 34 = .ok (.bipush (-3), 2) := by decide +kernel
theorem dX9_isBare_36 : decode cX9_isBare 36 = .ok (.aload_n 0, 1) := by decide +kernel
theorem dX9_isBare_37 : decode cX9_isBare 37 = .ok (.getfield 13, 3) := by decide +kernel
theorem dX9_isBare_40 : decode cX9_isBare 40 = .ok (.iconst 1, 1) := by decide +kernel
theorem dX9_isBare_41 : decode cX9_isBare 41 = .ok (.iaload, 1) := by decide +kernel
theorem dX9_isBare_42 : decode cX9_isBare 42 = .ok (.imul, 1) := by decide +kernel
theorem dX9_isBare_43 : decode cX9_isBare 43 = .ok (.iadd, 1) := by decide +kernel
theorem dX9_isBare_44 : decode cX9_isBare 44 = .ok (.istore_n 3, 1) := by decide +kernel
theorem dX9_isBare_45 : decode cX9_isBare 45 = .ok (.aload_n 0, 1) := by decide +kernel
theorem dX9_isBare_46 : decode cX9_isBare 46 = .ok (.iload_n 2, 1) := by decide +kernel
theorem dX9_isBare_47 : decode cX9_isBare 47 = .ok (.invokevirtual 106, 3) := by decide +kernel
theorem dX9_isBare_50 : decode cX9_isBare 50 = .ok (.iload_n 3, 1) := by decide +kernel
theorem dX9_isBare_51 : decode cX9_isBare 51 = .ok (.if_icmp .ge 7, 3) := by decide +kernel
theorem dX9_isBare_54 : decode cX9_isBare 54 = .ok (.iconst 1, 1) := by decide +kernel
theorem dX9_isBare_55 : decode cX9_isBare 55 = .ok (.goto 4, 3) := by decide +kernel
theorem dX9_isBare_58 : decode cX9_isBare 58 = .ok (.iconst 0, 1) := by decide +kernel
theorem dX9_isBare_59 : decode cX9_isBare 59 = .ok (.ireturn, 1) := by decide +kernel
set_option maxRecDepth 20000 in
theorem ggX9_seamTold_X9_in : GoodIn wsX9_seamTold wsX9_in := goodIn_r _ [7] (by decide +kernel) (by decide +kernel)
set_option maxRecDepth 20000 in
theorem gX9_seamTold_X9_in : GoodIn wsX9_seamTold (va_wsS RX9 46 yX9_in wsX9_in) := goodIn_app (goodIn_of _ (by decide +kernel)) ggX9_seamTold_X9_in
set_option maxRecDepth 20000 in
theorem ggX9_seamTold_X9_isBare : GoodIn wsX9_seamTold wsX9_isBare := goodIn_r _ [11, 2, 12, 13, 14, 6, 15, 16, 17, 18, 19, 20, 21, 22, 23, 24, 25, 26, 27, 28, 29, 30, 31, 32, 33, 34, 35] (by decide +kernel) (by decide +kernel)
set_option maxRecDepth 20000 in
theorem gX9_seamTold_X9_isBare : GoodIn wsX9_seamTold (wsV RX9 129 RX9 yX9_isBare wsX9_isBare) := goodIn_app (goodIn_of _ (by decide +kernel)) ggX9_seamTold_X9_isBare
theorem dX9_seamTold_0 : decode cX9_seamTold 0 = .ok (.aload_n 0, 1) := by decide +kernel
theorem dX9_seamTold_1 : decode cX9_seamTold 1 = .ok (.iconst 0, 1) := by decide +kernel
theorem dX9_seamTold_2 : decode cX9_seamTold 2 = .ok (.putfield 1, 3) := by decide +kernel
theorem dX9_seamTold_5 : decode cX9_seamTold 5 = .ok (.iload_n 1, 1) := by decide +kernel
theorem dX9_seamTold_6 : decode cX9_seamTold 6 = .ok (.i2l, 1) := by decide +kernel
theorem dX9_seamTold_7 : decode cX9_seamTold 7 = .ok (.lconst 0, 1) := by decide +kernel
theorem dX9_seamTold_8 : decode cX9_seamTold 8 = .ok (.aload_n 0, 1) := by decide +kernel
theorem dX9_seamTold_9 : decode cX9_seamTold 9 = .ok (.getfield 13, 3) := by decide +kernel
theorem dX9_seamTold_12 : decode cX9_seamTold 12 = .ok (.bipush 12, 2) := by decide +kernel
theorem dX9_seamTold_14 : decode cX9_seamTold 14 = .ok (.iaload, 1) := by decide +kernel
theorem dX9_seamTold_15 : decode cX9_seamTold 15 = .ok (.iconst 1, 1) := by decide +kernel
theorem dX9_seamTold_16 : decode cX9_seamTold 16 = .ok (.isub, 1) := by decide +kernel
theorem dX9_seamTold_17 : decode cX9_seamTold 17 = .ok (.i2l, 1) := by decide +kernel
theorem dX9_seamTold_18 : decode cX9_seamTold 18 = .ok (.invokestatic 46, 3) := by decide +kernel
theorem dX9_seamTold_21 : decode cX9_seamTold 21 = .ok (.ifCond .eq 15, 3) := by decide +kernel
theorem dX9_seamTold_24 : decode cX9_seamTold 24 = .ok (.iload_n 2, 1) := by decide +kernel
theorem dX9_seamTold_25 : decode cX9_seamTold 25 = .ok (.i2l, 1) := by decide +kernel
theorem dX9_seamTold_26 : decode cX9_seamTold 26 = .ok (.lconst 0, 1) := by decide +kernel
theorem dX9_seamTold_27 : decode cX9_seamTold 27 = .ok (.ldc2_w 127, 3) := by decide +kernel
theorem dX9_seamTold_30 : decode cX9_seamTold 30 = .ok (.invokestatic 46, 3) := by decide +kernel
theorem dX9_seamTold_33 : decode cX9_seamTold 33 = .ok (.ifCond .ne 5, 3) := by decide +kernel
theorem dX9_seamTold_36 : decode cX9_seamTold 36 = .ok (.iconst (-1), 1) := by decide +kernel
theorem dX9_seamTold_37 : decode cX9_seamTold 37 = .ok (.ireturn, 1) := by decide +kernel
theorem dX9_seamTold_38 : decode cX9_seamTold 38 = .ok (.iload_n 2, 1) := by decide +kernel
theorem dX9_seamTold_39 : decode cX9_seamTold 39 = .ok (.iconst 3, 1) := by decide +kernel
theorem dX9_seamTold_40 : decode cX9_seamTold 40 = .ok (.if_icmp .ge 58, 3) := by decide +kernel
theorem dX9_seamTold_43 : decode cX9_seamTold 43 = .ok (.iload_n 2, 1) := by decide +kernel
theorem dX9_seamTold_44 : decode cX9_seamTold 44 = .ok (.ifCond .ne 16, 3) := by decide +kernel
theorem dX9_seamTold_47 : decode cX9_seamTold 47 = .ok (.aload_n 0, 1) := by decide +kernel
theorem dX9_seamTold_48 : decode cX9_seamTold 48 = .ok (.getfield 13, 3) := by decide +kernel
theorem dX9_seamTold_51 : decode cX9_seamTold 51 = .ok (.sipush 145, 3) := by decide +kernel
theorem dX9_seamTold_54 : decode cX9_seamTold 54 = .ok (.iload_n 1, 1) := by decide +kernel
theorem dX9_seamTold_55 : decode cX9_seamTold 55 = .ok (.iadd, 1) := by decide +kernel
theorem dX9_seamTold_56 : decode cX9_seamTold 56 = .ok (.iaload, 1) := by decide +kernel
theorem dX9_seamTold_57 : decode cX9_seamTold 57 = .ok (.goto 40, 3) := by decide +kernel
theorem dX9_seamTold_60 : decode cX9_seamTold 60 = .ok (.iload_n 2, 1) := by decide +kernel
theorem dX9_seamTold_61 : decode cX9_seamTold 61 = .ok (.iconst 1, 1) := by decide +kernel
theorem dX9_seamTold_62 : decode cX9_seamTold 62 = .ok (.if_icmp .ne 25, 3) := by decide +kernel
theorem dX9_seamTold_65 : decode cX9_seamTold 65 = .ok (.aload_n 0, 1) := by decide +kernel
theorem dX9_seamTold_66 : decode cX9_seamTold 66 = .ok (.iload_n 1, 1) := by decide +kernel
theorem dX9_seamTold_67 : decode cX9_seamTold 67 = .ok (.aload_n 0, 1) := by decide +kernel
theorem dX9_seamTold_68 : decode cX9_seamTold 68 = .ok (.getfield 13, 3) := by decide +kernel
theorem dX9_seamTold_71 : decode cX9_seamTold 71 = .ok (.iconst 0, 1) := by decide +kernel
theorem dX9_seamTold_72 : decode cX9_seamTold 72 = .ok (.iaload, 1) := by decide +kernel
theorem dX9_seamTold_73 : decode cX9_seamTold 73 = .ok (.invokevirtual 129, 3) := by decide +kernel
theorem dX9_seamTold_76 : decode cX9_seamTold 76 = .ok (.ifCond .eq 7, 3) := by decide +kernel
theorem dX9_seamTold_79 : decode cX9_seamTold 79 = .ok (.iconst 1, 1) := by decide +kernel
theorem dX9_seamTold_80 : decode cX9_seamTold 80 = .ok (.goto 17, 3) := by decide +kernel
theorem dX9_seamTold_83 : decode cX9_seamTold 83 = .ok (.iconst 0, 1) := by decide +kernel
theorem dX9_seamTold_84 : decode cX9_seamTold 84 = .ok (.goto 13, 3) := by decide +kernel
theorem dX9_seamTold_87 : decode cX9_seamTold 87 = .ok (.aload_n 0, 1) := by decide +kernel
theorem dX9_seamTold_88 : decode cX9_seamTold 88 = .ok (.getfield 13, 3) := by decide +kernel
theorem dX9_seamTold_91 : decode cX9_seamTold 91 = .ok (.sipush 157, 3) := by decide +kernel
theorem dX9_seamTold_94 : decode cX9_seamTold 94 = .ok (.iload_n 1, 1) := by decide +kernel
theorem dX9_seamTold_95 : decode cX9_seamTold 95 = .ok (.iadd, 1) := by decide +kernel
theorem dX9_seamTold_96 : decode cX9_seamTold 96 = .ok (.iaload, 1) := by decide +kernel
theorem dX9_seamTold_97 : decode cX9_seamTold 97 = .ok (.ireturn, 1) := by decide +kernel
theorem dX9_seamTold_98 : decode cX9_seamTold 98 = .ok (.iconst 0, 1) := by decide +kernel
theorem dX9_seamTold_99 : decode cX9_seamTold 99 = .ok (.istore_n 3, 1) := by decide +kernel
theorem dX9_seamTold_100 : decode cX9_seamTold 100 = .ok (.aload_n 0, 1) := by decide +kernel
theorem dX9_seamTold_101 : decode cX9_seamTold 101 = .ok (.getfield 13, 3) := by decide +kernel
theorem dX9_seamTold_104 : decode cX9_seamTold 104 = .ok (.iconst 0, 1) := by decide +kernel
theorem dX9_seamTold_105 : decode cX9_seamTold 105 = .ok (.iaload, 1) := by decide +kernel
theorem dX9_seamTold_106 : decode cX9_seamTold 106 = .ok (.iload_n 3, 1) := by decide +kernel
theorem dX9_seamTold_107 : decode cX9_seamTold 107 = .ok (.iadd, 1) := by decide +kernel
theorem dX9_seamTold_108 : decode cX9_seamTold 108 = .ok (.bipush 96, 2) := by decide +kernel
theorem dX9_seamTold_110 : decode cX9_seamTold 110 = .ok (.if_icmp .ge 25, 3) := by decide +kernel
theorem dX9_seamTold_113 : decode cX9_seamTold 113 = .ok (.aload_n 0, 1) := by decide +kernel
theorem dX9_seamTold_114 : decode cX9_seamTold 114 = .ok (.iload_n 1, 1) := by decide +kernel
theorem dX9_seamTold_115 : decode cX9_seamTold 115 = .ok (.aload_n 0, 1) := by decide +kernel
theorem dX9_seamTold_116 : decode cX9_seamTold 116 = .ok (.getfield 13, 3) := by decide +kernel
theorem dX9_seamTold_119 : decode cX9_seamTold 119 = .ok (.iconst 0, 1) := by decide +kernel
theorem dX9_seamTold_120 : decode cX9_seamTold 120 = .ok (.iaload, 1) := by decide +kernel
theorem dX9_seamTold_121 : decode cX9_seamTold 121 = .ok (.iload_n 3, 1) := by decide +kernel
theorem dX9_seamTold_122 : decode cX9_seamTold 122 = .ok (.iadd, 1) := by decide +kernel
theorem dX9_seamTold_123 : decode cX9_seamTold 123 = .ok (.invokevirtual 129, 3) := by decide +kernel
theorem dX9_seamTold_126 : decode cX9_seamTold 126 = .ok (.ifCond .eq 9, 3) := by decide +kernel
theorem dX9_seamTold_129 : decode cX9_seamTold 129 = .ok (.iinc 3 1, 3) := by decide +kernel
theorem dX9_seamTold_132 : decode cX9_seamTold 132 = .ok (.goto (-32), 3) := by decide +kernel
theorem dX9_seamTold_135 : decode cX9_seamTold 135 = .ok (.iload_n 3, 1) := by decide +kernel
theorem dX9_seamTold_136 : decode cX9_seamTold 136 = .ok (.ireturn, 1) := by decide +kernel
set_option maxRecDepth 20000 in
theorem ggX9_move_X9_in : GoodIn wsX9_move wsX9_in := goodIn_r _ [6] (by decide +kernel) (by decide +kernel)
set_option maxRecDepth 20000 in
theorem gX9_move_X9_in : GoodIn wsX9_move (va_wsS RX9 46 yX9_in wsX9_in) := goodIn_app (goodIn_of _ (by decide +kernel)) ggX9_move_X9_in
set_option maxRecDepth 20000 in
theorem ggX9_move_X9_isLost : GoodIn wsX9_move wsX9_isLost := goodIn_r _ [10, 2, 16, 17, 18, 19, 20, 21, 22, 23, 24, 25, 26, 27, 28, 29, 30, 31, 32, 33, 34] (by decide +kernel) (by decide +kernel)
set_option maxRecDepth 20000 in
theorem gX9_move_X9_isLost : GoodIn wsX9_move (wsV RX9 123 RX9 yX9_isLost wsX9_isLost) := goodIn_app (goodIn_of _ (by decide +kernel)) ggX9_move_X9_isLost
set_option maxRecDepth 20000 in
theorem ggX9_move_X9_total : GoodIn wsX9_move wsX9_total := goodIn_r _ [14, 15, 2, 16, 17, 18, 19, 20, 21, 22, 23, 24, 25, 26, 27, 28, 29, 30, 31, 32, 33, 34] (by decide +kernel) (by decide +kernel)
set_option maxRecDepth 20000 in
theorem gX9_move_X9_total : GoodIn wsX9_move (wsV RX9 78 RX9 yX9_total wsX9_total) := goodIn_app (goodIn_of _ (by decide +kernel)) ggX9_move_X9_total
theorem dX9_move_0 : decode cX9_move 0 = .ok (.aload_n 0, 1) := by decide +kernel
theorem dX9_move_1 : decode cX9_move 1 = .ok (.iconst 0, 1) := by decide +kernel
theorem dX9_move_2 : decode cX9_move 2 = .ok (.putfield 1, 3) := by decide +kernel
theorem dX9_move_5 : decode cX9_move 5 = .ok (.iload_n 1, 1) := by decide +kernel
theorem dX9_move_6 : decode cX9_move 6 = .ok (.i2l, 1) := by decide +kernel
theorem dX9_move_7 : decode cX9_move 7 = .ok (.lconst 0, 1) := by decide +kernel
theorem dX9_move_8 : decode cX9_move 8 = .ok (.aload_n 0, 1) := by decide +kernel
theorem dX9_move_9 : decode cX9_move 9 = .ok (.getfield 13, 3) := by decide +kernel
theorem dX9_move_12 : decode cX9_move 12 = .ok (.bipush 10, 2) := by decide +kernel
theorem dX9_move_14 : decode cX9_move 14 = .ok (.iaload, 1) := by decide +kernel
theorem dX9_move_15 : decode cX9_move 15 = .ok (.iconst 1, 1) := by decide +kernel
theorem dX9_move_16 : decode cX9_move 16 = .ok (.isub, 1) := by decide +kernel
theorem dX9_move_17 : decode cX9_move 17 = .ok (.i2l, 1) := by decide +kernel
theorem dX9_move_18 : decode cX9_move 18 = .ok (.invokestatic 46, 3) := by decide +kernel
theorem dX9_move_21 : decode cX9_move 21 = .ok (.ifCond .ne 5, 3) := by decide +kernel
theorem dX9_move_24 : decode cX9_move 24 = .ok (.iconst (-1), 1) := by decide +kernel
theorem dX9_move_25 : decode cX9_move 25 = .ok (.ireturn, 1) := by decide +kernel
theorem dX9_move_26 : decode cX9_move 26 = .ok (.aload_n 0, 1) := by decide +kernel
theorem dX9_move_27 : decode cX9_move 27 = .ok (.getfield 13, 3) := by decide +kernel
theorem dX9_move_30 : decode cX9_move 30 = .ok (.iconst 3, 1) := by decide +kernel
theorem dX9_move_31 : decode cX9_move 31 = .ok (.iaload, 1) := by decide +kernel
theorem dX9_move_32 : decode cX9_move 32 = .ok (.iconst 1, 1) := by decide +kernel
theorem dX9_move_33 : decode cX9_move 33 = .ok (.if_icmp .eq 10, 3) := by decide +kernel
theorem dX9_move_36 : decode cX9_move 36 = .ok (.aload_n 0, 1) := by decide +kernel
theorem dX9_move_37 : decode cX9_move 37 = .ok (.invokevirtual 123, 3) := by decide +kernel
theorem dX9_move_40 : decode cX9_move 40 = .ok (.ifCond .eq 6, 3) := by decide +kernel
theorem dX9_move_43 : decode cX9_move 43 = .ok (.bipush (-2), 2) := by decide +kernel
theorem dX9_move_45 : decode cX9_move 45 = .ok (.ireturn, 1) := by decide +kernel
theorem dX9_move_46 : decode cX9_move 46 = .ok (.aload_n 0, 1) := by decide +kernel
theorem dX9_move_47 : decode cX9_move 47 = .ok (.getfield 13, 3) := by decide +kernel
theorem dX9_move_50 : decode cX9_move 50 = .ok (.bipush 37, 2) := by decide +kernel
theorem dX9_move_52 : decode cX9_move 52 = .ok (.iload_n 1, 1) := by decide +kernel
theorem dX9_move_53 : decode cX9_move 53 = .ok (.iadd, 1) := by decide +kernel
theorem dX9_move_54 : decode cX9_move 54 = .ok (.iaload, 1) := by decide +kernel
theorem dX9_move_55 : decode cX9_move 55 = .ok (.iconst 1, 1) := by decide +kernel
theorem dX9_move_56 : decode cX9_move 56 = .ok (.if_icmp .ne 54, 3) := by decide +kernel
theorem dX9_move_59 : decode cX9_move 59 = .ok (.iconst 0, 1) := by decide +kernel
theorem dX9_move_60 : decode cX9_move 60 = .ok (.istore_n 2, 1) := by decide +kernel
theorem dX9_move_61 : decode cX9_move 61 = .ok (.iload_n 2, 1) := by decide +kernel
theorem dX9_move_62 : decode cX9_move 62 = .ok (.aload_n 0, 1) := by decide +kernel
theorem dX9_move_63 : decode cX9_move 63 = .ok (.getfield 13, 3) := by decide +kernel
theorem dX9_move_66 : decode cX9_move 66 = .ok (.bipush 10, 2) := by decide +kernel
theorem dX9_move_68 : decode cX9_move 68 = .ok (.iaload, 1) := by decide +kernel
theorem dX9_move_69 : decode cX9_move 69 = .ok (.if_icmp .ge 38, 3) := by decide +kernel
theorem dX9_move_72 : decode cX9_move 72 = .ok (.aload_n 0, 1) := by decide +kernel
theorem dX9_move_73 : decode cX9_move 73 = .ok (.getfield 13, 3) := by decide +kernel
theorem dX9_move_76 : decode cX9_move 76 = .ok (.bipush 25, 2) := by decide +kernel
theorem dX9_move_78 : decode cX9_move 78 = .ok (.iload_n 2, 1) := by decide +kernel
theorem dX9_move_79 : decode cX9_move 79 = .ok (.iadd, 1) := by decide +kernel
theorem dX9_move_80 : decode cX9_move 80 = .ok (.iaload, 1) := by decide +kernel
theorem dX9_move_81 : decode cX9_move 81 = .ok (.iload_n 1, 1) := by decide +kernel
theorem dX9_move_82 : decode cX9_move 82 = .ok (.if_icmp .ne 19, 3) := by decide +kernel
theorem dX9_move_85 : decode cX9_move 85 = .ok (.aload_n 0, 1) := by decide +kernel
theorem dX9_move_86 : decode cX9_move 86 = .ok (.getfield 13, 3) := by decide +kernel
theorem dX9_move_89 : decode cX9_move 89 = .ok (.bipush 37, 2) := by decide +kernel
theorem dX9_move_91 : decode cX9_move 91 = .ok (.iload_n 2, 1) := by decide +kernel
theorem dX9_move_92 : decode cX9_move 92 = .ok (.iadd, 1) := by decide +kernel
theorem dX9_move_93 : decode cX9_move 93 = .ok (.iaload, 1) := by decide +kernel
theorem dX9_move_94 : decode cX9_move 94 = .ok (.iconst 1, 1) := by decide +kernel
theorem dX9_move_95 : decode cX9_move 95 = .ok (.if_icmp .ne 6, 3) := by decide +kernel
theorem dX9_move_98 : decode cX9_move 98 = .ok (.bipush (-2), 2) := by decide +kernel
theorem dX9_move_100 : decode cX9_move 100 = .ok (.ireturn, 1) := by decide +kernel
theorem dX9_move_101 : decode cX9_move 101 = .ok (.iinc 2 1, 3) := by decide +kernel
theorem dX9_move_104 : decode cX9_move 104 = .ok (.goto (-43), 3) := by decide +kernel
theorem dX9_move_107 : decode cX9_move 107 = .ok (.goto 38, 3) := by decide +kernel
theorem dX9_move_110 : decode cX9_move 110 = .ok (.aload_n 0, 1) := by decide +kernel
theorem dX9_move_111 : decode cX9_move 111 = .ok (.getfield 13, 3) := by decide +kernel
theorem dX9_move_114 : decode cX9_move 114 = .ok (.bipush 25, 2) := by decide +kernel
theorem dX9_move_116 : decode cX9_move 116 = .ok (.iload_n 1, 1) := by decide +kernel
theorem dX9_move_117 : decode cX9_move 117 = .ok (.iadd, 1) := by decide +kernel
theorem dX9_move_118 : decode cX9_move 118 = .ok (.iaload, 1) := by decide +kernel
theorem dX9_move_119 : decode cX9_move 119 = .ok (.ifCond .lt 26, 3) := by decide +kernel
theorem dX9_move_122 : decode cX9_move 122 = .ok (.aload_n 0, 1) := by decide +kernel
theorem dX9_move_123 : decode cX9_move 123 = .ok (.getfield 13, 3) := by decide +kernel
theorem dX9_move_126 : decode cX9_move 126 = .ok (.bipush 37, 2) := by decide +kernel
theorem dX9_move_128 : decode cX9_move 128 = .ok (.aload_n 0, 1) := by decide +kernel
theorem dX9_move_129 : decode cX9_move 129 = .ok (.getfield 13, 3) := by decide +kernel
theorem dX9_move_132 : decode cX9_move 132 = .ok (.bipush 25, 2) := by decide +kernel
theorem dX9_move_134 : decode cX9_move 134 = .ok (.iload_n 1, 1) := by decide +kernel
theorem dX9_move_135 : decode cX9_move 135 = .ok (.iadd, 1) := by decide +kernel
theorem dX9_move_136 : decode cX9_move 136 = .ok (.iaload, 1) := by decide +kernel
theorem dX9_move_137 : decode cX9_move 137 = .ok (.iadd, 1) := by decide +kernel
theorem dX9_move_138 : decode cX9_move 138 = .ok (.iaload, 1) := by decide +kernel
theorem dX9_move_139 : decode cX9_move 139 = .ok (.ifCond .ne 6, 3) := by decide +kernel
theorem dX9_move_142 : decode cX9_move 142 = .ok (.bipush (-2), 2) := by decide +kernel
theorem dX9_move_144 : decode cX9_move 144 = .ok (.ireturn, 1) := by decide +kernel
theorem dX9_move_145 : decode cX9_move 145 = .ok (.aload_n 0, 1) := by decide +kernel
theorem dX9_move_146 : decode cX9_move 146 = .ok (.getfield 13, 3) := by decide +kernel
theorem dX9_move_149 : decode cX9_move 149 = .ok (.bipush 37, 2) := by decide +kernel
theorem dX9_move_151 : decode cX9_move 151 = .ok (.iload_n 1, 1) := by decide +kernel
theorem dX9_move_152 : decode cX9_move 152 = .ok (.iadd, 1) := by decide +kernel
theorem dX9_move_153 : decode cX9_move 153 = .ok (.iconst 1, 1) := by decide +kernel
theorem dX9_move_154 : decode cX9_move 154 = .ok (.aload_n 0, 1) := by decide +kernel
theorem dX9_move_155 : decode cX9_move 155 = .ok (.getfield 13, 3) := by decide +kernel
theorem dX9_move_158 : decode cX9_move 158 = .ok (.bipush 37, 2) := by decide +kernel
theorem dX9_move_160 : decode cX9_move 160 = .ok (.iload_n 1, 1) := by decide +kernel
theorem dX9_move_161 : decode cX9_move 161 = .ok (.iadd, 1) := by decide +kernel
theorem dX9_move_162 : decode cX9_move 162 = .ok (.iaload, 1) := by decide +kernel
theorem dX9_move_163 : decode cX9_move 163 = .ok (.isub, 1) := by decide +kernel
theorem dX9_move_164 : decode cX9_move 164 = .ok (.iastore, 1) := by decide +kernel
theorem dX9_move_165 : decode cX9_move 165 = .ok (.aload_n 0, 1) := by decide +kernel
theorem dX9_move_166 : decode cX9_move 166 = .ok (.getfield 13, 3) := by decide +kernel
theorem dX9_move_169 : decode cX9_move 169 = .ok (.iconst 3, 1) := by decide +kernel
theorem dX9_move_170 : decode cX9_move 170 = .ok (.iconst 1, 1) := by decide +kernel
theorem dX9_move_171 : decode cX9_move 171 = .ok (.iastore, 1) := by decide +kernel
theorem dX9_move_172 : decode cX9_move 172 = .ok (.aload_n 0, 1) := by decide +kernel
theorem dX9_move_173 : decode cX9_move 173 = .ok (.getfield 13, 3) := by decide +kernel
theorem dX9_move_176 : decode cX9_move 176 = .ok (.bipush 9, 2) := by decide +kernel
theorem dX9_move_178 : decode cX9_move 178 = .ok (.dup2, 1) := by decide +kernel
theorem dX9_move_179 : decode cX9_move 179 = .ok (.iaload, 1) := by decide +kernel
theorem dX9_move_180 : decode cX9_move 180 = .ok (.iconst 1, 1) := by decide +kernel
theorem dX9_move_181 : decode cX9_move 181 = .ok (.iadd, 1) := by decide +kernel
theorem dX9_move_182 : decode cX9_move 182 = .ok (.iastore, 1) := by decide +kernel
theorem dX9_move_183 : decode cX9_move 183 = .ok (.aload_n 0, 1) := by decide +kernel
theorem dX9_move_184 : decode cX9_move 184 = .ok (.invokevirtual 78, 3) := by decide +kernel
theorem dX9_move_187 : decode cX9_move 187 = .ok (.ireturn, 1) := by decide +kernel
set_option maxRecDepth 20000 in
theorem ggX9_heel_X9_isLost : GoodIn wsX9_heel wsX9_isLost := goodIn_r _ [9, 2, 54, 55, 56, 57, 58, 59, 60, 61, 62, 63, 64, 65, 66, 67, 68, 69, 70, 71, 72] (by decide +kernel) (by decide +kernel)
set_option maxRecDepth 20000 in
theorem gX9_heel_X9_isLost : GoodIn wsX9_heel (wsV RX9 123 RX9 yX9_isLost wsX9_isLost) := goodIn_app (goodIn_of _ (by decide +kernel)) ggX9_heel_X9_isLost
set_option maxRecDepth 20000 in
theorem ggX9_heel_X9_in : GoodIn wsX9_heel wsX9_in := goodIn_r _ [12] (by decide +kernel) (by decide +kernel)
set_option maxRecDepth 20000 in
theorem gX9_heel_X9_in : GoodIn wsX9_heel (va_wsS RX9 46 yX9_in wsX9_in) := goodIn_app (goodIn_of _ (by decide +kernel)) ggX9_heel_X9_in
set_option maxRecDepth 20000 in
theorem ggX9_heel_X9_rains : GoodIn wsX9_heel wsX9_rains := goodIn_r _ [16, 17, 54, 55, 56, 57, 58, 59, 60, 61, 62, 63, 64, 65, 66, 67, 68, 69, 70, 71, 72] (by decide +kernel) (by decide +kernel)
set_option maxRecDepth 20000 in
theorem gX9_heel_X9_rains : GoodIn wsX9_heel (wsV RX9 116 RX9 yX9_rains wsX9_rains) := goodIn_app (goodIn_of _ (by decide +kernel)) ggX9_heel_X9_rains
set_option maxRecDepth 20000 in
theorem ggX9_heel_X9_holds : GoodIn wsX9_heel wsX9_holds := goodIn_r _ [21, 2, 22, 23, 24, 25, 8, 26, 27, 28, 29, 30, 31, 32, 33, 34, 35, 36, 37, 38, 39, 40, 41, 42, 43, 44, 45, 46, 47, 48, 49, 50, 51, 52, 53, 54, 55, 56, 57, 58, 59, 60, 61, 62, 63, 64, 65, 66, 67, 68, 69, 70, 71, 72] (by decide +kernel) (by decide +kernel)
set_option maxRecDepth 20000 in
theorem gX9_heel_X9_holds : GoodIn wsX9_heel (wsV RX9 119 RX9 yX9_holds wsX9_holds) := goodIn_app (goodIn_of _ (by decide +kernel)) ggX9_heel_X9_holds
theorem dX9_heel_0 : decode cX9_heel 0 = .ok (.aload_n 0, 1) := by decide +kernel
theorem dX9_heel_1 : decode cX9_heel 1 = .ok (.iconst 0, 1) := by decide +kernel
theorem dX9_heel_2 : decode cX9_heel 2 = .ok (.putfield 1, 3) := by decide +kernel
theorem dX9_heel_5 : decode cX9_heel 5 = .ok (.iload_n 1, 1) := by decide +kernel
theorem dX9_heel_6 : decode cX9_heel 6 = .ok (.iconst 1, 1) := by decide +kernel
theorem dX9_heel_7 : decode cX9_heel 7 = .ok (.if_icmp .eq 11, 3) := by decide +kernel
theorem dX9_heel_10 : decode cX9_heel 10 = .ok (.iload_n 1, 1) := by decide +kernel
theorem dX9_heel_11 : decode cX9_heel 11 = .ok (.iconst (-1), 1) := by decide +kernel
theorem dX9_heel_12 : decode cX9_heel 12 = .ok (.if_icmp .eq 6, 3) := by decide +kernel
theorem dX9_heel_15 : decode cX9_heel 15 = .ok (.bipush (-100), 2) := by decide +kernel
theorem dX9_heel_17 : decode cX9_heel 17 = .ok (.ireturn, 1) := by decide +kernel
theorem dX9_heel_18 : decode cX9_heel 18 = .ok (.aload_n 0, 1) := by decide +kernel
theorem dX9_heel_19 : decode cX9_heel 19 = .ok (.getfield 13, 3) := by decide +kernel
theorem dX9_heel_22 : decode cX9_heel 22 = .ok (.iconst 1, 1) := by decide +kernel
theorem dX9_heel_23 : decode cX9_heel 23 = .ok (.iaload, 1) := by decide +kernel
theorem dX9_heel_24 : decode cX9_heel 24 = .ok (.iload_n 1, 1) := by decide +kernel
theorem dX9_heel_25 : decode cX9_heel 25 = .ok (.iadd, 1) := by decide +kernel
theorem dX9_heel_26 : decode cX9_heel 26 = .ok (.istore_n 2, 1) := by decide +kernel
theorem dX9_heel_27 : decode cX9_heel 27 = .ok (.aload_n 0, 1) := by decide +kernel
theorem dX9_heel_28 : decode cX9_heel 28 = .ok (.invokevirtual 123, 3) := by decide +kernel
theorem dX9_heel_31 : decode cX9_heel 31 = .ok (.ifCond .ne 45, 3) := by decide +kernel
theorem dX9_heel_34 : decode cX9_heel 34 = .ok (.aload_n 0, 1) := by decide +kernel
theorem dX9_heel_35 : decode cX9_heel 35 = .ok (.getfield 13, 3) := by decide +kernel
theorem dX9_heel_38 : decode cX9_heel 38 = .ok (.iconst 4, 1) := by decide +kernel
theorem dX9_heel_39 : decode cX9_heel 39 = .ok (.iaload, 1) := by decide +kernel
theorem dX9_heel_40 : decode cX9_heel 40 = .ok (.iconst 1, 1) := by decide +kernel
theorem dX9_heel_41 : decode cX9_heel 41 = .ok (.if_icmp .eq 35, 3) := by decide +kernel
theorem dX9_heel_44 : decode cX9_heel 44 = .ok (.iload_n 2, 1) := by decide +kernel
theorem dX9_heel_45 : decode cX9_heel 45 = .ok (.i2l, 1) := by decide +kernel
theorem dX9_heel_46 : decode cX9_heel 46 = .ok (.ldc2_w 132, 3) := by decide +kernel
theorem dX9_heel_49 : decode cX9_heel 49 = .ok (.ldc2_w 134, 3) := by decide +kernel
theorem dX9_heel_52 : decode cX9_heel 52 = .ok (.invokestatic 46, 3) := by decide +kernel
theorem dX9_heel_55 : decode cX9_heel 55 = .ok (.ifCond .eq 21, 3) := by decide +kernel
theorem dX9_heel_58 : decode cX9_heel 58 = .ok (.aload_n 0, 1) := by decide +kernel
theorem dX9_heel_59 : decode cX9_heel 59 = .ok (.iload_n 2, 1) := by decide +kernel
theorem dX9_heel_60 : decode cX9_heel 60 = .ok (.aload_n 0, 1) := by decide +kernel
theorem dX9_heel_61 : decode cX9_heel 61 = .ok (.aload_n 0, 1) := by decide +kernel
theorem dX9_heel_62 : decode cX9_heel 62 = .ok (.getfield 13, 3) := by decide +kernel
theorem dX9_heel_65 : decode cX9_heel 65 = .ok (.iconst 0, 1) := by decide +kernel
theorem dX9_heel_66 : decode cX9_heel 66 = .ok (.iaload, 1) := by decide +kernel
theorem dX9_heel_67 : decode cX9_heel 67 = .ok (.invokevirtual 116, 3) := by decide +kernel
theorem dX9_heel_70 : decode cX9_heel 70 = .ok (.invokevirtual 119, 3) := by decide +kernel
theorem dX9_heel_73 : decode cX9_heel 73 = .ok (.ifCond .ne 6, 3) := by decide +kernel
theorem dX9_heel_76 : decode cX9_heel 76 = .ok (.bipush (-102), 2) := by decide +kernel
theorem dX9_heel_78 : decode cX9_heel 78 = .ok (.ireturn, 1) := by decide +kernel
theorem dX9_heel_79 : decode cX9_heel 79 = .ok (.aload_n 0, 1) := by decide +kernel
theorem dX9_heel_80 : decode cX9_heel 80 = .ok (.getfield 13, 3) := by decide +kernel
theorem dX9_heel_83 : decode cX9_heel 83 = .ok (.iconst 1, 1) := by decide +kernel
theorem dX9_heel_84 : decode cX9_heel 84 = .ok (.iload_n 2, 1) := by decide +kernel
theorem dX9_heel_85 : decode cX9_heel 85 = .ok (.iastore, 1) := by decide +kernel
theorem dX9_heel_86 : decode cX9_heel 86 = .ok (.aload_n 0, 1) := by decide +kernel
theorem dX9_heel_87 : decode cX9_heel 87 = .ok (.getfield 13, 3) := by decide +kernel
theorem dX9_heel_90 : decode cX9_heel 90 = .ok (.iconst 4, 1) := by decide +kernel
theorem dX9_heel_91 : decode cX9_heel 91 = .ok (.iconst 1, 1) := by decide +kernel
theorem dX9_heel_92 : decode cX9_heel 92 = .ok (.iastore, 1) := by decide +kernel
theorem dX9_heel_93 : decode cX9_heel 93 = .ok (.iload_n 2, 1) := by decide +kernel
theorem dX9_heel_94 : decode cX9_heel 94 = .ok (.ireturn, 1) := by decide +kernel
set_option maxRecDepth 20000 in
theorem ggX9_part_X9_ropeOf : GoodIn wsX9_part wsX9_ropeOf := goodIn_r _ [7, 1, 8, 9, 10, 6, 11, 12, 13, 14, 15, 16, 17, 18, 19, 20, 21, 22, 23, 2, 24, 25, 26, 35, 36, 37, 38, 39, 40, 41, 42, 43, 44, 45, 46, 47, 48, 49, 50, 51, 52, 53] (by decide +kernel) (by decide +kernel)
set_option maxRecDepth 20000 in
theorem gX9_part_X9_ropeOf : GoodIn wsX9_part (wsV RX9 96 RX9 yX9_ropeOf wsX9_ropeOf) := goodIn_app (goodIn_of _ (by decide +kernel)) ggX9_part_X9_ropeOf
set_option maxRecDepth 20000 in
theorem ggX9_part_X9_may : GoodIn wsX9_part wsX9_may := goodIn_r _ [30, 1, 35, 36, 37, 38, 39, 40, 41, 42, 43, 44, 45, 46, 47, 48, 49, 50, 51, 52, 53] (by decide +kernel) (by decide +kernel)
set_option maxRecDepth 20000 in
theorem gX9_part_X9_may : GoodIn wsX9_part (wsV RX9 99 RX9 yX9_may wsX9_may) := goodIn_app (goodIn_of _ (by decide +kernel)) ggX9_part_X9_may
set_option maxRecDepth 20000 in
theorem ggX9_part_X9_mastOf : GoodIn wsX9_part wsX9_mastOf := goodIn_r _ [34, 1, 8, 9, 10, 6, 11, 12, 13, 14, 15, 16, 17, 18, 19, 20, 21, 22, 23, 2, 24, 25, 26, 35, 36, 37, 38, 39, 40, 41, 42, 43, 44, 45, 46, 47, 48, 49, 50, 51, 52, 53] (by decide +kernel) (by decide +kernel)
set_option maxRecDepth 20000 in
theorem gX9_part_X9_mastOf : GoodIn wsX9_part (wsV RX9 103 RX9 yX9_mastOf wsX9_mastOf) := goodIn_app (goodIn_of _ (by decide +kernel)) ggX9_part_X9_mastOf
set_option maxRecDepth 20000 in
theorem ggX9_part_X9_wholes : GoodIn wsX9_part wsX9_wholes := goodIn_r _ [15, 1, 35, 36, 37, 38, 39, 40, 41, 42, 43, 44, 45, 46, 47, 48, 49, 50, 51, 52, 53] (by decide +kernel) (by decide +kernel)
set_option maxRecDepth 20000 in
theorem gX9_part_X9_wholes : GoodIn wsX9_part (wsV RX9 82 RX9 yX9_wholes wsX9_wholes) := goodIn_app (goodIn_of _ (by decide +kernel)) ggX9_part_X9_wholes
theorem dX9_part_0 : decode cX9_part 0 = .ok (.iconst 0, 1) := by decide +kernel
theorem dX9_part_1 : decode cX9_part 1 = .ok (.istore_n 2, 1) := by decide +kernel
theorem dX9_part_2 : decode cX9_part 2 = .ok (.bipush (-4), 2) := by decide +kernel
theorem dX9_part_4 : decode cX9_part 4 = .ok (.istore_n 3, 1) := by decide +kernel
theorem dX9_part_5 : decode cX9_part 5 = .ok (.iconst 0, 1) := by decide +kernel
theorem dX9_part_6 : decode cX9_part 6 = .ok (.istore 4, 2) := by decide +kernel
theorem dX9_part_8 : decode cX9_part 8 = .ok (.iload 4, 2) := by decide +kernel
theorem dX9_part_10 : decode cX9_part 10 = .ok (.aload_n 0, 1) := by decide +kernel
theorem dX9_part_11 : decode cX9_part 11 = .ok (.getfield 13, 3) := by decide +kernel
theorem dX9_part_14 : decode cX9_part 14 = .ok (.bipush 11, 2) := by decide +kernel
theorem dX9_part_16 : decode cX9_part 16 = .ok (.iaload, 1) := by decide +kernel
theorem dX9_part_17 : decode cX9_part 17 = .ok (.if_icmp .ge 61, 3) := by decide +kernel
theorem dX9_part_20 : decode cX9_part 20 = .ok (.aload_n 0, 1) := by decide +kernel
theorem dX9_part_21 : decode cX9_part 21 = .ok (.getfield 13, 3) := by decide +kernel
theorem dX9_part_24 : decode cX9_part 24 = .ok (.bipush 67, 2) := by decide +kernel
theorem dX9_part_26 : decode cX9_part 26 = .ok (.iload 4, 2) := by decide +kernel
theorem dX9_part_28 : decode cX9_part 28 = .ok (.iadd, 1) := by decide +kernel
theorem dX9_part_29 : decode cX9_part 29 = .ok (.iaload, 1) := by decide +kernel
theorem dX9_part_30 : decode cX9_part 30 = .ok (.iconst 1, 1) := by decide +kernel
theorem dX9_part_31 : decode cX9_part 31 = .ok (.if_icmp .ne 26, 3) := by decide +kernel
theorem dX9_part_34 : decode cX9_part 34 = .ok (.aload_n 0, 1) := by decide +kernel
theorem dX9_part_35 : decode cX9_part 35 = .ok (.iload 4, 2) := by decide +kernel
theorem dX9_part_37 : decode cX9_part 37 = .ok (.aload_n 0, 1) := by decide +kernel
theorem dX9_part_38 : decode cX9_part 38 = .ok (.getfield 13, 3) := by decide +kernel
theorem dX9_part_41 : decode cX9_part 41 = .ok (.iconst 1, 1) := by decide +kernel
theorem dX9_part_42 : decode cX9_part 42 = .ok (.iaload, 1) := by decide +kernel
theorem dX9_part_43 : decode cX9_part 43 = .ok (.invokevirtual 96, 3) := by decide +kernel
theorem dX9_part_46 : decode cX9_part 46 = .ok (.aload_n 0, 1) := by decide +kernel
theorem dX9_part_47 : decode cX9_part 47 = .ok (.iload 4, 2) := by decide +kernel
theorem dX9_part_49 : decode cX9_part 49 = .ok (.iload_n 1, 1) := by decide +kernel
theorem dX9_part_50 : decode cX9_part 50 = .ok (.invokevirtual 99, 3) := by decide +kernel
theorem dX9_part_53 : decode cX9_part 53 = .ok (.isub, 1) := by decide +kernel
theorem dX9_part_54 : decode cX9_part 54 = .ok (.goto 4, 3) := by decide +kernel
theorem dX9_part_57 : decode cX9_part 57 = .ok (.iconst 0, 1) := by decide +kernel
theorem dX9_part_58 : decode cX9_part 58 = .ok (.istore 5, 2) := by decide +kernel
theorem dX9_part_60 : decode cX9_part 60 = .ok (.iload 5, 2) := by decide +kernel
theorem dX9_part_62 : decode cX9_part 62 = .ok (.iload_n 2, 1) := by decide +kernel
theorem dX9_part_63 : decode cX9_part 63 = .ok (.if_icmp .le 9, 3) := by decide +kernel
theorem dX9_part_66 : decode cX9_part 66 = .ok (.iload 5, 2) := by decide +kernel
theorem dX9_part_68 : decode cX9_part 68 = .ok (.istore_n 2, 1) := by decide +kernel
theorem dX9_part_69 : decode cX9_part 69 = .ok (.iload 4, 2) := by decide +kernel
theorem dX9_part_71 : decode cX9_part 71 = .ok (.istore_n 3, 1) := by decide +kernel
theorem dX9_part_72 : decode cX9_part 72 = .ok (.iinc 4 1, 3) := by decide +kernel
theorem dX9_part_75 : decode cX9_part 75 = .ok (.goto (-67), 3) := by decide +kernel
theorem dX9_part_78 : decode cX9_part 78 = .ok (.iconst 2, 1) := by decide +kernel
theorem dX9_part_79 : decode cX9_part 79 = .ok (.istore 4, 2) := by decide +kernel
theorem dX9_part_81 : decode cX9_part 81 = .ok (.iload 4, 2) := by decide +kernel
theorem dX9_part_83 : decode cX9_part 83 = .ok (.ifCond .lt 95, 3) := by decide +kernel
theorem dX9_part_86 : decode cX9_part 86 = .ok (.iload_n 2, 1) := by decide +kernel
theorem dX9_part_87 : decode cX9_part 87 = .ok (.ifCond .ne 91, 3) := by decide +kernel
theorem dX9_part_90 : decode cX9_part 90 = .ok (.aload_n 0, 1) := by decide +kernel
theorem dX9_part_91 : decode cX9_part 91 = .ok (.getfield 13, 3) := by decide +kernel
theorem dX9_part_94 : decode cX9_part 94 = .ok (.bipush 11, 2) := by decide +kernel
theorem dX9_part_96 : decode cX9_part 96 = .ok (.iaload, 1) := by decide +kernel
theorem dX9_part_97 : decode cX9_part 97 = .ok (.iconst 1, 1) := by decide +kernel
theorem dX9_part_98 : decode cX9_part 98 = .ok (.isub, 1) := by decide +kernel
theorem dX9_part_99 : decode cX9_part 99 = .ok (.istore 5, 2) := by decide +kernel
theorem dX9_part_101 : decode cX9_part 101 = .ok (.iload 5, 2) := by decide +kernel
theorem dX9_part_103 : decode cX9_part 103 = .ok (.ifCond .lt 69, 3) := by decide +kernel
theorem dX9_part_106 : decode cX9_part 106 = .ok (.aload_n 0, 1) := by decide +kernel
theorem dX9_part_107 : decode cX9_part 107 = .ok (.iload 4, 2) := by decide +kernel
theorem dX9_part_109 : decode cX9_part 109 = .ok (.aload_n 0, 1) := by decide +kernel
theorem dX9_part_110 : decode cX9_part 110 = .ok (.getfield 13, 3) := by decide +kernel
theorem dX9_part_113 : decode cX9_part 113 = .ok (.iconst 1, 1) := by decide +kernel
theorem dX9_part_114 : decode cX9_part 114 = .ok (.iaload, 1) := by decide +kernel
theorem dX9_part_115 : decode cX9_part 115 = .ok (.invokevirtual 103, 3) := by decide +kernel
theorem dX9_part_118 : decode cX9_part 118 = .ok (.aload_n 0, 1) := by decide +kernel
theorem dX9_part_119 : decode cX9_part 119 = .ok (.getfield 29, 3) := by decide +kernel
theorem dX9_part_122 : decode cX9_part 122 = .ok (.iconst 5, 1) := by decide +kernel
theorem dX9_part_123 : decode cX9_part 123 = .ok (.iload 4, 2) := by decide +kernel
theorem dX9_part_125 : decode cX9_part 125 = .ok (.iadd, 1) := by decide +kernel
theorem dX9_part_126 : decode cX9_part 126 = .ok (.iaload, 1) := by decide +kernel
theorem dX9_part_127 : decode cX9_part 127 = .ok (.if_icmp .le 37, 3) := by decide +kernel
theorem dX9_part_130 : decode cX9_part 130 = .ok (.aload_n 0, 1) := by decide +kernel
theorem dX9_part_131 : decode cX9_part 131 = .ok (.getfield 13, 3) := by decide +kernel
theorem dX9_part_134 : decode cX9_part 134 = .ok (.bipush 67, 2) := by decide +kernel
theorem dX9_part_136 : decode cX9_part 136 = .ok (.iload 5, 2) := by decide +kernel
theorem dX9_part_138 : decode cX9_part 138 = .ok (.iadd, 1) := by decide +kernel
theorem dX9_part_139 : decode cX9_part 139 = .ok (.iaload, 1) := by decide +kernel
theorem dX9_part_140 : decode cX9_part 140 = .ok (.iconst 1, 1) := by decide +kernel
theorem dX9_part_141 : decode cX9_part 141 = .ok (.if_icmp .ne 23, 3) := by decide +kernel
theorem dX9_part_144 : decode cX9_part 144 = .ok (.aload_n 0, 1) := by decide +kernel
theorem dX9_part_145 : decode cX9_part 145 = .ok (.getfield 13, 3) := by decide +kernel
theorem dX9_part_148 : decode cX9_part 148 = .ok (.bipush 49, 2) := by decide +kernel
theorem dX9_part_150 : decode cX9_part 150 = .ok (.iload 5, 2) := by decide +kernel
theorem dX9_part_152 : decode cX9_part 152 = .ok (.iadd, 1) := by decide +kernel
theorem dX9_part_153 : decode cX9_part 153 = .ok (.iaload, 1) := by decide +kernel
theorem dX9_part_154 : decode cX9_part 154 = .ok (.iload 4, 2) := by decide +kernel
theorem dX9_part_156 : decode cX9_part 156 = .ok (.if_icmp .ne 8, 3) := by decide +kernel
theorem dX9_part_159 : decode cX9_part 159 = .ok (.iload 5, 2) := by decide +kernel
theorem dX9_part_161 : decode cX9_part 161 = .ok (.goto 4, 3) := by decide +kernel
theorem dX9_part_164 : decode cX9_part 164 = .ok (.iload_n 3, 1) := by decide +kernel
theorem dX9_part_165 : decode cX9_part 165 = .ok (.istore_n 3, 1) := by decide +kernel
theorem dX9_part_166 : decode cX9_part 166 = .ok (.iinc 5 (-1), 3) := by decide +kernel
theorem dX9_part_169 : decode cX9_part 169 = .ok (.goto (-68), 3) := by decide +kernel
theorem dX9_part_172 : decode cX9_part 172 = .ok (.iinc 4 (-1), 3) := by decide +kernel
theorem dX9_part_175 : decode cX9_part 175 = .ok (.goto (-94), 3) := by decide +kernel
theorem dX9_part_178 : decode cX9_part 178 = .ok (.iload_n 3, 1) := by decide +kernel
theorem dX9_part_179 : decode cX9_part 179 = .ok (.bipush (-4), 2) := by decide +kernel
theorem dX9_part_181 : decode cX9_part 181 = .ok (.if_icmp .eq 24, 3) := by decide +kernel
theorem dX9_part_184 : decode cX9_part 184 = .ok (.aload_n 0, 1) := by decide +kernel
theorem dX9_part_185 : decode cX9_part 185 = .ok (.getfield 13, 3) := by decide +kernel
theorem dX9_part_188 : decode cX9_part 188 = .ok (.bipush 67, 2) := by decide +kernel
theorem dX9_part_190 : decode cX9_part 190 = .ok (.iload_n 3, 1) := by decide +kernel
theorem dX9_part_191 : decode cX9_part 191 = .ok (.iadd, 1) := by decide +kernel
theorem dX9_part_192 : decode cX9_part 192 = .ok (.iconst 0, 1) := by decide +kernel
theorem dX9_part_193 : decode cX9_part 193 = .ok (.iastore, 1) := by decide +kernel
theorem dX9_part_194 : decode cX9_part 194 = .ok (.aload_n 0, 1) := by decide +kernel
theorem dX9_part_195 : decode cX9_part 195 = .ok (.getfield 13, 3) := by decide +kernel
theorem dX9_part_198 : decode cX9_part 198 = .ok (.bipush 8, 2) := by decide +kernel
theorem dX9_part_200 : decode cX9_part 200 = .ok (.dup2, 1) := by decide +kernel
theorem dX9_part_201 : decode cX9_part 201 = .ok (.iaload, 1) := by decide +kernel
theorem dX9_part_202 : decode cX9_part 202 = .ok (.iconst 1, 1) := by decide +kernel
theorem dX9_part_203 : decode cX9_part 203 = .ok (.iadd, 1) := by decide +kernel
theorem dX9_part_204 : decode cX9_part 204 = .ok (.iastore, 1) := by decide +kernel
theorem dX9_part_205 : decode cX9_part 205 = .ok (.aload_n 0, 1) := by decide +kernel
theorem dX9_part_206 : decode cX9_part 206 = .ok (.invokevirtual 82, 3) := by decide +kernel
theorem dX9_part_209 : decode cX9_part 209 = .ok (.ifCond .ne 10, 3) := by decide +kernel
theorem dX9_part_212 : decode cX9_part 212 = .ok (.aload_n 0, 1) := by decide +kernel
theorem dX9_part_213 : decode cX9_part 213 = .ok (.getfield 13, 3) := by decide +kernel
theorem dX9_part_216 : decode cX9_part 216 = .ok (.iconst 1, 1) := by decide +kernel
theorem dX9_part_217 : decode cX9_part 217 = .ok (.iconst 0, 1) := by decide +kernel
theorem dX9_part_218 : decode cX9_part 218 = .ok (.iastore, 1) := by decide +kernel
theorem dX9_part_219 : decode cX9_part 219 = .ok (.return_, 1) := by decide +kernel
