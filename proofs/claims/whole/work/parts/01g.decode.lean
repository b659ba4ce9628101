theorem dX9_tear_82 : decode cX9_tear 82 = .ok (.getfield 29, 3) := by decide +kernel
theorem dX9_tear_85 : decode cX9_tear 85 = .ok (.iload_n 1, 1) := by decide +kernel
theorem dX9_tear_86 : decode cX9_tear 86 = .ok (.dup2, 1) := by decide +kernel
theorem dX9_tear_87 : decode cX9_tear 87 = .ok (.iaload, 1) := by decide +kernel
theorem dX9_tear_88 : decode cX9_tear 88 = .ok (.iconst 1, 1) := by decide +kernel
theorem dX9_tear_89 : decode cX9_tear 89 = .ok (.isub, 1) := by decide +kernel
theorem dX9_tear_90 : decode cX9_tear 90 = .ok (.iastore, 1) := by decide +kernel
theorem dX9_tear_91 : decode cX9_tear 91 = .ok (.aload_n 0, 1) := by decide +kernel
theorem dX9_tear_92 : decode cX9_tear 92 = .ok (.dup, 1) := by decide +kernel
theorem dX9_tear_93 : decode cX9_tear 93 = .ok (.getfield 130, 3) := by decide +kernel
theorem dX9_tear_96 : decode cX9_tear 96 = .ok (.iconst 1, 1) := by decide +kernel
theorem dX9_tear_97 : decode cX9_tear 97 = .ok (.iadd, 1) := by decide +kernel
theorem dX9_tear_98 : decode cX9_tear 98 = .ok (.putfield 130, 3) := by decide +kernel
theorem dX9_tear_101 : decode cX9_tear 101 = .ok (.aload_n 0, 1) := by decide +kernel
theorem dX9_tear_102 : decode cX9_tear 102 = .ok (.getfield 47, 3) := by decide +kernel
theorem dX9_tear_105 : decode cX9_tear 105 = .ok (.iload_n 2, 1) := by decide +kernel
theorem dX9_tear_106 : decode cX9_tear 106 = .ok (.iaload, 1) := by decide +kernel
theorem dX9_tear_107 : decode cX9_tear 107 = .ok (.ifCond .ne 8, 3) := by decide +kernel
theorem dX9_tear_110 : decode cX9_tear 110 = .ok (.aload_n 0, 1) := by decide +kernel
theorem dX9_tear_111 : decode cX9_tear 111 = .ok (.iload_n 2, 1) := by decide +kernel
theorem dX9_tear_112 : decode cX9_tear 112 = .ok (.invokevirtual 153, 3) := by decide +kernel
theorem dX9_tear_115 : decode cX9_tear 115 = .ok (.return_, 1) := by decide +kernel
theorem dX9_hour_0 : decode cX9_hour 0 = .ok (.aload_n 0, 1) := by decide +kernel
theorem dX9_hour_1 : decode cX9_hour 1 = .ok (.iconst 0, 1) := by decide +kernel
theorem dX9_hour_2 : decode cX9_hour 2 = .ok (.putfield 1, 3) := by decide +kernel
theorem dX9_hour_5 : decode cX9_hour 5 = .ok (.iload_n 1, 1) := by decide +kernel
theorem dX9_hour_6 : decode cX9_hour 6 = .ok (.i2l, 1) := by decide +kernel
theorem dX9_hour_7 : decode cX9_hour 7 = .ok (.lconst 0, 1) := by decide +kernel
theorem dX9_hour_8 : decode cX9_hour 8 = .ok (.ldc2_w 157, 3) := by decide +kernel
theorem dX9_hour_11 : decode cX9_hour 11 = .ok (.invokestatic 104, 3) := by decide +kernel
theorem dX9_hour_14 : decode cX9_hour 14 = .ok (.ifCond .eq 40, 3) := by decide +kernel
theorem dX9_hour_17 : decode cX9_hour 17 = .ok (.iload_n 2, 1) := by decide +kernel
theorem dX9_hour_18 : decode cX9_hour 18 = .ok (.i2l, 1) := by decide +kernel
theorem dX9_hour_19 : decode cX9_hour 19 = .ok (.lconst 0, 1) := by decide +kernel
theorem dX9_hour_20 : decode cX9_hour 20 = .ok (.ldc2_w 128, 3) := by decide +kernel
theorem dX9_hour_23 : decode cX9_hour 23 = .ok (.invokestatic 104, 3) := by decide +kernel
theorem dX9_hour_26 : decode cX9_hour 26 = .ok (.ifCond .eq 28, 3) := by decide +kernel
theorem dX9_hour_29 : decode cX9_hour 29 = .ok (.iload_n 3, 1) := by decide +kernel
theorem dX9_hour_30 : decode cX9_hour 30 = .ok (.i2l, 1) := by decide +kernel
theorem dX9_hour_31 : decode cX9_hour 31 = .ok (.lconst 0, 1) := by decide +kernel
theorem dX9_hour_32 : decode cX9_hour 32 = .ok (.ldc2_w 159, 3) := by decide +kernel
theorem dX9_hour_35 : decode cX9_hour 35 = .ok (.invokestatic 104, 3) := by decide +kernel
theorem dX9_hour_38 : decode cX9_hour 38 = .ok (.ifCond .eq 16, 3) := by decide +kernel
theorem dX9_hour_41 : decode cX9_hour 41 = .ok (.iload 4, 2) := by decide +kernel
theorem dX9_hour_43 : decode cX9_hour 43 = .ok (.i2l, 1) := by decide +kernel
theorem dX9_hour_44 : decode cX9_hour 44 = .ok (.lconst 0, 1) := by decide +kernel
theorem dX9_hour_45 : decode cX9_hour 45 = .ok (.ldc2_w 161, 3) := by decide +kernel
theorem dX9_hour_48 : decode cX9_hour 48 = .ok (.invokestatic 104, 3) := by decide +kernel
theorem dX9_hour_51 : decode cX9_hour 51 = .ok (.ifCond .ne 6, 3) := by decide +kernel
theorem dX9_hour_54 : decode cX9_hour 54 = .ok (.ldc 112, 2) := by decide +kernel
theorem dX9_hour_56 : decode cX9_hour 56 = .ok (.ireturn, 1) := by decide +kernel
theorem dX9_hour_57 : decode cX9_hour 57 = .ok (.aload_n 0, 1) := by decide +kernel
theorem dX9_hour_58 : decode cX9_hour 58 = .ok (.getfield 163, 3) := by decide +kernel
theorem dX9_hour_61 : decode cX9_hour 61 = .ok (.sipush 5000, 3) := by decide +kernel
theorem dX9_hour_64 : decode cX9_hour 64 = .ok (.if_icmp .ne 6, 3) := by decide +kernel
theorem dX9_hour_67 : decode cX9_hour 67 = .ok (.ldc 121, 2) := by decide +kernel
theorem dX9_hour_69 : decode cX9_hour 69 = .ok (.ireturn, 1) := by decide +kernel
theorem dX9_hour_70 : decode cX9_hour 70 = .ok (.aload_n 0, 1) := by decide +kernel
theorem dX9_hour_71 : decode cX9_hour 71 = .ok (.dup, 1) := by decide +kernel
theorem dX9_hour_72 : decode cX9_hour 72 = .ok (.getfield 163, 3) := by decide +kernel
theorem dX9_hour_75 : decode cX9_hour 75 = .ok (.iconst 1, 1) := by decide +kernel
theorem dX9_hour_76 : decode cX9_hour 76 = .ok (.iadd, 1) := by decide +kernel
theorem dX9_hour_77 : decode cX9_hour 77 = .ok (.putfield 163, 3) := by decide +kernel
theorem dX9_hour_80 : decode cX9_hour 80 = .ok (.aload_n 0, 1) := by decide +kernel
theorem dX9_hour_81 : decode cX9_hour 81 = .ok (.iload_n 2, 1) := by decide +kernel
theorem dX9_hour_82 : decode cX9_hour 82 = .ok (.putfield 135, 3) := by decide +kernel
theorem dX9_hour_85 : decode cX9_hour 85 = .ok (.iconst 0, 1) := by decide +kernel
theorem dX9_hour_86 : decode cX9_hour 86 = .ok (.istore 5, 2) := by decide +kernel
theorem dX9_hour_88 : decode cX9_hour 88 = .ok (.iload 5, 2) := by decide +kernel
theorem dX9_hour_90 : decode cX9_hour 90 = .ok (.aload_n 0, 1) := by decide +kernel
theorem dX9_hour_91 : decode cX9_hour 91 = .ok (.getfield 101, 3) := by decide +kernel
theorem dX9_hour_94 : decode cX9_hour 94 = .ok (.if_icmp .ge 88, 3) := by decide +kernel
theorem dX9_hour_97 : decode cX9_hour 97 = .ok (.aload_n 0, 1) := by decide +kernel
theorem dX9_hour_98 : decode cX9_hour 98 = .ok (.getfield 19, 3) := by decide +kernel
theorem dX9_hour_101 : decode cX9_hour 101 = .ok (.iload 5, 2) := by decide +kernel
theorem dX9_hour_103 : decode cX9_hour 103 = .ok (.iaload, 1) := by decide +kernel
theorem dX9_hour_104 : decode cX9_hour 104 = .ok (.iload_n 1, 1) := by decide +kernel
theorem dX9_hour_105 : decode cX9_hour 105 = .ok (.if_icmp .gt 71, 3) := by decide +kernel
theorem dX9_hour_108 : decode cX9_hour 108 = .ok (.aload_n 0, 1) := by decide +kernel
theorem dX9_hour_109 : decode cX9_hour 109 = .ok (.getfield 138, 3) := by decide +kernel
theorem dX9_hour_112 : decode cX9_hour 112 = .ok (.iconst 1, 1) := by decide +kernel
theorem dX9_hour_113 : decode cX9_hour 113 = .ok (.isub, 1) := by decide +kernel
theorem dX9_hour_114 : decode cX9_hour 114 = .ok (.istore 6, 2) := by decide +kernel
theorem dX9_hour_116 : decode cX9_hour 116 = .ok (.iload 6, 2) := by decide +kernel
theorem dX9_hour_118 : decode cX9_hour 118 = .ok (.ifCond .lt 27, 3) := by decide +kernel
theorem dX9_hour_121 : decode cX9_hour 121 = .ok (.aload_n 0, 1) := by decide +kernel
theorem dX9_hour_122 : decode cX9_hour 122 = .ok (.getfield 44, 3) := by decide +kernel
theorem dX9_hour_125 : decode cX9_hour 125 = .ok (.iload 6, 2) := by decide +kernel
theorem dX9_hour_127 : decode cX9_hour 127 = .ok (.iaload, 1) := by decide +kernel
theorem dX9_hour_128 : decode cX9_hour 128 = .ok (.iload 5, 2) := by decide +kernel
theorem dX9_hour_130 : decode cX9_hour 130 = .ok (.if_icmp .ne 9, 3) := by decide +kernel
theorem dX9_hour_133 : decode cX9_hour 133 = .ok (.aload_n 0, 1) := by decide +kernel
theorem dX9_hour_134 : decode cX9_hour 134 = .ok (.iload 6, 2) := by decide +kernel
theorem dX9_hour_136 : decode cX9_hour 136 = .ok (.invokevirtual 153, 3) := by decide +kernel
theorem dX9_hour_139 : decode cX9_hour 139 = .ok (.iinc 6 (-1), 3) := by decide +kernel
theorem dX9_hour_142 : decode cX9_hour 142 = .ok (.goto (-26), 3) := by decide +kernel
theorem dX9_hour_145 : decode cX9_hour 145 = .ok (.aload_n 0, 1) := by decide +kernel
theorem dX9_hour_146 : decode cX9_hour 146 = .ok (.dup, 1) := by decide +kernel
theorem dX9_hour_147 : decode cX9_hour 147 = .ok (.getfield 166, 3) := by decide +kernel
theorem dX9_hour_150 : decode cX9_hour 150 = .ok (.aload_n 0, 1) := by decide +kernel
theorem dX9_hour_151 : decode cX9_hour 151 = .ok (.iload 5, 2) := by decide +kernel
theorem dX9_hour_153 : decode cX9_hour 153 = .ok (.invokevirtual 122, 3) := by decide +kernel
theorem dX9_hour_156 : decode cX9_hour 156 = .ok (.iadd, 1) := by decide +kernel
theorem dX9_hour_157 : decode cX9_hour 157 = .ok (.putfield 166, 3) := by decide +kernel
theorem dX9_hour_160 : decode cX9_hour 160 = .ok (.aload_n 0, 1) := by decide +kernel
theorem dX9_hour_161 : decode cX9_hour 161 = .ok (.getfield 26, 3) := by decide +kernel
theorem dX9_hour_164 : decode cX9_hour 164 = .ok (.iload 5, 2) := by decide +kernel
theorem dX9_hour_166 : decode cX9_hour 166 = .ok (.iconst 0, 1) := by decide +kernel
theorem dX9_hour_167 : decode cX9_hour 167 = .ok (.iastore, 1) := by decide +kernel
theorem dX9_hour_168 : decode cX9_hour 168 = .ok (.aload_n 0, 1) := by decide +kernel
theorem dX9_hour_169 : decode cX9_hour 169 = .ok (.getfield 29, 3) := by decide +kernel
theorem dX9_hour_172 : decode cX9_hour 172 = .ok (.iload 5, 2) := by decide +kernel
theorem dX9_hour_174 : decode cX9_hour 174 = .ok (.iconst 0, 1) := by decide +kernel
theorem dX9_hour_175 : decode cX9_hour 175 = .ok (.iastore, 1) := by decide +kernel
theorem dX9_hour_176 : decode cX9_hour 176 = .ok (.iinc 5 1, 3) := by decide +kernel
theorem dX9_hour_179 : decode cX9_hour 179 = .ok (.goto (-91), 3) := by decide +kernel
theorem dX9_hour_182 : decode cX9_hour 182 = .ok (.iload_n 2, 1) := by decide +kernel
theorem dX9_hour_183 : decode cX9_hour 183 = .ok (.aload_n 0, 1) := by decide +kernel
theorem dX9_hour_184 : decode cX9_hour 184 = .ok (.getfield 16, 3) := by decide +kernel
theorem dX9_hour_187 : decode cX9_hour 187 = .ok (.if_icmp .le 67, 3) := by decide +kernel
theorem dX9_hour_190 : decode cX9_hour 190 = .ok (.aload_n 0, 1) := by decide +kernel
theorem dX9_hour_191 : decode cX9_hour 191 = .ok (.getfield 138, 3) := by decide +kernel
theorem dX9_hour_194 : decode cX9_hour 194 = .ok (.ifCond .le 60, 3) := by decide +kernel
theorem dX9_hour_197 : decode cX9_hour 197 = .ok (.aload_n 0, 1) := by decide +kernel
theorem dX9_hour_198 : decode cX9_hour 198 = .ok (.dup, 1) := by decide +kernel
theorem dX9_hour_199 : decode cX9_hour 199 = .ok (.getfield 169, 3) := by decide +kernel
theorem dX9_hour_202 : decode cX9_hour 202 = .ok (.aload_n 0, 1) := by decide +kernel
theorem dX9_hour_203 : decode cX9_hour 203 = .ok (.getfield 56, 3) := by decide +kernel
theorem dX9_hour_206 : decode cX9_hour 206 = .ok (.aload_n 0, 1) := by decide +kernel
theorem dX9_hour_207 : decode cX9_hour 207 = .ok (.getfield 138, 3) := by decide +kernel
theorem dX9_hour_210 : decode cX9_hour 210 = .ok (.iconst 1, 1) := by decide +kernel
theorem dX9_hour_211 : decode cX9_hour 211 = .ok (.isub, 1) := by decide +kernel
theorem dX9_hour_212 : decode cX9_hour 212 = .ok (.iaload, 1) := by decide +kernel
theorem dX9_hour_213 : decode cX9_hour 213 = .ok (.aload_n 0, 1) := by decide +kernel
theorem dX9_hour_214 : decode cX9_hour 214 = .ok (.getfield 47, 3) := by decide +kernel
theorem dX9_hour_217 : decode cX9_hour 217 = .ok (.aload_n 0, 1) := by decide +kernel
theorem dX9_hour_218 : decode cX9_hour 218 = .ok (.getfield 138, 3) := by decide +kernel
theorem dX9_hour_221 : decode cX9_hour 221 = .ok (.iconst 1, 1) := by decide +kernel
theorem dX9_hour_222 : decode cX9_hour 222 = .ok (.isub, 1) := by decide +kernel
theorem dX9_hour_223 : decode cX9_hour 223 = .ok (.iaload, 1) := by decide +kernel
theorem dX9_hour_224 : decode cX9_hour 224 = .ok (.imul, 1) := by decide +kernel
theorem dX9_hour_225 : decode cX9_hour 225 = .ok (.aload_n 0, 1) := by decide +kernel
theorem dX9_hour_226 : decode cX9_hour 226 = .ok (.getfield 50, 3) := by decide +kernel
theorem dX9_hour_229 : decode cX9_hour 229 = .ok (.aload_n 0, 1) := by decide +kernel
theorem dX9_hour_230 : decode cX9_hour 230 = .ok (.getfield 138, 3) := by decide +kernel
theorem dX9_hour_233 : decode cX9_hour 233 = .ok (.iconst 1, 1) := by decide +kernel
theorem dX9_hour_234 : decode cX9_hour 234 = .ok (.isub, 1) := by decide +kernel
theorem dX9_hour_235 : decode cX9_hour 235 = .ok (.iaload, 1) := by decide +kernel
theorem dX9_hour_236 : decode cX9_hour 236 = .ok (.imul, 1) := by decide +kernel
theorem dX9_hour_237 : decode cX9_hour 237 = .ok (.iadd, 1) := by decide +kernel
theorem dX9_hour_238 : decode cX9_hour 238 = .ok (.putfield 169, 3) := by decide +kernel
theorem dX9_hour_241 : decode cX9_hour 241 = .ok (.aload_n 0, 1) := by decide +kernel
theorem dX9_hour_242 : decode cX9_hour 242 = .ok (.aload_n 0, 1) := by decide +kernel
theorem dX9_hour_243 : decode cX9_hour 243 = .ok (.getfield 138, 3) := by decide +kernel
theorem dX9_hour_246 : decode cX9_hour 246 = .ok (.iconst 1, 1) := by decide +kernel
theorem dX9_hour_247 : decode cX9_hour 247 = .ok (.isub, 1) := by decide +kernel
theorem dX9_hour_248 : decode cX9_hour 248 = .ok (.invokevirtual 153, 3) := by decide +kernel
theorem dX9_hour_251 : decode cX9_hour 251 = .ok (.goto (-69), 3) := by decide +kernel
theorem dX9_hour_254 : decode cX9_hour 254 = .ok (.iconst 0, 1) := by decide +kernel
theorem dX9_hour_255 : decode cX9_hour 255 = .ok (.istore 5, 2) := by decide +kernel
theorem dX9_hour_257 : decode cX9_hour 257 = .ok (.aload_n 0, 1) := by decide +kernel
theorem dX9_hour_258 : decode cX9_hour 258 = .ok (.getfield 172, 3) := by decide +kernel
theorem dX9_hour_261 : decode cX9_hour 261 = .ok (.iconst 1, 1) := by decide +kernel
theorem dX9_hour_262 : decode cX9_hour 262 = .ok (.isub, 1) := by decide +kernel
theorem dX9_hour_263 : decode cX9_hour 263 = .ok (.istore 6, 2) := by decide +kernel
theorem dX9_hour_265 : decode cX9_hour 265 = .ok (.iload 6, 2) := by decide +kernel
theorem dX9_hour_267 : decode cX9_hour 267 = .ok (.ifCond .lt 34, 3) := by decide +kernel
theorem dX9_hour_270 : decode cX9_hour 270 = .ok (.iload_n 3, 1) := by decide +kernel
theorem dX9_hour_271 : decode cX9_hour 271 = .ok (.aload_n 0, 1) := by decide +kernel
theorem dX9_hour_272 : decode cX9_hour 272 = .ok (.getfield 62, 3) := by decide +kernel
theorem dX9_hour_275 : decode cX9_hour 275 = .ok (.iload 6, 2) := by decide +kernel
theorem dX9_hour_277 : decode cX9_hour 277 = .ok (.iaload, 1) := by decide +kernel
theorem dX9_hour_278 : decode cX9_hour 278 = .ok (.if_icmp .lt 13, 3) := by decide +kernel
theorem dX9_hour_281 : decode cX9_hour 281 = .ok (.aload_n 0, 1) := by decide +kernel
theorem dX9_hour_282 : decode cX9_hour 282 = .ok (.getfield 65, 3) := by decide +kernel
theorem dX9_hour_285 : decode cX9_hour 285 = .ok (.iload 6, 2) := by decide +kernel
theorem dX9_hour_287 : decode cX9_hour 287 = .ok (.iaload, 1) := by decide +kernel
theorem dX9_hour_288 : decode cX9_hour 288 = .ok (.goto 5, 3) := by decide +kernel
theorem dX9_hour_291 : decode cX9_hour 291 = .ok (.iload 5, 2) := by decide +kernel
theorem dX9_hour_293 : decode cX9_hour 293 = .ok (.istore 5, 2) := by decide +kernel
theorem dX9_hour_295 : decode cX9_hour 295 = .ok (.iinc 6 (-1), 3) := by decide +kernel
theorem dX9_hour_298 : decode cX9_hour 298 = .ok (.goto (-33), 3) := by decide +kernel
theorem dX9_hour_301 : decode cX9_hour 301 = .ok (.iconst 0, 1) := by decide +kernel
theorem dX9_hour_302 : decode cX9_hour 302 = .ok (.istore 6, 2) := by decide +kernel
theorem dX9_hour_304 : decode cX9_hour 304 = .ok (.iload 6, 2) := by decide +kernel
theorem dX9_hour_306 : decode cX9_hour 306 = .ok (.aload_n 0, 1) := by decide +kernel
theorem dX9_hour_307 : decode cX9_hour 307 = .ok (.getfield 138, 3) := by decide +kernel
theorem dX9_hour_310 : decode cX9_hour 310 = .ok (.if_icmp .ge 39, 3) := by decide +kernel
theorem dX9_hour_313 : decode cX9_hour 313 = .ok (.aload_n 0, 1) := by decide +kernel
theorem dX9_hour_314 : decode cX9_hour 314 = .ok (.dup, 1) := by decide +kernel
theorem dX9_hour_315 : decode cX9_hour 315 = .ok (.getfield 169, 3) := by decide +kernel
theorem dX9_hour_318 : decode cX9_hour 318 = .ok (.aload_n 0, 1) := by decide +kernel
theorem dX9_hour_319 : decode cX9_hour 319 = .ok (.getfield 56, 3) := by decide +kernel
theorem dX9_hour_322 : decode cX9_hour 322 = .ok (.iload 6, 2) := by decide +kernel
theorem dX9_hour_324 : decode cX9_hour 324 = .ok (.iaload, 1) := by decide +kernel
theorem dX9_hour_325 : decode cX9_hour 325 = .ok (.aload_n 0, 1) := by decide +kernel
theorem dX9_hour_326 : decode cX9_hour 326 = .ok (.getfield 47, 3) := by decide +kernel
theorem dX9_hour_329 : decode cX9_hour 329 = .ok (.iload 6, 2) := by decide +kernel
theorem dX9_hour_331 : decode cX9_hour 331 = .ok (.iaload, 1) := by decide +kernel
theorem dX9_hour_332 : decode cX9_hour 332 = .ok (.imul, 1) := by decide +kernel
theorem dX9_hour_333 : decode cX9_hour 333 = .ok (.iload 5, 2) := by decide +kernel
theorem dX9_hour_335 : decode cX9_hour 335 = .ok (.imul, 1) := by decide +kernel
theorem dX9_hour_336 : decode cX9_hour 336 = .ok (.bipush 100, 2) := by decide +kernel
theorem dX9_hour_338 : decode cX9_hour 338 = .ok (.idiv, 1) := by decide +kernel
theorem dX9_hour_339 : decode cX9_hour 339 = .ok (.iadd, 1) := by decide +kernel
theorem dX9_hour_340 : decode cX9_hour 340 = .ok (.putfield 169, 3) := by decide +kernel
theorem dX9_hour_343 : decode cX9_hour 343 = .ok (.iinc 6 1, 3) := by decide +kernel
theorem dX9_hour_346 : decode cX9_hour 346 = .ok (.goto (-42), 3) := by decide +kernel
theorem dX9_hour_349 : decode cX9_hour 349 = .ok (.iconst 0, 1) := by decide +kernel
theorem dX9_hour_350 : decode cX9_hour 350 = .ok (.istore 6, 2) := by decide +kernel
theorem dX9_hour_352 : decode cX9_hour 352 = .ok (.iload 6, 2) := by decide +kernel
theorem dX9_hour_354 : decode cX9_hour 354 = .ok (.aload_n 0, 1) := by decide +kernel
theorem dX9_hour_355 : decode cX9_hour 355 = .ok (.getfield 101, 3) := by decide +kernel
theorem dX9_hour_358 : decode cX9_hour 358 = .ok (.if_icmp .ge 63, 3) := by decide +kernel
theorem dX9_hour_361 : decode cX9_hour 361 = .ok (.aload_n 0, 1) := by decide +kernel
theorem dX9_hour_362 : decode cX9_hour 362 = .ok (.getfield 32, 3) := by decide +kernel
theorem dX9_hour_365 : decode cX9_hour 365 = .ok (.iload 6, 2) := by decide +kernel
theorem dX9_hour_367 : decode cX9_hour 367 = .ok (.dup2, 1) := by decide +kernel
theorem dX9_hour_368 : decode cX9_hour 368 = .ok (.iaload, 1) := by decide +kernel
theorem dX9_hour_369 : decode cX9_hour 369 = .ok (.iload 4, 2) := by decide +kernel
theorem dX9_hour_371 : decode cX9_hour 371 = .ok (.aload_n 0, 1) := by decide +kernel
theorem dX9_hour_372 : decode cX9_hour 372 = .ok (.iload 6, 2) := by decide +kernel
theorem dX9_hour_374 : decode cX9_hour 374 = .ok (.invokevirtual 122, 3) := by decide +kernel
theorem dX9_hour_377 : decode cX9_hour 377 = .ok (.imul, 1) := by decide +kernel
theorem dX9_hour_378 : decode cX9_hour 378 = .ok (.iadd, 1) := by decide +kernel
theorem dX9_hour_379 : decode cX9_hour 379 = .ok (.iastore, 1) := by decide +kernel
theorem dX9_hour_380 : decode cX9_hour 380 = .ok (.aload_n 0, 1) := by decide +kernel
theorem dX9_hour_381 : decode cX9_hour 381 = .ok (.getfield 32, 3) := by decide +kernel
theorem dX9_hour_384 : decode cX9_hour 384 = .ok (.iload 6, 2) := by decide +kernel
theorem dX9_hour_386 : decode cX9_hour 386 = .ok (.iaload, 1) := by decide +kernel
theorem dX9_hour_387 : decode cX9_hour 387 = .ok (.sipush 1000, 3) := by decide +kernel
theorem dX9_hour_390 : decode cX9_hour 390 = .ok (.if_icmp .lt 25, 3) := by decide +kernel
theorem dX9_hour_393 : decode cX9_hour 393 = .ok (.aload_n 0, 1) := by decide +kernel
theorem dX9_hour_394 : decode cX9_hour 394 = .ok (.getfield 32, 3) := by decide +kernel
theorem dX9_hour_397 : decode cX9_hour 397 = .ok (.iload 6, 2) := by decide +kernel
theorem dX9_hour_399 : decode cX9_hour 399 = .ok (.dup2, 1) := by decide +kernel
theorem dX9_hour_400 : decode cX9_hour 400 = .ok (.iaload, 1) := by decide +kernel
theorem dX9_hour_401 : decode cX9_hour 401 = .ok (.sipush 1000, 3) := by decide +kernel
theorem dX9_hour_404 : decode cX9_hour 404 = .ok (.isub, 1) := by decide +kernel
theorem dX9_hour_405 : decode cX9_hour 405 = .ok (.iastore, 1) := by decide +kernel
theorem dX9_hour_406 : decode cX9_hour 406 = .ok (.aload_n 0, 1) := by decide +kernel
theorem dX9_hour_407 : decode cX9_hour 407 = .ok (.iload 6, 2) := by decide +kernel
theorem dX9_hour_409 : decode cX9_hour 409 = .ok (.invokevirtual 175, 3) := by decide +kernel
theorem dX9_hour_412 : decode cX9_hour 412 = .ok (.goto (-32), 3) := by decide +kernel
theorem dX9_hour_415 : decode cX9_hour 415 = .ok (.iinc 6 1, 3) := by decide +kernel
theorem dX9_hour_418 : decode cX9_hour 418 = .ok (.goto (-66), 3) := by decide +kernel
theorem dX9_hour_421 : decode cX9_hour 421 = .ok (.aload_n 0, 1) := by decide +kernel
theorem dX9_hour_422 : decode cX9_hour 422 = .ok (.getfield 138, 3) := by decide +kernel
theorem dX9_hour_425 : decode cX9_hour 425 = .ok (.iconst 1, 1) := by decide +kernel
theorem dX9_hour_426 : decode cX9_hour 426 = .ok (.isub, 1) := by decide +kernel
theorem dX9_hour_427 : decode cX9_hour 427 = .ok (.istore 6, 2) := by decide +kernel
theorem dX9_hour_429 : decode cX9_hour 429 = .ok (.iload 6, 2) := by decide +kernel
theorem dX9_hour_431 : decode cX9_hour 431 = .ok (.ifCond .lt 36, 3) := by decide +kernel
theorem dX9_hour_434 : decode cX9_hour 434 = .ok (.aload_n 0, 1) := by decide +kernel
theorem dX9_hour_435 : decode cX9_hour 435 = .ok (.getfield 50, 3) := by decide +kernel
theorem dX9_hour_438 : decode cX9_hour 438 = .ok (.iload 6, 2) := by decide +kernel
theorem dX9_hour_440 : decode cX9_hour 440 = .ok (.dup2, 1) := by decide +kernel
theorem dX9_hour_441 : decode cX9_hour 441 = .ok (.iaload, 1) := by decide +kernel
theorem dX9_hour_442 : decode cX9_hour 442 = .ok (.iconst 1, 1) := by decide +kernel
theorem dX9_hour_443 : decode cX9_hour 443 = .ok (.isub, 1) := by decide +kernel
theorem dX9_hour_444 : decode cX9_hour 444 = .ok (.iastore, 1) := by decide +kernel
theorem dX9_hour_445 : decode cX9_hour 445 = .ok (.aload_n 0, 1) := by decide +kernel
theorem dX9_hour_446 : decode cX9_hour 446 = .ok (.getfield 50, 3) := by decide +kernel
theorem dX9_hour_449 : decode cX9_hour 449 = .ok (.iload 6, 2) := by decide +kernel
theorem dX9_hour_451 : decode cX9_hour 451 = .ok (.iaload, 1) := by decide +kernel
theorem dX9_hour_452 : decode cX9_hour 452 = .ok (.ifCond .ne 9, 3) := by decide +kernel
theorem dX9_hour_455 : decode cX9_hour 455 = .ok (.aload_n 0, 1) := by decide +kernel
theorem dX9_hour_456 : decode cX9_hour 456 = .ok (.iload 6, 2) := by decide +kernel
theorem dX9_hour_458 : decode cX9_hour 458 = .ok (.invokevirtual 153, 3) := by decide +kernel
theorem dX9_hour_461 : decode cX9_hour 461 = .ok (.iinc 6 (-1), 3) := by decide +kernel
theorem dX9_hour_464 : decode cX9_hour 464 = .ok (.goto (-35), 3) := by decide +kernel
theorem dX9_hour_467 : decode cX9_hour 467 = .ok (.aload_n 0, 1) := by decide +kernel
theorem dX9_hour_468 : decode cX9_hour 468 = .ok (.getfield 138, 3) := by decide +kernel
theorem dX9_hour_471 : decode cX9_hour 471 = .ok (.ireturn, 1) := by decide +kernel
theorem dX9_feed_0 : decode cX9_feed 0 = .ok (.aload_n 0, 1) := by decide +kernel
theorem dX9_feed_1 : decode cX9_feed 1 = .ok (.iconst 0, 1) := by decide +kernel
theorem dX9_feed_2 : decode cX9_feed 2 = .ok (.putfield 1, 3) := by decide +kernel
theorem dX9_feed_5 : decode cX9_feed 5 = .ok (.iload_n 3, 1) := by decide +kernel
theorem dX9_feed_6 : decode cX9_feed 6 = .ok (.i2l, 1) := by decide +kernel
theorem dX9_feed_7 : decode cX9_feed 7 = .ok (.lconst 1, 1) := by decide +kernel
theorem dX9_feed_8 : decode cX9_feed 8 = .ok (.ldc2_w 178, 3) := by decide +kernel
theorem dX9_feed_11 : decode cX9_feed 11 = .ok (.invokestatic 104, 3) := by decide +kernel
theorem dX9_feed_14 : decode cX9_feed 14 = .ok (.ifCond .ne 6, 3) := by decide +kernel
theorem dX9_feed_17 : decode cX9_feed 17 = .ok (.ldc 112, 2) := by decide +kernel
theorem dX9_feed_19 : decode cX9_feed 19 = .ok (.ireturn, 1) := by decide +kernel
theorem dX9_feed_20 : decode cX9_feed 20 = .ok (.aload_n 0, 1) := by decide +kernel
theorem dX9_feed_21 : decode cX9_feed 21 = .ok (.getfield 180, 3) := by decide +kernel
theorem dX9_feed_24 : decode cX9_feed 24 = .ok (.iload_n 3, 1) := by decide +kernel
theorem dX9_feed_25 : decode cX9_feed 25 = .ok (.iadd, 1) := by decide +kernel
theorem dX9_feed_26 : decode cX9_feed 26 = .ok (.sipush 300, 3) := by decide +kernel
theorem dX9_feed_29 : decode cX9_feed 29 = .ok (.if_icmp .le 6, 3) := by decide +kernel
theorem dX9_feed_32 : decode cX9_feed 32 = .ok (.ldc 113, 2) := by decide +kernel
theorem dX9_feed_34 : decode cX9_feed 34 = .ok (.ireturn, 1) := by decide +kernel
theorem dX9_feed_35 : decode cX9_feed 35 = .ok (.iload_n 3, 1) := by decide +kernel
theorem dX9_feed_36 : decode cX9_feed 36 = .ok (.iconst 1, 1) := by decide +kernel
theorem dX9_feed_37 : decode cX9_feed 37 = .ok (.isub, 1) := by decide +kernel
theorem dX9_feed_38 : decode cX9_feed 38 = .ok (.istore 4, 2) := by decide +kernel
theorem dX9_feed_40 : decode cX9_feed 40 = .ok (.iload 4, 2) := by decide +kernel
theorem dX9_feed_42 : decode cX9_feed 42 = .ok (.ifCond .lt 40, 3) := by decide +kernel
theorem dX9_feed_45 : decode cX9_feed 45 = .ok (.aload_n 0, 1) := by decide +kernel
theorem dX9_feed_46 : decode cX9_feed 46 = .ok (.getfield 86, 3) := by decide +kernel
theorem dX9_feed_49 : decode cX9_feed 49 = .ok (.aload_n 0, 1) := by decide +kernel
theorem dX9_feed_50 : decode cX9_feed 50 = .ok (.getfield 180, 3) := by decide +kernel
theorem dX9_feed_53 : decode cX9_feed 53 = .ok (.lload_n 1, 1) := by decide +kernel
theorem dX9_feed_54 : decode cX9_feed 54 = .ok (.bipush 8, 2) := by decide +kernel
theorem dX9_feed_56 : decode cX9_feed 56 = .ok (.iload 4, 2) := by decide +kernel
theorem dX9_feed_58 : decode cX9_feed 58 = .ok (.imul, 1) := by decide +kernel
theorem dX9_feed_59 : decode cX9_feed 59 = .ok (.lshr, 1) := by decide +kernel
theorem dX9_feed_60 : decode cX9_feed 60 = .ok (.ldc2_w 183, 3) := by decide +kernel
theorem dX9_feed_63 : decode cX9_feed 63 = .ok (.land, 1) := by decide +kernel
theorem dX9_feed_64 : decode cX9_feed 64 = .ok (.l2i, 1) := by decide +kernel
theorem dX9_feed_65 : decode cX9_feed 65 = .ok (.iastore, 1) := by decide +kernel
theorem dX9_feed_66 : decode cX9_feed 66 = .ok (.aload_n 0, 1) := by decide +kernel
theorem dX9_feed_67 : decode cX9_feed 67 = .ok (.dup, 1) := by decide +kernel
theorem dX9_feed_68 : decode cX9_feed 68 = .ok (.getfield 180, 3) := by decide +kernel
theorem dX9_feed_71 : decode cX9_feed 71 = .ok (.iconst 1, 1) := by decide +kernel
theorem dX9_feed_72 : decode cX9_feed 72 = .ok (.iadd, 1) := by decide +kernel
theorem dX9_feed_73 : decode cX9_feed 73 = .ok (.putfield 180, 3) := by decide +kernel
theorem dX9_feed_76 : decode cX9_feed 76 = .ok (.iinc 4 (-1), 3) := by decide +kernel
theorem dX9_feed_79 : decode cX9_feed 79 = .ok (.goto (-39), 3) := by decide +kernel
theorem dX9_feed_82 : decode cX9_feed 82 = .ok (.aload_n 0, 1) := by decide +kernel
theorem dX9_feed_83 : decode cX9_feed 83 = .ok (.getfield 180, 3) := by decide +kernel
theorem dX9_feed_86 : decode cX9_feed 86 = .ok (.ireturn, 1) := by decide +kernel
theorem dX9_byteAt_0 : decode cX9_byteAt 0 = .ok (.iload_n 1, 1) := by decide +kernel
theorem dX9_byteAt_1 : decode cX9_byteAt 1 = .ok (.aload_n 0, 1) := by decide +kernel
theorem dX9_byteAt_2 : decode cX9_byteAt 2 = .ok (.getfield 185, 3) := by decide +kernel
theorem dX9_byteAt_5 : decode cX9_byteAt 5 = .ok (.if_icmp .ge 12, 3) := by decide +kernel
theorem dX9_byteAt_8 : decode cX9_byteAt 8 = .ok (.aload_n 0, 1) := by decide +kernel
theorem dX9_byteAt_9 : decode cX9_byteAt 9 = .ok (.getfield 86, 3) := by decide +kernel
theorem dX9_byteAt_12 : decode cX9_byteAt 12 = .ok (.iload_n 1, 1) := by decide +kernel
theorem dX9_byteAt_13 : decode cX9_byteAt 13 = .ok (.iaload, 1) := by decide +kernel
theorem dX9_byteAt_14 : decode cX9_byteAt 14 = .ok (.goto 5, 3) := by decide +kernel
theorem dX9_byteAt_17 : decode cX9_byteAt 17 = .ok (.ldc 114, 2) := by decide +kernel
theorem dX9_byteAt_19 : decode cX9_byteAt 19 = .ok (.ireturn, 1) := by decide +kernel
theorem dX9_isLetter_0 : decode cX9_isLetter 0 = .ok (.iload_n 0, 1) := by decide +kernel
theorem dX9_isLetter_1 : decode cX9_isLetter 1 = .ok (.bipush 97, 2) := by decide +kernel
theorem dX9_isLetter_3 : decode cX9_isLetter 3 = .ok (.if_icmp .lt 13, 3) := by decide +kernel
theorem dX9_isLetter_6 : decode cX9_isLetter 6 = .ok (.iload_n 0, 1) := by decide +kernel
theorem dX9_isLetter_7 : decode cX9_isLetter 7 = .ok (.bipush 122, 2) := by decide +kernel
theorem dX9_isLetter_9 : decode cX9_isLetter 9 = .ok (.if_icmp .gt 7, 3) := by decide +kernel
theorem dX9_isLetter_12 : decode cX9_isLetter 12 = .ok (.iconst 1, 1) := by decide +kernel
theorem dX9_isLetter_13 : decode cX9_isLetter 13 = .ok (.goto 4, 3) := by decide +kernel
theorem dX9_isLetter_16 : decode cX9_isLetter 16 = .ok (.iconst 0, 1) := by decide +kernel
theorem dX9_isLetter_17 : decode cX9_isLetter 17 = .ok (.ireturn, 1) := by decide +kernel
theorem dX9_isFigure_0 : decode cX9_isFigure 0 = .ok (.iload_n 0, 1) := by decide +kernel
theorem dX9_isFigure_1 : decode cX9_isFigure 1 = .ok (.bipush 48, 2) := by decide +kernel
theorem dX9_isFigure_3 : decode cX9_isFigure 3 = .ok (.if_icmp .lt 13, 3) := by decide +kernel
theorem dX9_isFigure_6 : decode cX9_isFigure 6 = .ok (.iload_n 0, 1) := by decide +kernel
theorem dX9_isFigure_7 : decode cX9_isFigure 7 = .ok (.bipush 57, 2) := by decide +kernel
theorem dX9_isFigure_9 : decode cX9_isFigure 9 = .ok (.if_icmp .gt 7, 3) := by decide +kernel
theorem dX9_isFigure_12 : decode cX9_isFigure 12 = .ok (.iconst 1, 1) := by decide +kernel
theorem dX9_isFigure_13 : decode cX9_isFigure 13 = .ok (.goto 4, 3) := by decide +kernel
theorem dX9_isFigure_16 : decode cX9_isFigure 16 = .ok (.iconst 0, 1) := by decide +kernel
theorem dX9_isFigure_17 : decode cX9_isFigure 17 = .ok (.ireturn, 1) := by decide +kernel
theorem dX9_step_0 : decode cX9_step 0 = .ok (.aload_n 0, 1) := by decide +kernel
theorem dX9_step_1 : decode cX9_step 1 = .ok (.aload_n 0, 1) := by decide +kernel
theorem dX9_step_2 : decode cX9_step 2 = .ok (.getfield 188, 3) := by decide +kernel
theorem dX9_step_5 : decode cX9_step 5 = .ok (.invokevirtual 191, 3) := by decide +kernel
theorem dX9_step_8 : decode cX9_step 8 = .ok (.bipush 32, 2) := by decide +kernel
theorem dX9_step_10 : decode cX9_step 10 = .ok (.if_icmp .eq 16, 3) := by decide +kernel
theorem dX9_step_13 : decode cX9_step 13 = .ok (.aload_n 0, 1) := by decide +kernel
theorem dX9_step_14 : decode cX9_step 14 = .ok (.aload_n 0, 1) := by decide +kernel
theorem dX9_step_15 : decode cX9_step 15 = .ok (.getfield 188, 3) := by decide +kernel
theorem dX9_step_18 : decode cX9_step 18 = .ok (.invokevirtual 191, 3) := by decide +kernel
theorem dX9_step_21 : decode cX9_step 21 = .ok (.bipush 10, 2) := by decide +kernel
theorem dX9_step_23 : decode cX9_step 23 = .ok (.if_icmp .ne 16, 3) := by decide +kernel
theorem dX9_step_26 : decode cX9_step 26 = .ok (.aload_n 0, 1) := by decide +kernel
theorem dX9_step_27 : decode cX9_step 27 = .ok (.dup, 1) := by decide +kernel
theorem dX9_step_28 : decode cX9_step 28 = .ok (.getfield 188, 3) := by decide +kernel
theorem dX9_step_31 : decode cX9_step 31 = .ok (.iconst 1, 1) := by decide +kernel
theorem dX9_step_32 : decode cX9_step 32 = .ok (.iadd, 1) := by decide +kernel
theorem dX9_step_33 : decode cX9_step 33 = .ok (.putfield 188, 3) := by decide +kernel
theorem dX9_step_36 : decode cX9_step 36 = .ok (.goto (-36), 3) := by decide +kernel
theorem dX9_step_39 : decode cX9_step 39 = .ok (.aload_n 0, 1) := by decide +kernel
theorem dX9_step_40 : decode cX9_step 40 = .ok (.aload_n 0, 1) := by decide +kernel
theorem dX9_step_41 : decode cX9_step 41 = .ok (.getfield 188, 3) := by decide +kernel
theorem dX9_step_44 : decode cX9_step 44 = .ok (.putfield 194, 3) := by decide +kernel
theorem dX9_step_47 : decode cX9_step 47 = .ok (.aload_n 0, 1) := by decide +kernel
theorem dX9_step_48 : decode cX9_step 48 = .ok (.aload_n 0, 1) := by decide +kernel
theorem dX9_step_49 : decode cX9_step 49 = .ok (.getfield 188, 3) := by decide +kernel
theorem dX9_step_52 : decode cX9_step 52 = .ok (.invokevirtual 191, 3) := by decide +kernel
theorem dX9_step_55 : decode cX9_step 55 = .ok (.istore_n 1, 1) := by decide +kernel
theorem dX9_step_56 : decode cX9_step 56 = .ok (.iload_n 1, 1) := by decide +kernel
theorem dX9_step_57 : decode cX9_step 57 = .ok (.ldc 114, 2) := by decide +kernel
theorem dX9_step_59 : decode cX9_step 59 = .ok (.if_icmp .ne 11, 3) := by decide +kernel
theorem dX9_step_62 : decode cX9_step 62 = .ok (.aload_n 0, 1) := by decide +kernel
theorem dX9_step_63 : decode cX9_step 63 = .ok (.iconst 1, 1) := by decide +kernel
theorem dX9_step_64 : decode cX9_step 64 = .ok (.putfield 197, 3) := by decide +kernel
theorem dX9_step_67 : decode cX9_step 67 = .ok (.goto 147, 3) := by decide +kernel
theorem dX9_step_70 : decode cX9_step 70 = .ok (.iload_n 1, 1) := by decide +kernel
theorem dX9_step_71 : decode cX9_step 71 = .ok (.invokestatic 200, 3) := by decide +kernel
theorem dX9_step_74 : decode cX9_step 74 = .ok (.ifCond .eq 56, 3) := by decide +kernel
theorem dX9_step_77 : decode cX9_step 77 = .ok (.aload_n 0, 1) := by decide +kernel
theorem dX9_step_78 : decode cX9_step 78 = .ok (.aload_n 0, 1) := by decide +kernel
theorem dX9_step_79 : decode cX9_step 79 = .ok (.getfield 188, 3) := by decide +kernel
theorem dX9_step_82 : decode cX9_step 82 = .ok (.invokevirtual 191, 3) := by decide +kernel
theorem dX9_step_85 : decode cX9_step 85 = .ok (.invokestatic 200, 3) := by decide +kernel
theorem dX9_step_88 : decode cX9_step 88 = .ok (.ifCond .eq 16, 3) := by decide +kernel
theorem dX9_step_91 : decode cX9_step 91 = .ok (.aload_n 0, 1) := by decide +kernel
theorem dX9_step_92 : decode cX9_step 92 = .ok (.dup, 1) := by decide +kernel
theorem dX9_step_93 : decode cX9_step 93 = .ok (.getfield 188, 3) := by decide +kernel
theorem dX9_step_96 : decode cX9_step 96 = .ok (.iconst 1, 1) := by decide +kernel
theorem dX9_step_97 : decode cX9_step 97 = .ok (.iadd, 1) := by decide +kernel
theorem dX9_step_98 : decode cX9_step 98 = .ok (.putfield 188, 3) := by decide +kernel
theorem dX9_step_101 : decode cX9_step 101 = .ok (.goto (-24), 3) := by decide +kernel
theorem dX9_step_104 : decode cX9_step 104 = .ok (.aload_n 0, 1) := by decide +kernel
theorem dX9_step_105 : decode cX9_step 105 = .ok (.aload_n 0, 1) := by decide +kernel
theorem dX9_step_106 : decode cX9_step 106 = .ok (.getfield 188, 3) := by decide +kernel
theorem dX9_step_109 : decode cX9_step 109 = .ok (.aload_n 0, 1) := by decide +kernel
theorem dX9_step_110 : decode cX9_step 110 = .ok (.getfield 194, 3) := by decide +kernel
theorem dX9_step_113 : decode cX9_step 113 = .ok (.isub, 1) := by decide +kernel
theorem dX9_step_114 : decode cX9_step 114 = .ok (.bipush 6, 2) := by decide +kernel
theorem dX9_step_116 : decode cX9_step 116 = .ok (.if_icmp .le 7, 3) := by decide +kernel
theorem dX9_step_119 : decode cX9_step 119 = .ok (.iconst 0, 1) := by decide +kernel
theorem dX9_step_120 : decode cX9_step 120 = .ok (.goto 4, 3) := by decide +kernel
theorem dX9_step_123 : decode cX9_step 123 = .ok (.iconst 2, 1) := by decide +kernel
theorem dX9_step_124 : decode cX9_step 124 = .ok (.putfield 197, 3) := by decide +kernel
theorem dX9_step_127 : decode cX9_step 127 = .ok (.goto 87, 3) := by decide +kernel
theorem dX9_step_130 : decode cX9_step 130 = .ok (.iload_n 1, 1) := by decide +kernel
theorem dX9_step_131 : decode cX9_step 131 = .ok (.invokestatic 203, 3) := by decide +kernel
theorem dX9_step_134 : decode cX9_step 134 = .ok (.ifCond .eq 55, 3) := by decide +kernel
theorem dX9_step_137 : decode cX9_step 137 = .ok (.aload_n 0, 1) := by decide +kernel
theorem dX9_step_138 : decode cX9_step 138 = .ok (.aload_n 0, 1) := by decide +kernel
theorem dX9_step_139 : decode cX9_step 139 = .ok (.getfield 188, 3) := by decide +kernel
theorem dX9_step_142 : decode cX9_step 142 = .ok (.invokevirtual 191, 3) := by decide +kernel
theorem dX9_step_145 : decode cX9_step 145 = .ok (.invokestatic 203, 3) := by decide +kernel
theorem dX9_step_148 : decode cX9_step 148 = .ok (.ifCond .eq 16, 3) := by decide +kernel
theorem dX9_step_151 : decode cX9_step 151 = .ok (.aload_n 0, 1) := by decide +kernel
theorem dX9_step_152 : decode cX9_step 152 = .ok (.dup, 1) := by decide +kernel
theorem dX9_step_153 : decode cX9_step 153 = .ok (.getfield 188, 3) := by decide +kernel
theorem dX9_step_156 : decode cX9_step 156 = .ok (.iconst 1, 1) := by decide +kernel
theorem dX9_step_157 : decode cX9_step 157 = .ok (.iadd, 1) := by decide +kernel
theorem dX9_step_158 : decode cX9_step 158 = .ok (.putfield 188, 3) := by decide +kernel
theorem dX9_step_161 : decode cX9_step 161 = .ok (.goto (-24), 3) := by decide +kernel
theorem dX9_step_164 : decode cX9_step 164 = .ok (.aload_n 0, 1) := by decide +kernel
theorem dX9_step_165 : decode cX9_step 165 = .ok (.aload_n 0, 1) := by decide +kernel
theorem dX9_step_166 : decode cX9_step 166 = .ok (.getfield 188, 3) := by decide +kernel
theorem dX9_step_169 : decode cX9_step 169 = .ok (.aload_n 0, 1) := by decide +kernel
theorem dX9_step_170 : decode cX9_step 170 = .ok (.getfield 194, 3) := by decide +kernel
theorem dX9_step_173 : decode cX9_step 173 = .ok (.isub, 1) := by decide +kernel
theorem dX9_step_174 : decode cX9_step 174 = .ok (.iconst 5, 1) := by decide +kernel
theorem dX9_step_175 : decode cX9_step 175 = .ok (.if_icmp .le 7, 3) := by decide +kernel
theorem dX9_step_178 : decode cX9_step 178 = .ok (.iconst 0, 1) := by decide +kernel
theorem dX9_step_179 : decode cX9_step 179 = .ok (.goto 4, 3) := by decide +kernel
theorem dX9_step_182 : decode cX9_step 182 = .ok (.iconst 3, 1) := by decide +kernel
theorem dX9_step_183 : decode cX9_step 183 = .ok (.putfield 197, 3) := by decide +kernel
theorem dX9_step_186 : decode cX9_step 186 = .ok (.goto 28, 3) := by decide +kernel
theorem dX9_step_189 : decode cX9_step 189 = .ok (.aload_n 0, 1) := by decide +kernel
theorem dX9_step_190 : decode cX9_step 190 = .ok (.dup, 1) := by decide +kernel
theorem dX9_step_191 : decode cX9_step 191 = .ok (.getfield 188, 3) := by decide +kernel
theorem dX9_step_194 : decode cX9_step 194 = .ok (.iconst 1, 1) := by decide +kernel
theorem dX9_step_195 : decode cX9_step 195 = .ok (.iadd, 1) := by decide +kernel
theorem dX9_step_196 : decode cX9_step 196 = .ok (.putfield 188, 3) := by decide +kernel
theorem dX9_step_199 : decode cX9_step 199 = .ok (.aload_n 0, 1) := by decide +kernel
theorem dX9_step_200 : decode cX9_step 200 = .ok (.iload_n 1, 1) := by decide +kernel
theorem dX9_step_201 : decode cX9_step 201 = .ok (.bipush 59, 2) := by decide +kernel
theorem dX9_step_203 : decode cX9_step 203 = .ok (.if_icmp .ne 7, 3) := by decide +kernel
theorem dX9_step_206 : decode cX9_step 206 = .ok (.iconst 4, 1) := by decide +kernel
theorem dX9_step_207 : decode cX9_step 207 = .ok (.goto 4, 3) := by decide +kernel
theorem dX9_step_210 : decode cX9_step 210 = .ok (.iconst 0, 1) := by decide +kernel
theorem dX9_step_211 : decode cX9_step 211 = .ok (.putfield 197, 3) := by decide +kernel
theorem dX9_step_214 : decode cX9_step 214 = .ok (.aload_n 0, 1) := by decide +kernel
theorem dX9_step_215 : decode cX9_step 215 = .ok (.aload_n 0, 1) := by decide +kernel
theorem dX9_step_216 : decode cX9_step 216 = .ok (.getfield 188, 3) := by decide +kernel
theorem dX9_step_219 : decode cX9_step 219 = .ok (.putfield 206, 3) := by decide +kernel
theorem dX9_step_222 : decode cX9_step 222 = .ok (.return_, 1) := by decide +kernel
theorem dX9_bad_0 : decode cX9_bad 0 = .ok (.aload_n 0, 1) := by decide +kernel
theorem dX9_bad_1 : decode cX9_bad 1 = .ok (.getfield 209, 3) := by decide +kernel
theorem dX9_bad_4 : decode cX9_bad 4 = .ok (.ifCond .ne 16, 3) := by decide +kernel
theorem dX9_bad_7 : decode cX9_bad 7 = .ok (.aload_n 0, 1) := by decide +kernel
theorem dX9_bad_8 : decode cX9_bad 8 = .ok (.iload_n 1, 1) := by decide +kernel
theorem dX9_bad_9 : decode cX9_bad 9 = .ok (.putfield 209, 3) := by decide +kernel
theorem dX9_bad_12 : decode cX9_bad 12 = .ok (.aload_n 0, 1) := by decide +kernel
theorem dX9_bad_13 : decode cX9_bad 13 = .ok (.aload_n 0, 1) := by decide +kernel
theorem dX9_bad_14 : decode cX9_bad 14 = .ok (.getfield 194, 3) := by decide +kernel
theorem dX9_bad_17 : decode cX9_bad 17 = .ok (.putfield 212, 3) := by decide +kernel
theorem dX9_bad_20 : decode cX9_bad 20 = .ok (.return_, 1) := by decide +kernel
theorem dX9_need_0 : decode cX9_need 0 = .ok (.iload_n 1, 1) := by decide +kernel
theorem dX9_need_1 : decode cX9_need 1 = .ok (.ifCond .ne 8, 3) := by decide +kernel
theorem dX9_need_4 : decode cX9_need 4 = .ok (.aload_n 0, 1) := by decide +kernel
theorem dX9_need_5 : decode cX9_need 5 = .ok (.iconst 1, 1) := by decide +kernel
theorem dX9_need_6 : decode cX9_need 6 = .ok (.invokevirtual 215, 3) := by decide +kernel
theorem dX9_need_9 : decode cX9_need 9 = .ok (.aload_n 0, 1) := by decide +kernel
theorem dX9_need_10 : decode cX9_need 10 = .ok (.getfield 209, 3) := by decide +kernel
theorem dX9_need_13 : decode cX9_need 13 = .ok (.ifCond .ne 7, 3) := by decide +kernel
theorem dX9_need_16 : decode cX9_need 16 = .ok (.aload_n 0, 1) := by decide +kernel
theorem dX9_need_17 : decode cX9_need 17 = .ok (.invokevirtual 218, 3) := by decide +kernel
theorem dX9_need_20 : decode cX9_need 20 = .ok (.return_, 1) := by decide +kernel
theorem dX9_word_0 : decode cX9_word 0 = .ok (.lconst 0, 1) := by decide +kernel
theorem dX9_word_1 : decode cX9_word 1 = .ok (.lstore_n 1, 1) := by decide +kernel
theorem dX9_word_2 : decode cX9_word 2 = .ok (.aload_n 0, 1) := by decide +kernel
theorem dX9_word_3 : decode cX9_word 3 = .ok (.getfield 194, 3) := by decide +kernel
theorem dX9_word_6 : decode cX9_word 6 = .ok (.istore_n 3, 1) := by decide +kernel
theorem dX9_word_7 : decode cX9_word 7 = .ok (.iload_n 3, 1) := by decide +kernel
theorem dX9_word_8 : decode cX9_word 8 = .ok (.aload_n 0, 1) := by decide +kernel
theorem dX9_word_9 : decode cX9_word 9 = .ok (.getfield 206, 3) := by decide +kernel
theorem dX9_word_12 : decode cX9_word 12 = .ok (.if_icmp .ge 30, 3) := by decide +kernel
theorem dX9_word_15 : decode cX9_word 15 = .ok (.aload_n 0, 1) := by decide +kernel
theorem dX9_word_16 : decode cX9_word 16 = .ok (.getfield 197, 3) := by decide +kernel
theorem dX9_word_19 : decode cX9_word 19 = .ok (.iconst 2, 1) := by decide +kernel
theorem dX9_word_20 : decode cX9_word 20 = .ok (.if_icmp .ne 22, 3) := by decide +kernel
theorem dX9_word_23 : decode cX9_word 23 = .ok (.lload_n 1, 1) := by decide +kernel
theorem dX9_word_24 : decode cX9_word 24 = .ok (.bipush 8, 2) := by decide +kernel
theorem dX9_word_26 : decode cX9_word 26 = .ok (.lshl, 1) := by decide +kernel
theorem dX9_word_27 : decode cX9_word 27 = .ok (.aload_n 0, 1) := by decide +kernel
theorem dX9_word_28 : decode cX9_word 28 = .ok (.getfield 86, 3) := by decide +kernel
theorem dX9_word_31 : decode cX9_word 31 = .ok (.iload_n 3, 1) := by decide +kernel
theorem dX9_word_32 : decode cX9_word 32 = .ok (.iaload, 1) := by decide +kernel
theorem dX9_word_33 : decode cX9_word 33 = .ok (.i2l, 1) := by decide +kernel
theorem dX9_word_34 : decode cX9_word 34 = .ok (.lor, 1) := by decide +kernel
theorem dX9_word_35 : decode cX9_word 35 = .ok (.lstore_n 1, 1) := by decide +kernel
theorem dX9_word_36 : decode cX9_word 36 = .ok (.iinc 3 1, 3) := by decide +kernel
theorem dX9_word_39 : decode cX9_word 39 = .ok (.goto (-32), 3) := by decide +kernel
theorem dX9_word_42 : decode cX9_word 42 = .ok (.lload_n 1, 1) := by decide +kernel
theorem dX9_word_43 : decode cX9_word 43 = .ok (.lreturn, 1) := by decide +kernel
theorem dX9_numberIn_0 : decode cX9_numberIn 0 = .ok (.iconst 0, 1) := by decide +kernel
theorem dX9_numberIn_1 : decode cX9_numberIn 1 = .ok (.istore_n 3, 1) := by decide +kernel
theorem dX9_numberIn_2 : decode cX9_numberIn 2 = .ok (.aload_n 0, 1) := by decide +kernel
theorem dX9_numberIn_3 : decode cX9_numberIn 3 = .ok (.getfield 194, 3) := by decide +kernel
theorem dX9_numberIn_6 : decode cX9_numberIn 6 = .ok (.istore 4, 2) := by decide +kernel
theorem dX9_numberIn_8 : decode cX9_numberIn 8 = .ok (.iload 4, 2) := by decide +kernel
theorem dX9_numberIn_10 : decode cX9_numberIn 10 = .ok (.aload_n 0, 1) := by decide +kernel
theorem dX9_numberIn_11 : decode cX9_numberIn 11 = .ok (.getfield 206, 3) := by decide +kernel
theorem dX9_numberIn_14 : decode cX9_numberIn 14 = .ok (.if_icmp .ge 33, 3) := by decide +kernel
theorem dX9_numberIn_17 : decode cX9_numberIn 17 = .ok (.aload_n 0, 1) := by decide +kernel
theorem dX9_numberIn_18 : decode cX9_numberIn 18 = .ok (.getfield 197, 3) := by decide +kernel
theorem dX9_numberIn_21 : decode cX9_numberIn 21 = .ok (.iconst 3, 1) := by decide +kernel
theorem dX9_numberIn_22 : decode cX9_numberIn 22 = .ok (.if_icmp .ne 25, 3) := by decide +kernel
theorem dX9_numberIn_25 : decode cX9_numberIn 25 = .ok (.bipush 10, 2) := by decide +kernel
theorem dX9_numberIn_27 : decode cX9_numberIn 27 = .ok (.iload_n 3, 1) := by decide +kernel
theorem dX9_numberIn_28 : decode cX9_numberIn 28 = .ok (.imul, 1) := by decide +kernel
theorem dX9_numberIn_29 : decode cX9_numberIn 29 = .ok (.aload_n 0, 1) := by decide +kernel
theorem dX9_numberIn_30 : decode cX9_numberIn 30 = .ok (.getfield 86, 3) := by decide +kernel
theorem dX9_numberIn_33 : decode cX9_numberIn 33 = .ok (.iload 4, 2) := by decide +kernel
theorem dX9_numberIn_35 : decode cX9_numberIn 35 = .ok (.iaload, 1) := by decide +kernel
theorem dX9_numberIn_36 : decode cX9_numberIn 36 = .ok (.iadd, 1) := by decide +kernel
theorem dX9_numberIn_37 : decode cX9_numberIn 37 = .ok (.bipush 48, 2) := by decide +kernel
theorem dX9_numberIn_39 : decode cX9_numberIn 39 = .ok (.isub, 1) := by decide +kernel
theorem dX9_numberIn_40 : decode cX9_numberIn 40 = .ok (.istore_n 3, 1) := by decide +kernel
theorem dX9_numberIn_41 : decode cX9_numberIn 41 = .ok (.iinc 4 1, 3) := by decide +kernel
theorem dX9_numberIn_44 : decode cX9_numberIn 44 = .ok (.goto (-36), 3) := by decide +kernel
theorem dX9_numberIn_47 : decode cX9_numberIn 47 = .ok (.aload_n 0, 1) := by decide +kernel
theorem dX9_numberIn_48 : decode cX9_numberIn 48 = .ok (.getfield 197, 3) := by decide +kernel
theorem dX9_numberIn_51 : decode cX9_numberIn 51 = .ok (.iconst 3, 1) := by decide +kernel
theorem dX9_numberIn_52 : decode cX9_numberIn 52 = .ok (.if_icmp .ne 20, 3) := by decide +kernel
theorem dX9_numberIn_55 : decode cX9_numberIn 55 = .ok (.iload_n 3, 1) := by decide +kernel
theorem dX9_numberIn_56 : decode cX9_numberIn 56 = .ok (.i2l, 1) := by decide +kernel
theorem dX9_numberIn_57 : decode cX9_numberIn 57 = .ok (.iload_n 1, 1) := by decide +kernel
theorem dX9_numberIn_58 : decode cX9_numberIn 58 = .ok (.i2l, 1) := by decide +kernel
theorem dX9_numberIn_59 : decode cX9_numberIn 59 = .ok (.iload_n 2, 1) := by decide +kernel
theorem dX9_numberIn_60 : decode cX9_numberIn 60 = .ok (.i2l, 1) := by decide +kernel
theorem dX9_numberIn_61 : decode cX9_numberIn 61 = .ok (.invokestatic 104, 3) := by decide +kernel
theorem dX9_numberIn_64 : decode cX9_numberIn 64 = .ok (.ifCond .ne 8, 3) := by decide +kernel
theorem dX9_numberIn_67 : decode cX9_numberIn 67 = .ok (.aload_n 0, 1) := by decide +kernel
theorem dX9_numberIn_68 : decode cX9_numberIn 68 = .ok (.iconst 2, 1) := by decide +kernel
theorem dX9_numberIn_69 : decode cX9_numberIn 69 = .ok (.invokevirtual 215, 3) := by decide +kernel
theorem dX9_numberIn_72 : decode cX9_numberIn 72 = .ok (.aload_n 0, 1) := by decide +kernel
theorem dX9_numberIn_73 : decode cX9_numberIn 73 = .ok (.aload_n 0, 1) := by decide +kernel
theorem dX9_numberIn_74 : decode cX9_numberIn 74 = .ok (.getfield 197, 3) := by decide +kernel
theorem dX9_numberIn_77 : decode cX9_numberIn 77 = .ok (.iconst 3, 1) := by decide +kernel
theorem dX9_numberIn_78 : decode cX9_numberIn 78 = .ok (.if_icmp .ne 7, 3) := by decide +kernel
theorem dX9_numberIn_81 : decode cX9_numberIn 81 = .ok (.iconst 1, 1) := by decide +kernel
theorem dX9_numberIn_82 : decode cX9_numberIn 82 = .ok (.goto 4, 3) := by decide +kernel
theorem dX9_numberIn_85 : decode cX9_numberIn 85 = .ok (.iconst 0, 1) := by decide +kernel
theorem dX9_numberIn_86 : decode cX9_numberIn 86 = .ok (.invokevirtual 221, 3) := by decide +kernel
theorem dX9_numberIn_89 : decode cX9_numberIn 89 = .ok (.iload_n 3, 1) := by decide +kernel
theorem dX9_numberIn_90 : decode cX9_numberIn 90 = .ok (.ireturn, 1) := by decide +kernel
theorem dX9_readLine_0 : decode cX9_readLine 0 = .ok (.aload_n 0, 1) := by decide +kernel
theorem dX9_readLine_1 : decode cX9_readLine 1 = .ok (.invokevirtual 225, 3) := by decide +kernel
theorem dX9_readLine_4 : decode cX9_readLine 4 = .ok (.lstore_n 1, 1) := by decide +kernel
theorem dX9_readLine_5 : decode cX9_readLine 5 = .ok (.lload_n 1, 1) := by decide +kernel
theorem dX9_readLine_6 : decode cX9_readLine 6 = .ok (.ldc2_w 229, 3) := by decide +kernel
theorem dX9_readLine_9 : decode cX9_readLine 9 = .ok (.lcmp, 1) := by decide +kernel
theorem dX9_readLine_10 : decode cX9_readLine 10 = .ok (.ifCond .ne 11, 3) := by decide +kernel
theorem dX9_readLine_13 : decode cX9_readLine 13 = .ok (.aload_n 0, 1) := by decide +kernel
theorem dX9_readLine_14 : decode cX9_readLine 14 = .ok (.getfield 231, 3) := by decide +kernel
theorem dX9_readLine_17 : decode cX9_readLine 17 = .ok (.iconst 5, 1) := by decide +kernel
theorem dX9_readLine_18 : decode cX9_readLine 18 = .ok (.if_icmp .eq 19, 3) := by decide +kernel
theorem dX9_readLine_21 : decode cX9_readLine 21 = .ok (.lload_n 1, 1) := by decide +kernel
theorem dX9_readLine_22 : decode cX9_readLine 22 = .ok (.ldc2_w 234, 3) := by decide +kernel
theorem dX9_readLine_25 : decode cX9_readLine 25 = .ok (.lcmp, 1) := by decide +kernel
theorem dX9_readLine_26 : decode cX9_readLine 26 = .ok (.ifCond .ne 16, 3) := by decide +kernel
theorem dX9_readLine_29 : decode cX9_readLine 29 = .ok (.aload_n 0, 1) := by decide +kernel
theorem dX9_readLine_30 : decode cX9_readLine 30 = .ok (.getfield 236, 3) := by decide +kernel
theorem dX9_readLine_33 : decode cX9_readLine 33 = .ok (.iconst 5, 1) := by decide +kernel
theorem dX9_readLine_34 : decode cX9_readLine 34 = .ok (.if_icmp .ne 8, 3) := by decide +kernel
theorem dX9_readLine_37 : decode cX9_readLine 37 = .ok (.aload_n 0, 1) := by decide +kernel
theorem dX9_readLine_38 : decode cX9_readLine 38 = .ok (.iconst 3, 1) := by decide +kernel
theorem dX9_readLine_39 : decode cX9_readLine 39 = .ok (.invokevirtual 215, 3) := by decide +kernel
theorem dX9_readLine_42 : decode cX9_readLine 42 = .ok (.aload_n 0, 1) := by decide +kernel
theorem dX9_readLine_43 : decode cX9_readLine 43 = .ok (.lload_n 1, 1) := by decide +kernel
theorem dX9_readLine_44 : decode cX9_readLine 44 = .ok (.ldc2_w 239, 3) := by decide +kernel
theorem dX9_readLine_47 : decode cX9_readLine 47 = .ok (.lcmp, 1) := by decide +kernel
theorem dX9_readLine_48 : decode cX9_readLine 48 = .ok (.ifCond .eq 19, 3) := by decide +kernel
theorem dX9_readLine_51 : decode cX9_readLine 51 = .ok (.lload_n 1, 1) := by decide +kernel
theorem dX9_readLine_52 : decode cX9_readLine 52 = .ok (.ldc2_w 229, 3) := by decide +kernel
theorem dX9_readLine_55 : decode cX9_readLine 55 = .ok (.lcmp, 1) := by decide +kernel
theorem dX9_readLine_56 : decode cX9_readLine 56 = .ok (.ifCond .eq 11, 3) := by decide +kernel
theorem dX9_readLine_59 : decode cX9_readLine 59 = .ok (.lload_n 1, 1) := by decide +kernel
theorem dX9_readLine_60 : decode cX9_readLine 60 = .ok (.ldc2_w 234, 3) := by decide +kernel
theorem dX9_readLine_63 : decode cX9_readLine 63 = .ok (.lcmp, 1) := by decide +kernel
theorem dX9_readLine_64 : decode cX9_readLine 64 = .ok (.ifCond .ne 7, 3) := by decide +kernel
theorem dX9_readLine_67 : decode cX9_readLine 67 = .ok (.iconst 1, 1) := by decide +kernel
theorem dX9_readLine_68 : decode cX9_readLine 68 = .ok (.goto 4, 3) := by decide +kernel
theorem dX9_readLine_71 : decode cX9_readLine 71 = .ok (.iconst 0, 1) := by decide +kernel
theorem dX9_readLine_72 : decode cX9_readLine 72 = .ok (.invokevirtual 221, 3) := by decide +kernel
theorem dX9_readLine_75 : decode cX9_readLine 75 = .ok (.aload_n 0, 1) := by decide +kernel
theorem dX9_readLine_76 : decode cX9_readLine 76 = .ok (.getfield 209, 3) := by decide +kernel
theorem dX9_readLine_79 : decode cX9_readLine 79 = .ok (.ifCond .le 4, 3) := by decide +kernel
theorem dX9_readLine_82 : decode cX9_readLine 82 = .ok (.return_, 1) := by decide +kernel
theorem dX9_readLine_83 : decode cX9_readLine 83 = .ok (.lload_n 1, 1) := by decide +kernel
theorem dX9_readLine_84 : decode cX9_readLine 84 = .ok (.ldc2_w 239, 3) := by decide +kernel
theorem dX9_readLine_87 : decode cX9_readLine 87 = .ok (.lcmp, 1) := by decide +kernel
theorem dX9_readLine_88 : decode cX9_readLine 88 = .ok (.ifCond .ne 73, 3) := by decide +kernel
theorem dX9_readLine_91 : decode cX9_readLine 91 = .ok (.aload_n 0, 1) := by decide +kernel
theorem dX9_readLine_92 : decode cX9_readLine 92 = .ok (.invokevirtual 225, 3) := by decide +kernel
theorem dX9_readLine_95 : decode cX9_readLine 95 = .ok (.lstore_n 3, 1) := by decide +kernel
theorem dX9_readLine_96 : decode cX9_readLine 96 = .ok (.aload_n 0, 1) := by decide +kernel
theorem dX9_readLine_97 : decode cX9_readLine 97 = .ok (.lload_n 3, 1) := by decide +kernel
theorem dX9_readLine_98 : decode cX9_readLine 98 = .ok (.ldc2_w 241, 3) := by decide +kernel
theorem dX9_readLine_101 : decode cX9_readLine 101 = .ok (.lcmp, 1) := by decide +kernel
theorem dX9_readLine_102 : decode cX9_readLine 102 = .ok (.ifCond .ne 7, 3) := by decide +kernel
theorem dX9_readLine_105 : decode cX9_readLine 105 = .ok (.iconst 1, 1) := by decide +kernel
theorem dX9_readLine_106 : decode cX9_readLine 106 = .ok (.goto 16, 3) := by decide +kernel
theorem dX9_readLine_109 : decode cX9_readLine 109 = .ok (.lload_n 3, 1) := by decide +kernel
theorem dX9_readLine_110 : decode cX9_readLine 110 = .ok (.ldc2_w 243, 3) := by decide +kernel
theorem dX9_readLine_113 : decode cX9_readLine 113 = .ok (.lcmp, 1) := by decide +kernel
theorem dX9_readLine_114 : decode cX9_readLine 114 = .ok (.ifCond .ne 7, 3) := by decide +kernel
theorem dX9_readLine_117 : decode cX9_readLine 117 = .ok (.iconst 2, 1) := by decide +kernel
theorem dX9_readLine_118 : decode cX9_readLine 118 = .ok (.goto 4, 3) := by decide +kernel
theorem dX9_readLine_121 : decode cX9_readLine 121 = .ok (.iconst 0, 1) := by decide +kernel
theorem dX9_readLine_122 : decode cX9_readLine 122 = .ok (.putfield 245, 3) := by decide +kernel
theorem dX9_readLine_125 : decode cX9_readLine 125 = .ok (.aload_n 0, 1) := by decide +kernel
theorem dX9_readLine_126 : decode cX9_readLine 126 = .ok (.lload_n 3, 1) := by decide +kernel
theorem dX9_readLine_127 : decode cX9_readLine 127 = .ok (.ldc2_w 241, 3) := by decide +kernel
theorem dX9_readLine_130 : decode cX9_readLine 130 = .ok (.lcmp, 1) := by decide +kernel
theorem dX9_readLine_131 : decode cX9_readLine 131 = .ok (.ifCond .eq 19, 3) := by decide +kernel
theorem dX9_readLine_134 : decode cX9_readLine 134 = .ok (.lload_n 3, 1) := by decide +kernel
theorem dX9_readLine_135 : decode cX9_readLine 135 = .ok (.ldc2_w 243, 3) := by decide +kernel
theorem dX9_readLine_138 : decode cX9_readLine 138 = .ok (.lcmp, 1) := by decide +kernel
theorem dX9_readLine_139 : decode cX9_readLine 139 = .ok (.ifCond .eq 11, 3) := by decide +kernel
theorem dX9_readLine_142 : decode cX9_readLine 142 = .ok (.lload_n 3, 1) := by decide +kernel
theorem dX9_readLine_143 : decode cX9_readLine 143 = .ok (.ldc2_w 248, 3) := by decide +kernel
theorem dX9_readLine_146 : decode cX9_readLine 146 = .ok (.lcmp, 1) := by decide +kernel
theorem dX9_readLine_147 : decode cX9_readLine 147 = .ok (.ifCond .ne 7, 3) := by decide +kernel
theorem dX9_readLine_150 : decode cX9_readLine 150 = .ok (.iconst 1, 1) := by decide +kernel
theorem dX9_readLine_151 : decode cX9_readLine 151 = .ok (.goto 4, 3) := by decide +kernel
theorem dX9_readLine_154 : decode cX9_readLine 154 = .ok (.iconst 0, 1) := by decide +kernel
theorem dX9_readLine_155 : decode cX9_readLine 155 = .ok (.invokevirtual 221, 3) := by decide +kernel
theorem dX9_readLine_158 : decode cX9_readLine 158 = .ok (.goto 184, 3) := by decide +kernel
theorem dX9_readLine_161 : decode cX9_readLine 161 = .ok (.lload_n 1, 1) := by decide +kernel
theorem dX9_readLine_162 : decode cX9_readLine 162 = .ok (.ldc2_w 229, 3) := by decide +kernel
theorem dX9_readLine_165 : decode cX9_readLine 165 = .ok (.lcmp, 1) := by decide +kernel
theorem dX9_readLine_166 : decode cX9_readLine 166 = .ok (.ifCond .ne 7, 3) := by decide +kernel
theorem dX9_readLine_169 : decode cX9_readLine 169 = .ok (.iconst 1, 1) := by decide +kernel
theorem dX9_readLine_170 : decode cX9_readLine 170 = .ok (.goto 4, 3) := by decide +kernel
theorem dX9_readLine_173 : decode cX9_readLine 173 = .ok (.iconst 0, 1) := by decide +kernel
theorem dX9_readLine_174 : decode cX9_readLine 174 = .ok (.istore_n 3, 1) := by decide +kernel
theorem dX9_readLine_175 : decode cX9_readLine 175 = .ok (.iload_n 3, 1) := by decide +kernel
theorem dX9_readLine_176 : decode cX9_readLine 176 = .ok (.ifCond .eq 7, 3) := by decide +kernel
theorem dX9_readLine_179 : decode cX9_readLine 179 = .ok (.iconst 1, 1) := by decide +kernel
theorem dX9_readLine_180 : decode cX9_readLine 180 = .ok (.goto 27, 3) := by decide +kernel
theorem dX9_readLine_183 : decode cX9_readLine 183 = .ok (.aload_n 0, 1) := by decide +kernel
theorem dX9_readLine_184 : decode cX9_readLine 184 = .ok (.getfield 236, 3) := by decide +kernel
theorem dX9_readLine_187 : decode cX9_readLine 187 = .ok (.ifCond .ne 7, 3) := by decide +kernel
theorem dX9_readLine_190 : decode cX9_readLine 190 = .ok (.iconst 0, 1) := by decide +kernel
theorem dX9_readLine_191 : decode cX9_readLine 191 = .ok (.goto 16, 3) := by decide +kernel
theorem dX9_readLine_194 : decode cX9_readLine 194 = .ok (.aload_n 0, 1) := by decide +kernel
theorem dX9_readLine_195 : decode cX9_readLine 195 = .ok (.getfield 80, 3) := by decide +kernel
theorem dX9_readLine_198 : decode cX9_readLine 198 = .ok (.aload_n 0, 1) := by decide +kernel
theorem dX9_readLine_199 : decode cX9_readLine 199 = .ok (.getfield 236, 3) := by decide +kernel
theorem dX9_readLine_202 : decode cX9_readLine 202 = .ok (.iconst 1, 1) := by decide +kernel
theorem dX9_readLine_203 : decode cX9_readLine 203 = .ok (.isub, 1) := by decide +kernel
theorem dX9_readLine_204 : decode cX9_readLine 204 = .ok (.iaload, 1) := by decide +kernel
theorem dX9_readLine_205 : decode cX9_readLine 205 = .ok (.iconst 1, 1) := by decide +kernel
theorem dX9_readLine_206 : decode cX9_readLine 206 = .ok (.iadd, 1) := by decide +kernel
theorem dX9_readLine_207 : decode cX9_readLine 207 = .ok (.istore 4, 2) := by decide +kernel
theorem dX9_readLine_209 : decode cX9_readLine 209 = .ok (.aload_n 0, 1) := by decide +kernel
theorem dX9_readLine_210 : decode cX9_readLine 210 = .ok (.iload 4, 2) := by decide +kernel
theorem dX9_readLine_212 : decode cX9_readLine 212 = .ok (.iload_n 3, 1) := by decide +kernel
theorem dX9_readLine_213 : decode cX9_readLine 213 = .ok (.ifCond .eq 8, 3) := by decide +kernel
theorem dX9_readLine_216 : decode cX9_readLine 216 = .ok (.bipush 60, 2) := by decide +kernel
theorem dX9_readLine_218 : decode cX9_readLine 218 = .ok (.goto 5, 3) := by decide +kernel
theorem dX9_readLine_221 : decode cX9_readLine 221 = .ok (.ldc 250, 2) := by decide +kernel
theorem dX9_readLine_223 : decode cX9_readLine 223 = .ok (.invokevirtual 251, 3) := by decide +kernel
theorem dX9_readLine_226 : decode cX9_readLine 226 = .ok (.istore 5, 2) := by decide +kernel
theorem dX9_readLine_228 : decode cX9_readLine 228 = .ok (.aload_n 0, 1) := by decide +kernel
theorem dX9_readLine_229 : decode cX9_readLine 229 = .ok (.aload_n 0, 1) := by decide +kernel
theorem dX9_readLine_230 : decode cX9_readLine 230 = .ok (.invokevirtual 225, 3) := by decide +kernel
theorem dX9_readLine_233 : decode cX9_readLine 233 = .ok (.ldc2_w 255, 3) := by decide +kernel
theorem dX9_readLine_236 : decode cX9_readLine 236 = .ok (.lcmp, 1) := by decide +kernel
theorem dX9_readLine_237 : decode cX9_readLine 237 = .ok (.ifCond .ne 7, 3) := by decide +kernel
theorem dX9_readLine_240 : decode cX9_readLine 240 = .ok (.iconst 1, 1) := by decide +kernel
theorem dX9_readLine_241 : decode cX9_readLine 241 = .ok (.goto 4, 3) := by decide +kernel
theorem dX9_readLine_244 : decode cX9_readLine 244 = .ok (.iconst 0, 1) := by decide +kernel
theorem dX9_readLine_245 : decode cX9_readLine 245 = .ok (.invokevirtual 221, 3) := by decide +kernel
theorem dX9_readLine_248 : decode cX9_readLine 248 = .ok (.aload_n 0, 1) := by decide +kernel
theorem dX9_readLine_249 : decode cX9_readLine 249 = .ok (.iconst 0, 1) := by decide +kernel
theorem dX9_readLine_250 : decode cX9_readLine 250 = .ok (.bipush 100, 2) := by decide +kernel
theorem dX9_readLine_252 : decode cX9_readLine 252 = .ok (.invokevirtual 251, 3) := by decide +kernel
theorem dX9_readLine_255 : decode cX9_readLine 255 = .ok (.istore 6, 2) := by decide +kernel
theorem dX9_readLine_257 : decode cX9_readLine 257 = .ok (.aload_n 0, 1) := by decide +kernel
theorem dX9_readLine_258 : decode cX9_readLine 258 = .ok (.getfield 209, 3) := by decide +kernel
theorem dX9_readLine_261 : decode cX9_readLine 261 = .ok (.ifCond .ne 42, 3) := by decide +kernel
theorem dX9_readLine_264 : decode cX9_readLine 264 = .ok (.iload_n 3, 1) := by decide +kernel
theorem dX9_readLine_265 : decode cX9_readLine 265 = .ok (.ifCond .eq 38, 3) := by decide +kernel
theorem dX9_readLine_268 : decode cX9_readLine 268 = .ok (.aload_n 0, 1) := by decide +kernel
theorem dX9_readLine_269 : decode cX9_readLine 269 = .ok (.getfield 74, 3) := by decide +kernel
theorem dX9_readLine_272 : decode cX9_readLine 272 = .ok (.aload_n 0, 1) := by decide +kernel
theorem dX9_readLine_273 : decode cX9_readLine 273 = .ok (.getfield 231, 3) := by decide +kernel
theorem dX9_readLine_276 : decode cX9_readLine 276 = .ok (.iload 5, 2) := by decide +kernel
theorem dX9_readLine_278 : decode cX9_readLine 278 = .ok (.iastore, 1) := by decide +kernel
theorem dX9_readLine_279 : decode cX9_readLine 279 = .ok (.aload_n 0, 1) := by decide +kernel
theorem dX9_readLine_280 : decode cX9_readLine 280 = .ok (.getfield 77, 3) := by decide +kernel
theorem dX9_readLine_283 : decode cX9_readLine 283 = .ok (.aload_n 0, 1) := by decide +kernel
theorem dX9_readLine_284 : decode cX9_readLine 284 = .ok (.getfield 231, 3) := by decide +kernel
theorem dX9_readLine_287 : decode cX9_readLine 287 = .ok (.iload 6, 2) := by decide +kernel
theorem dX9_readLine_289 : decode cX9_readLine 289 = .ok (.iastore, 1) := by decide +kernel
theorem dX9_readLine_290 : decode cX9_readLine 290 = .ok (.aload_n 0, 1) := by decide +kernel
theorem dX9_readLine_291 : decode cX9_readLine 291 = .ok (.dup, 1) := by decide +kernel
theorem dX9_readLine_292 : decode cX9_readLine 292 = .ok (.getfield 231, 3) := by decide +kernel
theorem dX9_readLine_295 : decode cX9_readLine 295 = .ok (.iconst 1, 1) := by decide +kernel
theorem dX9_readLine_296 : decode cX9_readLine 296 = .ok (.iadd, 1) := by decide +kernel
theorem dX9_readLine_297 : decode cX9_readLine 297 = .ok (.putfield 231, 3) := by decide +kernel
theorem dX9_readLine_300 : decode cX9_readLine 300 = .ok (.goto 42, 3) := by decide +kernel
theorem dX9_readLine_303 : decode cX9_readLine 303 = .ok (.aload_n 0, 1) := by decide +kernel
theorem dX9_readLine_304 : decode cX9_readLine 304 = .ok (.getfield 209, 3) := by decide +kernel
theorem dX9_readLine_307 : decode cX9_readLine 307 = .ok (.ifCond .ne 35, 3) := by decide +kernel
theorem dX9_readLine_310 : decode cX9_readLine 310 = .ok (.aload_n 0, 1) := by decide +kernel
theorem dX9_readLine_311 : decode cX9_readLine 311 = .ok (.getfield 80, 3) := by decide +kernel
theorem dX9_readLine_314 : decode cX9_readLine 314 = .ok (.aload_n 0, 1) := by decide +kernel
theorem dX9_readLine_315 : decode cX9_readLine 315 = .ok (.getfield 236, 3) := by decide +kernel
theorem dX9_readLine_318 : decode cX9_readLine 318 = .ok (.iload 5, 2) := by decide +kernel
theorem dX9_readLine_320 : decode cX9_readLine 320 = .ok (.iastore, 1) := by decide +kernel
theorem dX9_readLine_321 : decode cX9_readLine 321 = .ok (.aload_n 0, 1) := by decide +kernel
theorem dX9_readLine_322 : decode cX9_readLine 322 = .ok (.getfield 83, 3) := by decide +kernel
theorem dX9_readLine_325 : decode cX9_readLine 325 = .ok (.aload_n 0, 1) := by decide +kernel
theorem dX9_readLine_326 : decode cX9_readLine 326 = .ok (.getfield 236, 3) := by decide +kernel
theorem dX9_readLine_329 : decode cX9_readLine 329 = .ok (.iload 6, 2) := by decide +kernel
theorem dX9_readLine_331 : decode cX9_readLine 331 = .ok (.iastore, 1) := by decide +kernel
theorem dX9_readLine_332 : decode cX9_readLine 332 = .ok (.aload_n 0, 1) := by decide +kernel
theorem dX9_readLine_333 : decode cX9_readLine 333 = .ok (.dup, 1) := by decide +kernel
theorem dX9_readLine_334 : decode cX9_readLine 334 = .ok (.getfield 236, 3) := by decide +kernel
theorem dX9_readLine_337 : decode cX9_readLine 337 = .ok (.iconst 1, 1) := by decide +kernel
theorem dX9_readLine_338 : decode cX9_readLine 338 = .ok (.iadd, 1) := by decide +kernel
theorem dX9_readLine_339 : decode cX9_readLine 339 = .ok (.putfield 236, 3) := by decide +kernel
theorem dX9_readLine_342 : decode cX9_readLine 342 = .ok (.aload_n 0, 1) := by decide +kernel
theorem dX9_readLine_343 : decode cX9_readLine 343 = .ok (.aload_n 0, 1) := by decide +kernel
theorem dX9_readLine_344 : decode cX9_readLine 344 = .ok (.getfield 197, 3) := by decide +kernel
theorem dX9_readLine_347 : decode cX9_readLine 347 = .ok (.iconst 4, 1) := by decide +kernel
theorem dX9_readLine_348 : decode cX9_readLine 348 = .ok (.if_icmp .ne 7, 3) := by decide +kernel
theorem dX9_readLine_351 : decode cX9_readLine 351 = .ok (.iconst 1, 1) := by decide +kernel
theorem dX9_readLine_352 : decode cX9_readLine 352 = .ok (.goto 4, 3) := by decide +kernel
theorem dX9_readLine_355 : decode cX9_readLine 355 = .ok (.iconst 0, 1) := by decide +kernel
theorem dX9_readLine_356 : decode cX9_readLine 356 = .ok (.invokevirtual 221, 3) := by decide +kernel
theorem dX9_readLine_359 : decode cX9_readLine 359 = .ok (.return_, 1) := by decide +kernel
theorem dX9_rules_0 : decode cX9_rules 0 = .ok (.aload_n 0, 1) := by decide +kernel
theorem dX9_rules_1 : decode cX9_rules 1 = .ok (.iconst 0, 1) := by decide +kernel
theorem dX9_rules_2 : decode cX9_rules 2 = .ok (.putfield 1, 3) := by decide +kernel
theorem dX9_rules_5 : decode cX9_rules 5 = .ok (.aload_n 0, 1) := by decide +kernel
theorem dX9_rules_6 : decode cX9_rules 6 = .ok (.aload_n 0, 1) := by decide +kernel
theorem dX9_rules_7 : decode cX9_rules 7 = .ok (.getfield 180, 3) := by decide +kernel
theorem dX9_rules_10 : decode cX9_rules 10 = .ok (.putfield 185, 3) := by decide +kernel
theorem dX9_rules_13 : decode cX9_rules 13 = .ok (.aload_n 0, 1) := by decide +kernel
theorem dX9_rules_14 : decode cX9_rules 14 = .ok (.iconst 0, 1) := by decide +kernel
theorem dX9_rules_15 : decode cX9_rules 15 = .ok (.putfield 180, 3) := by decide +kernel
theorem dX9_rules_18 : decode cX9_rules 18 = .ok (.aload_n 0, 1) := by decide +kernel
theorem dX9_rules_19 : decode cX9_rules 19 = .ok (.iconst 0, 1) := by decide +kernel
theorem dX9_rules_20 : decode cX9_rules 20 = .ok (.putfield 188, 3) := by decide +kernel
theorem dX9_rules_23 : decode cX9_rules 23 = .ok (.aload_n 0, 1) := by decide +kernel
theorem dX9_rules_24 : decode cX9_rules 24 = .ok (.iconst 0, 1) := by decide +kernel
theorem dX9_rules_25 : decode cX9_rules 25 = .ok (.putfield 209, 3) := by decide +kernel
theorem dX9_rules_28 : decode cX9_rules 28 = .ok (.aload_n 0, 1) := by decide +kernel
theorem dX9_rules_29 : decode cX9_rules 29 = .ok (.iconst 0, 1) := by decide +kernel
theorem dX9_rules_30 : decode cX9_rules 30 = .ok (.putfield 245, 3) := by decide +kernel
theorem dX9_rules_33 : decode cX9_rules 33 = .ok (.aload_n 0, 1) := by decide +kernel
theorem dX9_rules_34 : decode cX9_rules 34 = .ok (.iconst 0, 1) := by decide +kernel
theorem dX9_rules_35 : decode cX9_rules 35 = .ok (.putfield 231, 3) := by decide +kernel
theorem dX9_rules_38 : decode cX9_rules 38 = .ok (.aload_n 0, 1) := by decide +kernel
theorem dX9_rules_39 : decode cX9_rules 39 = .ok (.iconst 0, 1) := by decide +kernel
theorem dX9_rules_40 : decode cX9_rules 40 = .ok (.putfield 236, 3) := by decide +kernel
theorem dX9_rules_43 : decode cX9_rules 43 = .ok (.iconst 0, 1) := by decide +kernel
theorem dX9_rules_44 : decode cX9_rules 44 = .ok (.istore_n 1, 1) := by decide +kernel
theorem dX9_rules_45 : decode cX9_rules 45 = .ok (.aload_n 0, 1) := by decide +kernel
theorem dX9_rules_46 : decode cX9_rules 46 = .ok (.invokevirtual 218, 3) := by decide +kernel
theorem dX9_rules_49 : decode cX9_rules 49 = .ok (.aload_n 0, 1) := by decide +kernel
theorem dX9_rules_50 : decode cX9_rules 50 = .ok (.getfield 209, 3) := by decide +kernel
theorem dX9_rules_53 : decode cX9_rules 53 = .ok (.ifCond .ne 21, 3) := by decide +kernel
theorem dX9_rules_56 : decode cX9_rules 56 = .ok (.aload_n 0, 1) := by decide +kernel
theorem dX9_rules_57 : decode cX9_rules 57 = .ok (.getfield 197, 3) := by decide +kernel
theorem dX9_rules_60 : decode cX9_rules 60 = .ok (.iconst 1, 1) := by decide +kernel
theorem dX9_rules_61 : decode cX9_rules 61 = .ok (.if_icmp .eq 13, 3) := by decide +kernel
theorem dX9_rules_64 : decode cX9_rules 64 = .ok (.aload_n 0, 1) := by decide +kernel
theorem dX9_rules_65 : decode cX9_rules 65 = .ok (.invokevirtual 257, 3) := by decide +kernel
theorem dX9_rules_68 : decode cX9_rules 68 = .ok (.iinc 1 1, 3) := by decide +kernel
theorem dX9_rules_71 : decode cX9_rules 71 = .ok (.goto (-22), 3) := by decide +kernel
theorem dX9_rules_74 : decode cX9_rules 74 = .ok (.aload_n 0, 1) := by decide +kernel
theorem dX9_rules_75 : decode cX9_rules 75 = .ok (.getfield 209, 3) := by decide +kernel
theorem dX9_rules_78 : decode cX9_rules 78 = .ok (.ifCond .le 20, 3) := by decide +kernel
theorem dX9_rules_81 : decode cX9_rules 81 = .ok (.aload_n 0, 1) := by decide +kernel
