abbrev b_LW_law : ByteArray := code
theorem d_LW_law_0 : decode b_LW_law 0 = .ok (.new 8, 3) := by decide +kernel
theorem d_LW_law_3 : decode b_LW_law 3 = .ok (.dup, 1) := by decide +kernel
theorem d_LW_law_4 : decode b_LW_law 4 = .ok (.invokespecial 24, 3) := by decide +kernel
theorem d_LW_law_7 : decode b_LW_law 7 = .ok (.astore_n 1, 1) := by decide +kernel
theorem d_LW_law_8 : decode b_LW_law 8 = .ok (.new 25, 3) := by decide +kernel
theorem d_LW_law_11 : decode b_LW_law 11 = .ok (.dup, 1) := by decide +kernel
theorem d_LW_law_12 : decode b_LW_law 12 = .ok (.invokespecial 27, 3) := by decide +kernel
theorem d_LW_law_15 : decode b_LW_law 15 = .ok (.astore_n 2, 1) := by decide +kernel
theorem d_LW_law_16 : decode b_LW_law 16 = .ok (.iconst 1, 1) := by decide +kernel
theorem d_LW_law_17 : decode b_LW_law 17 = .ok (.newarray .long, 2) := by decide +kernel
theorem d_LW_law_19 : decode b_LW_law 19 = .ok (.astore_n 3, 1) := by decide +kernel
theorem d_LW_law_20 : decode b_LW_law 20 = .ok (.iconst 0, 1) := by decide +kernel
theorem d_LW_law_21 : decode b_LW_law 21 = .ok (.istore 4, 2) := by decide +kernel
theorem d_LW_law_23 : decode b_LW_law 23 = .ok (.iload 4, 2) := by decide +kernel
theorem d_LW_law_25 : decode b_LW_law 25 = .ok (.aload_n 0, 1) := by decide +kernel
theorem d_LW_law_26 : decode b_LW_law 26 = .ok (.arraylength, 1) := by decide +kernel
theorem d_LW_law_27 : decode b_LW_law 27 = .ok (.iconst 4, 1) := by decide +kernel
theorem d_LW_law_28 : decode b_LW_law 28 = .ok (.isub, 1) := by decide +kernel
theorem d_LW_law_29 : decode b_LW_law 29 = .ok (.if_icmp .gt 525, 3) := by decide +kernel
theorem d_LW_law_32 : decode b_LW_law 32 = .ok (.aload_n 0, 1) := by decide +kernel
theorem d_LW_law_33 : decode b_LW_law 33 = .ok (.iload 4, 2) := by decide +kernel
theorem d_LW_law_35 : decode b_LW_law 35 = .ok (.iaload, 1) := by decide +kernel
theorem d_LW_law_36 : decode b_LW_law 36 = .ok (.bipush 15, 2) := by decide +kernel
theorem d_LW_law_38 : decode b_LW_law 38 = .ok (.iand, 1) := by decide +kernel
theorem d_LW_law_39 : decode b_LW_law 39 = .ok (.tableswitch 509 0 12 #[65, 114, 127, 190, 203, 259, 296, 309, 334, 359, 396, 421, 446], 65) := by decide +kernel
theorem d_LW_law_104 : decode b_LW_law 104 = .ok (.aload_n 1, 1) := by decide +kernel
theorem d_LW_law_105 : decode b_LW_law 105 = .ok (.aload_n 0, 1) := by decide +kernel
theorem d_LW_law_106 : decode b_LW_law 106 = .ok (.iload 4, 2) := by decide +kernel
theorem d_LW_law_108 : decode b_LW_law 108 = .ok (.iconst 1, 1) := by decide +kernel
theorem d_LW_law_109 : decode b_LW_law 109 = .ok (.iadd, 1) := by decide +kernel
theorem d_LW_law_110 : decode b_LW_law 110 = .ok (.iaload, 1) := by decide +kernel
theorem d_LW_law_111 : decode b_LW_law 111 = .ok (.aload_n 0, 1) := by decide +kernel
theorem d_LW_law_112 : decode b_LW_law 112 = .ok (.iload 4, 2) := by decide +kernel
theorem d_LW_law_114 : decode b_LW_law 114 = .ok (.iconst 2, 1) := by decide +kernel
theorem d_LW_law_115 : decode b_LW_law 115 = .ok (.iadd, 1) := by decide +kernel
theorem d_LW_law_116 : decode b_LW_law 116 = .ok (.iaload, 1) := by decide +kernel
theorem d_LW_law_117 : decode b_LW_law 117 = .ok (.aload_n 0, 1) := by decide +kernel
theorem d_LW_law_118 : decode b_LW_law 118 = .ok (.iload 4, 2) := by decide +kernel
theorem d_LW_law_120 : decode b_LW_law 120 = .ok (.iconst 3, 1) := by decide +kernel
theorem d_LW_law_121 : decode b_LW_law 121 = .ok (.iadd, 1) := by decide +kernel
theorem d_LW_law_122 : decode b_LW_law 122 = .ok (.iaload, 1) := by decide +kernel
theorem d_LW_law_123 : decode b_LW_law 123 = .ok (.invokevirtual 28, 3) := by decide +kernel
theorem d_LW_law_126 : decode b_LW_law 126 = .ok (.aload_n 2, 1) := by decide +kernel
theorem d_LW_law_127 : decode b_LW_law 127 = .ok (.aload_n 0, 1) := by decide +kernel
theorem d_LW_law_128 : decode b_LW_law 128 = .ok (.iload 4, 2) := by decide +kernel
theorem d_LW_law_130 : decode b_LW_law 130 = .ok (.iconst 1, 1) := by decide +kernel
theorem d_LW_law_131 : decode b_LW_law 131 = .ok (.iadd, 1) := by decide +kernel
theorem d_LW_law_132 : decode b_LW_law 132 = .ok (.iaload, 1) := by decide +kernel
theorem d_LW_law_133 : decode b_LW_law 133 = .ok (.aload_n 0, 1) := by decide +kernel
theorem d_LW_law_134 : decode b_LW_law 134 = .ok (.iload 4, 2) := by decide +kernel
theorem d_LW_law_136 : decode b_LW_law 136 = .ok (.iconst 2, 1) := by decide +kernel
theorem d_LW_law_137 : decode b_LW_law 137 = .ok (.iadd, 1) := by decide +kernel
theorem d_LW_law_138 : decode b_LW_law 138 = .ok (.iaload, 1) := by decide +kernel
theorem d_LW_law_139 : decode b_LW_law 139 = .ok (.aload_n 0, 1) := by decide +kernel
theorem d_LW_law_140 : decode b_LW_law 140 = .ok (.iload 4, 2) := by decide +kernel
theorem d_LW_law_142 : decode b_LW_law 142 = .ok (.iconst 3, 1) := by decide +kernel
theorem d_LW_law_143 : decode b_LW_law 143 = .ok (.iadd, 1) := by decide +kernel
theorem d_LW_law_144 : decode b_LW_law 144 = .ok (.iaload, 1) := by decide +kernel
theorem d_LW_law_145 : decode b_LW_law 145 = .ok (.invokevirtual 32, 3) := by decide +kernel
theorem d_LW_law_148 : decode b_LW_law 148 = .ok (.if_icmp .eq 400, 3) := by decide +kernel
theorem d_LW_law_151 : decode b_LW_law 151 = .ok (.iconst 0, 1) := by decide +kernel
theorem d_LW_law_152 : decode b_LW_law 152 = .ok (.ireturn, 1) := by decide +kernel
theorem d_LW_law_153 : decode b_LW_law 153 = .ok (.aload_n 1, 1) := by decide +kernel
theorem d_LW_law_154 : decode b_LW_law 154 = .ok (.invokevirtual 33, 3) := by decide +kernel
theorem d_LW_law_157 : decode b_LW_law 157 = .ok (.aload_n 2, 1) := by decide +kernel
theorem d_LW_law_158 : decode b_LW_law 158 = .ok (.invokevirtual 37, 3) := by decide +kernel
theorem d_LW_law_161 : decode b_LW_law 161 = .ok (.if_icmp .eq 387, 3) := by decide +kernel
theorem d_LW_law_164 : decode b_LW_law 164 = .ok (.iconst 0, 1) := by decide +kernel
theorem d_LW_law_165 : decode b_LW_law 165 = .ok (.ireturn, 1) := by decide +kernel
theorem d_LW_law_166 : decode b_LW_law 166 = .ok (.aload_n 1, 1) := by decide +kernel
theorem d_LW_law_167 : decode b_LW_law 167 = .ok (.aload_n 0, 1) := by decide +kernel
theorem d_LW_law_168 : decode b_LW_law 168 = .ok (.iload 4, 2) := by decide +kernel
theorem d_LW_law_170 : decode b_LW_law 170 = .ok (.iconst 1, 1) := by decide +kernel
theorem d_LW_law_171 : decode b_LW_law 171 = .ok (.iadd, 1) := by decide +kernel
theorem d_LW_law_172 : decode b_LW_law 172 = .ok (.iaload, 1) := by decide +kernel
theorem d_LW_law_173 : decode b_LW_law 173 = .ok (.aload_n 3, 1) := by decide +kernel
theorem d_LW_law_174 : decode b_LW_law 174 = .ok (.invokestatic 38, 3) := by decide +kernel
theorem d_LW_law_177 : decode b_LW_law 177 = .ok (.istore 5, 2) := by decide +kernel
theorem d_LW_law_179 : decode b_LW_law 179 = .ok (.aload_n 2, 1) := by decide +kernel
theorem d_LW_law_180 : decode b_LW_law 180 = .ok (.aload_n 0, 1) := by decide +kernel
theorem d_LW_law_181 : decode b_LW_law 181 = .ok (.iload 4, 2) := by decide +kernel
theorem d_LW_law_183 : decode b_LW_law 183 = .ok (.iconst 1, 1) := by decide +kernel
theorem d_LW_law_184 : decode b_LW_law 184 = .ok (.iadd, 1) := by decide +kernel
theorem d_LW_law_185 : decode b_LW_law 185 = .ok (.iaload, 1) := by decide +kernel
theorem d_LW_law_186 : decode b_LW_law 186 = .ok (.invokevirtual 43, 3) := by decide +kernel
theorem d_LW_law_189 : decode b_LW_law 189 = .ok (.istore 6, 2) := by decide +kernel
theorem d_LW_law_191 : decode b_LW_law 191 = .ok (.aload_n 2, 1) := by decide +kernel
theorem d_LW_law_192 : decode b_LW_law 192 = .ok (.invokevirtual 44, 3) := by decide +kernel
theorem d_LW_law_195 : decode b_LW_law 195 = .ok (.iload 5, 2) := by decide +kernel
theorem d_LW_law_197 : decode b_LW_law 197 = .ok (.if_icmp .eq 5, 3) := by decide +kernel
theorem d_LW_law_200 : decode b_LW_law 200 = .ok (.iconst 0, 1) := by decide +kernel
theorem d_LW_law_201 : decode b_LW_law 201 = .ok (.ireturn, 1) := by decide +kernel
theorem d_LW_law_202 : decode b_LW_law 202 = .ok (.iload 5, 2) := by decide +kernel
theorem d_LW_law_204 : decode b_LW_law 204 = .ok (.ifCond .ne 22, 3) := by decide +kernel
theorem d_LW_law_207 : decode b_LW_law 207 = .ok (.aload_n 3, 1) := by decide +kernel
theorem d_LW_law_208 : decode b_LW_law 208 = .ok (.iconst 0, 1) := by decide +kernel
theorem d_LW_law_209 : decode b_LW_law 209 = .ok (.laload, 1) := by decide +kernel
theorem d_LW_law_210 : decode b_LW_law 210 = .ok (.iload 6, 2) := by decide +kernel
theorem d_LW_law_212 : decode b_LW_law 212 = .ok (.ifCond .eq 7, 3) := by decide +kernel
theorem d_LW_law_215 : decode b_LW_law 215 = .ok (.lconst 1, 1) := by decide +kernel
theorem d_LW_law_216 : decode b_LW_law 216 = .ok (.goto 4, 3) := by decide +kernel
theorem d_LW_law_219 : decode b_LW_law 219 = .ok (.lconst 0, 1) := by decide +kernel
theorem d_LW_law_220 : decode b_LW_law 220 = .ok (.lcmp, 1) := by decide +kernel
theorem d_LW_law_221 : decode b_LW_law 221 = .ok (.ifCond .eq 5, 3) := by decide +kernel
theorem d_LW_law_224 : decode b_LW_law 224 = .ok (.iconst 0, 1) := by decide +kernel
theorem d_LW_law_225 : decode b_LW_law 225 = .ok (.ireturn, 1) := by decide +kernel
theorem d_LW_law_226 : decode b_LW_law 226 = .ok (.goto 322, 3) := by decide +kernel
theorem d_LW_law_229 : decode b_LW_law 229 = .ok (.aload_n 1, 1) := by decide +kernel
theorem d_LW_law_230 : decode b_LW_law 230 = .ok (.invokevirtual 47, 3) := by decide +kernel
theorem d_LW_law_233 : decode b_LW_law 233 = .ok (.aload_n 2, 1) := by decide +kernel
theorem d_LW_law_234 : decode b_LW_law 234 = .ok (.invokevirtual 51, 3) := by decide +kernel
theorem d_LW_law_237 : decode b_LW_law 237 = .ok (.if_icmp .eq 311, 3) := by decide +kernel
theorem d_LW_law_240 : decode b_LW_law 240 = .ok (.iconst 0, 1) := by decide +kernel
theorem d_LW_law_241 : decode b_LW_law 241 = .ok (.ireturn, 1) := by decide +kernel
theorem d_LW_law_242 : decode b_LW_law 242 = .ok (.aload_n 1, 1) := by decide +kernel
theorem d_LW_law_243 : decode b_LW_law 243 = .ok (.aload_n 0, 1) := by decide +kernel
theorem d_LW_law_244 : decode b_LW_law 244 = .ok (.iload 4, 2) := by decide +kernel
theorem d_LW_law_246 : decode b_LW_law 246 = .ok (.iconst 1, 1) := by decide +kernel
theorem d_LW_law_247 : decode b_LW_law 247 = .ok (.iadd, 1) := by decide +kernel
theorem d_LW_law_248 : decode b_LW_law 248 = .ok (.iaload, 1) := by decide +kernel
theorem d_LW_law_249 : decode b_LW_law 249 = .ok (.aload_n 3, 1) := by decide +kernel
theorem d_LW_law_250 : decode b_LW_law 250 = .ok (.invokestatic 52, 3) := by decide +kernel
theorem d_LW_law_253 : decode b_LW_law 253 = .ok (.istore 5, 2) := by decide +kernel
theorem d_LW_law_255 : decode b_LW_law 255 = .ok (.aload_n 2, 1) := by decide +kernel
theorem d_LW_law_256 : decode b_LW_law 256 = .ok (.aload_n 0, 1) := by decide +kernel
theorem d_LW_law_257 : decode b_LW_law 257 = .ok (.iload 4, 2) := by decide +kernel
theorem d_LW_law_259 : decode b_LW_law 259 = .ok (.iconst 1, 1) := by decide +kernel
theorem d_LW_law_260 : decode b_LW_law 260 = .ok (.iadd, 1) := by decide +kernel
theorem d_LW_law_261 : decode b_LW_law 261 = .ok (.iaload, 1) := by decide +kernel
theorem d_LW_law_262 : decode b_LW_law 262 = .ok (.invokevirtual 54, 3) := by decide +kernel
theorem d_LW_law_265 : decode b_LW_law 265 = .ok (.istore 6, 2) := by decide +kernel
theorem d_LW_law_267 : decode b_LW_law 267 = .ok (.aload_n 2, 1) := by decide +kernel
theorem d_LW_law_268 : decode b_LW_law 268 = .ok (.invokevirtual 44, 3) := by decide +kernel
theorem d_LW_law_271 : decode b_LW_law 271 = .ok (.iload 5, 2) := by decide +kernel
theorem d_LW_law_273 : decode b_LW_law 273 = .ok (.if_icmp .eq 5, 3) := by decide +kernel
theorem d_LW_law_276 : decode b_LW_law 276 = .ok (.iconst 0, 1) := by decide +kernel
theorem d_LW_law_277 : decode b_LW_law 277 = .ok (.ireturn, 1) := by decide +kernel
theorem d_LW_law_278 : decode b_LW_law 278 = .ok (.iload 5, 2) := by decide +kernel
theorem d_LW_law_280 : decode b_LW_law 280 = .ok (.ifCond .ne 15, 3) := by decide +kernel
theorem d_LW_law_283 : decode b_LW_law 283 = .ok (.aload_n 3, 1) := by decide +kernel
theorem d_LW_law_284 : decode b_LW_law 284 = .ok (.iconst 0, 1) := by decide +kernel
theorem d_LW_law_285 : decode b_LW_law 285 = .ok (.laload, 1) := by decide +kernel
theorem d_LW_law_286 : decode b_LW_law 286 = .ok (.iload 6, 2) := by decide +kernel
theorem d_LW_law_288 : decode b_LW_law 288 = .ok (.i2l, 1) := by decide +kernel
theorem d_LW_law_289 : decode b_LW_law 289 = .ok (.lcmp, 1) := by decide +kernel
theorem d_LW_law_290 : decode b_LW_law 290 = .ok (.ifCond .eq 5, 3) := by decide +kernel
theorem d_LW_law_293 : decode b_LW_law 293 = .ok (.iconst 0, 1) := by decide +kernel
theorem d_LW_law_294 : decode b_LW_law 294 = .ok (.ireturn, 1) := by decide +kernel
theorem d_LW_law_295 : decode b_LW_law 295 = .ok (.goto 253, 3) := by decide +kernel
theorem d_LW_law_298 : decode b_LW_law 298 = .ok (.aload_n 1, 1) := by decide +kernel
theorem d_LW_law_299 : decode b_LW_law 299 = .ok (.aload_n 0, 1) := by decide +kernel
theorem d_LW_law_300 : decode b_LW_law 300 = .ok (.iload 4, 2) := by decide +kernel
theorem d_LW_law_302 : decode b_LW_law 302 = .ok (.iconst 1, 1) := by decide +kernel
theorem d_LW_law_303 : decode b_LW_law 303 = .ok (.iadd, 1) := by decide +kernel
theorem d_LW_law_304 : decode b_LW_law 304 = .ok (.iaload, 1) := by decide +kernel
theorem d_LW_law_305 : decode b_LW_law 305 = .ok (.aload_n 0, 1) := by decide +kernel
theorem d_LW_law_306 : decode b_LW_law 306 = .ok (.iload 4, 2) := by decide +kernel
theorem d_LW_law_308 : decode b_LW_law 308 = .ok (.iconst 2, 1) := by decide +kernel
theorem d_LW_law_309 : decode b_LW_law 309 = .ok (.iadd, 1) := by decide +kernel
theorem d_LW_law_310 : decode b_LW_law 310 = .ok (.iaload, 1) := by decide +kernel
theorem d_LW_law_311 : decode b_LW_law 311 = .ok (.invokevirtual 55, 3) := by decide +kernel
theorem d_LW_law_314 : decode b_LW_law 314 = .ok (.aload_n 2, 1) := by decide +kernel
theorem d_LW_law_315 : decode b_LW_law 315 = .ok (.aload_n 0, 1) := by decide +kernel
theorem d_LW_law_316 : decode b_LW_law 316 = .ok (.iload 4, 2) := by decide +kernel
theorem d_LW_law_318 : decode b_LW_law 318 = .ok (.iconst 1, 1) := by decide +kernel
theorem d_LW_law_319 : decode b_LW_law 319 = .ok (.iadd, 1) := by decide +kernel
theorem d_LW_law_320 : decode b_LW_law 320 = .ok (.iaload, 1) := by decide +kernel
theorem d_LW_law_321 : decode b_LW_law 321 = .ok (.aload_n 0, 1) := by decide +kernel
theorem d_LW_law_322 : decode b_LW_law 322 = .ok (.iload 4, 2) := by decide +kernel
theorem d_LW_law_324 : decode b_LW_law 324 = .ok (.iconst 2, 1) := by decide +kernel
theorem d_LW_law_325 : decode b_LW_law 325 = .ok (.iadd, 1) := by decide +kernel
theorem d_LW_law_326 : decode b_LW_law 326 = .ok (.iaload, 1) := by decide +kernel
theorem d_LW_law_327 : decode b_LW_law 327 = .ok (.invokevirtual 59, 3) := by decide +kernel
theorem d_LW_law_330 : decode b_LW_law 330 = .ok (.if_icmp .eq 218, 3) := by decide +kernel
theorem d_LW_law_333 : decode b_LW_law 333 = .ok (.iconst 0, 1) := by decide +kernel
theorem d_LW_law_334 : decode b_LW_law 334 = .ok (.ireturn, 1) := by decide +kernel
theorem d_LW_law_335 : decode b_LW_law 335 = .ok (.aload_n 1, 1) := by decide +kernel
theorem d_LW_law_336 : decode b_LW_law 336 = .ok (.invokevirtual 60, 3) := by decide +kernel
theorem d_LW_law_339 : decode b_LW_law 339 = .ok (.aload_n 2, 1) := by decide +kernel
theorem d_LW_law_340 : decode b_LW_law 340 = .ok (.invokevirtual 63, 3) := by decide +kernel
theorem d_LW_law_343 : decode b_LW_law 343 = .ok (.if_icmp .eq 205, 3) := by decide +kernel
theorem d_LW_law_346 : decode b_LW_law 346 = .ok (.iconst 0, 1) := by decide +kernel
theorem d_LW_law_347 : decode b_LW_law 347 = .ok (.ireturn, 1) := by decide +kernel
theorem d_LW_law_348 : decode b_LW_law 348 = .ok (.aload_n 1, 1) := by decide +kernel
theorem d_LW_law_349 : decode b_LW_law 349 = .ok (.aload_n 0, 1) := by decide +kernel
theorem d_LW_law_350 : decode b_LW_law 350 = .ok (.iload 4, 2) := by decide +kernel
theorem d_LW_law_352 : decode b_LW_law 352 = .ok (.iconst 1, 1) := by decide +kernel
theorem d_LW_law_353 : decode b_LW_law 353 = .ok (.iadd, 1) := by decide +kernel
theorem d_LW_law_354 : decode b_LW_law 354 = .ok (.iaload, 1) := by decide +kernel
theorem d_LW_law_355 : decode b_LW_law 355 = .ok (.invokevirtual 64, 3) := by decide +kernel
theorem d_LW_law_358 : decode b_LW_law 358 = .ok (.aload_n 2, 1) := by decide +kernel
theorem d_LW_law_359 : decode b_LW_law 359 = .ok (.aload_n 0, 1) := by decide +kernel
theorem d_LW_law_360 : decode b_LW_law 360 = .ok (.iload 4, 2) := by decide +kernel
theorem d_LW_law_362 : decode b_LW_law 362 = .ok (.iconst 1, 1) := by decide +kernel
theorem d_LW_law_363 : decode b_LW_law 363 = .ok (.iadd, 1) := by decide +kernel
theorem d_LW_law_364 : decode b_LW_law 364 = .ok (.iaload, 1) := by decide +kernel
theorem d_LW_law_365 : decode b_LW_law 365 = .ok (.invokevirtual 67, 3) := by decide +kernel
theorem d_LW_law_368 : decode b_LW_law 368 = .ok (.if_icmp .eq 180, 3) := by decide +kernel
theorem d_LW_law_371 : decode b_LW_law 371 = .ok (.iconst 0, 1) := by decide +kernel
theorem d_LW_law_372 : decode b_LW_law 372 = .ok (.ireturn, 1) := by decide +kernel
theorem d_LW_law_373 : decode b_LW_law 373 = .ok (.aload_n 1, 1) := by decide +kernel
theorem d_LW_law_374 : decode b_LW_law 374 = .ok (.aload_n 0, 1) := by decide +kernel
theorem d_LW_law_375 : decode b_LW_law 375 = .ok (.iload 4, 2) := by decide +kernel
theorem d_LW_law_377 : decode b_LW_law 377 = .ok (.iconst 1, 1) := by decide +kernel
theorem d_LW_law_378 : decode b_LW_law 378 = .ok (.iadd, 1) := by decide +kernel
theorem d_LW_law_379 : decode b_LW_law 379 = .ok (.iaload, 1) := by decide +kernel
theorem d_LW_law_380 : decode b_LW_law 380 = .ok (.invokevirtual 68, 3) := by decide +kernel
theorem d_LW_law_383 : decode b_LW_law 383 = .ok (.aload_n 2, 1) := by decide +kernel
theorem d_LW_law_384 : decode b_LW_law 384 = .ok (.aload_n 0, 1) := by decide +kernel
theorem d_LW_law_385 : decode b_LW_law 385 = .ok (.iload 4, 2) := by decide +kernel
theorem d_LW_law_387 : decode b_LW_law 387 = .ok (.iconst 1, 1) := by decide +kernel
theorem d_LW_law_388 : decode b_LW_law 388 = .ok (.iadd, 1) := by decide +kernel
theorem d_LW_law_389 : decode b_LW_law 389 = .ok (.iaload, 1) := by decide +kernel
theorem d_LW_law_390 : decode b_LW_law 390 = .ok (.invokevirtual 71, 3) := by decide +kernel
theorem d_LW_law_393 : decode b_LW_law 393 = .ok (.if_icmp .eq 155, 3) := by decide +kernel
theorem d_LW_law_396 : decode b_LW_law 396 = .ok (.iconst 0, 1) := by decide +kernel
theorem d_LW_law_397 : decode b_LW_law 397 = .ok (.ireturn, 1) := by decide +kernel
theorem d_LW_law_398 : decode b_LW_law 398 = .ok (.aload_n 1, 1) := by decide +kernel
theorem d_LW_law_399 : decode b_LW_law 399 = .ok (.aload_n 0, 1) := by decide +kernel
theorem d_LW_law_400 : decode b_LW_law 400 = .ok (.iload 4, 2) := by decide +kernel
theorem d_LW_law_402 : decode b_LW_law 402 = .ok (.iconst 1, 1) := by decide +kernel
theorem d_LW_law_403 : decode b_LW_law 403 = .ok (.iadd, 1) := by decide +kernel
theorem d_LW_law_404 : decode b_LW_law 404 = .ok (.iaload, 1) := by decide +kernel
theorem d_LW_law_405 : decode b_LW_law 405 = .ok (.aload_n 0, 1) := by decide +kernel
theorem d_LW_law_406 : decode b_LW_law 406 = .ok (.iload 4, 2) := by decide +kernel
theorem d_LW_law_408 : decode b_LW_law 408 = .ok (.iconst 2, 1) := by decide +kernel
theorem d_LW_law_409 : decode b_LW_law 409 = .ok (.iadd, 1) := by decide +kernel
theorem d_LW_law_410 : decode b_LW_law 410 = .ok (.iaload, 1) := by decide +kernel
theorem d_LW_law_411 : decode b_LW_law 411 = .ok (.invokevirtual 72, 3) := by decide +kernel
theorem d_LW_law_414 : decode b_LW_law 414 = .ok (.aload_n 2, 1) := by decide +kernel
theorem d_LW_law_415 : decode b_LW_law 415 = .ok (.aload_n 0, 1) := by decide +kernel
theorem d_LW_law_416 : decode b_LW_law 416 = .ok (.iload 4, 2) := by decide +kernel
theorem d_LW_law_418 : decode b_LW_law 418 = .ok (.iconst 1, 1) := by decide +kernel
theorem d_LW_law_419 : decode b_LW_law 419 = .ok (.iadd, 1) := by decide +kernel
theorem d_LW_law_420 : decode b_LW_law 420 = .ok (.iaload, 1) := by decide +kernel
theorem d_LW_law_421 : decode b_LW_law 421 = .ok (.aload_n 0, 1) := by decide +kernel
theorem d_LW_law_422 : decode b_LW_law 422 = .ok (.iload 4, 2) := by decide +kernel
theorem d_LW_law_424 : decode b_LW_law 424 = .ok (.iconst 2, 1) := by decide +kernel
theorem d_LW_law_425 : decode b_LW_law 425 = .ok (.iadd, 1) := by decide +kernel
theorem d_LW_law_426 : decode b_LW_law 426 = .ok (.iaload, 1) := by decide +kernel
theorem d_LW_law_427 : decode b_LW_law 427 = .ok (.invokevirtual 75, 3) := by decide +kernel
theorem d_LW_law_430 : decode b_LW_law 430 = .ok (.if_icmp .eq 118, 3) := by decide +kernel
theorem d_LW_law_433 : decode b_LW_law 433 = .ok (.iconst 0, 1) := by decide +kernel
theorem d_LW_law_434 : decode b_LW_law 434 = .ok (.ireturn, 1) := by decide +kernel
theorem d_LW_law_435 : decode b_LW_law 435 = .ok (.aload_n 1, 1) := by decide +kernel
theorem d_LW_law_436 : decode b_LW_law 436 = .ok (.aload_n 0, 1) := by decide +kernel
theorem d_LW_law_437 : decode b_LW_law 437 = .ok (.iload 4, 2) := by decide +kernel
theorem d_LW_law_439 : decode b_LW_law 439 = .ok (.iconst 1, 1) := by decide +kernel
theorem d_LW_law_440 : decode b_LW_law 440 = .ok (.iadd, 1) := by decide +kernel
theorem d_LW_law_441 : decode b_LW_law 441 = .ok (.iaload, 1) := by decide +kernel
theorem d_LW_law_442 : decode b_LW_law 442 = .ok (.invokevirtual 76, 3) := by decide +kernel
theorem d_LW_law_445 : decode b_LW_law 445 = .ok (.aload_n 2, 1) := by decide +kernel
theorem d_LW_law_446 : decode b_LW_law 446 = .ok (.aload_n 0, 1) := by decide +kernel
theorem d_LW_law_447 : decode b_LW_law 447 = .ok (.iload 4, 2) := by decide +kernel
theorem d_LW_law_449 : decode b_LW_law 449 = .ok (.iconst 1, 1) := by decide +kernel
theorem d_LW_law_450 : decode b_LW_law 450 = .ok (.iadd, 1) := by decide +kernel
theorem d_LW_law_451 : decode b_LW_law 451 = .ok (.iaload, 1) := by decide +kernel
theorem d_LW_law_452 : decode b_LW_law 452 = .ok (.invokevirtual 79, 3) := by decide +kernel
theorem d_LW_law_455 : decode b_LW_law 455 = .ok (.if_icmp .eq 93, 3) := by decide +kernel
theorem d_LW_law_458 : decode b_LW_law 458 = .ok (.iconst 0, 1) := by decide +kernel
theorem d_LW_law_459 : decode b_LW_law 459 = .ok (.ireturn, 1) := by decide +kernel
theorem d_LW_law_460 : decode b_LW_law 460 = .ok (.aload_n 1, 1) := by decide +kernel
theorem d_LW_law_461 : decode b_LW_law 461 = .ok (.aload_n 0, 1) := by decide +kernel
theorem d_LW_law_462 : decode b_LW_law 462 = .ok (.iload 4, 2) := by decide +kernel
theorem d_LW_law_464 : decode b_LW_law 464 = .ok (.iconst 1, 1) := by decide +kernel
theorem d_LW_law_465 : decode b_LW_law 465 = .ok (.iadd, 1) := by decide +kernel
theorem d_LW_law_466 : decode b_LW_law 466 = .ok (.iaload, 1) := by decide +kernel
theorem d_LW_law_467 : decode b_LW_law 467 = .ok (.invokevirtual 80, 3) := by decide +kernel
theorem d_LW_law_470 : decode b_LW_law 470 = .ok (.aload_n 2, 1) := by decide +kernel
theorem d_LW_law_471 : decode b_LW_law 471 = .ok (.aload_n 0, 1) := by decide +kernel
theorem d_LW_law_472 : decode b_LW_law 472 = .ok (.iload 4, 2) := by decide +kernel
theorem d_LW_law_474 : decode b_LW_law 474 = .ok (.iconst 1, 1) := by decide +kernel
theorem d_LW_law_475 : decode b_LW_law 475 = .ok (.iadd, 1) := by decide +kernel
theorem d_LW_law_476 : decode b_LW_law 476 = .ok (.iaload, 1) := by decide +kernel
theorem d_LW_law_477 : decode b_LW_law 477 = .ok (.invokevirtual 83, 3) := by decide +kernel
theorem d_LW_law_480 : decode b_LW_law 480 = .ok (.if_icmp .eq 68, 3) := by decide +kernel
theorem d_LW_law_483 : decode b_LW_law 483 = .ok (.iconst 0, 1) := by decide +kernel
theorem d_LW_law_484 : decode b_LW_law 484 = .ok (.ireturn, 1) := by decide +kernel
theorem d_LW_law_485 : decode b_LW_law 485 = .ok (.aload_n 1, 1) := by decide +kernel
theorem d_LW_law_486 : decode b_LW_law 486 = .ok (.aload_n 0, 1) := by decide +kernel
theorem d_LW_law_487 : decode b_LW_law 487 = .ok (.iload 4, 2) := by decide +kernel
theorem d_LW_law_489 : decode b_LW_law 489 = .ok (.iconst 1, 1) := by decide +kernel
theorem d_LW_law_490 : decode b_LW_law 490 = .ok (.iadd, 1) := by decide +kernel
theorem d_LW_law_491 : decode b_LW_law 491 = .ok (.iaload, 1) := by decide +kernel
theorem d_LW_law_492 : decode b_LW_law 492 = .ok (.aload_n 3, 1) := by decide +kernel
theorem d_LW_law_493 : decode b_LW_law 493 = .ok (.invokestatic 84, 3) := by decide +kernel
theorem d_LW_law_496 : decode b_LW_law 496 = .ok (.istore 5, 2) := by decide +kernel
theorem d_LW_law_498 : decode b_LW_law 498 = .ok (.aload_n 2, 1) := by decide +kernel
theorem d_LW_law_499 : decode b_LW_law 499 = .ok (.aload_n 0, 1) := by decide +kernel
theorem d_LW_law_500 : decode b_LW_law 500 = .ok (.iload 4, 2) := by decide +kernel
theorem d_LW_law_502 : decode b_LW_law 502 = .ok (.iconst 1, 1) := by decide +kernel
theorem d_LW_law_503 : decode b_LW_law 503 = .ok (.iadd, 1) := by decide +kernel
theorem d_LW_law_504 : decode b_LW_law 504 = .ok (.iaload, 1) := by decide +kernel
theorem d_LW_law_505 : decode b_LW_law 505 = .ok (.invokevirtual 86, 3) := by decide +kernel
theorem d_LW_law_508 : decode b_LW_law 508 = .ok (.istore 6, 2) := by decide +kernel
theorem d_LW_law_510 : decode b_LW_law 510 = .ok (.aload_n 2, 1) := by decide +kernel
theorem d_LW_law_511 : decode b_LW_law 511 = .ok (.invokevirtual 44, 3) := by decide +kernel
theorem d_LW_law_514 : decode b_LW_law 514 = .ok (.iload 5, 2) := by decide +kernel
theorem d_LW_law_516 : decode b_LW_law 516 = .ok (.if_icmp .eq 5, 3) := by decide +kernel
theorem d_LW_law_519 : decode b_LW_law 519 = .ok (.iconst 0, 1) := by decide +kernel
theorem d_LW_law_520 : decode b_LW_law 520 = .ok (.ireturn, 1) := by decide +kernel
theorem d_LW_law_521 : decode b_LW_law 521 = .ok (.iload 5, 2) := by decide +kernel
theorem d_LW_law_523 : decode b_LW_law 523 = .ok (.ifCond .ne 22, 3) := by decide +kernel
theorem d_LW_law_526 : decode b_LW_law 526 = .ok (.aload_n 3, 1) := by decide +kernel
theorem d_LW_law_527 : decode b_LW_law 527 = .ok (.iconst 0, 1) := by decide +kernel
theorem d_LW_law_528 : decode b_LW_law 528 = .ok (.laload, 1) := by decide +kernel
theorem d_LW_law_529 : decode b_LW_law 529 = .ok (.iload 6, 2) := by decide +kernel
theorem d_LW_law_531 : decode b_LW_law 531 = .ok (.ifCond .eq 7, 3) := by decide +kernel
theorem d_LW_law_534 : decode b_LW_law 534 = .ok (.lconst 1, 1) := by decide +kernel
theorem d_LW_law_535 : decode b_LW_law 535 = .ok (.goto 4, 3) := by decide +kernel
theorem d_LW_law_538 : decode b_LW_law 538 = .ok (.lconst 0, 1) := by decide +kernel
theorem d_LW_law_539 : decode b_LW_law 539 = .ok (.lcmp, 1) := by decide +kernel
theorem d_LW_law_540 : decode b_LW_law 540 = .ok (.ifCond .eq 5, 3) := by decide +kernel
theorem d_LW_law_543 : decode b_LW_law 543 = .ok (.iconst 0, 1) := by decide +kernel
theorem d_LW_law_544 : decode b_LW_law 544 = .ok (.ireturn, 1) := by decide +kernel
theorem d_LW_law_545 : decode b_LW_law 545 = .ok (.goto 3, 3) := by decide +kernel
theorem d_LW_law_548 : decode b_LW_law 548 = .ok (.iinc 4 4, 3) := by decide +kernel
theorem d_LW_law_551 : decode b_LW_law 551 = .ok (.goto (-528), 3) := by decide +kernel
theorem d_LW_law_554 : decode b_LW_law 554 = .ok (.iconst 1, 1) := by decide +kernel
theorem d_LW_law_555 : decode b_LW_law 555 = .ok (.ireturn, 1) := by decide +kernel
def lw_C (p : Program) (s : State) (m : MethodId) (c : Code) (b L : Nat) (xs : Nat → Int32) (D : va_G) (t : Nat → ClassId) (A : Nat → Prop) : Prop :=
  ab_cx p s m #[Value.ref b] c b_LW_law 7 "ArcadeBoardLaw" D (tyC t) ∧ (ab_TH A s s.heap ∧ ab_SR s) ∧ va_Nc "java/lang/IllegalStateException" "java/lang/IllegalArgumentException" s ∧ va_X b L xs s s.heap ∧ b < s.heap.size ∧ ¬ A b
abbrev lw_v (b : Nat) (q q' : Nat → Nat) (o : Nat) (i : Int32) : List (Nat × Value) := [(4, .int i), (3, .ref o), (2, .ref (q' 0)), (1, .ref (q 12)), (0, .ref b)]
theorem lx_7 : Jvm.Cond.methodLink "ArcadeBoardLaw" 28 ⟨"ArcadeBoard", "load", "(III)Z"⟩ ∈ AL := ab_in (ab_t2 (List.mem_of_getElem? (i := 23) (by decide +kernel))) (by decide +kernel)
theorem lx_8 : Jvm.Cond.methodLink "ArcadeBoardLaw" 32 ⟨"ArcadeBoardModel", "load", "(III)Z"⟩ ∈ AL := ab_in (ab_t4 (List.mem_of_getElem? (i := 33) (by decide +kernel))) (by decide +kernel)
theorem lx_9 : Jvm.Cond.methodLink "ArcadeBoardLaw" 33 ⟨"ArcadeBoard", "check", "()I"⟩ ∈ AL := ab_in (ab_t2 (List.mem_of_getElem? (i := 31) (by decide +kernel))) (by decide +kernel)
theorem lx_10 : Jvm.Cond.methodLink "ArcadeBoardLaw" 37 ⟨"ArcadeBoardModel", "check", "()I"⟩ ∈ AL := ab_in (ab_t4 (List.mem_of_getElem? (i := 37) (by decide +kernel))) (by decide +kernel)
theorem lx_11 : Jvm.Cond.methodLink "ArcadeBoardLaw" 47 ⟨"ArcadeBoard", "off", "()Z"⟩ ∈ AL := ab_in (ab_t2 (List.mem_of_getElem? (i := 44) (by decide +kernel))) (by decide +kernel)
theorem lx_12 : Jvm.Cond.methodLink "ArcadeBoardLaw" 51 ⟨"ArcadeBoardModel", "off", "()Z"⟩ ∈ AL := ab_in (ab_t4 (List.mem_of_getElem? (i := 51) (by decide +kernel))) (by decide +kernel)
theorem lx_13 : Jvm.Cond.methodLink "ArcadeBoardLaw" 55 ⟨"ArcadeBoard", "switches", "(II)Z"⟩ ∈ AL := ab_in (ab_t2 (List.mem_of_getElem? (i := 48) (by decide +kernel))) (by decide +kernel)
theorem lx_14 : Jvm.Cond.methodLink "ArcadeBoardLaw" 59 ⟨"ArcadeBoardModel", "switches", "(II)Z"⟩ ∈ AL := ab_in (ab_t4 (List.mem_of_getElem? (i := 159) (by decide +kernel))) (by decide +kernel)
theorem lx_15 : Jvm.Cond.methodLink "ArcadeBoardLaw" 60 ⟨"ArcadeBoard", "coin", "()Z"⟩ ∈ AL := ab_in (ab_t2 (List.mem_of_getElem? (i := 56) (by decide +kernel))) (by decide +kernel)
theorem lx_16 : Jvm.Cond.methodLink "ArcadeBoardLaw" 63 ⟨"ArcadeBoardModel", "coin", "()Z"⟩ ∈ AL := ab_in (ab_t4 (List.mem_of_getElem? (i := 163) (by decide +kernel))) (by decide +kernel)
theorem lx_17 : Jvm.Cond.methodLink "ArcadeBoardLaw" 64 ⟨"ArcadeBoard", "look", "(I)I"⟩ ∈ AL := ab_in (ab_t2 (List.mem_of_getElem? (i := 60) (by decide +kernel))) (by decide +kernel)
theorem lx_18 : Jvm.Cond.methodLink "ArcadeBoardLaw" 67 ⟨"ArcadeBoardModel", "look", "(I)I"⟩ ∈ AL := ab_in (ab_t4 (List.mem_of_getElem? (i := 167) (by decide +kernel))) (by decide +kernel)
theorem lx_19 : Jvm.Cond.methodLink "ArcadeBoardLaw" 68 ⟨"ArcadeBoard", "peek", "(I)I"⟩ ∈ AL := ab_in (ab_t2 (List.mem_of_getElem? (i := 76) (by decide +kernel))) (by decide +kernel)
theorem lx_20 : Jvm.Cond.methodLink "ArcadeBoardLaw" 71 ⟨"ArcadeBoardModel", "peek", "(I)I"⟩ ∈ AL := ab_in (ab_t4 (List.mem_of_getElem? (i := 175) (by decide +kernel))) (by decide +kernel)
theorem lx_21 : Jvm.Cond.methodLink "ArcadeBoardLaw" 72 ⟨"ArcadeBoard", "dot", "(II)Z"⟩ ∈ AL := ab_in (ab_t2 (List.mem_of_getElem? (i := 81) (by decide +kernel))) (by decide +kernel)
theorem lx_22 : Jvm.Cond.methodLink "ArcadeBoardLaw" 75 ⟨"ArcadeBoardModel", "dot", "(II)Z"⟩ ∈ AL := ab_in (ab_t4 (List.mem_of_getElem? (i := 179) (by decide +kernel))) (by decide +kernel)
theorem lx_23 : Jvm.Cond.methodLink "ArcadeBoardLaw" 76 ⟨"ArcadeBoard", "sound", "(I)I"⟩ ∈ AL := ab_in (ab_t2 (List.mem_of_getElem? (i := 85) (by decide +kernel))) (by decide +kernel)
theorem lx_24 : Jvm.Cond.methodLink "ArcadeBoardLaw" 79 ⟨"ArcadeBoardModel", "sound", "(I)I"⟩ ∈ AL := ab_in (ab_t4 (List.mem_of_getElem? (i := 183) (by decide +kernel))) (by decide +kernel)
theorem lx_25 : Jvm.Cond.methodLink "ArcadeBoardLaw" 80 ⟨"ArcadeBoard", "save", "(I)Z"⟩ ∈ AL := ab_in (ab_t2 (List.mem_of_getElem? (i := 97) (by decide +kernel))) (by decide +kernel)
theorem lx_26 : Jvm.Cond.methodLink "ArcadeBoardLaw" 83 ⟨"ArcadeBoardModel", "save", "(I)Z"⟩ ∈ AL := ab_in (ab_t4 (List.mem_of_getElem? (i := 187) (by decide +kernel))) (by decide +kernel)
theorem lx_27 : Jvm.Cond.codeWith ⟨"ArcadeBoardLaw", "power", "(LArcadeBoard;I[J)I"⟩ method_3_code 4 (Option.some Jvm.ClassFile.FieldType.int) [(0, 16, 19, 13), (0, 16, 22, 15)] ∈ AL := ab_in (ab_t2 (List.mem_of_getElem? (i := 110) (by decide +kernel))) (by decide +kernel)
theorem lx_28 : Jvm.Cond.initialized "ArcadeBoardLaw" ∈ AL := ab_in (ab_t1 (List.mem_of_getElem? (i := 0) (by decide +kernel))) (by decide +kernel)
theorem lx_29 : Jvm.Cond.static ⟨"ArcadeBoardLaw", "power", "(LArcadeBoard;I[J)I"⟩ ∈ AL := ab_in (ab_t2 (List.mem_of_getElem? (i := 109) (by decide +kernel))) (by decide +kernel)
theorem lx_30 : Jvm.Cond.methodLink "ArcadeBoardLaw" 38 ⟨"ArcadeBoardLaw", "power", "(LArcadeBoard;I[J)I"⟩ ∈ AL := ab_in (ab_t2 (List.mem_of_getElem? (i := 108) (by decide +kernel))) (by decide +kernel)
theorem lx_31 : Jvm.Cond.methodLink "ArcadeBoardLaw" 43 ⟨"ArcadeBoardModel", "power", "(I)Z"⟩ ∈ AL := ab_in (ab_t4 (List.mem_of_getElem? (i := 42) (by decide +kernel))) (by decide +kernel)
theorem lx_32 : Jvm.Cond.methodLink "ArcadeBoardLaw" 44 ⟨"ArcadeBoardModel", "thrown", "()I"⟩ ∈ AL := ab_in (ab_t4 (List.mem_of_getElem? (i := 29) (by decide +kernel))) (by decide +kernel)
theorem lx_33 : Jvm.Cond.codeWith ⟨"ArcadeBoardLaw", "run", "(LArcadeBoard;I[J)I"⟩ method_4_code 4 (Option.some Jvm.ClassFile.FieldType.int) [(0, 9, 12, 13), (0, 9, 15, 15)] ∈ AL := ab_in (ab_t2 (List.mem_of_getElem? (i := 206) (by decide +kernel))) (by decide +kernel)
theorem lx_34 : Jvm.Cond.static ⟨"ArcadeBoardLaw", "run", "(LArcadeBoard;I[J)I"⟩ ∈ AL := ab_in (ab_t2 (List.mem_of_getElem? (i := 205) (by decide +kernel))) (by decide +kernel)
theorem lx_35 : Jvm.Cond.methodLink "ArcadeBoardLaw" 52 ⟨"ArcadeBoardLaw", "run", "(LArcadeBoard;I[J)I"⟩ ∈ AL := ab_in (ab_t2 (List.mem_of_getElem? (i := 204) (by decide +kernel))) (by decide +kernel)
theorem lx_36 : Jvm.Cond.methodLink "ArcadeBoardLaw" 54 ⟨"ArcadeBoardModel", "run", "(I)I"⟩ ∈ AL := ab_in (ab_t4 (List.mem_of_getElem? (i := 55) (by decide +kernel))) (by decide +kernel)
theorem lx_37 : Jvm.Cond.codeWith ⟨"ArcadeBoardLaw", "restore", "(LArcadeBoard;I[J)I"⟩ method_5_code 4 (Option.some Jvm.ClassFile.FieldType.int) [(0, 16, 19, 13), (0, 16, 22, 15)] ∈ AL := ab_in (ab_t3 (List.mem_of_getElem? (i := 165) (by decide +kernel))) (by decide +kernel)
theorem lx_38 : Jvm.Cond.static ⟨"ArcadeBoardLaw", "restore", "(LArcadeBoard;I[J)I"⟩ ∈ AL := ab_in (ab_t3 (List.mem_of_getElem? (i := 164) (by decide +kernel))) (by decide +kernel)
theorem lx_39 : Jvm.Cond.methodLink "ArcadeBoardLaw" 84 ⟨"ArcadeBoardLaw", "restore", "(LArcadeBoard;I[J)I"⟩ ∈ AL := ab_in (ab_t3 (List.mem_of_getElem? (i := 163) (by decide +kernel))) (by decide +kernel)
theorem lx_40 : Jvm.Cond.methodLink "ArcadeBoardLaw" 86 ⟨"ArcadeBoardModel", "restore", "(I)Z"⟩ ∈ AL := ab_in (ab_t4 (List.mem_of_getElem? (i := 191) (by decide +kernel))) (by decide +kernel)
set_option maxHeartbeats 1000000 in
theorem lw_k_load {p : Program} {e : Env} {s : State} {m : MethodId} {below : List Frame} {meth : Method} {c : Code} {Q : State → Prop} (l : Launch) (hst : l.stackTraces = false) {b L : Nat} {xs : Nat → Int32} {D : va_G} {t : Nat → ClassId} {A : Nat → Prop} {q q' : Nat → Nat} {o : Nat} {g : Nat → Int64} {z u v : SS} {B : Nat} {i : Int32} {ls : Array Slot} {H : Heap} {locs : List Loc} {cells slots : Nat}
    (C : lw_C p s m c b L xs D t A) (hR : ab_RT B z u v) (hB : B + 488 < 2 ^ 30) (hin : ∀ k : Int32, (k = 1 ∨ k = 2 ∨ k = 3) → vp_in (i + k) L) (hl : lv_has ls 7 (lw_v b q q' o i)) (hX : ab_hx D (wM t q' v ++ wH t q o (g, (z, u))) A s.heap H locs) (hcs : cells + 1 ≤ 1058 ∧ slots + 6 ≤ 12544)
    (kk : ∀ (B' : Nat) (g : Nat → Int64) (z u v : SS) (ls : Array Slot) (H : Heap) (locs : List Loc), B' ≤ B + 488 → ab_RT B' z u v → lv_has ls 7 (lw_v b q q' o i) → ab_hx D (wM t q' v ++ wH t q o (g, (z, u))) A s.heap H locs → W p l e room_1 s m #[Value.ref b] below meth c H locs (cells + 1) (slots + 6) Q (F0 m 548 ls [])) :
    W p l e room_1 s m #[Value.ref b] below meth c H locs cells slots Q (F0 m 104 ls []) := by
  obtain ⟨X, hT, hN, hx, hbl, hbA⟩ := C
  obtain ⟨x1, e1⟩ : ∃ x, x = xs (i + 1).toNatClampNeg := ⟨_, rfl⟩
  obtain ⟨x2, e2⟩ : ∃ x, x = xs (i + 2).toNatClampNeg := ⟨_, rfl⟩
  obtain ⟨x3, e3⟩ : ∃ x, x = xs (i + 3).toNatClampNeg := ⟨_, rfl⟩
  have E := ab_cLoad hR x1 x2 x3
  have hM := c_AB_load l D t q z u x1 x2 x3 
  have hG := c_MD_load l D t q' v x1 x2 x3 
  generalize f_AB_load z u x1 x2 x3 = F at E hM
  generalize f_MD_load v x1 x2 x3 = G at E hG
  refine lv_aload_n (pc := 104) X.1 X.2.1 d_LW_law_104 rfl (lv_at hl 3 rfl) ?_
  refine lv_aload_n (pc := 105) X.1 X.2.1 d_LW_law_105 rfl (lv_at hl 4 rfl) ?_
  refine lv_iload (pc := 106) X.1 X.2.1 d_LW_law_106 (lv_at hl 0 rfl) ?_
  refine lv_iconst (pc := 108) (v := 1) X.1 X.2.1 d_LW_law_108 (by decide) ?_
  refine lv_iadd (pc := 109) X.1 X.2.1 d_LW_law_109 ?_
  refine va_sld (pc := 110) X.1 X.2.1 hx hbl hbA hX.2.2.1 (hin 1 (by decide)) d_LW_law_110 ?_
  rw [← e1]
  refine lv_aload_n (pc := 111) X.1 X.2.1 d_LW_law_111 rfl (lv_at hl 4 rfl) ?_
  refine lv_iload (pc := 112) X.1 X.2.1 d_LW_law_112 (lv_at hl 0 rfl) ?_
  refine lv_iconst (pc := 114) (v := 2) X.1 X.2.1 d_LW_law_114 (by decide) ?_
  refine lv_iadd (pc := 115) X.1 X.2.1 d_LW_law_115 ?_
  refine va_sld (pc := 116) X.1 X.2.1 hx hbl hbA hX.2.2.1 (hin 2 (by decide)) d_LW_law_116 ?_
  rw [← e2]
  refine lv_aload_n (pc := 117) X.1 X.2.1 d_LW_law_117 rfl (lv_at hl 4 rfl) ?_
  refine lv_iload (pc := 118) X.1 X.2.1 d_LW_law_118 (lv_at hl 0 rfl) ?_
  refine lv_iconst (pc := 120) (v := 3) X.1 X.2.1 d_LW_law_120 (by decide) ?_
  refine lv_iadd (pc := 121) X.1 X.2.1 d_LW_law_121 ?_
  refine va_sld (pc := 122) X.1 X.2.1 hx hbl hbA hX.2.2.1 (hin 3 (by decide)) d_LW_law_122 ?_
  rw [← e3]
  have hX : ab_hx D ((wM t q' v ++ [(o, .inl (t 3, 1, .inr (.inl g)))]) ++ wT t q (z, u)) A s.heap H locs := by rw [List.append_assoc]; exact hX
  refine ab_ki_callV (pc := 123) (wr := wM t q' v ++ [(o, .inl (t 3, 1, .inr (.inl g)))]) (w := wT t q) (u := (z, u)) (F := F) (as := [.int x1, .int x2, .int x3]) (rest := []) X hX hM ok_AB_load okv_AB_load lx_7 7 8 rfl rfl rfl hl.1 rfl (Nat.le_of_ble_eq_true rfl) ⟨rfl, rfl, Nat.le_of_ble_eq_true rfl, Nat.le_of_ble_eq_true rfl⟩ ⟨Nat.le_of_succ_le hcs.1, Nat.le_trans (Nat.le_add_right _ 6) hcs.2⟩ d_LW_law_123 (fun H locs hX => ?_)
  have hX : ab_hx D (wH t q o (g, F.2) ++ wM t q' v) A s.heap H locs := ab_hx_swap (by rw [List.append_assoc] at hX; exact hX)
  refine lv_aload_n (pc := 126) X.1 X.2.1 d_LW_law_126 rfl (lv_at hl 2 rfl) ?_
  refine lv_aload_n (pc := 127) X.1 X.2.1 d_LW_law_127 rfl (lv_at hl 4 rfl) ?_
  refine lv_iload (pc := 128) X.1 X.2.1 d_LW_law_128 (lv_at hl 0 rfl) ?_
  refine lv_iconst (pc := 130) (v := 1) X.1 X.2.1 d_LW_law_130 (by decide) ?_
  refine lv_iadd (pc := 131) X.1 X.2.1 d_LW_law_131 ?_
  refine va_sld (pc := 132) X.1 X.2.1 hx hbl hbA hX.2.2.1 (hin 1 (by decide)) d_LW_law_132 ?_
  rw [← e1]
  refine lv_aload_n (pc := 133) X.1 X.2.1 d_LW_law_133 rfl (lv_at hl 4 rfl) ?_
  refine lv_iload (pc := 134) X.1 X.2.1 d_LW_law_134 (lv_at hl 0 rfl) ?_
  refine lv_iconst (pc := 136) (v := 2) X.1 X.2.1 d_LW_law_136 (by decide) ?_
  refine lv_iadd (pc := 137) X.1 X.2.1 d_LW_law_137 ?_
  refine va_sld (pc := 138) X.1 X.2.1 hx hbl hbA hX.2.2.1 (hin 2 (by decide)) d_LW_law_138 ?_
  rw [← e2]
  refine lv_aload_n (pc := 139) X.1 X.2.1 d_LW_law_139 rfl (lv_at hl 4 rfl) ?_
  refine lv_iload (pc := 140) X.1 X.2.1 d_LW_law_140 (lv_at hl 0 rfl) ?_
  refine lv_iconst (pc := 142) (v := 3) X.1 X.2.1 d_LW_law_142 (by decide) ?_
  refine lv_iadd (pc := 143) X.1 X.2.1 d_LW_law_143 ?_
  refine va_sld (pc := 144) X.1 X.2.1 hx hbl hbA hX.2.2.1 (hin 3 (by decide)) d_LW_law_144 ?_
  rw [← e3]
  refine ab_ki_callV (pc := 145) (wr := wH t q o (g, F.2)) (w := wM t q') (u := v) (F := G) (as := [.int x1, .int x2, .int x3]) (rest := [.int F.1]) X hX hG ok_MD_load okv_MD_load lx_8 22 9 rfl rfl rfl hl.1 rfl (Nat.le_of_ble_eq_true rfl) ⟨rfl, rfl, Nat.le_of_ble_eq_true rfl, Nat.le_of_ble_eq_true rfl⟩ ⟨Nat.le_of_succ_le hcs.1, Nat.le_trans (Nat.le_add_right _ 6) hcs.2⟩ d_LW_law_145 (fun H locs hX => ?_)
  refine lv_icmp_eq (pc := 148) (tgt := 548) X.1 X.2.1 d_LW_law_148 (by decide) (fun h => ?_) (fun h => absurd E.1 h)
  exact W.widen (Nat.le_succ _) (Nat.le_add_right _ _) (kk B g F.2.1 F.2.2 G.2 ls _ _ (Nat.le_add_right _ _) E.2 hl (ab_hx_swap hX))
set_option maxHeartbeats 1000000 in
theorem lw_k_check {p : Program} {e : Env} {s : State} {m : MethodId} {below : List Frame} {meth : Method} {c : Code} {Q : State → Prop} (l : Launch) (hst : l.stackTraces = false) {b L : Nat} {xs : Nat → Int32} {D : va_G} {t : Nat → ClassId} {A : Nat → Prop} {q q' : Nat → Nat} {o : Nat} {g : Nat → Int64} {z u v : SS} {B : Nat} {i : Int32} {ls : Array Slot} {H : Heap} {locs : List Loc} {cells slots : Nat}
    (C : lw_C p s m c b L xs D t A) (hR : ab_RT B z u v) (hB : B + 488 < 2 ^ 30) (hin : ∀ k : Int32, (k = 1 ∨ k = 2 ∨ k = 3) → vp_in (i + k) L) (hl : lv_has ls 7 (lw_v b q q' o i)) (hX : ab_hx D (wM t q' v ++ wH t q o (g, (z, u))) A s.heap H locs) (hcs : cells + 1 ≤ 1058 ∧ slots + 6 ≤ 12544)
    (kk : ∀ (B' : Nat) (g : Nat → Int64) (z u v : SS) (ls : Array Slot) (H : Heap) (locs : List Loc), B' ≤ B + 488 → ab_RT B' z u v → lv_has ls 7 (lw_v b q q' o i) → ab_hx D (wM t q' v ++ wH t q o (g, (z, u))) A s.heap H locs → W p l e room_1 s m #[Value.ref b] below meth c H locs (cells + 1) (slots + 6) Q (F0 m 548 ls [])) :
    W p l e room_1 s m #[Value.ref b] below meth c H locs cells slots Q (F0 m 153 ls []) := by
  obtain ⟨X, hT, hN, hx, hbl, hbA⟩ := C
  have E := ab_cCheck hR
  have hM := c_AB_check l D t q z u 
  have hG := c_MD_check l D t q' v 
  generalize f_AB_check z u = F at E hM
  generalize f_MD_check v = G at E hG
  refine lv_aload_n (pc := 153) X.1 X.2.1 d_LW_law_153 rfl (lv_at hl 3 rfl) ?_
  have hX : ab_hx D ((wM t q' v ++ [(o, .inl (t 3, 1, .inr (.inl g)))]) ++ wT t q (z, u)) A s.heap H locs := by rw [List.append_assoc]; exact hX
  refine ab_ki_callV (pc := 154) (wr := wM t q' v ++ [(o, .inl (t 3, 1, .inr (.inl g)))]) (w := wT t q) (u := (z, u)) (F := (F, (z, u))) (as := []) (rest := []) X hX hM ok_AB_check okv_AB_check lx_9 7 8 rfl rfl rfl hl.1 rfl (Nat.le_of_ble_eq_true rfl) ⟨rfl, rfl, Nat.le_of_ble_eq_true rfl, Nat.le_of_ble_eq_true rfl⟩ ⟨Nat.le_of_succ_le hcs.1, Nat.le_trans (Nat.le_add_right _ 6) hcs.2⟩ d_LW_law_154 (fun H locs hX => ?_)
  have hX : ab_hx D (wH t q o (g, (z, u)) ++ wM t q' v) A s.heap H locs := ab_hx_swap (by rw [List.append_assoc] at hX; exact hX)
  refine lv_aload_n (pc := 157) X.1 X.2.1 d_LW_law_157 rfl (lv_at hl 2 rfl) ?_
  refine ab_ki_callV (pc := 158) (wr := wH t q o (g, (z, u))) (w := wM t q') (u := v) (F := G) (as := []) (rest := [.int F]) X hX hG ok_MD_check okv_MD_check lx_10 22 9 rfl rfl rfl hl.1 rfl (Nat.le_of_ble_eq_true rfl) ⟨rfl, rfl, Nat.le_of_ble_eq_true rfl, Nat.le_of_ble_eq_true rfl⟩ ⟨Nat.le_of_succ_le hcs.1, Nat.le_trans (Nat.le_add_right _ 6) hcs.2⟩ d_LW_law_158 (fun H locs hX => ?_)
  refine lv_icmp_eq (pc := 161) (tgt := 548) X.1 X.2.1 d_LW_law_161 (by decide) (fun h => ?_) (fun h => absurd E.1 h)
  exact W.widen (Nat.le_succ _) (Nat.le_add_right _ _) (kk B g z u G.2 ls _ _ (Nat.le_add_right _ _) E.2 hl (ab_hx_swap hX))
set_option maxHeartbeats 1000000 in
theorem lw_k_off {p : Program} {e : Env} {s : State} {m : MethodId} {below : List Frame} {meth : Method} {c : Code} {Q : State → Prop} (l : Launch) (hst : l.stackTraces = false) {b L : Nat} {xs : Nat → Int32} {D : va_G} {t : Nat → ClassId} {A : Nat → Prop} {q q' : Nat → Nat} {o : Nat} {g : Nat → Int64} {z u v : SS} {B : Nat} {i : Int32} {ls : Array Slot} {H : Heap} {locs : List Loc} {cells slots : Nat}
    (C : lw_C p s m c b L xs D t A) (hR : ab_RT B z u v) (hB : B + 488 < 2 ^ 30) (hin : ∀ k : Int32, (k = 1 ∨ k = 2 ∨ k = 3) → vp_in (i + k) L) (hl : lv_has ls 7 (lw_v b q q' o i)) (hX : ab_hx D (wM t q' v ++ wH t q o (g, (z, u))) A s.heap H locs) (hcs : cells + 1 ≤ 1058 ∧ slots + 6 ≤ 12544)
    (kk : ∀ (B' : Nat) (g : Nat → Int64) (z u v : SS) (ls : Array Slot) (H : Heap) (locs : List Loc), B' ≤ B + 488 → ab_RT B' z u v → lv_has ls 7 (lw_v b q q' o i) → ab_hx D (wM t q' v ++ wH t q o (g, (z, u))) A s.heap H locs → W p l e room_1 s m #[Value.ref b] below meth c H locs (cells + 1) (slots + 6) Q (F0 m 548 ls [])) :
    W p l e room_1 s m #[Value.ref b] below meth c H locs cells slots Q (F0 m 229 ls []) := by
  obtain ⟨X, hT, hN, hx, hbl, hbA⟩ := C
  have E := ab_cOff hR
  have hM := c_AB_off l D t q z u (lp_off hR).1
  have hG := c_MD_off l D t q' v (lp_off hR).2
  generalize f_AB_off z u = F at E hM
  generalize f_MD_off v = G at E hG
  refine lv_aload_n (pc := 229) X.1 X.2.1 d_LW_law_229 rfl (lv_at hl 3 rfl) ?_
  have hX : ab_hx D ((wM t q' v ++ [(o, .inl (t 3, 1, .inr (.inl g)))]) ++ wT t q (z, u)) A s.heap H locs := by rw [List.append_assoc]; exact hX
  refine ab_ki_callV (pc := 230) (wr := wM t q' v ++ [(o, .inl (t 3, 1, .inr (.inl g)))]) (w := wT t q) (u := (z, u)) (F := F) (as := []) (rest := []) X hX hM ok_AB_off okv_AB_off lx_11 7 8 rfl rfl rfl hl.1 rfl (Nat.le_of_ble_eq_true rfl) ⟨rfl, rfl, Nat.le_of_ble_eq_true rfl, Nat.le_of_ble_eq_true rfl⟩ ⟨Nat.le_of_succ_le hcs.1, Nat.le_trans (Nat.le_add_right _ 6) hcs.2⟩ d_LW_law_230 (fun H locs hX => ?_)
  have hX : ab_hx D (wH t q o (g, F.2) ++ wM t q' v) A s.heap H locs := ab_hx_swap (by rw [List.append_assoc] at hX; exact hX)
  refine lv_aload_n (pc := 233) X.1 X.2.1 d_LW_law_233 rfl (lv_at hl 2 rfl) ?_
  refine ab_ki_callV (pc := 234) (wr := wH t q o (g, F.2)) (w := wM t q') (u := v) (F := G) (as := []) (rest := [.int F.1]) X hX hG ok_MD_off okv_MD_off lx_12 22 9 rfl rfl rfl hl.1 rfl (Nat.le_of_ble_eq_true rfl) ⟨rfl, rfl, Nat.le_of_ble_eq_true rfl, Nat.le_of_ble_eq_true rfl⟩ ⟨Nat.le_of_succ_le hcs.1, Nat.le_trans (Nat.le_add_right _ 6) hcs.2⟩ d_LW_law_234 (fun H locs hX => ?_)
  refine lv_icmp_eq (pc := 237) (tgt := 548) X.1 X.2.1 d_LW_law_237 (by decide) (fun h => ?_) (fun h => absurd E.1 h)
  exact W.widen (Nat.le_succ _) (Nat.le_add_right _ _) (kk B g F.2.1 F.2.2 G.2 ls _ _ (Nat.le_add_right _ _) E.2 hl (ab_hx_swap hX))
set_option maxHeartbeats 1000000 in
theorem lw_k_switches {p : Program} {e : Env} {s : State} {m : MethodId} {below : List Frame} {meth : Method} {c : Code} {Q : State → Prop} (l : Launch) (hst : l.stackTraces = false) {b L : Nat} {xs : Nat → Int32} {D : va_G} {t : Nat → ClassId} {A : Nat → Prop} {q q' : Nat → Nat} {o : Nat} {g : Nat → Int64} {z u v : SS} {B : Nat} {i : Int32} {ls : Array Slot} {H : Heap} {locs : List Loc} {cells slots : Nat}
    (C : lw_C p s m c b L xs D t A) (hR : ab_RT B z u v) (hB : B + 488 < 2 ^ 30) (hin : ∀ k : Int32, (k = 1 ∨ k = 2 ∨ k = 3) → vp_in (i + k) L) (hl : lv_has ls 7 (lw_v b q q' o i)) (hX : ab_hx D (wM t q' v ++ wH t q o (g, (z, u))) A s.heap H locs) (hcs : cells + 1 ≤ 1058 ∧ slots + 6 ≤ 12544)
    (kk : ∀ (B' : Nat) (g : Nat → Int64) (z u v : SS) (ls : Array Slot) (H : Heap) (locs : List Loc), B' ≤ B + 488 → ab_RT B' z u v → lv_has ls 7 (lw_v b q q' o i) → ab_hx D (wM t q' v ++ wH t q o (g, (z, u))) A s.heap H locs → W p l e room_1 s m #[Value.ref b] below meth c H locs (cells + 1) (slots + 6) Q (F0 m 548 ls [])) :
    W p l e room_1 s m #[Value.ref b] below meth c H locs cells slots Q (F0 m 298 ls []) := by
  obtain ⟨X, hT, hN, hx, hbl, hbA⟩ := C
  obtain ⟨x1, e1⟩ : ∃ x, x = xs (i + 1).toNatClampNeg := ⟨_, rfl⟩
  obtain ⟨x2, e2⟩ : ∃ x, x = xs (i + 2).toNatClampNeg := ⟨_, rfl⟩
  have E := ab_cSwitches hR x1 x2
  have hM := c_AB_switches l D t q z u x1 x2 
  have hG := c_MD_switches l D t q' v x1 x2 
  generalize f_AB_switches z u x1 x2 = F at E hM
  generalize f_MD_switches v x1 x2 = G at E hG
  refine lv_aload_n (pc := 298) X.1 X.2.1 d_LW_law_298 rfl (lv_at hl 3 rfl) ?_
  refine lv_aload_n (pc := 299) X.1 X.2.1 d_LW_law_299 rfl (lv_at hl 4 rfl) ?_
  refine lv_iload (pc := 300) X.1 X.2.1 d_LW_law_300 (lv_at hl 0 rfl) ?_
  refine lv_iconst (pc := 302) (v := 1) X.1 X.2.1 d_LW_law_302 (by decide) ?_
  refine lv_iadd (pc := 303) X.1 X.2.1 d_LW_law_303 ?_
  refine va_sld (pc := 304) X.1 X.2.1 hx hbl hbA hX.2.2.1 (hin 1 (by decide)) d_LW_law_304 ?_
  rw [← e1]
  refine lv_aload_n (pc := 305) X.1 X.2.1 d_LW_law_305 rfl (lv_at hl 4 rfl) ?_
  refine lv_iload (pc := 306) X.1 X.2.1 d_LW_law_306 (lv_at hl 0 rfl) ?_
  refine lv_iconst (pc := 308) (v := 2) X.1 X.2.1 d_LW_law_308 (by decide) ?_
  refine lv_iadd (pc := 309) X.1 X.2.1 d_LW_law_309 ?_
  refine va_sld (pc := 310) X.1 X.2.1 hx hbl hbA hX.2.2.1 (hin 2 (by decide)) d_LW_law_310 ?_
  rw [← e2]
  have hX : ab_hx D ((wM t q' v ++ [(o, .inl (t 3, 1, .inr (.inl g)))]) ++ wT t q (z, u)) A s.heap H locs := by rw [List.append_assoc]; exact hX
  refine ab_ki_callV (pc := 311) (wr := wM t q' v ++ [(o, .inl (t 3, 1, .inr (.inl g)))]) (w := wT t q) (u := (z, u)) (F := F) (as := [.int x1, .int x2]) (rest := []) X hX hM ok_AB_switches okv_AB_switches lx_13 7 8 rfl rfl rfl hl.1 rfl (Nat.le_of_ble_eq_true rfl) ⟨rfl, rfl, Nat.le_of_ble_eq_true rfl, Nat.le_of_ble_eq_true rfl⟩ ⟨Nat.le_of_succ_le hcs.1, Nat.le_trans (Nat.le_add_right _ 6) hcs.2⟩ d_LW_law_311 (fun H locs hX => ?_)
  have hX : ab_hx D (wH t q o (g, F.2) ++ wM t q' v) A s.heap H locs := ab_hx_swap (by rw [List.append_assoc] at hX; exact hX)
  refine lv_aload_n (pc := 314) X.1 X.2.1 d_LW_law_314 rfl (lv_at hl 2 rfl) ?_
  refine lv_aload_n (pc := 315) X.1 X.2.1 d_LW_law_315 rfl (lv_at hl 4 rfl) ?_
  refine lv_iload (pc := 316) X.1 X.2.1 d_LW_law_316 (lv_at hl 0 rfl) ?_
  refine lv_iconst (pc := 318) (v := 1) X.1 X.2.1 d_LW_law_318 (by decide) ?_
  refine lv_iadd (pc := 319) X.1 X.2.1 d_LW_law_319 ?_
  refine va_sld (pc := 320) X.1 X.2.1 hx hbl hbA hX.2.2.1 (hin 1 (by decide)) d_LW_law_320 ?_
  rw [← e1]
  refine lv_aload_n (pc := 321) X.1 X.2.1 d_LW_law_321 rfl (lv_at hl 4 rfl) ?_
  refine lv_iload (pc := 322) X.1 X.2.1 d_LW_law_322 (lv_at hl 0 rfl) ?_
  refine lv_iconst (pc := 324) (v := 2) X.1 X.2.1 d_LW_law_324 (by decide) ?_
  refine lv_iadd (pc := 325) X.1 X.2.1 d_LW_law_325 ?_
  refine va_sld (pc := 326) X.1 X.2.1 hx hbl hbA hX.2.2.1 (hin 2 (by decide)) d_LW_law_326 ?_
  rw [← e2]
  refine ab_ki_callV (pc := 327) (wr := wH t q o (g, F.2)) (w := wM t q') (u := v) (F := G) (as := [.int x1, .int x2]) (rest := [.int F.1]) X hX hG ok_MD_switches okv_MD_switches lx_14 22 9 rfl rfl rfl hl.1 rfl (Nat.le_of_ble_eq_true rfl) ⟨rfl, rfl, Nat.le_of_ble_eq_true rfl, Nat.le_of_ble_eq_true rfl⟩ ⟨Nat.le_of_succ_le hcs.1, Nat.le_trans (Nat.le_add_right _ 6) hcs.2⟩ d_LW_law_327 (fun H locs hX => ?_)
  refine lv_icmp_eq (pc := 330) (tgt := 548) X.1 X.2.1 d_LW_law_330 (by decide) (fun h => ?_) (fun h => absurd E.1 h)
  exact W.widen (Nat.le_succ _) (Nat.le_add_right _ _) (kk B g F.2.1 F.2.2 G.2 ls _ _ (Nat.le_add_right _ _) E.2 hl (ab_hx_swap hX))
set_option maxHeartbeats 1000000 in
theorem lw_k_coin {p : Program} {e : Env} {s : State} {m : MethodId} {below : List Frame} {meth : Method} {c : Code} {Q : State → Prop} (l : Launch) (hst : l.stackTraces = false) {b L : Nat} {xs : Nat → Int32} {D : va_G} {t : Nat → ClassId} {A : Nat → Prop} {q q' : Nat → Nat} {o : Nat} {g : Nat → Int64} {z u v : SS} {B : Nat} {i : Int32} {ls : Array Slot} {H : Heap} {locs : List Loc} {cells slots : Nat}
    (C : lw_C p s m c b L xs D t A) (hR : ab_RT B z u v) (hB : B + 488 < 2 ^ 30) (hin : ∀ k : Int32, (k = 1 ∨ k = 2 ∨ k = 3) → vp_in (i + k) L) (hl : lv_has ls 7 (lw_v b q q' o i)) (hX : ab_hx D (wM t q' v ++ wH t q o (g, (z, u))) A s.heap H locs) (hcs : cells + 1 ≤ 1058 ∧ slots + 6 ≤ 12544)
    (kk : ∀ (B' : Nat) (g : Nat → Int64) (z u v : SS) (ls : Array Slot) (H : Heap) (locs : List Loc), B' ≤ B + 488 → ab_RT B' z u v → lv_has ls 7 (lw_v b q q' o i) → ab_hx D (wM t q' v ++ wH t q o (g, (z, u))) A s.heap H locs → W p l e room_1 s m #[Value.ref b] below meth c H locs (cells + 1) (slots + 6) Q (F0 m 548 ls [])) :
    W p l e room_1 s m #[Value.ref b] below meth c H locs cells slots Q (F0 m 335 ls []) := by
  obtain ⟨X, hT, hN, hx, hbl, hbA⟩ := C
  have E := ab_cCoin hR
  have hM := c_AB_coin l D t q z u 
  have hG := c_MD_coin l D t q' v 
  generalize f_AB_coin z u = F at E hM
  generalize f_MD_coin v = G at E hG
  refine lv_aload_n (pc := 335) X.1 X.2.1 d_LW_law_335 rfl (lv_at hl 3 rfl) ?_
  have hX : ab_hx D ((wM t q' v ++ [(o, .inl (t 3, 1, .inr (.inl g)))]) ++ wT t q (z, u)) A s.heap H locs := by rw [List.append_assoc]; exact hX
  refine ab_ki_callV (pc := 336) (wr := wM t q' v ++ [(o, .inl (t 3, 1, .inr (.inl g)))]) (w := wT t q) (u := (z, u)) (F := F) (as := []) (rest := []) X hX hM ok_AB_coin okv_AB_coin lx_15 7 8 rfl rfl rfl hl.1 rfl (Nat.le_of_ble_eq_true rfl) ⟨rfl, rfl, Nat.le_of_ble_eq_true rfl, Nat.le_of_ble_eq_true rfl⟩ ⟨Nat.le_of_succ_le hcs.1, Nat.le_trans (Nat.le_add_right _ 6) hcs.2⟩ d_LW_law_336 (fun H locs hX => ?_)
  have hX : ab_hx D (wH t q o (g, F.2) ++ wM t q' v) A s.heap H locs := ab_hx_swap (by rw [List.append_assoc] at hX; exact hX)
  refine lv_aload_n (pc := 339) X.1 X.2.1 d_LW_law_339 rfl (lv_at hl 2 rfl) ?_
  refine ab_ki_callV (pc := 340) (wr := wH t q o (g, F.2)) (w := wM t q') (u := v) (F := G) (as := []) (rest := [.int F.1]) X hX hG ok_MD_coin okv_MD_coin lx_16 22 9 rfl rfl rfl hl.1 rfl (Nat.le_of_ble_eq_true rfl) ⟨rfl, rfl, Nat.le_of_ble_eq_true rfl, Nat.le_of_ble_eq_true rfl⟩ ⟨Nat.le_of_succ_le hcs.1, Nat.le_trans (Nat.le_add_right _ 6) hcs.2⟩ d_LW_law_340 (fun H locs hX => ?_)
  refine lv_icmp_eq (pc := 343) (tgt := 548) X.1 X.2.1 d_LW_law_343 (by decide) (fun h => ?_) (fun h => absurd E.1 h)
  exact W.widen (Nat.le_succ _) (Nat.le_add_right _ _) (kk B g F.2.1 F.2.2 G.2 ls _ _ (Nat.le_add_right _ _) E.2 hl (ab_hx_swap hX))
set_option maxHeartbeats 1000000 in
theorem lw_k_look {p : Program} {e : Env} {s : State} {m : MethodId} {below : List Frame} {meth : Method} {c : Code} {Q : State → Prop} (l : Launch) (hst : l.stackTraces = false) {b L : Nat} {xs : Nat → Int32} {D : va_G} {t : Nat → ClassId} {A : Nat → Prop} {q q' : Nat → Nat} {o : Nat} {g : Nat → Int64} {z u v : SS} {B : Nat} {i : Int32} {ls : Array Slot} {H : Heap} {locs : List Loc} {cells slots : Nat}
    (C : lw_C p s m c b L xs D t A) (hR : ab_RT B z u v) (hB : B + 488 < 2 ^ 30) (hin : ∀ k : Int32, (k = 1 ∨ k = 2 ∨ k = 3) → vp_in (i + k) L) (hl : lv_has ls 7 (lw_v b q q' o i)) (hX : ab_hx D (wM t q' v ++ wH t q o (g, (z, u))) A s.heap H locs) (hcs : cells + 1 ≤ 1058 ∧ slots + 6 ≤ 12544)
    (kk : ∀ (B' : Nat) (g : Nat → Int64) (z u v : SS) (ls : Array Slot) (H : Heap) (locs : List Loc), B' ≤ B + 488 → ab_RT B' z u v → lv_has ls 7 (lw_v b q q' o i) → ab_hx D (wM t q' v ++ wH t q o (g, (z, u))) A s.heap H locs → W p l e room_1 s m #[Value.ref b] below meth c H locs (cells + 1) (slots + 6) Q (F0 m 548 ls [])) :
    W p l e room_1 s m #[Value.ref b] below meth c H locs cells slots Q (F0 m 348 ls []) := by
  obtain ⟨X, hT, hN, hx, hbl, hbA⟩ := C
  obtain ⟨x1, e1⟩ : ∃ x, x = xs (i + 1).toNatClampNeg := ⟨_, rfl⟩
  have E := ab_cLook hR x1
  have hM := c_AB_look l D t q z u x1 
  have hG := c_MD_look l D t q' v x1 
  generalize f_AB_look z u x1 = F at E hM
  generalize f_MD_look v x1 = G at E hG
  refine lv_aload_n (pc := 348) X.1 X.2.1 d_LW_law_348 rfl (lv_at hl 3 rfl) ?_
  refine lv_aload_n (pc := 349) X.1 X.2.1 d_LW_law_349 rfl (lv_at hl 4 rfl) ?_
  refine lv_iload (pc := 350) X.1 X.2.1 d_LW_law_350 (lv_at hl 0 rfl) ?_
  refine lv_iconst (pc := 352) (v := 1) X.1 X.2.1 d_LW_law_352 (by decide) ?_
  refine lv_iadd (pc := 353) X.1 X.2.1 d_LW_law_353 ?_
  refine va_sld (pc := 354) X.1 X.2.1 hx hbl hbA hX.2.2.1 (hin 1 (by decide)) d_LW_law_354 ?_
  rw [← e1]
  have hX : ab_hx D ((wM t q' v ++ [(o, .inl (t 3, 1, .inr (.inl g)))]) ++ wT t q (z, u)) A s.heap H locs := by rw [List.append_assoc]; exact hX
  refine ab_ki_callV (pc := 355) (wr := wM t q' v ++ [(o, .inl (t 3, 1, .inr (.inl g)))]) (w := wT t q) (u := (z, u)) (F := (F, (z, u))) (as := [.int x1]) (rest := []) X hX hM ok_AB_look okv_AB_look lx_17 7 8 rfl rfl rfl hl.1 rfl (Nat.le_of_ble_eq_true rfl) ⟨rfl, rfl, Nat.le_of_ble_eq_true rfl, Nat.le_of_ble_eq_true rfl⟩ ⟨Nat.le_of_succ_le hcs.1, Nat.le_trans (Nat.le_add_right _ 6) hcs.2⟩ d_LW_law_355 (fun H locs hX => ?_)
  have hX : ab_hx D (wH t q o (g, (z, u)) ++ wM t q' v) A s.heap H locs := ab_hx_swap (by rw [List.append_assoc] at hX; exact hX)
  refine lv_aload_n (pc := 358) X.1 X.2.1 d_LW_law_358 rfl (lv_at hl 2 rfl) ?_
  refine lv_aload_n (pc := 359) X.1 X.2.1 d_LW_law_359 rfl (lv_at hl 4 rfl) ?_
  refine lv_iload (pc := 360) X.1 X.2.1 d_LW_law_360 (lv_at hl 0 rfl) ?_
  refine lv_iconst (pc := 362) (v := 1) X.1 X.2.1 d_LW_law_362 (by decide) ?_
  refine lv_iadd (pc := 363) X.1 X.2.1 d_LW_law_363 ?_
  refine va_sld (pc := 364) X.1 X.2.1 hx hbl hbA hX.2.2.1 (hin 1 (by decide)) d_LW_law_364 ?_
  rw [← e1]
  refine ab_ki_callV (pc := 365) (wr := wH t q o (g, (z, u))) (w := wM t q') (u := v) (F := G) (as := [.int x1]) (rest := [.int F]) X hX hG ok_MD_look okv_MD_look lx_18 22 9 rfl rfl rfl hl.1 rfl (Nat.le_of_ble_eq_true rfl) ⟨rfl, rfl, Nat.le_of_ble_eq_true rfl, Nat.le_of_ble_eq_true rfl⟩ ⟨Nat.le_of_succ_le hcs.1, Nat.le_trans (Nat.le_add_right _ 6) hcs.2⟩ d_LW_law_365 (fun H locs hX => ?_)
  refine lv_icmp_eq (pc := 368) (tgt := 548) X.1 X.2.1 d_LW_law_368 (by decide) (fun h => ?_) (fun h => absurd E.1 h)
  exact W.widen (Nat.le_succ _) (Nat.le_add_right _ _) (kk B g z u G.2 ls _ _ (Nat.le_add_right _ _) E.2 hl (ab_hx_swap hX))
set_option maxHeartbeats 1000000 in
theorem lw_k_peek {p : Program} {e : Env} {s : State} {m : MethodId} {below : List Frame} {meth : Method} {c : Code} {Q : State → Prop} (l : Launch) (hst : l.stackTraces = false) {b L : Nat} {xs : Nat → Int32} {D : va_G} {t : Nat → ClassId} {A : Nat → Prop} {q q' : Nat → Nat} {o : Nat} {g : Nat → Int64} {z u v : SS} {B : Nat} {i : Int32} {ls : Array Slot} {H : Heap} {locs : List Loc} {cells slots : Nat}
    (C : lw_C p s m c b L xs D t A) (hR : ab_RT B z u v) (hB : B + 488 < 2 ^ 30) (hin : ∀ k : Int32, (k = 1 ∨ k = 2 ∨ k = 3) → vp_in (i + k) L) (hl : lv_has ls 7 (lw_v b q q' o i)) (hX : ab_hx D (wM t q' v ++ wH t q o (g, (z, u))) A s.heap H locs) (hcs : cells + 1 ≤ 1058 ∧ slots + 6 ≤ 12544)
    (kk : ∀ (B' : Nat) (g : Nat → Int64) (z u v : SS) (ls : Array Slot) (H : Heap) (locs : List Loc), B' ≤ B + 488 → ab_RT B' z u v → lv_has ls 7 (lw_v b q q' o i) → ab_hx D (wM t q' v ++ wH t q o (g, (z, u))) A s.heap H locs → W p l e room_1 s m #[Value.ref b] below meth c H locs (cells + 1) (slots + 6) Q (F0 m 548 ls [])) :
    W p l e room_1 s m #[Value.ref b] below meth c H locs cells slots Q (F0 m 373 ls []) := by
  obtain ⟨X, hT, hN, hx, hbl, hbA⟩ := C
  obtain ⟨x1, e1⟩ : ∃ x, x = xs (i + 1).toNatClampNeg := ⟨_, rfl⟩
  have E := ab_cPeek hR x1
  have hM := c_AB_peek l D t q z u x1 
  have hG := c_MD_peek l D t q' v x1 
  generalize f_AB_peek z u x1 = F at E hM
  generalize f_MD_peek v x1 = G at E hG
  refine lv_aload_n (pc := 373) X.1 X.2.1 d_LW_law_373 rfl (lv_at hl 3 rfl) ?_
  refine lv_aload_n (pc := 374) X.1 X.2.1 d_LW_law_374 rfl (lv_at hl 4 rfl) ?_
  refine lv_iload (pc := 375) X.1 X.2.1 d_LW_law_375 (lv_at hl 0 rfl) ?_
  refine lv_iconst (pc := 377) (v := 1) X.1 X.2.1 d_LW_law_377 (by decide) ?_
  refine lv_iadd (pc := 378) X.1 X.2.1 d_LW_law_378 ?_
  refine va_sld (pc := 379) X.1 X.2.1 hx hbl hbA hX.2.2.1 (hin 1 (by decide)) d_LW_law_379 ?_
  rw [← e1]
  have hX : ab_hx D ((wM t q' v ++ [(o, .inl (t 3, 1, .inr (.inl g)))]) ++ wT t q (z, u)) A s.heap H locs := by rw [List.append_assoc]; exact hX
  refine ab_ki_callV (pc := 380) (wr := wM t q' v ++ [(o, .inl (t 3, 1, .inr (.inl g)))]) (w := wT t q) (u := (z, u)) (F := (F, (z, u))) (as := [.int x1]) (rest := []) X hX hM ok_AB_peek okv_AB_peek lx_19 7 8 rfl rfl rfl hl.1 rfl (Nat.le_of_ble_eq_true rfl) ⟨rfl, rfl, Nat.le_of_ble_eq_true rfl, Nat.le_of_ble_eq_true rfl⟩ ⟨Nat.le_of_succ_le hcs.1, Nat.le_trans (Nat.le_add_right _ 6) hcs.2⟩ d_LW_law_380 (fun H locs hX => ?_)
  have hX : ab_hx D (wH t q o (g, (z, u)) ++ wM t q' v) A s.heap H locs := ab_hx_swap (by rw [List.append_assoc] at hX; exact hX)
  refine lv_aload_n (pc := 383) X.1 X.2.1 d_LW_law_383 rfl (lv_at hl 2 rfl) ?_
  refine lv_aload_n (pc := 384) X.1 X.2.1 d_LW_law_384 rfl (lv_at hl 4 rfl) ?_
  refine lv_iload (pc := 385) X.1 X.2.1 d_LW_law_385 (lv_at hl 0 rfl) ?_
  refine lv_iconst (pc := 387) (v := 1) X.1 X.2.1 d_LW_law_387 (by decide) ?_
  refine lv_iadd (pc := 388) X.1 X.2.1 d_LW_law_388 ?_
  refine va_sld (pc := 389) X.1 X.2.1 hx hbl hbA hX.2.2.1 (hin 1 (by decide)) d_LW_law_389 ?_
  rw [← e1]
  refine ab_ki_callV (pc := 390) (wr := wH t q o (g, (z, u))) (w := wM t q') (u := v) (F := G) (as := [.int x1]) (rest := [.int F]) X hX hG ok_MD_peek okv_MD_peek lx_20 22 9 rfl rfl rfl hl.1 rfl (Nat.le_of_ble_eq_true rfl) ⟨rfl, rfl, Nat.le_of_ble_eq_true rfl, Nat.le_of_ble_eq_true rfl⟩ ⟨Nat.le_of_succ_le hcs.1, Nat.le_trans (Nat.le_add_right _ 6) hcs.2⟩ d_LW_law_390 (fun H locs hX => ?_)
  refine lv_icmp_eq (pc := 393) (tgt := 548) X.1 X.2.1 d_LW_law_393 (by decide) (fun h => ?_) (fun h => absurd E.1 h)
  exact W.widen (Nat.le_succ _) (Nat.le_add_right _ _) (kk B g z u G.2 ls _ _ (Nat.le_add_right _ _) E.2 hl (ab_hx_swap hX))
set_option maxHeartbeats 1000000 in
theorem lw_k_dot {p : Program} {e : Env} {s : State} {m : MethodId} {below : List Frame} {meth : Method} {c : Code} {Q : State → Prop} (l : Launch) (hst : l.stackTraces = false) {b L : Nat} {xs : Nat → Int32} {D : va_G} {t : Nat → ClassId} {A : Nat → Prop} {q q' : Nat → Nat} {o : Nat} {g : Nat → Int64} {z u v : SS} {B : Nat} {i : Int32} {ls : Array Slot} {H : Heap} {locs : List Loc} {cells slots : Nat}
    (C : lw_C p s m c b L xs D t A) (hR : ab_RT B z u v) (hB : B + 488 < 2 ^ 30) (hin : ∀ k : Int32, (k = 1 ∨ k = 2 ∨ k = 3) → vp_in (i + k) L) (hl : lv_has ls 7 (lw_v b q q' o i)) (hX : ab_hx D (wM t q' v ++ wH t q o (g, (z, u))) A s.heap H locs) (hcs : cells + 1 ≤ 1058 ∧ slots + 6 ≤ 12544)
    (kk : ∀ (B' : Nat) (g : Nat → Int64) (z u v : SS) (ls : Array Slot) (H : Heap) (locs : List Loc), B' ≤ B + 488 → ab_RT B' z u v → lv_has ls 7 (lw_v b q q' o i) → ab_hx D (wM t q' v ++ wH t q o (g, (z, u))) A s.heap H locs → W p l e room_1 s m #[Value.ref b] below meth c H locs (cells + 1) (slots + 6) Q (F0 m 548 ls [])) :
    W p l e room_1 s m #[Value.ref b] below meth c H locs cells slots Q (F0 m 398 ls []) := by
  obtain ⟨X, hT, hN, hx, hbl, hbA⟩ := C
  obtain ⟨x1, e1⟩ : ∃ x, x = xs (i + 1).toNatClampNeg := ⟨_, rfl⟩
  obtain ⟨x2, e2⟩ : ∃ x, x = xs (i + 2).toNatClampNeg := ⟨_, rfl⟩
  have E := ab_cDot hR x1 x2
  have hM := c_AB_dot l D t q z u x1 x2 
  have hG := c_MD_dot l D t q' v x1 x2 
  generalize f_AB_dot z u x1 x2 = F at E hM
  generalize f_MD_dot v x1 x2 = G at E hG
  refine lv_aload_n (pc := 398) X.1 X.2.1 d_LW_law_398 rfl (lv_at hl 3 rfl) ?_
  refine lv_aload_n (pc := 399) X.1 X.2.1 d_LW_law_399 rfl (lv_at hl 4 rfl) ?_
  refine lv_iload (pc := 400) X.1 X.2.1 d_LW_law_400 (lv_at hl 0 rfl) ?_
  refine lv_iconst (pc := 402) (v := 1) X.1 X.2.1 d_LW_law_402 (by decide) ?_
  refine lv_iadd (pc := 403) X.1 X.2.1 d_LW_law_403 ?_
  refine va_sld (pc := 404) X.1 X.2.1 hx hbl hbA hX.2.2.1 (hin 1 (by decide)) d_LW_law_404 ?_
  rw [← e1]
  refine lv_aload_n (pc := 405) X.1 X.2.1 d_LW_law_405 rfl (lv_at hl 4 rfl) ?_
  refine lv_iload (pc := 406) X.1 X.2.1 d_LW_law_406 (lv_at hl 0 rfl) ?_
  refine lv_iconst (pc := 408) (v := 2) X.1 X.2.1 d_LW_law_408 (by decide) ?_
  refine lv_iadd (pc := 409) X.1 X.2.1 d_LW_law_409 ?_
  refine va_sld (pc := 410) X.1 X.2.1 hx hbl hbA hX.2.2.1 (hin 2 (by decide)) d_LW_law_410 ?_
  rw [← e2]
  have hX : ab_hx D ((wM t q' v ++ [(o, .inl (t 3, 1, .inr (.inl g)))]) ++ wT t q (z, u)) A s.heap H locs := by rw [List.append_assoc]; exact hX
  refine ab_ki_callV (pc := 411) (wr := wM t q' v ++ [(o, .inl (t 3, 1, .inr (.inl g)))]) (w := wT t q) (u := (z, u)) (F := (F, (z, u))) (as := [.int x1, .int x2]) (rest := []) X hX hM ok_AB_dot okv_AB_dot lx_21 7 8 rfl rfl rfl hl.1 rfl (Nat.le_of_ble_eq_true rfl) ⟨rfl, rfl, Nat.le_of_ble_eq_true rfl, Nat.le_of_ble_eq_true rfl⟩ ⟨Nat.le_of_succ_le hcs.1, Nat.le_trans (Nat.le_add_right _ 6) hcs.2⟩ d_LW_law_411 (fun H locs hX => ?_)
  have hX : ab_hx D (wH t q o (g, (z, u)) ++ wM t q' v) A s.heap H locs := ab_hx_swap (by rw [List.append_assoc] at hX; exact hX)
  refine lv_aload_n (pc := 414) X.1 X.2.1 d_LW_law_414 rfl (lv_at hl 2 rfl) ?_
  refine lv_aload_n (pc := 415) X.1 X.2.1 d_LW_law_415 rfl (lv_at hl 4 rfl) ?_
  refine lv_iload (pc := 416) X.1 X.2.1 d_LW_law_416 (lv_at hl 0 rfl) ?_
  refine lv_iconst (pc := 418) (v := 1) X.1 X.2.1 d_LW_law_418 (by decide) ?_
  refine lv_iadd (pc := 419) X.1 X.2.1 d_LW_law_419 ?_
  refine va_sld (pc := 420) X.1 X.2.1 hx hbl hbA hX.2.2.1 (hin 1 (by decide)) d_LW_law_420 ?_
  rw [← e1]
  refine lv_aload_n (pc := 421) X.1 X.2.1 d_LW_law_421 rfl (lv_at hl 4 rfl) ?_
  refine lv_iload (pc := 422) X.1 X.2.1 d_LW_law_422 (lv_at hl 0 rfl) ?_
  refine lv_iconst (pc := 424) (v := 2) X.1 X.2.1 d_LW_law_424 (by decide) ?_
  refine lv_iadd (pc := 425) X.1 X.2.1 d_LW_law_425 ?_
  refine va_sld (pc := 426) X.1 X.2.1 hx hbl hbA hX.2.2.1 (hin 2 (by decide)) d_LW_law_426 ?_
  rw [← e2]
  refine ab_ki_callV (pc := 427) (wr := wH t q o (g, (z, u))) (w := wM t q') (u := v) (F := G) (as := [.int x1, .int x2]) (rest := [.int F]) X hX hG ok_MD_dot okv_MD_dot lx_22 22 9 rfl rfl rfl hl.1 rfl (Nat.le_of_ble_eq_true rfl) ⟨rfl, rfl, Nat.le_of_ble_eq_true rfl, Nat.le_of_ble_eq_true rfl⟩ ⟨Nat.le_of_succ_le hcs.1, Nat.le_trans (Nat.le_add_right _ 6) hcs.2⟩ d_LW_law_427 (fun H locs hX => ?_)
  refine lv_icmp_eq (pc := 430) (tgt := 548) X.1 X.2.1 d_LW_law_430 (by decide) (fun h => ?_) (fun h => absurd E.1 h)
  exact W.widen (Nat.le_succ _) (Nat.le_add_right _ _) (kk B g z u G.2 ls _ _ (Nat.le_add_right _ _) E.2 hl (ab_hx_swap hX))
set_option maxHeartbeats 1000000 in
theorem lw_k_sound {p : Program} {e : Env} {s : State} {m : MethodId} {below : List Frame} {meth : Method} {c : Code} {Q : State → Prop} (l : Launch) (hst : l.stackTraces = false) {b L : Nat} {xs : Nat → Int32} {D : va_G} {t : Nat → ClassId} {A : Nat → Prop} {q q' : Nat → Nat} {o : Nat} {g : Nat → Int64} {z u v : SS} {B : Nat} {i : Int32} {ls : Array Slot} {H : Heap} {locs : List Loc} {cells slots : Nat}
    (C : lw_C p s m c b L xs D t A) (hR : ab_RT B z u v) (hB : B + 488 < 2 ^ 30) (hin : ∀ k : Int32, (k = 1 ∨ k = 2 ∨ k = 3) → vp_in (i + k) L) (hl : lv_has ls 7 (lw_v b q q' o i)) (hX : ab_hx D (wM t q' v ++ wH t q o (g, (z, u))) A s.heap H locs) (hcs : cells + 1 ≤ 1058 ∧ slots + 6 ≤ 12544)
    (kk : ∀ (B' : Nat) (g : Nat → Int64) (z u v : SS) (ls : Array Slot) (H : Heap) (locs : List Loc), B' ≤ B + 488 → ab_RT B' z u v → lv_has ls 7 (lw_v b q q' o i) → ab_hx D (wM t q' v ++ wH t q o (g, (z, u))) A s.heap H locs → W p l e room_1 s m #[Value.ref b] below meth c H locs (cells + 1) (slots + 6) Q (F0 m 548 ls [])) :
    W p l e room_1 s m #[Value.ref b] below meth c H locs cells slots Q (F0 m 435 ls []) := by
  obtain ⟨X, hT, hN, hx, hbl, hbA⟩ := C
  obtain ⟨x1, e1⟩ : ∃ x, x = xs (i + 1).toNatClampNeg := ⟨_, rfl⟩
  have E := ab_cSound hR (Nat.lt_of_le_of_lt (Nat.le_add_right _ _) hB) x1
  have hM := c_AB_sound l D t q z u x1 
  have hG := c_MD_sound l D t q' v x1 (lp_snd hR (Nat.lt_of_le_of_lt (Nat.le_add_right _ _) hB))
  generalize f_AB_sound z u x1 = F at E hM
  generalize f_MD_sound v x1 = G at E hG
  refine lv_aload_n (pc := 435) X.1 X.2.1 d_LW_law_435 rfl (lv_at hl 3 rfl) ?_
  refine lv_aload_n (pc := 436) X.1 X.2.1 d_LW_law_436 rfl (lv_at hl 4 rfl) ?_
  refine lv_iload (pc := 437) X.1 X.2.1 d_LW_law_437 (lv_at hl 0 rfl) ?_
  refine lv_iconst (pc := 439) (v := 1) X.1 X.2.1 d_LW_law_439 (by decide) ?_
  refine lv_iadd (pc := 440) X.1 X.2.1 d_LW_law_440 ?_
  refine va_sld (pc := 441) X.1 X.2.1 hx hbl hbA hX.2.2.1 (hin 1 (by decide)) d_LW_law_441 ?_
  rw [← e1]
  have hX : ab_hx D ((wM t q' v ++ [(o, .inl (t 3, 1, .inr (.inl g)))]) ++ wT t q (z, u)) A s.heap H locs := by rw [List.append_assoc]; exact hX
  refine ab_ki_callV (pc := 442) (wr := wM t q' v ++ [(o, .inl (t 3, 1, .inr (.inl g)))]) (w := wT t q) (u := (z, u)) (F := (F, (z, u))) (as := [.int x1]) (rest := []) X hX hM ok_AB_sound okv_AB_sound lx_23 7 8 rfl rfl rfl hl.1 rfl (Nat.le_of_ble_eq_true rfl) ⟨rfl, rfl, Nat.le_of_ble_eq_true rfl, Nat.le_of_ble_eq_true rfl⟩ ⟨Nat.le_of_succ_le hcs.1, Nat.le_trans (Nat.le_add_right _ 6) hcs.2⟩ d_LW_law_442 (fun H locs hX => ?_)
  have hX : ab_hx D (wH t q o (g, (z, u)) ++ wM t q' v) A s.heap H locs := ab_hx_swap (by rw [List.append_assoc] at hX; exact hX)
  refine lv_aload_n (pc := 445) X.1 X.2.1 d_LW_law_445 rfl (lv_at hl 2 rfl) ?_
  refine lv_aload_n (pc := 446) X.1 X.2.1 d_LW_law_446 rfl (lv_at hl 4 rfl) ?_
  refine lv_iload (pc := 447) X.1 X.2.1 d_LW_law_447 (lv_at hl 0 rfl) ?_
  refine lv_iconst (pc := 449) (v := 1) X.1 X.2.1 d_LW_law_449 (by decide) ?_
  refine lv_iadd (pc := 450) X.1 X.2.1 d_LW_law_450 ?_
  refine va_sld (pc := 451) X.1 X.2.1 hx hbl hbA hX.2.2.1 (hin 1 (by decide)) d_LW_law_451 ?_
  rw [← e1]
  refine ab_ki_callV (pc := 452) (wr := wH t q o (g, (z, u))) (w := wM t q') (u := v) (F := G) (as := [.int x1]) (rest := [.int F]) X hX hG ok_MD_sound okv_MD_sound lx_24 22 9 rfl rfl rfl hl.1 rfl (Nat.le_of_ble_eq_true rfl) ⟨rfl, rfl, Nat.le_of_ble_eq_true rfl, Nat.le_of_ble_eq_true rfl⟩ ⟨Nat.le_of_succ_le hcs.1, Nat.le_trans (Nat.le_add_right _ 6) hcs.2⟩ d_LW_law_452 (fun H locs hX => ?_)
  refine lv_icmp_eq (pc := 455) (tgt := 548) X.1 X.2.1 d_LW_law_455 (by decide) (fun h => ?_) (fun h => absurd E.1 h)
  exact W.widen (Nat.le_succ _) (Nat.le_add_right _ _) (kk B g z u G.2 ls _ _ (Nat.le_add_right _ _) E.2 hl (ab_hx_swap hX))
set_option maxHeartbeats 1000000 in
theorem lw_k_save {p : Program} {e : Env} {s : State} {m : MethodId} {below : List Frame} {meth : Method} {c : Code} {Q : State → Prop} (l : Launch) (hst : l.stackTraces = false) {b L : Nat} {xs : Nat → Int32} {D : va_G} {t : Nat → ClassId} {A : Nat → Prop} {q q' : Nat → Nat} {o : Nat} {g : Nat → Int64} {z u v : SS} {B : Nat} {i : Int32} {ls : Array Slot} {H : Heap} {locs : List Loc} {cells slots : Nat}
    (C : lw_C p s m c b L xs D t A) (hR : ab_RT B z u v) (hB : B + 488 < 2 ^ 30) (hin : ∀ k : Int32, (k = 1 ∨ k = 2 ∨ k = 3) → vp_in (i + k) L) (hl : lv_has ls 7 (lw_v b q q' o i)) (hX : ab_hx D (wM t q' v ++ wH t q o (g, (z, u))) A s.heap H locs) (hcs : cells + 1 ≤ 1058 ∧ slots + 6 ≤ 12544)
    (kk : ∀ (B' : Nat) (g : Nat → Int64) (z u v : SS) (ls : Array Slot) (H : Heap) (locs : List Loc), B' ≤ B + 488 → ab_RT B' z u v → lv_has ls 7 (lw_v b q q' o i) → ab_hx D (wM t q' v ++ wH t q o (g, (z, u))) A s.heap H locs → W p l e room_1 s m #[Value.ref b] below meth c H locs (cells + 1) (slots + 6) Q (F0 m 548 ls [])) :
    W p l e room_1 s m #[Value.ref b] below meth c H locs cells slots Q (F0 m 460 ls []) := by
  obtain ⟨X, hT, hN, hx, hbl, hbA⟩ := C
  obtain ⟨x1, e1⟩ : ∃ x, x = xs (i + 1).toNatClampNeg := ⟨_, rfl⟩
  have E := ab_cSave hR x1
  have hM := c_AB_save l D t q z u x1 (lp_sav hR).1 (lp_sav hR).2.1 (lp_sav hR).2.2
  have hG := c_MD_save l D t q' v x1 
  generalize f_AB_save z u x1 = F at E hM
  generalize f_MD_save v x1 = G at E hG
  refine lv_aload_n (pc := 460) X.1 X.2.1 d_LW_law_460 rfl (lv_at hl 3 rfl) ?_
  refine lv_aload_n (pc := 461) X.1 X.2.1 d_LW_law_461 rfl (lv_at hl 4 rfl) ?_
  refine lv_iload (pc := 462) X.1 X.2.1 d_LW_law_462 (lv_at hl 0 rfl) ?_
  refine lv_iconst (pc := 464) (v := 1) X.1 X.2.1 d_LW_law_464 (by decide) ?_
  refine lv_iadd (pc := 465) X.1 X.2.1 d_LW_law_465 ?_
  refine va_sld (pc := 466) X.1 X.2.1 hx hbl hbA hX.2.2.1 (hin 1 (by decide)) d_LW_law_466 ?_
  rw [← e1]
  have hX : ab_hx D ((wM t q' v ++ [(o, .inl (t 3, 1, .inr (.inl g)))]) ++ wT t q (z, u)) A s.heap H locs := by rw [List.append_assoc]; exact hX
  refine ab_ki_callV (pc := 467) (wr := wM t q' v ++ [(o, .inl (t 3, 1, .inr (.inl g)))]) (w := wT t q) (u := (z, u)) (F := F) (as := [.int x1]) (rest := []) X hX hM ok_AB_save okv_AB_save lx_25 7 8 rfl rfl rfl hl.1 rfl (Nat.le_of_ble_eq_true rfl) ⟨rfl, rfl, Nat.le_of_ble_eq_true rfl, Nat.le_of_ble_eq_true rfl⟩ ⟨Nat.le_of_succ_le hcs.1, Nat.le_trans (Nat.le_add_right _ 6) hcs.2⟩ d_LW_law_467 (fun H locs hX => ?_)
  have hX : ab_hx D (wH t q o (g, F.2) ++ wM t q' v) A s.heap H locs := ab_hx_swap (by rw [List.append_assoc] at hX; exact hX)
  refine lv_aload_n (pc := 470) X.1 X.2.1 d_LW_law_470 rfl (lv_at hl 2 rfl) ?_
  refine lv_aload_n (pc := 471) X.1 X.2.1 d_LW_law_471 rfl (lv_at hl 4 rfl) ?_
  refine lv_iload (pc := 472) X.1 X.2.1 d_LW_law_472 (lv_at hl 0 rfl) ?_
  refine lv_iconst (pc := 474) (v := 1) X.1 X.2.1 d_LW_law_474 (by decide) ?_
  refine lv_iadd (pc := 475) X.1 X.2.1 d_LW_law_475 ?_
  refine va_sld (pc := 476) X.1 X.2.1 hx hbl hbA hX.2.2.1 (hin 1 (by decide)) d_LW_law_476 ?_
  rw [← e1]
  refine ab_ki_callV (pc := 477) (wr := wH t q o (g, F.2)) (w := wM t q') (u := v) (F := G) (as := [.int x1]) (rest := [.int F.1]) X hX hG ok_MD_save okv_MD_save lx_26 22 9 rfl rfl rfl hl.1 rfl (Nat.le_of_ble_eq_true rfl) ⟨rfl, rfl, Nat.le_of_ble_eq_true rfl, Nat.le_of_ble_eq_true rfl⟩ ⟨Nat.le_of_succ_le hcs.1, Nat.le_trans (Nat.le_add_right _ 6) hcs.2⟩ d_LW_law_477 (fun H locs hX => ?_)
  refine lv_icmp_eq (pc := 480) (tgt := 548) X.1 X.2.1 d_LW_law_480 (by decide) (fun h => ?_) (fun h => absurd E.1 h)
  exact W.widen (Nat.le_succ _) (Nat.le_add_right _ _) (kk B g F.2.1 F.2.2 G.2 ls _ _ (Nat.le_add_right _ _) E.2 hl (ab_hx_swap hX))
set_option maxHeartbeats 1000000 in
theorem lw_k_power {p : Program} {e : Env} {s : State} {m : MethodId} {below : List Frame} {meth : Method} {c : Code} {Q : State → Prop} (l : Launch) (hst : l.stackTraces = false) {b L : Nat} {xs : Nat → Int32} {D : va_G} {t : Nat → ClassId} {A : Nat → Prop} {q q' : Nat → Nat} {o : Nat} {g : Nat → Int64} {z u v : SS} {B : Nat} {i : Int32} {ls : Array Slot} {H : Heap} {locs : List Loc} {cells slots : Nat}
    (C : lw_C p s m c b L xs D t A) (hR : ab_RT B z u v) (hB : B + 488 < 2 ^ 30) (hin : ∀ k : Int32, (k = 1 ∨ k = 2 ∨ k = 3) → vp_in (i + k) L) (hl : lv_has ls 7 (lw_v b q q' o i)) (hX : ab_hx D (wM t q' v ++ wH t q o (g, (z, u))) A s.heap H locs) (hcs : cells + 1 ≤ 1058 ∧ slots + 6 ≤ 12544)
    (kk : ∀ (B' : Nat) (g : Nat → Int64) (z u v : SS) (ls : Array Slot) (H : Heap) (locs : List Loc), B' ≤ B + 488 → ab_RT B' z u v → lv_has ls 7 (lw_v b q q' o i) → ab_hx D (wM t q' v ++ wH t q o (g, (z, u))) A s.heap H locs → W p l e room_1 s m #[Value.ref b] below meth c H locs (cells + 1) (slots + 6) Q (F0 m 548 ls [])) :
    W p l e room_1 s m #[Value.ref b] below meth c H locs cells slots Q (F0 m 166 ls []) := by
  obtain ⟨X, hT, hN, hx, hbl, hbA⟩ := C
  obtain ⟨x1, e1⟩ : ∃ x, x = xs (i + 1).toNatClampNeg := ⟨_, rfl⟩
  have E := ab_cPower hR x1
  have h2 := lp_p2 z u x1
  have hM := c_LW_power l hst D t q o g z u x1
  have hG := c_MD_power l D t q' v x1
  obtain ⟨F, hF⟩ : ∃ F, F = f_AB_power z u x1 := ⟨_, rfl⟩
  rw [← hF] at E h2 hM
  obtain ⟨G, hG9⟩ : ∃ G, G = f_MD_power v x1 := ⟨_, rfl⟩
  rw [← hG9] at E hG
  clear hF hG9
  refine lv_aload_n (pc := 166) X.1 X.2.1 d_LW_law_166 rfl (lv_at hl 3 rfl) ?_
  refine lv_aload_n (pc := 167) X.1 X.2.1 d_LW_law_167 rfl (lv_at hl 4 rfl) ?_
  refine lv_iload (pc := 168) X.1 X.2.1 d_LW_law_168 (lv_at hl 0 rfl) ?_
  refine lv_iconst (pc := 170) (v := 1) X.1 X.2.1 d_LW_law_170 (by decide) ?_
  refine lv_iadd (pc := 171) X.1 X.2.1 d_LW_law_171 ?_
  refine va_sld (pc := 172) X.1 X.2.1 hx hbl hbA hX.2.2.1 (hin 1 (by decide)) d_LW_law_172 ?_
  rw [← e1]
  refine lv_aload_n (pc := 173) X.1 X.2.1 d_LW_law_173 rfl (lv_at hl 1 rfl) ?_
  refine ab_kh_callS (k := 3) (pc := 174) (wr := wM t q' v) (w := wH t q o) (u := (g, (z, u))) (F := (h_O h_b g F)) (as := [.ref (q 12), .int x1, .ref o]) (rest := []) X hT hN hX hM lx_27 lx_28 ⟨by decide, by decide, by decide +kernel⟩ lx_29 lx_30 rfl hl.1 rfl (Nat.le_of_ble_eq_true rfl) ⟨rfl, rfl, Nat.le_of_ble_eq_true rfl, Nat.le_of_ble_eq_true rfl⟩ hcs d_LW_law_174 (fun H locs hX => ?_)
  obtain ⟨k, hk⟩ : ∃ k, k = (h_O h_b g F).1 := ⟨_, rfl⟩
  rw [← hk]
  refine lv_istore (pc := 177) (lv' := [(5, .int k), (4, .int i), (3, .ref o), (2, .ref (q' 0)), (1, .ref (q 12)), (0, .ref b)]) X.1 X.2.1 d_LW_law_177 hl (Nat.le_of_ble_eq_true rfl) rfl (fun ls hl => ?_)
  have hX : ab_hx D (wH t q o (h_O h_b g F).2 ++ wM t q' v) A s.heap H locs := ab_hx_swap hX
  refine lv_aload_n (pc := 179) X.1 X.2.1 d_LW_law_179 rfl (lv_at hl 3 rfl) ?_
  refine lv_aload_n (pc := 180) X.1 X.2.1 d_LW_law_180 rfl (lv_at hl 5 rfl) ?_
  refine lv_iload (pc := 181) X.1 X.2.1 d_LW_law_181 (lv_at hl 1 rfl) ?_
  refine lv_iconst (pc := 183) (v := 1) X.1 X.2.1 d_LW_law_183 (by decide) ?_
  refine lv_iadd (pc := 184) X.1 X.2.1 d_LW_law_184 ?_
  refine va_sld (pc := 185) X.1 X.2.1 hx hbl hbA hX.2.2.1 (hin 1 (by decide)) d_LW_law_185 ?_
  rw [← e1]
  refine ab_ki_callV (pc := 186) (wr := wH t q o (h_O h_b g F).2) (w := wM t q') (u := v) (F := G) (as := [.int x1]) (rest := []) X hX hG ok_MD_power okv_MD_power lx_31 22 9 rfl rfl rfl hl.1 rfl (Nat.le_of_ble_eq_true rfl) ⟨rfl, rfl, Nat.le_of_ble_eq_true rfl, Nat.le_of_ble_eq_true rfl⟩ hcs d_LW_law_186 (fun H locs hX => ?_)
  refine lv_istore (pc := 189) (lv' := [(6, .int G.1), (5, .int k), (4, .int i), (3, .ref o), (2, .ref (q' 0)), (1, .ref (q 12)), (0, .ref b)]) X.1 X.2.1 d_LW_law_189 hl (Nat.le_of_ble_eq_true rfl) rfl (fun ls hl => ?_)
  refine lv_aload_n (pc := 191) X.1 X.2.1 d_LW_law_191 rfl (lv_at hl 4 rfl) ?_
  refine ab_ki_callV (pc := 192) (wr := wH t q o (h_O h_b g F).2) (w := wM t q') (u := G.2) (F := (f_MD_thrown G.2, G.2)) (as := []) (rest := []) X hX (c_MD_thrown l D t q' G.2) ok_MD_thrown okv_MD_thrown lx_32 22 9 rfl rfl rfl hl.1 rfl (Nat.le_of_ble_eq_true rfl) ⟨rfl, rfl, Nat.le_of_ble_eq_true rfl, Nat.le_of_ble_eq_true rfl⟩ hcs d_LW_law_192 (fun H locs hX => ?_)
  have hth : f_MD_thrown G.2 = k := E.1.trans ((show nI F.1 = (h_O h_b g F).1 from lp_k h2).trans hk.symm)
  refine lv_iload (pc := 195) X.1 X.2.1 d_LW_law_195 (lv_at hl 1 rfl) ?_
  refine lv_icmp_eq (pc := 197) (tgt := 202) X.1 X.2.1 d_LW_law_197 (by decide) (fun _ => ?_) (fun h => absurd hth h)
  have fin : W p l e room_1 s m #[Value.ref b] below meth c H locs (cells + 1) (slots + 6) Q (F0 m 226 ls []) := lv_goto (pc := 226) (tgt := 548) X.1 X.2.1 d_LW_law_226 (by decide) (kk B (h_O h_b g F).2.1 F.2.2.1 F.2.2.2 G.2 ls _ _ (Nat.le_add_right _ _) E.2.2 (lv_sub hl [2, 3, 4, 5, 6] rfl) (ab_hx_swap hX))
  refine lv_iload (pc := 202) X.1 X.2.1 d_LW_law_202 (lv_at hl 1 rfl) ?_
  refine lv_if_ne (pc := 204) (tgt := 226) X.1 X.2.1 d_LW_law_204 (by decide) (fun _ => fin) (fun hk0 => ?_)
  have hz : F.1 = 0 := lp_0 (by rw [hk] at hk0; exact hk0)
  have e2 := E.2.1 hz
  refine lv_aload_n (pc := 207) X.1 X.2.1 d_LW_law_207 rfl (lv_at hl 3 rfl) ?_
  refine lv_iconst (pc := 208) (v := 0) X.1 X.2.1 d_LW_law_208 (by decide) ?_
  refine ab_lld (pc := 209) (j := 0) (f := (h_O h_b g F).2.1) X hX 0 3 rfl rfl (ab_inc (by decide)) rfl d_LW_law_209 ?_
  have eg : (h_O h_b g F).2.1 0 = h_b G.1 := by
    show (if F.1 = 0 then vp_updL g 0 (h_b F.2.1) else g) 0 = _
    rw [if_pos hz, e2]
    exact if_pos rfl
  rw [eg]
  refine lv_iload (pc := 210) X.1 X.2.1 d_LW_law_210 (lv_at hl 0 rfl) ?_
  have cm : ∀ y : Int64, h_b G.1 = y → W p l e room_1 s m #[Value.ref b] below meth c H locs (cells + 1) (slots + 6) Q (F0 m 220 ls [.long y, .long (h_b G.1)]) := fun y hy => by
    subst hy
    refine W.lcmp (pc := 220) X.1 X.2.1 d_LW_law_220 ?_
    rw [lp_cmp]
    exact lv_if_eq (pc := 221) (tgt := 226) X.1 X.2.1 d_LW_law_221 (by decide) (fun _ => fin) (fun h => absurd rfl h)
  refine lv_if_eq (pc := 212) (tgt := 219) X.1 X.2.1 d_LW_law_212 (by decide) (fun h6 => ?_) (fun h6 => ?_)
  · exact lv_lconst (pc := 219) (v := 0) X.1 X.2.1 d_LW_law_219 (by decide) (cm 0 (by unfold h_b; rw [if_pos h6]))
  · refine lv_lconst (pc := 215) (v := 1) X.1 X.2.1 d_LW_law_215 (by decide) ?_
    exact lv_goto (pc := 216) (tgt := 220) X.1 X.2.1 d_LW_law_216 (by decide) (cm 1 (by unfold h_b; rw [if_neg h6]))
set_option maxHeartbeats 1000000 in
theorem lw_k_run {p : Program} {e : Env} {s : State} {m : MethodId} {below : List Frame} {meth : Method} {c : Code} {Q : State → Prop} (l : Launch) (hst : l.stackTraces = false) {b L : Nat} {xs : Nat → Int32} {D : va_G} {t : Nat → ClassId} {A : Nat → Prop} {q q' : Nat → Nat} {o : Nat} {g : Nat → Int64} {z u v : SS} {B : Nat} {i : Int32} {ls : Array Slot} {H : Heap} {locs : List Loc} {cells slots : Nat}
    (C : lw_C p s m c b L xs D t A) (hR : ab_RT B z u v) (hB : B + 488 < 2 ^ 30) (hin : ∀ k : Int32, (k = 1 ∨ k = 2 ∨ k = 3) → vp_in (i + k) L) (hl : lv_has ls 7 (lw_v b q q' o i)) (hX : ab_hx D (wM t q' v ++ wH t q o (g, (z, u))) A s.heap H locs) (hcs : cells + 1 ≤ 1058 ∧ slots + 6 ≤ 12544)
    (kk : ∀ (B' : Nat) (g : Nat → Int64) (z u v : SS) (ls : Array Slot) (H : Heap) (locs : List Loc), B' ≤ B + 488 → ab_RT B' z u v → lv_has ls 7 (lw_v b q q' o i) → ab_hx D (wM t q' v ++ wH t q o (g, (z, u))) A s.heap H locs → W p l e room_1 s m #[Value.ref b] below meth c H locs (cells + 1) (slots + 6) Q (F0 m 548 ls [])) :
    W p l e room_1 s m #[Value.ref b] below meth c H locs cells slots Q (F0 m 242 ls []) := by
  obtain ⟨X, hT, hN, hx, hbl, hbA⟩ := C
  obtain ⟨x1, e1⟩ : ∃ x, x = xs (i + 1).toNatClampNeg := ⟨_, rfl⟩
  have E := ab_cRun hR hB x1
  have h2 := lp_r2 z u x1
  have hM := c_LW_run l hst D t q o g z u x1
  have hG := c_MD_run l D t q' v x1 lp_P1 lp_P2 (lp_P9 hR hB)
  obtain ⟨F, hF⟩ : ∃ F, F = f_AB_run z u x1 := ⟨_, rfl⟩
  rw [← hF] at E h2 hM
  obtain ⟨G, hG9⟩ : ∃ G, G = f_MD_run v x1 := ⟨_, rfl⟩
  rw [← hG9] at E hG
  clear hF hG9
  refine lv_aload_n (pc := 242) X.1 X.2.1 d_LW_law_242 rfl (lv_at hl 3 rfl) ?_
  refine lv_aload_n (pc := 243) X.1 X.2.1 d_LW_law_243 rfl (lv_at hl 4 rfl) ?_
  refine lv_iload (pc := 244) X.1 X.2.1 d_LW_law_244 (lv_at hl 0 rfl) ?_
  refine lv_iconst (pc := 246) (v := 1) X.1 X.2.1 d_LW_law_246 (by decide) ?_
  refine lv_iadd (pc := 247) X.1 X.2.1 d_LW_law_247 ?_
  refine va_sld (pc := 248) X.1 X.2.1 hx hbl hbA hX.2.2.1 (hin 1 (by decide)) d_LW_law_248 ?_
  rw [← e1]
  refine lv_aload_n (pc := 249) X.1 X.2.1 d_LW_law_249 rfl (lv_at hl 1 rfl) ?_
  refine ab_kh_callS (k := 3) (pc := 250) (wr := wM t q' v) (w := wH t q o) (u := (g, (z, u))) (F := (h_O Int32.toInt64 g F)) (as := [.ref (q 12), .int x1, .ref o]) (rest := []) X hT hN hX hM lx_33 lx_28 ⟨by decide, by decide, by decide +kernel⟩ lx_34 lx_35 rfl hl.1 rfl (Nat.le_of_ble_eq_true rfl) ⟨rfl, rfl, Nat.le_of_ble_eq_true rfl, Nat.le_of_ble_eq_true rfl⟩ hcs d_LW_law_250 (fun H locs hX => ?_)
  obtain ⟨k, hk⟩ : ∃ k, k = (h_O Int32.toInt64 g F).1 := ⟨_, rfl⟩
  rw [← hk]
  refine lv_istore (pc := 253) (lv' := [(5, .int k), (4, .int i), (3, .ref o), (2, .ref (q' 0)), (1, .ref (q 12)), (0, .ref b)]) X.1 X.2.1 d_LW_law_253 hl (Nat.le_of_ble_eq_true rfl) rfl (fun ls hl => ?_)
  have hX : ab_hx D (wH t q o (h_O Int32.toInt64 g F).2 ++ wM t q' v) A s.heap H locs := ab_hx_swap hX
  refine lv_aload_n (pc := 255) X.1 X.2.1 d_LW_law_255 rfl (lv_at hl 3 rfl) ?_
  refine lv_aload_n (pc := 256) X.1 X.2.1 d_LW_law_256 rfl (lv_at hl 5 rfl) ?_
  refine lv_iload (pc := 257) X.1 X.2.1 d_LW_law_257 (lv_at hl 1 rfl) ?_
  refine lv_iconst (pc := 259) (v := 1) X.1 X.2.1 d_LW_law_259 (by decide) ?_
  refine lv_iadd (pc := 260) X.1 X.2.1 d_LW_law_260 ?_
  refine va_sld (pc := 261) X.1 X.2.1 hx hbl hbA hX.2.2.1 (hin 1 (by decide)) d_LW_law_261 ?_
  rw [← e1]
  refine ab_ki_callV (pc := 262) (wr := wH t q o (h_O Int32.toInt64 g F).2) (w := wM t q') (u := v) (F := G) (as := [.int x1]) (rest := []) X hX hG ok_MD_run okv_MD_run lx_36 22 9 rfl rfl rfl hl.1 rfl (Nat.le_of_ble_eq_true rfl) ⟨rfl, rfl, Nat.le_of_ble_eq_true rfl, Nat.le_of_ble_eq_true rfl⟩ hcs d_LW_law_262 (fun H locs hX => ?_)
  refine lv_istore (pc := 265) (lv' := [(6, .int G.1), (5, .int k), (4, .int i), (3, .ref o), (2, .ref (q' 0)), (1, .ref (q 12)), (0, .ref b)]) X.1 X.2.1 d_LW_law_265 hl (Nat.le_of_ble_eq_true rfl) rfl (fun ls hl => ?_)
  refine lv_aload_n (pc := 267) X.1 X.2.1 d_LW_law_267 rfl (lv_at hl 4 rfl) ?_
  refine ab_ki_callV (pc := 268) (wr := wH t q o (h_O Int32.toInt64 g F).2) (w := wM t q') (u := G.2) (F := (f_MD_thrown G.2, G.2)) (as := []) (rest := []) X hX (c_MD_thrown l D t q' G.2) ok_MD_thrown okv_MD_thrown lx_32 22 9 rfl rfl rfl hl.1 rfl (Nat.le_of_ble_eq_true rfl) ⟨rfl, rfl, Nat.le_of_ble_eq_true rfl, Nat.le_of_ble_eq_true rfl⟩ hcs d_LW_law_268 (fun H locs hX => ?_)
  have hth : f_MD_thrown G.2 = k := E.1.trans ((show nI F.1 = (h_O Int32.toInt64 g F).1 from lp_k h2).trans hk.symm)
  refine lv_iload (pc := 271) X.1 X.2.1 d_LW_law_271 (lv_at hl 1 rfl) ?_
  refine lv_icmp_eq (pc := 273) (tgt := 278) X.1 X.2.1 d_LW_law_273 (by decide) (fun _ => ?_) (fun h => absurd hth h)
  have fin : W p l e room_1 s m #[Value.ref b] below meth c H locs (cells + 1) (slots + 6) Q (F0 m 295 ls []) := lv_goto (pc := 295) (tgt := 548) X.1 X.2.1 d_LW_law_295 (by decide) (kk (B + 488) (h_O Int32.toInt64 g F).2.1 F.2.2.1 F.2.2.2 G.2 ls _ _ (Nat.le_refl _) E.2.2 (lv_sub hl [2, 3, 4, 5, 6] rfl) (ab_hx_swap hX))
  refine lv_iload (pc := 278) X.1 X.2.1 d_LW_law_278 (lv_at hl 1 rfl) ?_
  refine lv_if_ne (pc := 280) (tgt := 295) X.1 X.2.1 d_LW_law_280 (by decide) (fun _ => fin) (fun hk0 => ?_)
  have hz : F.1 = 0 := lp_0 (by rw [hk] at hk0; exact hk0)
  have e2 := E.2.1 hz
  refine lv_aload_n (pc := 283) X.1 X.2.1 d_LW_law_283 rfl (lv_at hl 3 rfl) ?_
  refine lv_iconst (pc := 284) (v := 0) X.1 X.2.1 d_LW_law_284 (by decide) ?_
  refine ab_lld (pc := 285) (j := 0) (f := (h_O Int32.toInt64 g F).2.1) X hX 0 3 rfl rfl (ab_inc (by decide)) rfl d_LW_law_285 ?_
  have eg : (h_O Int32.toInt64 g F).2.1 0 = Int32.toInt64 G.1 := by
    show (if F.1 = 0 then vp_updL g 0 (Int32.toInt64 F.2.1) else g) 0 = _
    rw [if_pos hz, e2]
    exact if_pos rfl
  rw [eg]
  refine lv_iload (pc := 286) X.1 X.2.1 d_LW_law_286 (lv_at hl 0 rfl) ?_
  have cm : ∀ y : Int64, Int32.toInt64 G.1 = y → W p l e room_1 s m #[Value.ref b] below meth c H locs (cells + 1) (slots + 6) Q (F0 m 289 ls [.long y, .long (Int32.toInt64 G.1)]) := fun y hy => by
    subst hy
    refine W.lcmp (pc := 289) X.1 X.2.1 d_LW_law_289 ?_
    rw [lp_cmp]
    exact lv_if_eq (pc := 290) (tgt := 295) X.1 X.2.1 d_LW_law_290 (by decide) (fun _ => fin) (fun h => absurd rfl h)
  exact lv_i2l (pc := 288) (v := G.1.toInt64) X.1 X.2.1 d_LW_law_288 rfl (cm _ rfl)
set_option maxHeartbeats 1000000 in
theorem lw_k_restore {p : Program} {e : Env} {s : State} {m : MethodId} {below : List Frame} {meth : Method} {c : Code} {Q : State → Prop} (l : Launch) (hst : l.stackTraces = false) {b L : Nat} {xs : Nat → Int32} {D : va_G} {t : Nat → ClassId} {A : Nat → Prop} {q q' : Nat → Nat} {o : Nat} {g : Nat → Int64} {z u v : SS} {B : Nat} {i : Int32} {ls : Array Slot} {H : Heap} {locs : List Loc} {cells slots : Nat}
    (C : lw_C p s m c b L xs D t A) (hR : ab_RT B z u v) (hB : B + 488 < 2 ^ 30) (hin : ∀ k : Int32, (k = 1 ∨ k = 2 ∨ k = 3) → vp_in (i + k) L) (hl : lv_has ls 7 (lw_v b q q' o i)) (hX : ab_hx D (wM t q' v ++ wH t q o (g, (z, u))) A s.heap H locs) (hcs : cells + 1 ≤ 1058 ∧ slots + 6 ≤ 12544)
    (kk : ∀ (B' : Nat) (g : Nat → Int64) (z u v : SS) (ls : Array Slot) (H : Heap) (locs : List Loc), B' ≤ B + 488 → ab_RT B' z u v → lv_has ls 7 (lw_v b q q' o i) → ab_hx D (wM t q' v ++ wH t q o (g, (z, u))) A s.heap H locs → W p l e room_1 s m #[Value.ref b] below meth c H locs (cells + 1) (slots + 6) Q (F0 m 548 ls [])) :
    W p l e room_1 s m #[Value.ref b] below meth c H locs cells slots Q (F0 m 485 ls []) := by
  obtain ⟨X, hT, hN, hx, hbl, hbA⟩ := C
  obtain ⟨x1, e1⟩ : ∃ x, x = xs (i + 1).toNatClampNeg := ⟨_, rfl⟩
  have E := ab_cRestore hR x1
  have h2 := lp_s2 z u x1
  have hM := c_LW_restore l hst D t q o g z u x1 (lp_res hR)
  have hG := c_MD_restore l D t q' v x1
  obtain ⟨F, hF⟩ : ∃ F, F = f_AB_restore z u x1 := ⟨_, rfl⟩
  rw [← hF] at E h2 hM
  obtain ⟨G, hG9⟩ : ∃ G, G = f_MD_restore v x1 := ⟨_, rfl⟩
  rw [← hG9] at E hG
  clear hF hG9
  refine lv_aload_n (pc := 485) X.1 X.2.1 d_LW_law_485 rfl (lv_at hl 3 rfl) ?_
  refine lv_aload_n (pc := 486) X.1 X.2.1 d_LW_law_486 rfl (lv_at hl 4 rfl) ?_
  refine lv_iload (pc := 487) X.1 X.2.1 d_LW_law_487 (lv_at hl 0 rfl) ?_
  refine lv_iconst (pc := 489) (v := 1) X.1 X.2.1 d_LW_law_489 (by decide) ?_
  refine lv_iadd (pc := 490) X.1 X.2.1 d_LW_law_490 ?_
  refine va_sld (pc := 491) X.1 X.2.1 hx hbl hbA hX.2.2.1 (hin 1 (by decide)) d_LW_law_491 ?_
  rw [← e1]
  refine lv_aload_n (pc := 492) X.1 X.2.1 d_LW_law_492 rfl (lv_at hl 1 rfl) ?_
  refine ab_kh_callS (k := 3) (pc := 493) (wr := wM t q' v) (w := wH t q o) (u := (g, (z, u))) (F := (h_O h_b g F)) (as := [.ref (q 12), .int x1, .ref o]) (rest := []) X hT hN hX hM lx_37 lx_28 ⟨by decide, by decide, by decide +kernel⟩ lx_38 lx_39 rfl hl.1 rfl (Nat.le_of_ble_eq_true rfl) ⟨rfl, rfl, Nat.le_of_ble_eq_true rfl, Nat.le_of_ble_eq_true rfl⟩ hcs d_LW_law_493 (fun H locs hX => ?_)
  obtain ⟨k, hk⟩ : ∃ k, k = (h_O h_b g F).1 := ⟨_, rfl⟩
  rw [← hk]
  refine lv_istore (pc := 496) (lv' := [(5, .int k), (4, .int i), (3, .ref o), (2, .ref (q' 0)), (1, .ref (q 12)), (0, .ref b)]) X.1 X.2.1 d_LW_law_496 hl (Nat.le_of_ble_eq_true rfl) rfl (fun ls hl => ?_)
  have hX : ab_hx D (wH t q o (h_O h_b g F).2 ++ wM t q' v) A s.heap H locs := ab_hx_swap hX
  refine lv_aload_n (pc := 498) X.1 X.2.1 d_LW_law_498 rfl (lv_at hl 3 rfl) ?_
  refine lv_aload_n (pc := 499) X.1 X.2.1 d_LW_law_499 rfl (lv_at hl 5 rfl) ?_
  refine lv_iload (pc := 500) X.1 X.2.1 d_LW_law_500 (lv_at hl 1 rfl) ?_
  refine lv_iconst (pc := 502) (v := 1) X.1 X.2.1 d_LW_law_502 (by decide) ?_
  refine lv_iadd (pc := 503) X.1 X.2.1 d_LW_law_503 ?_
  refine va_sld (pc := 504) X.1 X.2.1 hx hbl hbA hX.2.2.1 (hin 1 (by decide)) d_LW_law_504 ?_
  rw [← e1]
  refine ab_ki_callV (pc := 505) (wr := wH t q o (h_O h_b g F).2) (w := wM t q') (u := v) (F := G) (as := [.int x1]) (rest := []) X hX hG ok_MD_restore okv_MD_restore lx_40 22 9 rfl rfl rfl hl.1 rfl (Nat.le_of_ble_eq_true rfl) ⟨rfl, rfl, Nat.le_of_ble_eq_true rfl, Nat.le_of_ble_eq_true rfl⟩ hcs d_LW_law_505 (fun H locs hX => ?_)
  refine lv_istore (pc := 508) (lv' := [(6, .int G.1), (5, .int k), (4, .int i), (3, .ref o), (2, .ref (q' 0)), (1, .ref (q 12)), (0, .ref b)]) X.1 X.2.1 d_LW_law_508 hl (Nat.le_of_ble_eq_true rfl) rfl (fun ls hl => ?_)
  refine lv_aload_n (pc := 510) X.1 X.2.1 d_LW_law_510 rfl (lv_at hl 4 rfl) ?_
  refine ab_ki_callV (pc := 511) (wr := wH t q o (h_O h_b g F).2) (w := wM t q') (u := G.2) (F := (f_MD_thrown G.2, G.2)) (as := []) (rest := []) X hX (c_MD_thrown l D t q' G.2) ok_MD_thrown okv_MD_thrown lx_32 22 9 rfl rfl rfl hl.1 rfl (Nat.le_of_ble_eq_true rfl) ⟨rfl, rfl, Nat.le_of_ble_eq_true rfl, Nat.le_of_ble_eq_true rfl⟩ hcs d_LW_law_511 (fun H locs hX => ?_)
  have hth : f_MD_thrown G.2 = k := E.1.trans ((show nI F.1 = (h_O h_b g F).1 from lp_k h2).trans hk.symm)
  refine lv_iload (pc := 514) X.1 X.2.1 d_LW_law_514 (lv_at hl 1 rfl) ?_
  refine lv_icmp_eq (pc := 516) (tgt := 521) X.1 X.2.1 d_LW_law_516 (by decide) (fun _ => ?_) (fun h => absurd hth h)
  have fin : W p l e room_1 s m #[Value.ref b] below meth c H locs (cells + 1) (slots + 6) Q (F0 m 545 ls []) := lv_goto (pc := 545) (tgt := 548) X.1 X.2.1 d_LW_law_545 (by decide) (kk B (h_O h_b g F).2.1 F.2.2.1 F.2.2.2 G.2 ls _ _ (Nat.le_add_right _ _) E.2.2 (lv_sub hl [2, 3, 4, 5, 6] rfl) (ab_hx_swap hX))
  refine lv_iload (pc := 521) X.1 X.2.1 d_LW_law_521 (lv_at hl 1 rfl) ?_
  refine lv_if_ne (pc := 523) (tgt := 545) X.1 X.2.1 d_LW_law_523 (by decide) (fun _ => fin) (fun hk0 => ?_)
  have hz : F.1 = 0 := lp_0 (by rw [hk] at hk0; exact hk0)
  have e2 := E.2.1 hz
  refine lv_aload_n (pc := 526) X.1 X.2.1 d_LW_law_526 rfl (lv_at hl 3 rfl) ?_
  refine lv_iconst (pc := 527) (v := 0) X.1 X.2.1 d_LW_law_527 (by decide) ?_
  refine ab_lld (pc := 528) (j := 0) (f := (h_O h_b g F).2.1) X hX 0 3 rfl rfl (ab_inc (by decide)) rfl d_LW_law_528 ?_
  have eg : (h_O h_b g F).2.1 0 = h_b G.1 := by
    show (if F.1 = 0 then vp_updL g 0 (h_b F.2.1) else g) 0 = _
    rw [if_pos hz, e2]
    exact if_pos rfl
  rw [eg]
  refine lv_iload (pc := 529) X.1 X.2.1 d_LW_law_529 (lv_at hl 0 rfl) ?_
  have cm : ∀ y : Int64, h_b G.1 = y → W p l e room_1 s m #[Value.ref b] below meth c H locs (cells + 1) (slots + 6) Q (F0 m 539 ls [.long y, .long (h_b G.1)]) := fun y hy => by
    subst hy
    refine W.lcmp (pc := 539) X.1 X.2.1 d_LW_law_539 ?_
    rw [lp_cmp]
    exact lv_if_eq (pc := 540) (tgt := 545) X.1 X.2.1 d_LW_law_540 (by decide) (fun _ => fin) (fun h => absurd rfl h)
  refine lv_if_eq (pc := 531) (tgt := 538) X.1 X.2.1 d_LW_law_531 (by decide) (fun h6 => ?_) (fun h6 => ?_)
  · exact lv_lconst (pc := 538) (v := 0) X.1 X.2.1 d_LW_law_538 (by decide) (cm 0 (by unfold h_b; rw [if_pos h6]))
  · refine lv_lconst (pc := 534) (v := 1) X.1 X.2.1 d_LW_law_534 (by decide) ?_
    exact lv_goto (pc := 535) (tgt := 539) X.1 X.2.1 d_LW_law_535 (by decide) (cm 1 (by unfold h_b; rw [if_neg h6]))
