abbrev b_MD_turnA : ByteArray := prog_11_method_18_code
def y_MD_turnA : MethodName := ⟨"ArcadeBoardModel", "turnA", "(I)V"⟩
theorem d_MD_turnA_0 : decode b_MD_turnA 0 = .ok (.aload_n 0, 1) := by decide +kernel
theorem d_MD_turnA_1 : decode b_MD_turnA 1 = .ok (.getfield 13, 3) := by decide +kernel
theorem d_MD_turnA_4 : decode b_MD_turnA 4 = .ok (.bipush 7, 2) := by decide +kernel
theorem d_MD_turnA_6 : decode b_MD_turnA 6 = .ok (.iaload, 1) := by decide +kernel
theorem d_MD_turnA_7 : decode b_MD_turnA 7 = .ok (.istore_n 2, 1) := by decide +kernel
theorem d_MD_turnA_8 : decode b_MD_turnA 8 = .ok (.iload_n 2, 1) := by decide +kernel
theorem d_MD_turnA_9 : decode b_MD_turnA 9 = .ok (.iconst 1, 1) := by decide +kernel
theorem d_MD_turnA_10 : decode b_MD_turnA 10 = .ok (.iand, 1) := by decide +kernel
theorem d_MD_turnA_11 : decode b_MD_turnA 11 = .ok (.istore_n 3, 1) := by decide +kernel
theorem d_MD_turnA_12 : decode b_MD_turnA 12 = .ok (.iload_n 2, 1) := by decide +kernel
theorem d_MD_turnA_13 : decode b_MD_turnA 13 = .ok (.bipush 7, 2) := by decide +kernel
theorem d_MD_turnA_15 : decode b_MD_turnA 15 = .ok (.ishr, 1) := by decide +kernel
theorem d_MD_turnA_16 : decode b_MD_turnA 16 = .ok (.istore 4, 2) := by decide +kernel
theorem d_MD_turnA_18 : decode b_MD_turnA 18 = .ok (.aload_n 0, 1) := by decide +kernel
theorem d_MD_turnA_19 : decode b_MD_turnA 19 = .ok (.getfield 65, 3) := by decide +kernel
theorem d_MD_turnA_22 : decode b_MD_turnA 22 = .ok (.ifCond .eq 7, 3) := by decide +kernel
theorem d_MD_turnA_25 : decode b_MD_turnA 25 = .ok (.iconst 1, 1) := by decide +kernel
theorem d_MD_turnA_26 : decode b_MD_turnA 26 = .ok (.goto 4, 3) := by decide +kernel
theorem d_MD_turnA_29 : decode b_MD_turnA 29 = .ok (.iconst 0, 1) := by decide +kernel
theorem d_MD_turnA_30 : decode b_MD_turnA 30 = .ok (.istore 5, 2) := by decide +kernel
theorem d_MD_turnA_32 : decode b_MD_turnA 32 = .ok (.iload_n 1, 1) := by decide +kernel
theorem d_MD_turnA_33 : decode b_MD_turnA 33 = .ok (.ifCond .ne 38, 3) := by decide +kernel
theorem d_MD_turnA_36 : decode b_MD_turnA 36 = .ok (.aload_n 0, 1) := by decide +kernel
theorem d_MD_turnA_37 : decode b_MD_turnA 37 = .ok (.getfield 13, 3) := by decide +kernel
theorem d_MD_turnA_40 : decode b_MD_turnA 40 = .ok (.bipush 7, 2) := by decide +kernel
theorem d_MD_turnA_42 : decode b_MD_turnA 42 = .ok (.iconst 2, 1) := by decide +kernel
theorem d_MD_turnA_43 : decode b_MD_turnA 43 = .ok (.iload_n 2, 1) := by decide +kernel
theorem d_MD_turnA_44 : decode b_MD_turnA 44 = .ok (.imul, 1) := by decide +kernel
theorem d_MD_turnA_45 : decode b_MD_turnA 45 = .ok (.sipush 256, 3) := by decide +kernel
theorem d_MD_turnA_48 : decode b_MD_turnA 48 = .ok (.irem, 1) := by decide +kernel
theorem d_MD_turnA_49 : decode b_MD_turnA 49 = .ok (.iload 4, 2) := by decide +kernel
theorem d_MD_turnA_51 : decode b_MD_turnA 51 = .ok (.iadd, 1) := by decide +kernel
theorem d_MD_turnA_52 : decode b_MD_turnA 52 = .ok (.iastore, 1) := by decide +kernel
theorem d_MD_turnA_53 : decode b_MD_turnA 53 = .ok (.aload_n 0, 1) := by decide +kernel
theorem d_MD_turnA_54 : decode b_MD_turnA 54 = .ok (.iload 4, 2) := by decide +kernel
theorem d_MD_turnA_56 : decode b_MD_turnA 56 = .ok (.iconst 1, 1) := by decide +kernel
theorem d_MD_turnA_57 : decode b_MD_turnA 57 = .ok (.if_icmp .ne 7, 3) := by decide +kernel
theorem d_MD_turnA_60 : decode b_MD_turnA 60 = .ok (.iconst 1, 1) := by decide +kernel
theorem d_MD_turnA_61 : decode b_MD_turnA 61 = .ok (.goto 4, 3) := by decide +kernel
theorem d_MD_turnA_64 : decode b_MD_turnA 64 = .ok (.iconst 0, 1) := by decide +kernel
theorem d_MD_turnA_65 : decode b_MD_turnA 65 = .ok (.putfield 65, 3) := by decide +kernel
theorem d_MD_turnA_68 : decode b_MD_turnA 68 = .ok (.goto 292, 3) := by decide +kernel
theorem d_MD_turnA_71 : decode b_MD_turnA 71 = .ok (.iload_n 1, 1) := by decide +kernel
theorem d_MD_turnA_72 : decode b_MD_turnA 72 = .ok (.iconst 1, 1) := by decide +kernel
theorem d_MD_turnA_73 : decode b_MD_turnA 73 = .ok (.if_icmp .ne 36, 3) := by decide +kernel
theorem d_MD_turnA_76 : decode b_MD_turnA 76 = .ok (.aload_n 0, 1) := by decide +kernel
theorem d_MD_turnA_77 : decode b_MD_turnA 77 = .ok (.getfield 13, 3) := by decide +kernel
theorem d_MD_turnA_80 : decode b_MD_turnA 80 = .ok (.bipush 7, 2) := by decide +kernel
theorem d_MD_turnA_82 : decode b_MD_turnA 82 = .ok (.iload_n 2, 1) := by decide +kernel
theorem d_MD_turnA_83 : decode b_MD_turnA 83 = .ok (.iconst 2, 1) := by decide +kernel
theorem d_MD_turnA_84 : decode b_MD_turnA 84 = .ok (.idiv, 1) := by decide +kernel
theorem d_MD_turnA_85 : decode b_MD_turnA 85 = .ok (.sipush 128, 3) := by decide +kernel
theorem d_MD_turnA_88 : decode b_MD_turnA 88 = .ok (.iload_n 3, 1) := by decide +kernel
theorem d_MD_turnA_89 : decode b_MD_turnA 89 = .ok (.imul, 1) := by decide +kernel
theorem d_MD_turnA_90 : decode b_MD_turnA 90 = .ok (.iadd, 1) := by decide +kernel
theorem d_MD_turnA_91 : decode b_MD_turnA 91 = .ok (.iastore, 1) := by decide +kernel
theorem d_MD_turnA_92 : decode b_MD_turnA 92 = .ok (.aload_n 0, 1) := by decide +kernel
theorem d_MD_turnA_93 : decode b_MD_turnA 93 = .ok (.iload_n 3, 1) := by decide +kernel
theorem d_MD_turnA_94 : decode b_MD_turnA 94 = .ok (.iconst 1, 1) := by decide +kernel
theorem d_MD_turnA_95 : decode b_MD_turnA 95 = .ok (.if_icmp .ne 7, 3) := by decide +kernel
theorem d_MD_turnA_98 : decode b_MD_turnA 98 = .ok (.iconst 1, 1) := by decide +kernel
theorem d_MD_turnA_99 : decode b_MD_turnA 99 = .ok (.goto 4, 3) := by decide +kernel
theorem d_MD_turnA_102 : decode b_MD_turnA 102 = .ok (.iconst 0, 1) := by decide +kernel
theorem d_MD_turnA_103 : decode b_MD_turnA 103 = .ok (.putfield 65, 3) := by decide +kernel
theorem d_MD_turnA_106 : decode b_MD_turnA 106 = .ok (.goto 254, 3) := by decide +kernel
theorem d_MD_turnA_109 : decode b_MD_turnA 109 = .ok (.iload_n 1, 1) := by decide +kernel
theorem d_MD_turnA_110 : decode b_MD_turnA 110 = .ok (.iconst 2, 1) := by decide +kernel
theorem d_MD_turnA_111 : decode b_MD_turnA 111 = .ok (.if_icmp .ne 38, 3) := by decide +kernel
theorem d_MD_turnA_114 : decode b_MD_turnA 114 = .ok (.aload_n 0, 1) := by decide +kernel
theorem d_MD_turnA_115 : decode b_MD_turnA 115 = .ok (.getfield 13, 3) := by decide +kernel
theorem d_MD_turnA_118 : decode b_MD_turnA 118 = .ok (.bipush 7, 2) := by decide +kernel
theorem d_MD_turnA_120 : decode b_MD_turnA 120 = .ok (.iconst 2, 1) := by decide +kernel
theorem d_MD_turnA_121 : decode b_MD_turnA 121 = .ok (.iload_n 2, 1) := by decide +kernel
theorem d_MD_turnA_122 : decode b_MD_turnA 122 = .ok (.imul, 1) := by decide +kernel
theorem d_MD_turnA_123 : decode b_MD_turnA 123 = .ok (.sipush 256, 3) := by decide +kernel
theorem d_MD_turnA_126 : decode b_MD_turnA 126 = .ok (.irem, 1) := by decide +kernel
theorem d_MD_turnA_127 : decode b_MD_turnA 127 = .ok (.iload 5, 2) := by decide +kernel
theorem d_MD_turnA_129 : decode b_MD_turnA 129 = .ok (.iadd, 1) := by decide +kernel
theorem d_MD_turnA_130 : decode b_MD_turnA 130 = .ok (.iastore, 1) := by decide +kernel
theorem d_MD_turnA_131 : decode b_MD_turnA 131 = .ok (.aload_n 0, 1) := by decide +kernel
theorem d_MD_turnA_132 : decode b_MD_turnA 132 = .ok (.iload 4, 2) := by decide +kernel
theorem d_MD_turnA_134 : decode b_MD_turnA 134 = .ok (.iconst 1, 1) := by decide +kernel
theorem d_MD_turnA_135 : decode b_MD_turnA 135 = .ok (.if_icmp .ne 7, 3) := by decide +kernel
theorem d_MD_turnA_138 : decode b_MD_turnA 138 = .ok (.iconst 1, 1) := by decide +kernel
theorem d_MD_turnA_139 : decode b_MD_turnA 139 = .ok (.goto 4, 3) := by decide +kernel
theorem d_MD_turnA_142 : decode b_MD_turnA 142 = .ok (.iconst 0, 1) := by decide +kernel
theorem d_MD_turnA_143 : decode b_MD_turnA 143 = .ok (.putfield 65, 3) := by decide +kernel
theorem d_MD_turnA_146 : decode b_MD_turnA 146 = .ok (.goto 214, 3) := by decide +kernel
theorem d_MD_turnA_149 : decode b_MD_turnA 149 = .ok (.iload_n 1, 1) := by decide +kernel
theorem d_MD_turnA_150 : decode b_MD_turnA 150 = .ok (.iconst 3, 1) := by decide +kernel
theorem d_MD_turnA_151 : decode b_MD_turnA 151 = .ok (.if_icmp .ne 37, 3) := by decide +kernel
theorem d_MD_turnA_154 : decode b_MD_turnA 154 = .ok (.aload_n 0, 1) := by decide +kernel
theorem d_MD_turnA_155 : decode b_MD_turnA 155 = .ok (.getfield 13, 3) := by decide +kernel
theorem d_MD_turnA_158 : decode b_MD_turnA 158 = .ok (.bipush 7, 2) := by decide +kernel
theorem d_MD_turnA_160 : decode b_MD_turnA 160 = .ok (.iload_n 2, 1) := by decide +kernel
theorem d_MD_turnA_161 : decode b_MD_turnA 161 = .ok (.iconst 2, 1) := by decide +kernel
theorem d_MD_turnA_162 : decode b_MD_turnA 162 = .ok (.idiv, 1) := by decide +kernel
theorem d_MD_turnA_163 : decode b_MD_turnA 163 = .ok (.sipush 128, 3) := by decide +kernel
theorem d_MD_turnA_166 : decode b_MD_turnA 166 = .ok (.iload 5, 2) := by decide +kernel
theorem d_MD_turnA_168 : decode b_MD_turnA 168 = .ok (.imul, 1) := by decide +kernel
theorem d_MD_turnA_169 : decode b_MD_turnA 169 = .ok (.iadd, 1) := by decide +kernel
theorem d_MD_turnA_170 : decode b_MD_turnA 170 = .ok (.iastore, 1) := by decide +kernel
theorem d_MD_turnA_171 : decode b_MD_turnA 171 = .ok (.aload_n 0, 1) := by decide +kernel
theorem d_MD_turnA_172 : decode b_MD_turnA 172 = .ok (.iload_n 3, 1) := by decide +kernel
theorem d_MD_turnA_173 : decode b_MD_turnA 173 = .ok (.iconst 1, 1) := by decide +kernel
theorem d_MD_turnA_174 : decode b_MD_turnA 174 = .ok (.if_icmp .ne 7, 3) := by decide +kernel
theorem d_MD_turnA_177 : decode b_MD_turnA 177 = .ok (.iconst 1, 1) := by decide +kernel
theorem d_MD_turnA_178 : decode b_MD_turnA 178 = .ok (.goto 4, 3) := by decide +kernel
theorem d_MD_turnA_181 : decode b_MD_turnA 181 = .ok (.iconst 0, 1) := by decide +kernel
theorem d_MD_turnA_182 : decode b_MD_turnA 182 = .ok (.putfield 65, 3) := by decide +kernel
theorem d_MD_turnA_185 : decode b_MD_turnA 185 = .ok (.goto 175, 3) := by decide +kernel
theorem d_MD_turnA_188 : decode b_MD_turnA 188 = .ok (.iload_n 1, 1) := by decide +kernel
theorem d_MD_turnA_189 : decode b_MD_turnA 189 = .ok (.iconst 4, 1) := by decide +kernel
theorem d_MD_turnA_190 : decode b_MD_turnA 190 = .ok (.if_icmp .ne 128, 3) := by decide +kernel
theorem d_MD_turnA_193 : decode b_MD_turnA 193 = .ok (.iload_n 2, 1) := by decide +kernel
theorem d_MD_turnA_194 : decode b_MD_turnA 194 = .ok (.bipush 16, 2) := by decide +kernel
theorem d_MD_turnA_196 : decode b_MD_turnA 196 = .ok (.irem, 1) := by decide +kernel
theorem d_MD_turnA_197 : decode b_MD_turnA 197 = .ok (.bipush 9, 2) := by decide +kernel
theorem d_MD_turnA_199 : decode b_MD_turnA 199 = .ok (.if_icmp .gt 10, 3) := by decide +kernel
theorem d_MD_turnA_202 : decode b_MD_turnA 202 = .ok (.aload_n 0, 1) := by decide +kernel
theorem d_MD_turnA_203 : decode b_MD_turnA 203 = .ok (.getfield 59, 3) := by decide +kernel
theorem d_MD_turnA_206 : decode b_MD_turnA 206 = .ok (.ifCond .eq 8, 3) := by decide +kernel
theorem d_MD_turnA_209 : decode b_MD_turnA 209 = .ok (.bipush 6, 2) := by decide +kernel
theorem d_MD_turnA_211 : decode b_MD_turnA 211 = .ok (.goto 4, 3) := by decide +kernel
theorem d_MD_turnA_214 : decode b_MD_turnA 214 = .ok (.iconst 0, 1) := by decide +kernel
theorem d_MD_turnA_215 : decode b_MD_turnA 215 = .ok (.istore 6, 2) := by decide +kernel
theorem d_MD_turnA_217 : decode b_MD_turnA 217 = .ok (.iload_n 2, 1) := by decide +kernel
theorem d_MD_turnA_218 : decode b_MD_turnA 218 = .ok (.sipush 153, 3) := by decide +kernel
theorem d_MD_turnA_221 : decode b_MD_turnA 221 = .ok (.if_icmp .gt 10, 3) := by decide +kernel
theorem d_MD_turnA_224 : decode b_MD_turnA 224 = .ok (.aload_n 0, 1) := by decide +kernel
theorem d_MD_turnA_225 : decode b_MD_turnA 225 = .ok (.getfield 65, 3) := by decide +kernel
theorem d_MD_turnA_228 : decode b_MD_turnA 228 = .ok (.ifCond .eq 7, 3) := by decide +kernel
theorem d_MD_turnA_231 : decode b_MD_turnA 231 = .ok (.iconst 1, 1) := by decide +kernel
theorem d_MD_turnA_232 : decode b_MD_turnA 232 = .ok (.goto 4, 3) := by decide +kernel
theorem d_MD_turnA_235 : decode b_MD_turnA 235 = .ok (.iconst 0, 1) := by decide +kernel
theorem d_MD_turnA_236 : decode b_MD_turnA 236 = .ok (.istore 7, 2) := by decide +kernel
theorem d_MD_turnA_238 : decode b_MD_turnA 238 = .ok (.iload 7, 2) := by decide +kernel
theorem d_MD_turnA_240 : decode b_MD_turnA 240 = .ok (.ifCond .eq 11, 3) := by decide +kernel
theorem d_MD_turnA_243 : decode b_MD_turnA 243 = .ok (.iload 6, 2) := by decide +kernel
theorem d_MD_turnA_245 : decode b_MD_turnA 245 = .ok (.bipush 96, 2) := by decide +kernel
theorem d_MD_turnA_247 : decode b_MD_turnA 247 = .ok (.iadd, 1) := by decide +kernel
theorem d_MD_turnA_248 : decode b_MD_turnA 248 = .ok (.goto 5, 3) := by decide +kernel
theorem d_MD_turnA_251 : decode b_MD_turnA 251 = .ok (.iload 6, 2) := by decide +kernel
theorem d_MD_turnA_253 : decode b_MD_turnA 253 = .ok (.istore 6, 2) := by decide +kernel
theorem d_MD_turnA_255 : decode b_MD_turnA 255 = .ok (.aload_n 0, 1) := by decide +kernel
theorem d_MD_turnA_256 : decode b_MD_turnA 256 = .ok (.aload_n 0, 1) := by decide +kernel
theorem d_MD_turnA_257 : decode b_MD_turnA 257 = .ok (.getfield 65, 3) := by decide +kernel
theorem d_MD_turnA_260 : decode b_MD_turnA 260 = .ok (.ifCond .ne 8, 3) := by decide +kernel
theorem d_MD_turnA_263 : decode b_MD_turnA 263 = .ok (.iload 7, 2) := by decide +kernel
theorem d_MD_turnA_265 : decode b_MD_turnA 265 = .ok (.ifCond .eq 7, 3) := by decide +kernel
theorem d_MD_turnA_268 : decode b_MD_turnA 268 = .ok (.iconst 1, 1) := by decide +kernel
theorem d_MD_turnA_269 : decode b_MD_turnA 269 = .ok (.goto 4, 3) := by decide +kernel
theorem d_MD_turnA_272 : decode b_MD_turnA 272 = .ok (.iconst 0, 1) := by decide +kernel
theorem d_MD_turnA_273 : decode b_MD_turnA 273 = .ok (.putfield 65, 3) := by decide +kernel
theorem d_MD_turnA_276 : decode b_MD_turnA 276 = .ok (.aload_n 0, 1) := by decide +kernel
theorem d_MD_turnA_277 : decode b_MD_turnA 277 = .ok (.iload_n 2, 1) := by decide +kernel
theorem d_MD_turnA_278 : decode b_MD_turnA 278 = .ok (.bipush 16, 2) := by decide +kernel
theorem d_MD_turnA_280 : decode b_MD_turnA 280 = .ok (.irem, 1) := by decide +kernel
theorem d_MD_turnA_281 : decode b_MD_turnA 281 = .ok (.iload 6, 2) := by decide +kernel
theorem d_MD_turnA_283 : decode b_MD_turnA 283 = .ok (.bipush 16, 2) := by decide +kernel
theorem d_MD_turnA_285 : decode b_MD_turnA 285 = .ok (.irem, 1) := by decide +kernel
theorem d_MD_turnA_286 : decode b_MD_turnA 286 = .ok (.iadd, 1) := by decide +kernel
theorem d_MD_turnA_287 : decode b_MD_turnA 287 = .ok (.bipush 15, 2) := by decide +kernel
theorem d_MD_turnA_289 : decode b_MD_turnA 289 = .ok (.if_icmp .le 7, 3) := by decide +kernel
theorem d_MD_turnA_292 : decode b_MD_turnA 292 = .ok (.iconst 1, 1) := by decide +kernel
theorem d_MD_turnA_293 : decode b_MD_turnA 293 = .ok (.goto 4, 3) := by decide +kernel
theorem d_MD_turnA_296 : decode b_MD_turnA 296 = .ok (.iconst 0, 1) := by decide +kernel
theorem d_MD_turnA_297 : decode b_MD_turnA 297 = .ok (.putfield 59, 3) := by decide +kernel
theorem d_MD_turnA_300 : decode b_MD_turnA 300 = .ok (.aload_n 0, 1) := by decide +kernel
theorem d_MD_turnA_301 : decode b_MD_turnA 301 = .ok (.getfield 13, 3) := by decide +kernel
theorem d_MD_turnA_304 : decode b_MD_turnA 304 = .ok (.bipush 7, 2) := by decide +kernel
theorem d_MD_turnA_306 : decode b_MD_turnA 306 = .ok (.aload_n 0, 1) := by decide +kernel
theorem d_MD_turnA_307 : decode b_MD_turnA 307 = .ok (.iload_n 2, 1) := by decide +kernel
theorem d_MD_turnA_308 : decode b_MD_turnA 308 = .ok (.iload 6, 2) := by decide +kernel
theorem d_MD_turnA_310 : decode b_MD_turnA 310 = .ok (.iadd, 1) := by decide +kernel
theorem d_MD_turnA_311 : decode b_MD_turnA 311 = .ok (.invokevirtual 68, 3) := by decide +kernel
theorem d_MD_turnA_314 : decode b_MD_turnA 314 = .ok (.iastore, 1) := by decide +kernel
theorem d_MD_turnA_315 : decode b_MD_turnA 315 = .ok (.goto 45, 3) := by decide +kernel
theorem d_MD_turnA_318 : decode b_MD_turnA 318 = .ok (.iload_n 1, 1) := by decide +kernel
theorem d_MD_turnA_319 : decode b_MD_turnA 319 = .ok (.iconst 5, 1) := by decide +kernel
theorem d_MD_turnA_320 : decode b_MD_turnA 320 = .ok (.if_icmp .ne 18, 3) := by decide +kernel
theorem d_MD_turnA_323 : decode b_MD_turnA 323 = .ok (.aload_n 0, 1) := by decide +kernel
theorem d_MD_turnA_324 : decode b_MD_turnA 324 = .ok (.getfield 13, 3) := by decide +kernel
theorem d_MD_turnA_327 : decode b_MD_turnA 327 = .ok (.bipush 7, 2) := by decide +kernel
theorem d_MD_turnA_329 : decode b_MD_turnA 329 = .ok (.sipush 255, 3) := by decide +kernel
theorem d_MD_turnA_332 : decode b_MD_turnA 332 = .ok (.iload_n 2, 1) := by decide +kernel
theorem d_MD_turnA_333 : decode b_MD_turnA 333 = .ok (.isub, 1) := by decide +kernel
theorem d_MD_turnA_334 : decode b_MD_turnA 334 = .ok (.iastore, 1) := by decide +kernel
theorem d_MD_turnA_335 : decode b_MD_turnA 335 = .ok (.goto 25, 3) := by decide +kernel
theorem d_MD_turnA_338 : decode b_MD_turnA 338 = .ok (.aload_n 0, 1) := by decide +kernel
theorem d_MD_turnA_339 : decode b_MD_turnA 339 = .ok (.iload_n 1, 1) := by decide +kernel
theorem d_MD_turnA_340 : decode b_MD_turnA 340 = .ok (.bipush 6, 2) := by decide +kernel
theorem d_MD_turnA_342 : decode b_MD_turnA 342 = .ok (.if_icmp .eq 10, 3) := by decide +kernel
theorem d_MD_turnA_345 : decode b_MD_turnA 345 = .ok (.aload_n 0, 1) := by decide +kernel
theorem d_MD_turnA_346 : decode b_MD_turnA 346 = .ok (.getfield 65, 3) := by decide +kernel
theorem d_MD_turnA_349 : decode b_MD_turnA 349 = .ok (.ifCond .ne 7, 3) := by decide +kernel
theorem d_MD_turnA_352 : decode b_MD_turnA 352 = .ok (.iconst 1, 1) := by decide +kernel
theorem d_MD_turnA_353 : decode b_MD_turnA 353 = .ok (.goto 4, 3) := by decide +kernel
theorem d_MD_turnA_356 : decode b_MD_turnA 356 = .ok (.iconst 0, 1) := by decide +kernel
theorem d_MD_turnA_357 : decode b_MD_turnA 357 = .ok (.putfield 65, 3) := by decide +kernel
theorem d_MD_turnA_360 : decode b_MD_turnA 360 = .ok (.return_, 1) := by decide +kernel
theorem tw_344 : Jvm.Cond.code ⟨"ArcadeBoardModel", "turnA", "(I)V"⟩ prog_11_method_18_code 8 (Option.none : Option Jvm.ClassFile.FieldType) ∈ AL := ab_in (ab_t4 (List.mem_of_getElem? (i := 118) (by decide +kernel))) rfl
theorem tw_345 : Jvm.Cond.instanceMethod ⟨"ArcadeBoardModel", "turnA", "(I)V"⟩ ∈ AL := ab_in (ab_t4 (List.mem_of_getElem? (i := 117) (by decide +kernel))) rfl
theorem tw_346 : Cond.selects "ArcadeBoardModel" ⟨"ArcadeBoardModel", "turnA", "(I)V"⟩ ⟨"ArcadeBoardModel", "turnA", "(I)V"⟩ ∈ AL := ab_in (ab_s3 (List.mem_of_getElem? (i := 7) (by decide +kernel))) rfl
theorem ok_MD_turnA : ab_yok y_MD_turnA b_MD_turnA 8 none 1 := ⟨tw_344, tw_280, by decide, by decide, by decide +kernel⟩
theorem okv_MD_turnA : ab_yok_V y_MD_turnA := ⟨tw_345, tw_346⟩
set_option maxHeartbeats 1000000 in
set_option maxRecDepth 100000 in
theorem c_MD_turnA (l : Launch) (D : va_G) (t : Nat → ClassId) (q : Nat → Nat) (u : SS) (x1 : Int32) : ab_kv l D (tyC t) (wM t q) y_MD_turnA b_MD_turnA 8 { frames := 1, cells := 0, slots := 0, locals := 24 } [.ref (q 0), .int x1] u (f_MD_turnA u x1) := by
  refine ab_kv_ofW (by decide) (Nat.le_of_ble_eq_true rfl) (fun p e s m below meth c ls A X hr hk hl hX => ?_)
  have hl : lv_has ls 8 [(0, .ref (q 0)), (1, .int x1)] := hl
  refine lv_aload_n (pc := 0) X.1 X.2.1 d_MD_turnA_0 rfl (lv_at hl 0 rfl) ?_
  refine ab_gx (pc := 1) (v := .ref (q 2)) X hX 0 9 5 rfl rfl (Nat.le_of_ble_eq_true rfl) in_MD rfl tw_304 rfl d_MD_turnA_1 ?_
  refine lv_bipush (pc := 4) (v := 7) X.1 X.2.1 d_MD_turnA_4 (by decide) ?_
  refine ab_ald (pc := 6) (f := u 2) (j := 7) X hX 2 0 rfl rfl (ab_inc (by decide)) rfl d_MD_turnA_6 ?_
  refine lv_istore_n (pc := 7) (lv' := [(2, .int (u 2 7)), (0, .ref (q 0)), (1, .int x1)]) X.1 X.2.1 d_MD_turnA_7 rfl hl (Nat.le_of_ble_eq_true rfl) rfl (fun ls hl => ?_)
  refine lv_iload_n (pc := 8) X.1 X.2.1 d_MD_turnA_8 rfl (lv_at hl 0 rfl) ?_
  refine lv_iconst (pc := 9) (v := 1) X.1 X.2.1 d_MD_turnA_9 (by decide) ?_
  refine lv_iand (pc := 10) X.1 X.2.1 d_MD_turnA_10 ?_
  refine lv_istore_n (pc := 11) (lv' := [(3, .int ((u 2 7) &&& 1)), (2, .int (u 2 7)), (0, .ref (q 0)), (1, .int x1)]) X.1 X.2.1 d_MD_turnA_11 rfl hl (Nat.le_of_ble_eq_true rfl) rfl (fun ls hl => ?_)
  refine lv_iload_n (pc := 12) X.1 X.2.1 d_MD_turnA_12 rfl (lv_at hl 1 rfl) ?_
  refine lv_bipush (pc := 13) (v := 7) X.1 X.2.1 d_MD_turnA_13 (by decide) ?_
  refine lv_ishr (pc := 15) X.1 X.2.1 d_MD_turnA_15 ?_
  refine lv_istore (pc := 16) (lv' := [(4, .int ((u 2 7) >>> ((7 : Int32) &&& 31))), (3, .int ((u 2 7) &&& 1)), (2, .int (u 2 7)), (0, .ref (q 0)), (1, .int x1)]) X.1 X.2.1 d_MD_turnA_16 hl (Nat.le_of_ble_eq_true rfl) rfl (fun ls hl => ?_)
  refine lv_aload_n (pc := 18) X.1 X.2.1 d_MD_turnA_18 rfl (lv_at hl 3 rfl) ?_
  refine ab_gx (pc := 19) (v := .int (u 0 8)) X hX 0 9 10 rfl rfl (Nat.le_of_ble_eq_true rfl) in_MD rfl tw_330 rfl d_MD_turnA_19 ?_
  refine ab_jn (ls := ls) (rest := []) 30 (if (u 0 8) = 0 then 0 else 1 : Int32) ?_ (fun J => ?_)
  rotate_left
  ·
    refine lv_if_eq (pc := 22) (tgt := 29) X.1 X.2.1 d_MD_turnA_22 (by decide) (fun h1 => ?_) (fun h1 => ?_)
    ·
      refine lv_iconst (pc := 29) (v := 0) X.1 X.2.1 d_MD_turnA_29 (by decide) ?_
      exact ab_jt (by rw [if_pos h1]) J
    ·
      refine lv_iconst (pc := 25) (v := 1) X.1 X.2.1 d_MD_turnA_25 (by decide) ?_
      refine lv_goto (pc := 26) (tgt := 30) X.1 X.2.1 d_MD_turnA_26 (by decide) ?_
      exact ab_jt (by rw [if_neg h1]) J
  refine lv_istore (pc := 30) (lv' := [(5, .int (if (u 0 8) = 0 then 0 else 1 : Int32)), (4, .int ((u 2 7) >>> ((7 : Int32) &&& 31))), (3, .int ((u 2 7) &&& 1)), (2, .int (u 2 7)), (0, .ref (q 0)), (1, .int x1)]) X.1 X.2.1 d_MD_turnA_30 hl (Nat.le_of_ble_eq_true rfl) rfl (fun ls hl => ?_)
  refine lv_iload_n (pc := 32) X.1 X.2.1 d_MD_turnA_32 rfl (lv_at hl 5 rfl) ?_
  refine lv_if_ne (pc := 33) (tgt := 71) X.1 X.2.1 d_MD_turnA_33 (by decide) (fun h2 => ?_) (fun h2 => ?_)
  ·
    refine lv_iload_n (pc := 71) X.1 X.2.1 d_MD_turnA_71 rfl (lv_at hl 5 rfl) ?_
    refine lv_iconst (pc := 72) (v := 1) X.1 X.2.1 d_MD_turnA_72 (by decide) ?_
    refine lv_icmp_ne (pc := 73) (tgt := 109) X.1 X.2.1 d_MD_turnA_73 (by decide) (fun h3 => ?_) (fun h3 => ?_)
    ·
      refine lv_iload_n (pc := 109) X.1 X.2.1 d_MD_turnA_109 rfl (lv_at hl 5 rfl) ?_
      refine lv_iconst (pc := 110) (v := 2) X.1 X.2.1 d_MD_turnA_110 (by decide) ?_
      refine lv_icmp_ne (pc := 111) (tgt := 149) X.1 X.2.1 d_MD_turnA_111 (by decide) (fun h4 => ?_) (fun h4 => ?_)
      ·
        refine lv_iload_n (pc := 149) X.1 X.2.1 d_MD_turnA_149 rfl (lv_at hl 5 rfl) ?_
        refine lv_iconst (pc := 150) (v := 3) X.1 X.2.1 d_MD_turnA_150 (by decide) ?_
        refine lv_icmp_ne (pc := 151) (tgt := 188) X.1 X.2.1 d_MD_turnA_151 (by decide) (fun h5 => ?_) (fun h5 => ?_)
        ·
          refine lv_iload_n (pc := 188) X.1 X.2.1 d_MD_turnA_188 rfl (lv_at hl 5 rfl) ?_
          refine lv_iconst (pc := 189) (v := 4) X.1 X.2.1 d_MD_turnA_189 (by decide) ?_
          refine lv_icmp_ne (pc := 190) (tgt := 318) X.1 X.2.1 d_MD_turnA_190 (by decide) (fun h6 => ?_) (fun h6 => ?_)
          ·
            refine lv_iload_n (pc := 318) X.1 X.2.1 d_MD_turnA_318 rfl (lv_at hl 5 rfl) ?_
            refine lv_iconst (pc := 319) (v := 5) X.1 X.2.1 d_MD_turnA_319 (by decide) ?_
            refine lv_icmp_ne (pc := 320) (tgt := 338) X.1 X.2.1 d_MD_turnA_320 (by decide) (fun h7 => ?_) (fun h7 => ?_)
            ·
              refine lv_aload_n (pc := 338) X.1 X.2.1 d_MD_turnA_338 rfl (lv_at hl 4 rfl) ?_
              refine lv_iload_n (pc := 339) X.1 X.2.1 d_MD_turnA_339 rfl (lv_at hl 5 rfl) ?_
              refine lv_bipush (pc := 340) (v := 6) X.1 X.2.1 d_MD_turnA_340 (by decide) ?_
              refine ab_jn (ls := ls) (rest := [.ref (q 0)]) 357 (if x1 = 6 then 1 else (if (u 0 8) = 0 then 1 else 0 : Int32) : Int32) ?_ (fun J => ?_)
              rotate_left
              ·
                refine lv_icmp_eq (pc := 342) (tgt := 352) X.1 X.2.1 d_MD_turnA_342 (by decide) (fun h8 => ?_) (fun h8 => ?_)
                ·
                  refine lv_iconst (pc := 352) (v := 1) X.1 X.2.1 d_MD_turnA_352 (by decide) ?_
                  refine lv_goto (pc := 353) (tgt := 357) X.1 X.2.1 d_MD_turnA_353 (by decide) ?_
                  exact ab_jt (by rw [if_pos h8]) J
                ·
                  refine lv_aload_n (pc := 345) X.1 X.2.1 d_MD_turnA_345 rfl (lv_at hl 4 rfl) ?_
                  refine ab_gx (pc := 346) (v := .int (u 0 8)) X hX 0 9 10 rfl rfl (Nat.le_of_ble_eq_true rfl) in_MD rfl tw_330 rfl d_MD_turnA_346 ?_
                  refine lv_if_ne (pc := 349) (tgt := 356) X.1 X.2.1 d_MD_turnA_349 (by decide) (fun h9 => ?_) (fun h9 => ?_)
                  ·
                    refine lv_iconst (pc := 356) (v := 0) X.1 X.2.1 d_MD_turnA_356 (by decide) ?_
                    exact ab_jt (by rw [if_neg h8, if_neg h9]) J
                  ·
                    refine lv_iconst (pc := 352) (v := 1) X.1 X.2.1 d_MD_turnA_352 (by decide) ?_
                    refine lv_goto (pc := 353) (tgt := 357) X.1 X.2.1 d_MD_turnA_353 (by decide) ?_
                    exact ab_jt (by rw [if_neg h8, if_pos h9]) J
              refine ab_px (pc := 357) (ws' := (wM t q (stt u 0 8 (if x1 = 6 then 1 else (if (u 0 8) = 0 then 1 else 0 : Int32) : Int32)))) X hX 0 9 10 ty_MD ty_MD_ok nm_MD rfl rfl (Nat.le_of_ble_eq_true rfl) in_MD rfl tw_330 rfl rfl (ab_nb (ab_bi ab_bo1 (ab_bi ab_bo1 ab_bo0))) (ab_fb (ab_bi ab_bo1 (ab_bi ab_bo1 ab_bo0))) (Nat.le_of_ble_eq_true rfl) (sf_wM_0_10 t q u (if x1 = 6 then 1 else (if (u 0 8) = 0 then 1 else 0 : Int32) : Int32)) d_MD_turnA_357 (fun H locs hX => ?_)
              exact ab_kv_ret (pc := 360) X hr hk hX (by rw [f_MD_turnA, if_neg h2, if_neg h3, if_neg h4, if_neg h5, if_neg h6, if_neg h7]) d_MD_turnA_360
            ·
              refine lv_aload_n (pc := 323) X.1 X.2.1 d_MD_turnA_323 rfl (lv_at hl 4 rfl) ?_
              refine ab_gx (pc := 324) (v := .ref (q 2)) X hX 0 9 5 rfl rfl (Nat.le_of_ble_eq_true rfl) in_MD rfl tw_304 rfl d_MD_turnA_324 ?_
              refine lv_bipush (pc := 327) (v := 7) X.1 X.2.1 d_MD_turnA_327 (by decide) ?_
              refine lv_sipush (pc := 329) (v := 255) X.1 X.2.1 d_MD_turnA_329 (by decide) ?_
              refine lv_iload_n (pc := 332) X.1 X.2.1 d_MD_turnA_332 rfl (lv_at hl 3 rfl) ?_
              refine lv_isub (pc := 333) X.1 X.2.1 d_MD_turnA_333 ?_
              refine ab_ast (pc := 334) (f := u 2) (j := 7) (ws' := (wM t q (stt u 2 7 (255 - (u 2 7))))) X hX 2 0 rfl rfl (ab_inc (by decide)) rfl (sa_wM_2 t q u 7 (255 - (u 2 7))) d_MD_turnA_334 (fun H locs hX => ?_)
              refine lv_goto (pc := 335) (tgt := 360) X.1 X.2.1 d_MD_turnA_335 (by decide) ?_
              exact ab_kv_ret (pc := 360) X hr hk hX (by rw [f_MD_turnA, if_neg h2, if_neg h3, if_neg h4, if_neg h5, if_neg h6, if_pos h7]) d_MD_turnA_360
          ·
            refine lv_iload_n (pc := 193) X.1 X.2.1 d_MD_turnA_193 rfl (lv_at hl 3 rfl) ?_
            refine lv_bipush (pc := 194) (v := 16) X.1 X.2.1 d_MD_turnA_194 (by decide) ?_
            refine lv_irem (pc := 196) X.1 X.2.1 d_MD_turnA_196 (by decide) ?_
            refine lv_bipush (pc := 197) (v := 9) X.1 X.2.1 d_MD_turnA_197 (by decide) ?_
            refine ab_jn (ls := ls) (rest := []) 215 (if 9 < ((u 2 7) - (u 2 7) / 16 * 16) then 6 else (if (u 0 6) = 0 then 0 else 6 : Int32) : Int32) ?_ (fun J => ?_)
            rotate_left
            ·
              refine lv_icmp_gt (pc := 199) (tgt := 209) X.1 X.2.1 d_MD_turnA_199 (by decide) (fun h10 => ?_) (fun h10 => ?_)
              ·
                refine lv_bipush (pc := 209) (v := 6) X.1 X.2.1 d_MD_turnA_209 (by decide) ?_
                refine lv_goto (pc := 211) (tgt := 215) X.1 X.2.1 d_MD_turnA_211 (by decide) ?_
                exact ab_jt (by rw [if_pos h10]) J
              ·
                refine lv_aload_n (pc := 202) X.1 X.2.1 d_MD_turnA_202 rfl (lv_at hl 4 rfl) ?_
                refine ab_gx (pc := 203) (v := .int (u 0 6)) X hX 0 9 8 rfl rfl (Nat.le_of_ble_eq_true rfl) in_MD rfl tw_328 rfl d_MD_turnA_203 ?_
                refine lv_if_eq (pc := 206) (tgt := 214) X.1 X.2.1 d_MD_turnA_206 (by decide) (fun h11 => ?_) (fun h11 => ?_)
                ·
                  refine lv_iconst (pc := 214) (v := 0) X.1 X.2.1 d_MD_turnA_214 (by decide) ?_
                  exact ab_jt (by rw [if_neg h10, if_pos h11]) J
                ·
                  refine lv_bipush (pc := 209) (v := 6) X.1 X.2.1 d_MD_turnA_209 (by decide) ?_
                  refine lv_goto (pc := 211) (tgt := 215) X.1 X.2.1 d_MD_turnA_211 (by decide) ?_
                  exact ab_jt (by rw [if_neg h10, if_neg h11]) J
            refine lv_istore (pc := 215) (lv' := [(6, .int (if 9 < ((u 2 7) - (u 2 7) / 16 * 16) then 6 else (if (u 0 6) = 0 then 0 else 6 : Int32) : Int32)), (5, .int (if (u 0 8) = 0 then 0 else 1 : Int32)), (4, .int ((u 2 7) >>> ((7 : Int32) &&& 31))), (3, .int ((u 2 7) &&& 1)), (2, .int (u 2 7)), (0, .ref (q 0)), (1, .int x1)]) X.1 X.2.1 d_MD_turnA_215 hl (Nat.le_of_ble_eq_true rfl) rfl (fun ls hl => ?_)
            refine lv_iload_n (pc := 217) X.1 X.2.1 d_MD_turnA_217 rfl (lv_at hl 4 rfl) ?_
            refine lv_sipush (pc := 218) (v := 153) X.1 X.2.1 d_MD_turnA_218 (by decide) ?_
            refine ab_jn (ls := ls) (rest := []) 236 (if 153 < (u 2 7) then 1 else (if (u 0 8) = 0 then 0 else 1 : Int32) : Int32) ?_ (fun J => ?_)
            rotate_left
            ·
              refine lv_icmp_gt (pc := 221) (tgt := 231) X.1 X.2.1 d_MD_turnA_221 (by decide) (fun h12 => ?_) (fun h12 => ?_)
              ·
                refine lv_iconst (pc := 231) (v := 1) X.1 X.2.1 d_MD_turnA_231 (by decide) ?_
                refine lv_goto (pc := 232) (tgt := 236) X.1 X.2.1 d_MD_turnA_232 (by decide) ?_
                exact ab_jt (by rw [if_pos h12]) J
              ·
                refine lv_aload_n (pc := 224) X.1 X.2.1 d_MD_turnA_224 rfl (lv_at hl 5 rfl) ?_
                refine ab_gx (pc := 225) (v := .int (u 0 8)) X hX 0 9 10 rfl rfl (Nat.le_of_ble_eq_true rfl) in_MD rfl tw_330 rfl d_MD_turnA_225 ?_
                refine lv_if_eq (pc := 228) (tgt := 235) X.1 X.2.1 d_MD_turnA_228 (by decide) (fun h13 => ?_) (fun h13 => ?_)
                ·
                  refine lv_iconst (pc := 235) (v := 0) X.1 X.2.1 d_MD_turnA_235 (by decide) ?_
                  exact ab_jt (by rw [if_neg h12, if_pos h13]) J
                ·
                  refine lv_iconst (pc := 231) (v := 1) X.1 X.2.1 d_MD_turnA_231 (by decide) ?_
                  refine lv_goto (pc := 232) (tgt := 236) X.1 X.2.1 d_MD_turnA_232 (by decide) ?_
                  exact ab_jt (by rw [if_neg h12, if_neg h13]) J
            refine lv_istore (pc := 236) (lv' := [(7, .int (if 153 < (u 2 7) then 1 else (if (u 0 8) = 0 then 0 else 1 : Int32) : Int32)), (6, .int (if 9 < ((u 2 7) - (u 2 7) / 16 * 16) then 6 else (if (u 0 6) = 0 then 0 else 6 : Int32) : Int32)), (5, .int (if (u 0 8) = 0 then 0 else 1 : Int32)), (4, .int ((u 2 7) >>> ((7 : Int32) &&& 31))), (3, .int ((u 2 7) &&& 1)), (2, .int (u 2 7)), (0, .ref (q 0)), (1, .int x1)]) X.1 X.2.1 d_MD_turnA_236 hl (Nat.le_of_ble_eq_true rfl) rfl (fun ls hl => ?_)
            refine lv_iload (pc := 238) X.1 X.2.1 d_MD_turnA_238 (lv_at hl 0 rfl) ?_
            refine ab_jn (ls := ls) (rest := []) 253 (if (if 153 < (u 2 7) then 1 else (if (u 0 8) = 0 then 0 else 1 : Int32) : Int32) = 0 then (if 9 < ((u 2 7) - (u 2 7) / 16 * 16) then 6 else (if (u 0 6) = 0 then 0 else 6 : Int32) : Int32) else ((if 9 < ((u 2 7) - (u 2 7) / 16 * 16) then 6 else (if (u 0 6) = 0 then 0 else 6 : Int32) : Int32) + 96) : Int32) ?_ (fun J => ?_)
            rotate_left
            ·
              refine lv_if_eq (pc := 240) (tgt := 251) X.1 X.2.1 d_MD_turnA_240 (by decide) (fun h14 => ?_) (fun h14 => ?_)
              ·
                refine lv_iload (pc := 251) X.1 X.2.1 d_MD_turnA_251 (lv_at hl 1 rfl) ?_
                exact ab_jt (by rw [if_pos h14]) J
              ·
                refine lv_iload (pc := 243) X.1 X.2.1 d_MD_turnA_243 (lv_at hl 1 rfl) ?_
                refine lv_bipush (pc := 245) (v := 96) X.1 X.2.1 d_MD_turnA_245 (by decide) ?_
                refine lv_iadd (pc := 247) X.1 X.2.1 d_MD_turnA_247 ?_
                refine lv_goto (pc := 248) (tgt := 253) X.1 X.2.1 d_MD_turnA_248 (by decide) ?_
                exact ab_jt (by rw [if_neg h14]) J
            refine lv_istore (pc := 253) (lv' := [(6, .int (if (if 153 < (u 2 7) then 1 else (if (u 0 8) = 0 then 0 else 1 : Int32) : Int32) = 0 then (if 9 < ((u 2 7) - (u 2 7) / 16 * 16) then 6 else (if (u 0 6) = 0 then 0 else 6 : Int32) : Int32) else ((if 9 < ((u 2 7) - (u 2 7) / 16 * 16) then 6 else (if (u 0 6) = 0 then 0 else 6 : Int32) : Int32) + 96) : Int32)), (7, .int (if 153 < (u 2 7) then 1 else (if (u 0 8) = 0 then 0 else 1 : Int32) : Int32)), (5, .int (if (u 0 8) = 0 then 0 else 1 : Int32)), (4, .int ((u 2 7) >>> ((7 : Int32) &&& 31))), (3, .int ((u 2 7) &&& 1)), (2, .int (u 2 7)), (0, .ref (q 0)), (1, .int x1)]) X.1 X.2.1 d_MD_turnA_253 hl (Nat.le_of_ble_eq_true rfl) rfl (fun ls hl => ?_)
            refine lv_aload_n (pc := 255) X.1 X.2.1 d_MD_turnA_255 rfl (lv_at hl 6 rfl) ?_
            refine lv_aload_n (pc := 256) X.1 X.2.1 d_MD_turnA_256 rfl (lv_at hl 6 rfl) ?_
            refine ab_gx (pc := 257) (v := .int (u 0 8)) X hX 0 9 10 rfl rfl (Nat.le_of_ble_eq_true rfl) in_MD rfl tw_330 rfl d_MD_turnA_257 ?_
            refine ab_jn (ls := ls) (rest := [.ref (q 0)]) 273 (if (u 0 8) = 0 then (if (if 153 < (u 2 7) then 1 else (if (u 0 8) = 0 then 0 else 1 : Int32) : Int32) = 0 then 0 else 1 : Int32) else 1 : Int32) ?_ (fun J => ?_)
            rotate_left
            ·
              refine lv_if_ne (pc := 260) (tgt := 268) X.1 X.2.1 d_MD_turnA_260 (by decide) (fun h15 => ?_) (fun h15 => ?_)
              ·
                refine lv_iconst (pc := 268) (v := 1) X.1 X.2.1 d_MD_turnA_268 (by decide) ?_
                refine lv_goto (pc := 269) (tgt := 273) X.1 X.2.1 d_MD_turnA_269 (by decide) ?_
                exact ab_jt (by rw [if_neg h15]) J
              ·
                refine lv_iload (pc := 263) X.1 X.2.1 d_MD_turnA_263 (lv_at hl 1 rfl) ?_
                refine lv_if_eq (pc := 265) (tgt := 272) X.1 X.2.1 d_MD_turnA_265 (by decide) (fun h16 => ?_) (fun h16 => ?_)
                ·
                  refine lv_iconst (pc := 272) (v := 0) X.1 X.2.1 d_MD_turnA_272 (by decide) ?_
                  exact ab_jt (by rw [if_pos h15, if_pos h16]) J
                ·
                  refine lv_iconst (pc := 268) (v := 1) X.1 X.2.1 d_MD_turnA_268 (by decide) ?_
                  refine lv_goto (pc := 269) (tgt := 273) X.1 X.2.1 d_MD_turnA_269 (by decide) ?_
                  exact ab_jt (by rw [if_pos h15, if_neg h16]) J
            refine ab_px (pc := 273) (ws' := (wM t q (stt u 0 8 (if (u 0 8) = 0 then (if (if 153 < (u 2 7) then 1 else (if (u 0 8) = 0 then 0 else 1 : Int32) : Int32) = 0 then 0 else 1 : Int32) else 1 : Int32)))) X hX 0 9 10 ty_MD ty_MD_ok nm_MD rfl rfl (Nat.le_of_ble_eq_true rfl) in_MD rfl tw_330 rfl rfl (ab_nb (ab_bi (ab_bi ab_bo0 ab_bo1) ab_bo1)) (ab_fb (ab_bi (ab_bi ab_bo0 ab_bo1) ab_bo1)) (Nat.le_of_ble_eq_true rfl) (sf_wM_0_10 t q u (if (u 0 8) = 0 then (if (if 153 < (u 2 7) then 1 else (if (u 0 8) = 0 then 0 else 1 : Int32) : Int32) = 0 then 0 else 1 : Int32) else 1 : Int32)) d_MD_turnA_273 (fun H locs hX => ?_)
            refine lv_aload_n (pc := 276) X.1 X.2.1 d_MD_turnA_276 rfl (lv_at hl 6 rfl) ?_
            refine lv_iload_n (pc := 277) X.1 X.2.1 d_MD_turnA_277 rfl (lv_at hl 5 rfl) ?_
            refine lv_bipush (pc := 278) (v := 16) X.1 X.2.1 d_MD_turnA_278 (by decide) ?_
            refine lv_irem (pc := 280) X.1 X.2.1 d_MD_turnA_280 (by decide) ?_
            refine lv_iload (pc := 281) X.1 X.2.1 d_MD_turnA_281 (lv_at hl 0 rfl) ?_
            refine lv_bipush (pc := 283) (v := 16) X.1 X.2.1 d_MD_turnA_283 (by decide) ?_
            refine lv_irem (pc := 285) X.1 X.2.1 d_MD_turnA_285 (by decide) ?_
            refine lv_iadd (pc := 286) X.1 X.2.1 d_MD_turnA_286 ?_
            refine lv_bipush (pc := 287) (v := 15) X.1 X.2.1 d_MD_turnA_287 (by decide) ?_
            refine ab_jn (ls := ls) (rest := [.ref (q 0)]) 297 (if (((u 2 7) - (u 2 7) / 16 * 16) + ((if (if 153 < (u 2 7) then 1 else (if (u 0 8) = 0 then 0 else 1 : Int32) : Int32) = 0 then (if 9 < ((u 2 7) - (u 2 7) / 16 * 16) then 6 else (if (u 0 6) = 0 then 0 else 6 : Int32) : Int32) else ((if 9 < ((u 2 7) - (u 2 7) / 16 * 16) then 6 else (if (u 0 6) = 0 then 0 else 6 : Int32) : Int32) + 96) : Int32) - (if (if 153 < (u 2 7) then 1 else (if (u 0 8) = 0 then 0 else 1 : Int32) : Int32) = 0 then (if 9 < ((u 2 7) - (u 2 7) / 16 * 16) then 6 else (if (u 0 6) = 0 then 0 else 6 : Int32) : Int32) else ((if 9 < ((u 2 7) - (u 2 7) / 16 * 16) then 6 else (if (u 0 6) = 0 then 0 else 6 : Int32) : Int32) + 96) : Int32) / 16 * 16)) ≤ 15 then 0 else 1 : Int32) ?_ (fun J => ?_)
            rotate_left
            ·
              refine lv_icmp_le (pc := 289) (tgt := 296) X.1 X.2.1 d_MD_turnA_289 (by decide) (fun h17 => ?_) (fun h17 => ?_)
              ·
                refine lv_iconst (pc := 296) (v := 0) X.1 X.2.1 d_MD_turnA_296 (by decide) ?_
                exact ab_jt (by rw [if_pos h17]) J
              ·
                refine lv_iconst (pc := 292) (v := 1) X.1 X.2.1 d_MD_turnA_292 (by decide) ?_
                refine lv_goto (pc := 293) (tgt := 297) X.1 X.2.1 d_MD_turnA_293 (by decide) ?_
                exact ab_jt (by rw [if_neg h17]) J
            refine ab_px (pc := 297) (ws' := (wM t q (stt (stt u 0 8 (if (u 0 8) = 0 then (if (if 153 < (u 2 7) then 1 else (if (u 0 8) = 0 then 0 else 1 : Int32) : Int32) = 0 then 0 else 1 : Int32) else 1 : Int32)) 0 6 (if (((u 2 7) - (u 2 7) / 16 * 16) + ((if (if 153 < (u 2 7) then 1 else (if (u 0 8) = 0 then 0 else 1 : Int32) : Int32) = 0 then (if 9 < ((u 2 7) - (u 2 7) / 16 * 16) then 6 else (if (u 0 6) = 0 then 0 else 6 : Int32) : Int32) else ((if 9 < ((u 2 7) - (u 2 7) / 16 * 16) then 6 else (if (u 0 6) = 0 then 0 else 6 : Int32) : Int32) + 96) : Int32) - (if (if 153 < (u 2 7) then 1 else (if (u 0 8) = 0 then 0 else 1 : Int32) : Int32) = 0 then (if 9 < ((u 2 7) - (u 2 7) / 16 * 16) then 6 else (if (u 0 6) = 0 then 0 else 6 : Int32) : Int32) else ((if 9 < ((u 2 7) - (u 2 7) / 16 * 16) then 6 else (if (u 0 6) = 0 then 0 else 6 : Int32) : Int32) + 96) : Int32) / 16 * 16)) ≤ 15 then 0 else 1 : Int32)))) X hX 0 9 8 ty_MD ty_MD_ok nm_MD rfl rfl (Nat.le_of_ble_eq_true rfl) in_MD rfl tw_328 rfl rfl (ab_nb (ab_bi ab_bo0 ab_bo1)) (ab_fb (ab_bi ab_bo0 ab_bo1)) (Nat.le_of_ble_eq_true rfl) (sf_wM_0_8 t q (stt u 0 8 (if (u 0 8) = 0 then (if (if 153 < (u 2 7) then 1 else (if (u 0 8) = 0 then 0 else 1 : Int32) : Int32) = 0 then 0 else 1 : Int32) else 1 : Int32)) (if (((u 2 7) - (u 2 7) / 16 * 16) + ((if (if 153 < (u 2 7) then 1 else (if (u 0 8) = 0 then 0 else 1 : Int32) : Int32) = 0 then (if 9 < ((u 2 7) - (u 2 7) / 16 * 16) then 6 else (if (u 0 6) = 0 then 0 else 6 : Int32) : Int32) else ((if 9 < ((u 2 7) - (u 2 7) / 16 * 16) then 6 else (if (u 0 6) = 0 then 0 else 6 : Int32) : Int32) + 96) : Int32) - (if (if 153 < (u 2 7) then 1 else (if (u 0 8) = 0 then 0 else 1 : Int32) : Int32) = 0 then (if 9 < ((u 2 7) - (u 2 7) / 16 * 16) then 6 else (if (u 0 6) = 0 then 0 else 6 : Int32) : Int32) else ((if 9 < ((u 2 7) - (u 2 7) / 16 * 16) then 6 else (if (u 0 6) = 0 then 0 else 6 : Int32) : Int32) + 96) : Int32) / 16 * 16)) ≤ 15 then 0 else 1 : Int32)) d_MD_turnA_297 (fun H locs hX => ?_)
            refine lv_aload_n (pc := 300) X.1 X.2.1 d_MD_turnA_300 rfl (lv_at hl 6 rfl) ?_
            refine ab_gx (pc := 301) (v := .ref (q 2)) X hX 0 9 5 rfl rfl (Nat.le_of_ble_eq_true rfl) in_MD rfl tw_304 rfl d_MD_turnA_301 ?_
            refine lv_bipush (pc := 304) (v := 7) X.1 X.2.1 d_MD_turnA_304 (by decide) ?_
            refine lv_aload_n (pc := 306) X.1 X.2.1 d_MD_turnA_306 rfl (lv_at hl 6 rfl) ?_
            refine lv_iload_n (pc := 307) X.1 X.2.1 d_MD_turnA_307 rfl (lv_at hl 5 rfl) ?_
            refine lv_iload (pc := 308) X.1 X.2.1 d_MD_turnA_308 (lv_at hl 0 rfl) ?_
            refine lv_iadd (pc := 310) X.1 X.2.1 d_MD_turnA_310 ?_
            refine ab_ki_callV (pc := 311) (wr := []) (w := (wM t q)) (u := (stt (stt u 0 8 (if (u 0 8) = 0 then (if (if 153 < (u 2 7) then 1 else (if (u 0 8) = 0 then 0 else 1 : Int32) : Int32) = 0 then 0 else 1 : Int32) else 1 : Int32)) 0 6 (if (((u 2 7) - (u 2 7) / 16 * 16) + ((if (if 153 < (u 2 7) then 1 else (if (u 0 8) = 0 then 0 else 1 : Int32) : Int32) = 0 then (if 9 < ((u 2 7) - (u 2 7) / 16 * 16) then 6 else (if (u 0 6) = 0 then 0 else 6 : Int32) : Int32) else ((if 9 < ((u 2 7) - (u 2 7) / 16 * 16) then 6 else (if (u 0 6) = 0 then 0 else 6 : Int32) : Int32) + 96) : Int32) - (if (if 153 < (u 2 7) then 1 else (if (u 0 8) = 0 then 0 else 1 : Int32) : Int32) = 0 then (if 9 < ((u 2 7) - (u 2 7) / 16 * 16) then 6 else (if (u 0 6) = 0 then 0 else 6 : Int32) : Int32) else ((if 9 < ((u 2 7) - (u 2 7) / 16 * 16) then 6 else (if (u 0 6) = 0 then 0 else 6 : Int32) : Int32) + 96) : Int32) / 16 * 16)) ≤ 15 then 0 else 1 : Int32))) (F := f_MD_result (stt (stt u 0 8 (if (u 0 8) = 0 then (if (if 153 < (u 2 7) then 1 else (if (u 0 8) = 0 then 0 else 1 : Int32) : Int32) = 0 then 0 else 1 : Int32) else 1 : Int32)) 0 6 (if (((u 2 7) - (u 2 7) / 16 * 16) + ((if (if 153 < (u 2 7) then 1 else (if (u 0 8) = 0 then 0 else 1 : Int32) : Int32) = 0 then (if 9 < ((u 2 7) - (u 2 7) / 16 * 16) then 6 else (if (u 0 6) = 0 then 0 else 6 : Int32) : Int32) else ((if 9 < ((u 2 7) - (u 2 7) / 16 * 16) then 6 else (if (u 0 6) = 0 then 0 else 6 : Int32) : Int32) + 96) : Int32) - (if (if 153 < (u 2 7) then 1 else (if (u 0 8) = 0 then 0 else 1 : Int32) : Int32) = 0 then (if 9 < ((u 2 7) - (u 2 7) / 16 * 16) then 6 else (if (u 0 6) = 0 then 0 else 6 : Int32) : Int32) else ((if 9 < ((u 2 7) - (u 2 7) / 16 * 16) then 6 else (if (u 0 6) = 0 then 0 else 6 : Int32) : Int32) + 96) : Int32) / 16 * 16)) ≤ 15 then 0 else 1 : Int32)) ((u 2 7) + (if (if 153 < (u 2 7) then 1 else (if (u 0 8) = 0 then 0 else 1 : Int32) : Int32) = 0 then (if 9 < ((u 2 7) - (u 2 7) / 16 * 16) then 6 else (if (u 0 6) = 0 then 0 else 6 : Int32) : Int32) else ((if 9 < ((u 2 7) - (u 2 7) / 16 * 16) then 6 else (if (u 0 6) = 0 then 0 else 6 : Int32) : Int32) + 96) : Int32))) (as := [.int ((u 2 7) + (if (if 153 < (u 2 7) then 1 else (if (u 0 8) = 0 then 0 else 1 : Int32) : Int32) = 0 then (if 9 < ((u 2 7) - (u 2 7) / 16 * 16) then 6 else (if (u 0 6) = 0 then 0 else 6 : Int32) : Int32) else ((if 9 < ((u 2 7) - (u 2 7) / 16 * 16) then 6 else (if (u 0 6) = 0 then 0 else 6 : Int32) : Int32) + 96) : Int32))]) (rest := [.int 7, .ref (q 2)]) X hX (c_MD_result l D t q (stt (stt u 0 8 (if (u 0 8) = 0 then (if (if 153 < (u 2 7) then 1 else (if (u 0 8) = 0 then 0 else 1 : Int32) : Int32) = 0 then 0 else 1 : Int32) else 1 : Int32)) 0 6 (if (((u 2 7) - (u 2 7) / 16 * 16) + ((if (if 153 < (u 2 7) then 1 else (if (u 0 8) = 0 then 0 else 1 : Int32) : Int32) = 0 then (if 9 < ((u 2 7) - (u 2 7) / 16 * 16) then 6 else (if (u 0 6) = 0 then 0 else 6 : Int32) : Int32) else ((if 9 < ((u 2 7) - (u 2 7) / 16 * 16) then 6 else (if (u 0 6) = 0 then 0 else 6 : Int32) : Int32) + 96) : Int32) - (if (if 153 < (u 2 7) then 1 else (if (u 0 8) = 0 then 0 else 1 : Int32) : Int32) = 0 then (if 9 < ((u 2 7) - (u 2 7) / 16 * 16) then 6 else (if (u 0 6) = 0 then 0 else 6 : Int32) : Int32) else ((if 9 < ((u 2 7) - (u 2 7) / 16 * 16) then 6 else (if (u 0 6) = 0 then 0 else 6 : Int32) : Int32) + 96) : Int32) / 16 * 16)) ≤ 15 then 0 else 1 : Int32)) ((u 2 7) + (if (if 153 < (u 2 7) then 1 else (if (u 0 8) = 0 then 0 else 1 : Int32) : Int32) = 0 then (if 9 < ((u 2 7) - (u 2 7) / 16 * 16) then 6 else (if (u 0 6) = 0 then 0 else 6 : Int32) : Int32) else ((if 9 < ((u 2 7) - (u 2 7) / 16 * 16) then 6 else (if (u 0 6) = 0 then 0 else 6 : Int32) : Int32) + 96) : Int32))) ok_MD_result okv_MD_result tw_343 0 9 rfl rfl rfl hl.1 rfl (Nat.le_of_ble_eq_true rfl) ⟨rfl, rfl, Nat.le_of_ble_eq_true rfl, Nat.le_of_ble_eq_true rfl⟩ ⟨Nat.zero_le _, Nat.zero_le _⟩ d_MD_turnA_311 (fun H locs hX => ?_)
            refine ab_ast (pc := 314) (f := ((f_MD_result (stt (stt u 0 8 (if (u 0 8) = 0 then (if (if 153 < (u 2 7) then 1 else (if (u 0 8) = 0 then 0 else 1 : Int32) : Int32) = 0 then 0 else 1 : Int32) else 1 : Int32)) 0 6 (if (((u 2 7) - (u 2 7) / 16 * 16) + ((if (if 153 < (u 2 7) then 1 else (if (u 0 8) = 0 then 0 else 1 : Int32) : Int32) = 0 then (if 9 < ((u 2 7) - (u 2 7) / 16 * 16) then 6 else (if (u 0 6) = 0 then 0 else 6 : Int32) : Int32) else ((if 9 < ((u 2 7) - (u 2 7) / 16 * 16) then 6 else (if (u 0 6) = 0 then 0 else 6 : Int32) : Int32) + 96) : Int32) - (if (if 153 < (u 2 7) then 1 else (if (u 0 8) = 0 then 0 else 1 : Int32) : Int32) = 0 then (if 9 < ((u 2 7) - (u 2 7) / 16 * 16) then 6 else (if (u 0 6) = 0 then 0 else 6 : Int32) : Int32) else ((if 9 < ((u 2 7) - (u 2 7) / 16 * 16) then 6 else (if (u 0 6) = 0 then 0 else 6 : Int32) : Int32) + 96) : Int32) / 16 * 16)) ≤ 15 then 0 else 1 : Int32)) ((u 2 7) + (if (if 153 < (u 2 7) then 1 else (if (u 0 8) = 0 then 0 else 1 : Int32) : Int32) = 0 then (if 9 < ((u 2 7) - (u 2 7) / 16 * 16) then 6 else (if (u 0 6) = 0 then 0 else 6 : Int32) : Int32) else ((if 9 < ((u 2 7) - (u 2 7) / 16 * 16) then 6 else (if (u 0 6) = 0 then 0 else 6 : Int32) : Int32) + 96) : Int32))).2) 2) (j := 7) (ws' := (wM t q (stt ((f_MD_result (stt (stt u 0 8 (if (u 0 8) = 0 then (if (if 153 < (u 2 7) then 1 else (if (u 0 8) = 0 then 0 else 1 : Int32) : Int32) = 0 then 0 else 1 : Int32) else 1 : Int32)) 0 6 (if (((u 2 7) - (u 2 7) / 16 * 16) + ((if (if 153 < (u 2 7) then 1 else (if (u 0 8) = 0 then 0 else 1 : Int32) : Int32) = 0 then (if 9 < ((u 2 7) - (u 2 7) / 16 * 16) then 6 else (if (u 0 6) = 0 then 0 else 6 : Int32) : Int32) else ((if 9 < ((u 2 7) - (u 2 7) / 16 * 16) then 6 else (if (u 0 6) = 0 then 0 else 6 : Int32) : Int32) + 96) : Int32) - (if (if 153 < (u 2 7) then 1 else (if (u 0 8) = 0 then 0 else 1 : Int32) : Int32) = 0 then (if 9 < ((u 2 7) - (u 2 7) / 16 * 16) then 6 else (if (u 0 6) = 0 then 0 else 6 : Int32) : Int32) else ((if 9 < ((u 2 7) - (u 2 7) / 16 * 16) then 6 else (if (u 0 6) = 0 then 0 else 6 : Int32) : Int32) + 96) : Int32) / 16 * 16)) ≤ 15 then 0 else 1 : Int32)) ((u 2 7) + (if (if 153 < (u 2 7) then 1 else (if (u 0 8) = 0 then 0 else 1 : Int32) : Int32) = 0 then (if 9 < ((u 2 7) - (u 2 7) / 16 * 16) then 6 else (if (u 0 6) = 0 then 0 else 6 : Int32) : Int32) else ((if 9 < ((u 2 7) - (u 2 7) / 16 * 16) then 6 else (if (u 0 6) = 0 then 0 else 6 : Int32) : Int32) + 96) : Int32))).2) 2 7 ((f_MD_result (stt (stt u 0 8 (if (u 0 8) = 0 then (if (if 153 < (u 2 7) then 1 else (if (u 0 8) = 0 then 0 else 1 : Int32) : Int32) = 0 then 0 else 1 : Int32) else 1 : Int32)) 0 6 (if (((u 2 7) - (u 2 7) / 16 * 16) + ((if (if 153 < (u 2 7) then 1 else (if (u 0 8) = 0 then 0 else 1 : Int32) : Int32) = 0 then (if 9 < ((u 2 7) - (u 2 7) / 16 * 16) then 6 else (if (u 0 6) = 0 then 0 else 6 : Int32) : Int32) else ((if 9 < ((u 2 7) - (u 2 7) / 16 * 16) then 6 else (if (u 0 6) = 0 then 0 else 6 : Int32) : Int32) + 96) : Int32) - (if (if 153 < (u 2 7) then 1 else (if (u 0 8) = 0 then 0 else 1 : Int32) : Int32) = 0 then (if 9 < ((u 2 7) - (u 2 7) / 16 * 16) then 6 else (if (u 0 6) = 0 then 0 else 6 : Int32) : Int32) else ((if 9 < ((u 2 7) - (u 2 7) / 16 * 16) then 6 else (if (u 0 6) = 0 then 0 else 6 : Int32) : Int32) + 96) : Int32) / 16 * 16)) ≤ 15 then 0 else 1 : Int32)) ((u 2 7) + (if (if 153 < (u 2 7) then 1 else (if (u 0 8) = 0 then 0 else 1 : Int32) : Int32) = 0 then (if 9 < ((u 2 7) - (u 2 7) / 16 * 16) then 6 else (if (u 0 6) = 0 then 0 else 6 : Int32) : Int32) else ((if 9 < ((u 2 7) - (u 2 7) / 16 * 16) then 6 else (if (u 0 6) = 0 then 0 else 6 : Int32) : Int32) + 96) : Int32))).1)))) X hX 2 0 rfl rfl (ab_inc (by decide)) rfl (sa_wM_2 t q ((f_MD_result (stt (stt u 0 8 (if (u 0 8) = 0 then (if (if 153 < (u 2 7) then 1 else (if (u 0 8) = 0 then 0 else 1 : Int32) : Int32) = 0 then 0 else 1 : Int32) else 1 : Int32)) 0 6 (if (((u 2 7) - (u 2 7) / 16 * 16) + ((if (if 153 < (u 2 7) then 1 else (if (u 0 8) = 0 then 0 else 1 : Int32) : Int32) = 0 then (if 9 < ((u 2 7) - (u 2 7) / 16 * 16) then 6 else (if (u 0 6) = 0 then 0 else 6 : Int32) : Int32) else ((if 9 < ((u 2 7) - (u 2 7) / 16 * 16) then 6 else (if (u 0 6) = 0 then 0 else 6 : Int32) : Int32) + 96) : Int32) - (if (if 153 < (u 2 7) then 1 else (if (u 0 8) = 0 then 0 else 1 : Int32) : Int32) = 0 then (if 9 < ((u 2 7) - (u 2 7) / 16 * 16) then 6 else (if (u 0 6) = 0 then 0 else 6 : Int32) : Int32) else ((if 9 < ((u 2 7) - (u 2 7) / 16 * 16) then 6 else (if (u 0 6) = 0 then 0 else 6 : Int32) : Int32) + 96) : Int32) / 16 * 16)) ≤ 15 then 0 else 1 : Int32)) ((u 2 7) + (if (if 153 < (u 2 7) then 1 else (if (u 0 8) = 0 then 0 else 1 : Int32) : Int32) = 0 then (if 9 < ((u 2 7) - (u 2 7) / 16 * 16) then 6 else (if (u 0 6) = 0 then 0 else 6 : Int32) : Int32) else ((if 9 < ((u 2 7) - (u 2 7) / 16 * 16) then 6 else (if (u 0 6) = 0 then 0 else 6 : Int32) : Int32) + 96) : Int32))).2) 7 ((f_MD_result (stt (stt u 0 8 (if (u 0 8) = 0 then (if (if 153 < (u 2 7) then 1 else (if (u 0 8) = 0 then 0 else 1 : Int32) : Int32) = 0 then 0 else 1 : Int32) else 1 : Int32)) 0 6 (if (((u 2 7) - (u 2 7) / 16 * 16) + ((if (if 153 < (u 2 7) then 1 else (if (u 0 8) = 0 then 0 else 1 : Int32) : Int32) = 0 then (if 9 < ((u 2 7) - (u 2 7) / 16 * 16) then 6 else (if (u 0 6) = 0 then 0 else 6 : Int32) : Int32) else ((if 9 < ((u 2 7) - (u 2 7) / 16 * 16) then 6 else (if (u 0 6) = 0 then 0 else 6 : Int32) : Int32) + 96) : Int32) - (if (if 153 < (u 2 7) then 1 else (if (u 0 8) = 0 then 0 else 1 : Int32) : Int32) = 0 then (if 9 < ((u 2 7) - (u 2 7) / 16 * 16) then 6 else (if (u 0 6) = 0 then 0 else 6 : Int32) : Int32) else ((if 9 < ((u 2 7) - (u 2 7) / 16 * 16) then 6 else (if (u 0 6) = 0 then 0 else 6 : Int32) : Int32) + 96) : Int32) / 16 * 16)) ≤ 15 then 0 else 1 : Int32)) ((u 2 7) + (if (if 153 < (u 2 7) then 1 else (if (u 0 8) = 0 then 0 else 1 : Int32) : Int32) = 0 then (if 9 < ((u 2 7) - (u 2 7) / 16 * 16) then 6 else (if (u 0 6) = 0 then 0 else 6 : Int32) : Int32) else ((if 9 < ((u 2 7) - (u 2 7) / 16 * 16) then 6 else (if (u 0 6) = 0 then 0 else 6 : Int32) : Int32) + 96) : Int32))).1)) d_MD_turnA_314 (fun H locs hX => ?_)
            refine lv_goto (pc := 315) (tgt := 360) X.1 X.2.1 d_MD_turnA_315 (by decide) ?_
            exact ab_kv_ret (pc := 360) X hr hk hX (by rw [f_MD_turnA, if_neg h2, if_neg h3, if_neg h4, if_neg h5, if_pos h6]) d_MD_turnA_360
        ·
          refine lv_aload_n (pc := 154) X.1 X.2.1 d_MD_turnA_154 rfl (lv_at hl 4 rfl) ?_
          refine ab_gx (pc := 155) (v := .ref (q 2)) X hX 0 9 5 rfl rfl (Nat.le_of_ble_eq_true rfl) in_MD rfl tw_304 rfl d_MD_turnA_155 ?_
          refine lv_bipush (pc := 158) (v := 7) X.1 X.2.1 d_MD_turnA_158 (by decide) ?_
          refine lv_iload_n (pc := 160) X.1 X.2.1 d_MD_turnA_160 rfl (lv_at hl 3 rfl) ?_
          refine lv_iconst (pc := 161) (v := 2) X.1 X.2.1 d_MD_turnA_161 (by decide) ?_
          refine lv_idiv (pc := 162) X.1 X.2.1 d_MD_turnA_162 (by decide) ?_
          refine lv_sipush (pc := 163) (v := 128) X.1 X.2.1 d_MD_turnA_163 (by decide) ?_
          refine lv_iload (pc := 166) X.1 X.2.1 d_MD_turnA_166 (lv_at hl 0 rfl) ?_
          refine lv_imul (pc := 168) X.1 X.2.1 d_MD_turnA_168 ?_
          refine lv_iadd (pc := 169) X.1 X.2.1 d_MD_turnA_169 ?_
          refine ab_ast (pc := 170) (f := u 2) (j := 7) (ws' := (wM t q (stt u 2 7 (((u 2 7) / 2) + (128 * (if (u 0 8) = 0 then 0 else 1 : Int32)))))) X hX 2 0 rfl rfl (ab_inc (by decide)) rfl (sa_wM_2 t q u 7 (((u 2 7) / 2) + (128 * (if (u 0 8) = 0 then 0 else 1 : Int32)))) d_MD_turnA_170 (fun H locs hX => ?_)
          refine lv_aload_n (pc := 171) X.1 X.2.1 d_MD_turnA_171 rfl (lv_at hl 4 rfl) ?_
          refine lv_iload_n (pc := 172) X.1 X.2.1 d_MD_turnA_172 rfl (lv_at hl 2 rfl) ?_
          refine lv_iconst (pc := 173) (v := 1) X.1 X.2.1 d_MD_turnA_173 (by decide) ?_
          refine ab_jn (ls := ls) (rest := [.ref (q 0)]) 182 (if ((u 2 7) &&& 1) = 1 then 1 else 0 : Int32) ?_ (fun J => ?_)
          rotate_left
          ·
            refine lv_icmp_ne (pc := 174) (tgt := 181) X.1 X.2.1 d_MD_turnA_174 (by decide) (fun h18 => ?_) (fun h18 => ?_)
            ·
              refine lv_iconst (pc := 181) (v := 0) X.1 X.2.1 d_MD_turnA_181 (by decide) ?_
              exact ab_jt (by rw [if_neg h18]) J
            ·
              refine lv_iconst (pc := 177) (v := 1) X.1 X.2.1 d_MD_turnA_177 (by decide) ?_
              refine lv_goto (pc := 178) (tgt := 182) X.1 X.2.1 d_MD_turnA_178 (by decide) ?_
              exact ab_jt (by rw [if_pos h18]) J
          refine ab_px (pc := 182) (ws' := (wM t q (stt (stt u 2 7 (((u 2 7) / 2) + (128 * (if (u 0 8) = 0 then 0 else 1 : Int32)))) 0 8 (if ((u 2 7) &&& 1) = 1 then 1 else 0 : Int32)))) X hX 0 9 10 ty_MD ty_MD_ok nm_MD rfl rfl (Nat.le_of_ble_eq_true rfl) in_MD rfl tw_330 rfl rfl (ab_nb (ab_bi ab_bo1 ab_bo0)) (ab_fb (ab_bi ab_bo1 ab_bo0)) (Nat.le_of_ble_eq_true rfl) (sf_wM_0_10 t q (stt u 2 7 (((u 2 7) / 2) + (128 * (if (u 0 8) = 0 then 0 else 1 : Int32)))) (if ((u 2 7) &&& 1) = 1 then 1 else 0 : Int32)) d_MD_turnA_182 (fun H locs hX => ?_)
          refine lv_goto (pc := 185) (tgt := 360) X.1 X.2.1 d_MD_turnA_185 (by decide) ?_
          exact ab_kv_ret (pc := 360) X hr hk hX (by rw [f_MD_turnA, if_neg h2, if_neg h3, if_neg h4, if_pos h5]) d_MD_turnA_360
      ·
        refine lv_aload_n (pc := 114) X.1 X.2.1 d_MD_turnA_114 rfl (lv_at hl 4 rfl) ?_
        refine ab_gx (pc := 115) (v := .ref (q 2)) X hX 0 9 5 rfl rfl (Nat.le_of_ble_eq_true rfl) in_MD rfl tw_304 rfl d_MD_turnA_115 ?_
        refine lv_bipush (pc := 118) (v := 7) X.1 X.2.1 d_MD_turnA_118 (by decide) ?_
        refine lv_iconst (pc := 120) (v := 2) X.1 X.2.1 d_MD_turnA_120 (by decide) ?_
        refine lv_iload_n (pc := 121) X.1 X.2.1 d_MD_turnA_121 rfl (lv_at hl 3 rfl) ?_
        refine lv_imul (pc := 122) X.1 X.2.1 d_MD_turnA_122 ?_
        refine lv_sipush (pc := 123) (v := 256) X.1 X.2.1 d_MD_turnA_123 (by decide) ?_
        refine lv_irem (pc := 126) X.1 X.2.1 d_MD_turnA_126 (by decide) ?_
        refine lv_iload (pc := 127) X.1 X.2.1 d_MD_turnA_127 (lv_at hl 0 rfl) ?_
        refine lv_iadd (pc := 129) X.1 X.2.1 d_MD_turnA_129 ?_
        refine ab_ast (pc := 130) (f := u 2) (j := 7) (ws' := (wM t q (stt u 2 7 (((2 * (u 2 7)) - (2 * (u 2 7)) / 256 * 256) + (if (u 0 8) = 0 then 0 else 1 : Int32))))) X hX 2 0 rfl rfl (ab_inc (by decide)) rfl (sa_wM_2 t q u 7 (((2 * (u 2 7)) - (2 * (u 2 7)) / 256 * 256) + (if (u 0 8) = 0 then 0 else 1 : Int32))) d_MD_turnA_130 (fun H locs hX => ?_)
        refine lv_aload_n (pc := 131) X.1 X.2.1 d_MD_turnA_131 rfl (lv_at hl 4 rfl) ?_
        refine lv_iload (pc := 132) X.1 X.2.1 d_MD_turnA_132 (lv_at hl 1 rfl) ?_
        refine lv_iconst (pc := 134) (v := 1) X.1 X.2.1 d_MD_turnA_134 (by decide) ?_
        refine ab_jn (ls := ls) (rest := [.ref (q 0)]) 143 (if ((u 2 7) >>> ((7 : Int32) &&& 31)) = 1 then 1 else 0 : Int32) ?_ (fun J => ?_)
        rotate_left
        ·
          refine lv_icmp_ne (pc := 135) (tgt := 142) X.1 X.2.1 d_MD_turnA_135 (by decide) (fun h19 => ?_) (fun h19 => ?_)
          ·
            refine lv_iconst (pc := 142) (v := 0) X.1 X.2.1 d_MD_turnA_142 (by decide) ?_
            exact ab_jt (by rw [if_neg h19]) J
          ·
            refine lv_iconst (pc := 138) (v := 1) X.1 X.2.1 d_MD_turnA_138 (by decide) ?_
            refine lv_goto (pc := 139) (tgt := 143) X.1 X.2.1 d_MD_turnA_139 (by decide) ?_
            exact ab_jt (by rw [if_pos h19]) J
        refine ab_px (pc := 143) (ws' := (wM t q (stt (stt u 2 7 (((2 * (u 2 7)) - (2 * (u 2 7)) / 256 * 256) + (if (u 0 8) = 0 then 0 else 1 : Int32))) 0 8 (if ((u 2 7) >>> ((7 : Int32) &&& 31)) = 1 then 1 else 0 : Int32)))) X hX 0 9 10 ty_MD ty_MD_ok nm_MD rfl rfl (Nat.le_of_ble_eq_true rfl) in_MD rfl tw_330 rfl rfl (ab_nb (ab_bi ab_bo1 ab_bo0)) (ab_fb (ab_bi ab_bo1 ab_bo0)) (Nat.le_of_ble_eq_true rfl) (sf_wM_0_10 t q (stt u 2 7 (((2 * (u 2 7)) - (2 * (u 2 7)) / 256 * 256) + (if (u 0 8) = 0 then 0 else 1 : Int32))) (if ((u 2 7) >>> ((7 : Int32) &&& 31)) = 1 then 1 else 0 : Int32)) d_MD_turnA_143 (fun H locs hX => ?_)
        refine lv_goto (pc := 146) (tgt := 360) X.1 X.2.1 d_MD_turnA_146 (by decide) ?_
        exact ab_kv_ret (pc := 360) X hr hk hX (by rw [f_MD_turnA, if_neg h2, if_neg h3, if_pos h4]) d_MD_turnA_360
    ·
      refine lv_aload_n (pc := 76) X.1 X.2.1 d_MD_turnA_76 rfl (lv_at hl 4 rfl) ?_
      refine ab_gx (pc := 77) (v := .ref (q 2)) X hX 0 9 5 rfl rfl (Nat.le_of_ble_eq_true rfl) in_MD rfl tw_304 rfl d_MD_turnA_77 ?_
      refine lv_bipush (pc := 80) (v := 7) X.1 X.2.1 d_MD_turnA_80 (by decide) ?_
      refine lv_iload_n (pc := 82) X.1 X.2.1 d_MD_turnA_82 rfl (lv_at hl 3 rfl) ?_
      refine lv_iconst (pc := 83) (v := 2) X.1 X.2.1 d_MD_turnA_83 (by decide) ?_
      refine lv_idiv (pc := 84) X.1 X.2.1 d_MD_turnA_84 (by decide) ?_
      refine lv_sipush (pc := 85) (v := 128) X.1 X.2.1 d_MD_turnA_85 (by decide) ?_
      refine lv_iload_n (pc := 88) X.1 X.2.1 d_MD_turnA_88 rfl (lv_at hl 2 rfl) ?_
      refine lv_imul (pc := 89) X.1 X.2.1 d_MD_turnA_89 ?_
      refine lv_iadd (pc := 90) X.1 X.2.1 d_MD_turnA_90 ?_
      refine ab_ast (pc := 91) (f := u 2) (j := 7) (ws' := (wM t q (stt u 2 7 (((u 2 7) / 2) + (128 * ((u 2 7) &&& 1)))))) X hX 2 0 rfl rfl (ab_inc (by decide)) rfl (sa_wM_2 t q u 7 (((u 2 7) / 2) + (128 * ((u 2 7) &&& 1)))) d_MD_turnA_91 (fun H locs hX => ?_)
      refine lv_aload_n (pc := 92) X.1 X.2.1 d_MD_turnA_92 rfl (lv_at hl 4 rfl) ?_
      refine lv_iload_n (pc := 93) X.1 X.2.1 d_MD_turnA_93 rfl (lv_at hl 2 rfl) ?_
      refine lv_iconst (pc := 94) (v := 1) X.1 X.2.1 d_MD_turnA_94 (by decide) ?_
      refine ab_jn (ls := ls) (rest := [.ref (q 0)]) 103 (if ((u 2 7) &&& 1) = 1 then 1 else 0 : Int32) ?_ (fun J => ?_)
      rotate_left
      ·
        refine lv_icmp_ne (pc := 95) (tgt := 102) X.1 X.2.1 d_MD_turnA_95 (by decide) (fun h20 => ?_) (fun h20 => ?_)
        ·
          refine lv_iconst (pc := 102) (v := 0) X.1 X.2.1 d_MD_turnA_102 (by decide) ?_
          exact ab_jt (by rw [if_neg h20]) J
        ·
          refine lv_iconst (pc := 98) (v := 1) X.1 X.2.1 d_MD_turnA_98 (by decide) ?_
          refine lv_goto (pc := 99) (tgt := 103) X.1 X.2.1 d_MD_turnA_99 (by decide) ?_
          exact ab_jt (by rw [if_pos h20]) J
      refine ab_px (pc := 103) (ws' := (wM t q (stt (stt u 2 7 (((u 2 7) / 2) + (128 * ((u 2 7) &&& 1)))) 0 8 (if ((u 2 7) &&& 1) = 1 then 1 else 0 : Int32)))) X hX 0 9 10 ty_MD ty_MD_ok nm_MD rfl rfl (Nat.le_of_ble_eq_true rfl) in_MD rfl tw_330 rfl rfl (ab_nb (ab_bi ab_bo1 ab_bo0)) (ab_fb (ab_bi ab_bo1 ab_bo0)) (Nat.le_of_ble_eq_true rfl) (sf_wM_0_10 t q (stt u 2 7 (((u 2 7) / 2) + (128 * ((u 2 7) &&& 1)))) (if ((u 2 7) &&& 1) = 1 then 1 else 0 : Int32)) d_MD_turnA_103 (fun H locs hX => ?_)
      refine lv_goto (pc := 106) (tgt := 360) X.1 X.2.1 d_MD_turnA_106 (by decide) ?_
      exact ab_kv_ret (pc := 360) X hr hk hX (by rw [f_MD_turnA, if_neg h2, if_pos h3]) d_MD_turnA_360
  ·
    refine lv_aload_n (pc := 36) X.1 X.2.1 d_MD_turnA_36 rfl (lv_at hl 4 rfl) ?_
    refine ab_gx (pc := 37) (v := .ref (q 2)) X hX 0 9 5 rfl rfl (Nat.le_of_ble_eq_true rfl) in_MD rfl tw_304 rfl d_MD_turnA_37 ?_
    refine lv_bipush (pc := 40) (v := 7) X.1 X.2.1 d_MD_turnA_40 (by decide) ?_
    refine lv_iconst (pc := 42) (v := 2) X.1 X.2.1 d_MD_turnA_42 (by decide) ?_
    refine lv_iload_n (pc := 43) X.1 X.2.1 d_MD_turnA_43 rfl (lv_at hl 3 rfl) ?_
    refine lv_imul (pc := 44) X.1 X.2.1 d_MD_turnA_44 ?_
    refine lv_sipush (pc := 45) (v := 256) X.1 X.2.1 d_MD_turnA_45 (by decide) ?_
    refine lv_irem (pc := 48) X.1 X.2.1 d_MD_turnA_48 (by decide) ?_
    refine lv_iload (pc := 49) X.1 X.2.1 d_MD_turnA_49 (lv_at hl 1 rfl) ?_
    refine lv_iadd (pc := 51) X.1 X.2.1 d_MD_turnA_51 ?_
    refine ab_ast (pc := 52) (f := u 2) (j := 7) (ws' := (wM t q (stt u 2 7 (((2 * (u 2 7)) - (2 * (u 2 7)) / 256 * 256) + ((u 2 7) >>> ((7 : Int32) &&& 31)))))) X hX 2 0 rfl rfl (ab_inc (by decide)) rfl (sa_wM_2 t q u 7 (((2 * (u 2 7)) - (2 * (u 2 7)) / 256 * 256) + ((u 2 7) >>> ((7 : Int32) &&& 31)))) d_MD_turnA_52 (fun H locs hX => ?_)
    refine lv_aload_n (pc := 53) X.1 X.2.1 d_MD_turnA_53 rfl (lv_at hl 4 rfl) ?_
    refine lv_iload (pc := 54) X.1 X.2.1 d_MD_turnA_54 (lv_at hl 1 rfl) ?_
    refine lv_iconst (pc := 56) (v := 1) X.1 X.2.1 d_MD_turnA_56 (by decide) ?_
    refine ab_jn (ls := ls) (rest := [.ref (q 0)]) 65 (if ((u 2 7) >>> ((7 : Int32) &&& 31)) = 1 then 1 else 0 : Int32) ?_ (fun J => ?_)
    rotate_left
    ·
      refine lv_icmp_ne (pc := 57) (tgt := 64) X.1 X.2.1 d_MD_turnA_57 (by decide) (fun h21 => ?_) (fun h21 => ?_)
      ·
        refine lv_iconst (pc := 64) (v := 0) X.1 X.2.1 d_MD_turnA_64 (by decide) ?_
        exact ab_jt (by rw [if_neg h21]) J
      ·
        refine lv_iconst (pc := 60) (v := 1) X.1 X.2.1 d_MD_turnA_60 (by decide) ?_
        refine lv_goto (pc := 61) (tgt := 65) X.1 X.2.1 d_MD_turnA_61 (by decide) ?_
        exact ab_jt (by rw [if_pos h21]) J
    refine ab_px (pc := 65) (ws' := (wM t q (stt (stt u 2 7 (((2 * (u 2 7)) - (2 * (u 2 7)) / 256 * 256) + ((u 2 7) >>> ((7 : Int32) &&& 31)))) 0 8 (if ((u 2 7) >>> ((7 : Int32) &&& 31)) = 1 then 1 else 0 : Int32)))) X hX 0 9 10 ty_MD ty_MD_ok nm_MD rfl rfl (Nat.le_of_ble_eq_true rfl) in_MD rfl tw_330 rfl rfl (ab_nb (ab_bi ab_bo1 ab_bo0)) (ab_fb (ab_bi ab_bo1 ab_bo0)) (Nat.le_of_ble_eq_true rfl) (sf_wM_0_10 t q (stt u 2 7 (((2 * (u 2 7)) - (2 * (u 2 7)) / 256 * 256) + ((u 2 7) >>> ((7 : Int32) &&& 31)))) (if ((u 2 7) >>> ((7 : Int32) &&& 31)) = 1 then 1 else 0 : Int32)) d_MD_turnA_65 (fun H locs hX => ?_)
    refine lv_goto (pc := 68) (tgt := 360) X.1 X.2.1 d_MD_turnA_68 (by decide) ?_
    exact ab_kv_ret (pc := 360) X hr hk hX (by rw [f_MD_turnA, if_pos h2]) d_MD_turnA_360
abbrev b_MD_carry : ByteArray := prog_11_method_20_code
def y_MD_carry : MethodName := ⟨"ArcadeBoardModel", "carry", "(I)V"⟩
theorem d_MD_carry_0 : decode b_MD_carry 0 = .ok (.iload_n 1, 1) := by decide +kernel
theorem d_MD_carry_1 : decode b_MD_carry 1 = .ok (.iconst 4, 1) := by decide +kernel
theorem d_MD_carry_2 : decode b_MD_carry 2 = .ok (.if_icmp .ge 51, 3) := by decide +kernel
theorem d_MD_carry_5 : decode b_MD_carry 5 = .ok (.aload_n 0, 1) := by decide +kernel
theorem d_MD_carry_6 : decode b_MD_carry 6 = .ok (.bipush 7, 2) := by decide +kernel
theorem d_MD_carry_8 : decode b_MD_carry 8 = .ok (.putfield 71, 3) := by decide +kernel
theorem d_MD_carry_11 : decode b_MD_carry 11 = .ok (.aload_n 0, 1) := by decide +kernel
theorem d_MD_carry_12 : decode b_MD_carry 12 = .ok (.iload_n 1, 1) := by decide +kernel
theorem d_MD_carry_13 : decode b_MD_carry 13 = .ok (.iconst 2, 1) := by decide +kernel
theorem d_MD_carry_14 : decode b_MD_carry 14 = .ok (.idiv, 1) := by decide +kernel
theorem d_MD_carry_15 : decode b_MD_carry 15 = .ok (.invokevirtual 45, 3) := by decide +kernel
theorem d_MD_carry_18 : decode b_MD_carry 18 = .ok (.istore_n 2, 1) := by decide +kernel
theorem d_MD_carry_19 : decode b_MD_carry 19 = .ok (.iload_n 1, 1) := by decide +kernel
theorem d_MD_carry_20 : decode b_MD_carry 20 = .ok (.iconst 2, 1) := by decide +kernel
theorem d_MD_carry_21 : decode b_MD_carry 21 = .ok (.irem, 1) := by decide +kernel
theorem d_MD_carry_22 : decode b_MD_carry 22 = .ok (.ifCond .ne 18, 3) := by decide +kernel
theorem d_MD_carry_25 : decode b_MD_carry 25 = .ok (.aload_n 0, 1) := by decide +kernel
theorem d_MD_carry_26 : decode b_MD_carry 26 = .ok (.iload_n 2, 1) := by decide +kernel
theorem d_MD_carry_27 : decode b_MD_carry 27 = .ok (.aload_n 0, 1) := by decide +kernel
theorem d_MD_carry_28 : decode b_MD_carry 28 = .ok (.getfield 13, 3) := by decide +kernel
theorem d_MD_carry_31 : decode b_MD_carry 31 = .ok (.bipush 7, 2) := by decide +kernel
theorem d_MD_carry_33 : decode b_MD_carry 33 = .ok (.iaload, 1) := by decide +kernel
theorem d_MD_carry_34 : decode b_MD_carry 34 = .ok (.invokevirtual 48, 3) := by decide +kernel
theorem d_MD_carry_37 : decode b_MD_carry 37 = .ok (.goto 15, 3) := by decide +kernel
theorem d_MD_carry_40 : decode b_MD_carry 40 = .ok (.aload_n 0, 1) := by decide +kernel
theorem d_MD_carry_41 : decode b_MD_carry 41 = .ok (.getfield 13, 3) := by decide +kernel
theorem d_MD_carry_44 : decode b_MD_carry 44 = .ok (.bipush 7, 2) := by decide +kernel
theorem d_MD_carry_46 : decode b_MD_carry 46 = .ok (.aload_n 0, 1) := by decide +kernel
theorem d_MD_carry_47 : decode b_MD_carry 47 = .ok (.iload_n 2, 1) := by decide +kernel
theorem d_MD_carry_48 : decode b_MD_carry 48 = .ok (.invokevirtual 33, 3) := by decide +kernel
theorem d_MD_carry_51 : decode b_MD_carry 51 = .ok (.iastore, 1) := by decide +kernel
theorem d_MD_carry_52 : decode b_MD_carry 52 = .ok (.return_, 1) := by decide +kernel
theorem d_MD_carry_53 : decode b_MD_carry 53 = .ok (.aload_n 0, 1) := by decide +kernel
theorem d_MD_carry_54 : decode b_MD_carry 54 = .ok (.invokevirtual 74, 3) := by decide +kernel
theorem d_MD_carry_57 : decode b_MD_carry 57 = .ok (.istore_n 2, 1) := by decide +kernel
theorem d_MD_carry_58 : decode b_MD_carry 58 = .ok (.aload_n 0, 1) := by decide +kernel
theorem d_MD_carry_59 : decode b_MD_carry 59 = .ok (.iload_n 1, 1) := by decide +kernel
theorem d_MD_carry_60 : decode b_MD_carry 60 = .ok (.bipush 6, 2) := by decide +kernel
theorem d_MD_carry_62 : decode b_MD_carry 62 = .ok (.if_icmp .ge 8, 3) := by decide +kernel
theorem d_MD_carry_65 : decode b_MD_carry 65 = .ok (.bipush 16, 2) := by decide +kernel
theorem d_MD_carry_67 : decode b_MD_carry 67 = .ok (.goto 5, 3) := by decide +kernel
theorem d_MD_carry_70 : decode b_MD_carry 70 = .ok (.bipush 13, 2) := by decide +kernel
theorem d_MD_carry_72 : decode b_MD_carry 72 = .ok (.putfield 71, 3) := by decide +kernel
theorem d_MD_carry_75 : decode b_MD_carry 75 = .ok (.iload_n 1, 1) := by decide +kernel
theorem d_MD_carry_76 : decode b_MD_carry 76 = .ok (.iconst 4, 1) := by decide +kernel
theorem d_MD_carry_77 : decode b_MD_carry 77 = .ok (.if_icmp .ne 30, 3) := by decide +kernel
theorem d_MD_carry_80 : decode b_MD_carry 80 = .ok (.aload_n 0, 1) := by decide +kernel
theorem d_MD_carry_81 : decode b_MD_carry 81 = .ok (.iload_n 2, 1) := by decide +kernel
theorem d_MD_carry_82 : decode b_MD_carry 82 = .ok (.aload_n 0, 1) := by decide +kernel
theorem d_MD_carry_83 : decode b_MD_carry 83 = .ok (.getfield 13, 3) := by decide +kernel
theorem d_MD_carry_86 : decode b_MD_carry 86 = .ok (.iconst 5, 1) := by decide +kernel
theorem d_MD_carry_87 : decode b_MD_carry 87 = .ok (.iaload, 1) := by decide +kernel
theorem d_MD_carry_88 : decode b_MD_carry 88 = .ok (.invokevirtual 48, 3) := by decide +kernel
theorem d_MD_carry_91 : decode b_MD_carry 91 = .ok (.aload_n 0, 1) := by decide +kernel
theorem d_MD_carry_92 : decode b_MD_carry 92 = .ok (.iload_n 2, 1) := by decide +kernel
theorem d_MD_carry_93 : decode b_MD_carry 93 = .ok (.iconst 1, 1) := by decide +kernel
theorem d_MD_carry_94 : decode b_MD_carry 94 = .ok (.iadd, 1) := by decide +kernel
theorem d_MD_carry_95 : decode b_MD_carry 95 = .ok (.aload_n 0, 1) := by decide +kernel
theorem d_MD_carry_96 : decode b_MD_carry 96 = .ok (.getfield 13, 3) := by decide +kernel
theorem d_MD_carry_99 : decode b_MD_carry 99 = .ok (.iconst 4, 1) := by decide +kernel
theorem d_MD_carry_100 : decode b_MD_carry 100 = .ok (.iaload, 1) := by decide +kernel
theorem d_MD_carry_101 : decode b_MD_carry 101 = .ok (.invokevirtual 48, 3) := by decide +kernel
theorem d_MD_carry_104 : decode b_MD_carry 104 = .ok (.goto 70, 3) := by decide +kernel
theorem d_MD_carry_107 : decode b_MD_carry 107 = .ok (.iload_n 1, 1) := by decide +kernel
theorem d_MD_carry_108 : decode b_MD_carry 108 = .ok (.iconst 5, 1) := by decide +kernel
theorem d_MD_carry_109 : decode b_MD_carry 109 = .ok (.if_icmp .ne 32, 3) := by decide +kernel
theorem d_MD_carry_112 : decode b_MD_carry 112 = .ok (.aload_n 0, 1) := by decide +kernel
theorem d_MD_carry_113 : decode b_MD_carry 113 = .ok (.iload_n 2, 1) := by decide +kernel
theorem d_MD_carry_114 : decode b_MD_carry 114 = .ok (.invokevirtual 33, 3) := by decide +kernel
theorem d_MD_carry_117 : decode b_MD_carry 117 = .ok (.istore_n 3, 1) := by decide +kernel
theorem d_MD_carry_118 : decode b_MD_carry 118 = .ok (.aload_n 0, 1) := by decide +kernel
theorem d_MD_carry_119 : decode b_MD_carry 119 = .ok (.getfield 13, 3) := by decide +kernel
theorem d_MD_carry_122 : decode b_MD_carry 122 = .ok (.iconst 4, 1) := by decide +kernel
theorem d_MD_carry_123 : decode b_MD_carry 123 = .ok (.aload_n 0, 1) := by decide +kernel
theorem d_MD_carry_124 : decode b_MD_carry 124 = .ok (.iload_n 2, 1) := by decide +kernel
theorem d_MD_carry_125 : decode b_MD_carry 125 = .ok (.iconst 1, 1) := by decide +kernel
theorem d_MD_carry_126 : decode b_MD_carry 126 = .ok (.iadd, 1) := by decide +kernel
theorem d_MD_carry_127 : decode b_MD_carry 127 = .ok (.invokevirtual 33, 3) := by decide +kernel
theorem d_MD_carry_130 : decode b_MD_carry 130 = .ok (.iastore, 1) := by decide +kernel
theorem d_MD_carry_131 : decode b_MD_carry 131 = .ok (.aload_n 0, 1) := by decide +kernel
theorem d_MD_carry_132 : decode b_MD_carry 132 = .ok (.getfield 13, 3) := by decide +kernel
theorem d_MD_carry_135 : decode b_MD_carry 135 = .ok (.iconst 5, 1) := by decide +kernel
theorem d_MD_carry_136 : decode b_MD_carry 136 = .ok (.iload_n 3, 1) := by decide +kernel
theorem d_MD_carry_137 : decode b_MD_carry 137 = .ok (.iastore, 1) := by decide +kernel
theorem d_MD_carry_138 : decode b_MD_carry 138 = .ok (.goto 36, 3) := by decide +kernel
theorem d_MD_carry_141 : decode b_MD_carry 141 = .ok (.iload_n 1, 1) := by decide +kernel
theorem d_MD_carry_142 : decode b_MD_carry 142 = .ok (.bipush 6, 2) := by decide +kernel
theorem d_MD_carry_144 : decode b_MD_carry 144 = .ok (.if_icmp .ne 18, 3) := by decide +kernel
theorem d_MD_carry_147 : decode b_MD_carry 147 = .ok (.aload_n 0, 1) := by decide +kernel
theorem d_MD_carry_148 : decode b_MD_carry 148 = .ok (.iload_n 2, 1) := by decide +kernel
theorem d_MD_carry_149 : decode b_MD_carry 149 = .ok (.aload_n 0, 1) := by decide +kernel
theorem d_MD_carry_150 : decode b_MD_carry 150 = .ok (.getfield 13, 3) := by decide +kernel
theorem d_MD_carry_153 : decode b_MD_carry 153 = .ok (.bipush 7, 2) := by decide +kernel
theorem d_MD_carry_155 : decode b_MD_carry 155 = .ok (.iaload, 1) := by decide +kernel
theorem d_MD_carry_156 : decode b_MD_carry 156 = .ok (.invokevirtual 48, 3) := by decide +kernel
theorem d_MD_carry_159 : decode b_MD_carry 159 = .ok (.goto 15, 3) := by decide +kernel
theorem d_MD_carry_162 : decode b_MD_carry 162 = .ok (.aload_n 0, 1) := by decide +kernel
theorem d_MD_carry_163 : decode b_MD_carry 163 = .ok (.getfield 13, 3) := by decide +kernel
theorem d_MD_carry_166 : decode b_MD_carry 166 = .ok (.bipush 7, 2) := by decide +kernel
theorem d_MD_carry_168 : decode b_MD_carry 168 = .ok (.aload_n 0, 1) := by decide +kernel
theorem d_MD_carry_169 : decode b_MD_carry 169 = .ok (.iload_n 2, 1) := by decide +kernel
theorem d_MD_carry_170 : decode b_MD_carry 170 = .ok (.invokevirtual 33, 3) := by decide +kernel
theorem d_MD_carry_173 : decode b_MD_carry 173 = .ok (.iastore, 1) := by decide +kernel
theorem d_MD_carry_174 : decode b_MD_carry 174 = .ok (.return_, 1) := by decide +kernel
theorem tw_347 : Jvm.Cond.code ⟨"ArcadeBoardModel", "carry", "(I)V"⟩ prog_11_method_20_code 4 (Option.none : Option Jvm.ClassFile.FieldType) ∈ AL := ab_in (ab_t4 (List.mem_of_getElem? (i := 102) (by decide +kernel))) rfl
theorem tw_348 : Jvm.Cond.instanceMethod ⟨"ArcadeBoardModel", "carry", "(I)V"⟩ ∈ AL := ab_in (ab_t4 (List.mem_of_getElem? (i := 101) (by decide +kernel))) rfl
theorem tw_349 : Cond.selects "ArcadeBoardModel" ⟨"ArcadeBoardModel", "carry", "(I)V"⟩ ⟨"ArcadeBoardModel", "carry", "(I)V"⟩ ∈ AL := ab_in (ab_s3 (List.mem_of_getElem? (i := 3) (by decide +kernel))) rfl
theorem tw_350 : Jvm.Cond.methodLink "ArcadeBoardModel" 74 ⟨"ArcadeBoardModel", "nextWord", "()I"⟩ ∈ AL := ab_in (ab_t4 (List.mem_of_getElem? (i := 87) (by decide +kernel))) rfl
theorem tw_351 : Jvm.Cond.fieldLink "ArcadeBoardModel" 71 "ArcadeBoardModel" "states" "I" ∈ AL := ab_in (ab_t3 (List.mem_of_getElem? (i := 207) (by decide +kernel))) rfl
theorem ok_MD_carry : ab_yok y_MD_carry b_MD_carry 4 none 1 := ⟨tw_347, tw_280, by decide, by decide, by decide +kernel⟩
theorem okv_MD_carry : ab_yok_V y_MD_carry := ⟨tw_348, tw_349⟩
set_option maxHeartbeats 1000000 in
set_option maxRecDepth 100000 in
theorem c_MD_carry (l : Launch) (D : va_G) (t : Nat → ClassId) (q : Nat → Nat) (u : SS) (x1 : Int32) (p1 : ab_lt8 x1) : ab_kv l D (tyC t) (wM t q) y_MD_carry b_MD_carry 4 { frames := 3, cells := 0, slots := 0, locals := 63 } [.ref (q 0), .int x1] u (f_MD_carry u x1) := by
  refine ab_kv_ofW (by decide) (Nat.le_of_ble_eq_true rfl) (fun p e s m below meth c ls A X hr hk hl hX => ?_)
  have hl : lv_has ls 4 [(0, .ref (q 0)), (1, .int x1)] := hl
  refine lv_iload_n (pc := 0) X.1 X.2.1 d_MD_carry_0 rfl (lv_at hl 1 rfl) ?_
  refine lv_iconst (pc := 1) (v := 4) X.1 X.2.1 d_MD_carry_1 (by decide) ?_
  refine lv_icmp_ge (pc := 2) (tgt := 53) X.1 X.2.1 d_MD_carry_2 (by decide) (fun h1 => ?_) (fun h1 => ?_)
  ·
    refine lv_aload_n (pc := 53) X.1 X.2.1 d_MD_carry_53 rfl (lv_at hl 0 rfl) ?_
    refine ab_ki_callV (pc := 54) (wr := []) (w := (wM t q)) (u := u) (F := f_MD_nextWord u) (as := []) (rest := []) X hX (c_MD_nextWord l D t q u) ok_MD_nextWord okv_MD_nextWord tw_350 0 9 rfl rfl rfl hl.1 rfl (Nat.le_of_ble_eq_true rfl) ⟨rfl, rfl, Nat.le_of_ble_eq_true rfl, Nat.le_of_ble_eq_true rfl⟩ ⟨Nat.zero_le _, Nat.zero_le _⟩ d_MD_carry_54 (fun H locs hX => ?_)
    refine lv_istore_n (pc := 57) (lv' := [(2, .int ((f_MD_nextWord u).1)), (0, .ref (q 0)), (1, .int x1)]) X.1 X.2.1 d_MD_carry_57 rfl hl (Nat.le_of_ble_eq_true rfl) rfl (fun ls hl => ?_)
    refine lv_aload_n (pc := 58) X.1 X.2.1 d_MD_carry_58 rfl (lv_at hl 1 rfl) ?_
    refine lv_iload_n (pc := 59) X.1 X.2.1 d_MD_carry_59 rfl (lv_at hl 2 rfl) ?_
    refine lv_bipush (pc := 60) (v := 6) X.1 X.2.1 d_MD_carry_60 (by decide) ?_
    refine ab_jn (ls := ls) (rest := [.ref (q 0)]) 72 (if 6 ≤ x1 then 13 else 16 : Int32) ?_ (fun J => ?_)
    rotate_left
    ·
      refine lv_icmp_ge (pc := 62) (tgt := 70) X.1 X.2.1 d_MD_carry_62 (by decide) (fun h2 => ?_) (fun h2 => ?_)
      ·
        refine lv_bipush (pc := 70) (v := 13) X.1 X.2.1 d_MD_carry_70 (by decide) ?_
        exact ab_jt (by rw [if_pos h2]) J
      ·
        refine lv_bipush (pc := 65) (v := 16) X.1 X.2.1 d_MD_carry_65 (by decide) ?_
        refine lv_goto (pc := 67) (tgt := 72) X.1 X.2.1 d_MD_carry_67 (by decide) ?_
        exact ab_jt (by rw [if_neg h2]) J
    refine ab_px (pc := 72) (ws' := (wM t q (stt ((f_MD_nextWord u).2) 0 24 (if 6 ≤ x1 then 13 else 16 : Int32)))) X hX 0 9 29 ty_MD ty_MD_ok nm_MD rfl rfl (Nat.le_of_ble_eq_true rfl) in_MD rfl tw_351 rfl rfl rfl rfl (Nat.le_of_ble_eq_true rfl) (sf_wM_0_29 t q ((f_MD_nextWord u).2) (if 6 ≤ x1 then 13 else 16 : Int32)) d_MD_carry_72 (fun H locs hX => ?_)
    refine lv_iload_n (pc := 75) X.1 X.2.1 d_MD_carry_75 rfl (lv_at hl 2 rfl) ?_
    refine lv_iconst (pc := 76) (v := 4) X.1 X.2.1 d_MD_carry_76 (by decide) ?_
    refine lv_icmp_ne (pc := 77) (tgt := 107) X.1 X.2.1 d_MD_carry_77 (by decide) (fun h3 => ?_) (fun h3 => ?_)
    ·
      refine lv_iload_n (pc := 107) X.1 X.2.1 d_MD_carry_107 rfl (lv_at hl 2 rfl) ?_
      refine lv_iconst (pc := 108) (v := 5) X.1 X.2.1 d_MD_carry_108 (by decide) ?_
      refine lv_icmp_ne (pc := 109) (tgt := 141) X.1 X.2.1 d_MD_carry_109 (by decide) (fun h4 => ?_) (fun h4 => ?_)
      ·
        refine lv_iload_n (pc := 141) X.1 X.2.1 d_MD_carry_141 rfl (lv_at hl 2 rfl) ?_
        refine lv_bipush (pc := 142) (v := 6) X.1 X.2.1 d_MD_carry_142 (by decide) ?_
        refine lv_icmp_ne (pc := 144) (tgt := 162) X.1 X.2.1 d_MD_carry_144 (by decide) (fun h5 => ?_) (fun h5 => ?_)
        ·
          refine lv_aload_n (pc := 162) X.1 X.2.1 d_MD_carry_162 rfl (lv_at hl 1 rfl) ?_
          refine ab_gx (pc := 163) (v := .ref (q 2)) X hX 0 9 5 rfl rfl (Nat.le_of_ble_eq_true rfl) in_MD rfl tw_304 rfl d_MD_carry_163 ?_
          refine lv_bipush (pc := 166) (v := 7) X.1 X.2.1 d_MD_carry_166 (by decide) ?_
          refine lv_aload_n (pc := 168) X.1 X.2.1 d_MD_carry_168 rfl (lv_at hl 1 rfl) ?_
          refine lv_iload_n (pc := 169) X.1 X.2.1 d_MD_carry_169 rfl (lv_at hl 0 rfl) ?_
          refine ab_kr_callV (pc := 170) (wr := []) (w := (wM t q)) (u := (stt ((f_MD_nextWord u).2) 0 24 (if 6 ≤ x1 then 13 else 16 : Int32))) (r := f_MD_read (stt ((f_MD_nextWord u).2) 0 24 (if 6 ≤ x1 then 13 else 16 : Int32)) ((f_MD_nextWord u).1)) (as := [.int ((f_MD_nextWord u).1)]) (rest := [.int 7, .ref (q 2)]) X hX (c_MD_read l D t q (stt ((f_MD_nextWord u).2) 0 24 (if 6 ≤ x1 then 13 else 16 : Int32)) ((f_MD_nextWord u).1)) ok_MD_read okv_MD_read tw_295 0 9 rfl rfl rfl hl.1 rfl (Nat.le_of_ble_eq_true rfl) ⟨rfl, rfl, Nat.le_of_ble_eq_true rfl, Nat.le_of_ble_eq_true rfl⟩ ⟨Nat.zero_le _, Nat.zero_le _⟩ d_MD_carry_170 (fun H locs hX => ?_)
          refine ab_ast (pc := 173) (f := (stt ((f_MD_nextWord u).2) 0 24 (if 6 ≤ x1 then 13 else 16 : Int32)) 2) (j := 7) (ws' := (wM t q (stt (stt ((f_MD_nextWord u).2) 0 24 (if 6 ≤ x1 then 13 else 16 : Int32)) 2 7 (f_MD_read (stt ((f_MD_nextWord u).2) 0 24 (if 6 ≤ x1 then 13 else 16 : Int32)) ((f_MD_nextWord u).1))))) X hX 2 0 rfl rfl (ab_inc (by decide)) rfl (sa_wM_2 t q (stt ((f_MD_nextWord u).2) 0 24 (if 6 ≤ x1 then 13 else 16 : Int32)) 7 (f_MD_read (stt ((f_MD_nextWord u).2) 0 24 (if 6 ≤ x1 then 13 else 16 : Int32)) ((f_MD_nextWord u).1))) d_MD_carry_173 (fun H locs hX => ?_)
          exact ab_kv_ret (pc := 174) X hr hk hX (by rw [f_MD_carry, if_pos h1, if_neg h3, if_neg h4, if_neg h5]) d_MD_carry_174
        ·
          refine lv_aload_n (pc := 147) X.1 X.2.1 d_MD_carry_147 rfl (lv_at hl 1 rfl) ?_
          refine lv_iload_n (pc := 148) X.1 X.2.1 d_MD_carry_148 rfl (lv_at hl 0 rfl) ?_
          refine lv_aload_n (pc := 149) X.1 X.2.1 d_MD_carry_149 rfl (lv_at hl 1 rfl) ?_
          refine ab_gx (pc := 150) (v := .ref (q 2)) X hX 0 9 5 rfl rfl (Nat.le_of_ble_eq_true rfl) in_MD rfl tw_304 rfl d_MD_carry_150 ?_
          refine lv_bipush (pc := 153) (v := 7) X.1 X.2.1 d_MD_carry_153 (by decide) ?_
          refine ab_ald (pc := 155) (f := ((f_MD_nextWord u).2) 2) (j := 7) X hX 2 0 rfl rfl (ab_inc (by decide)) rfl d_MD_carry_155 ?_
          refine ab_kv_callV (pc := 156) (wr := []) (w := (wM t q)) (u := (stt ((f_MD_nextWord u).2) 0 24 (if 6 ≤ x1 then 13 else 16 : Int32))) (F := f_MD_write (stt ((f_MD_nextWord u).2) 0 24 (if 6 ≤ x1 then 13 else 16 : Int32)) ((f_MD_nextWord u).1) (((f_MD_nextWord u).2) 2 7)) (as := [.int ((f_MD_nextWord u).1), .int (((f_MD_nextWord u).2) 2 7)]) (rest := []) X hX (c_MD_write l D t q (stt ((f_MD_nextWord u).2) 0 24 (if 6 ≤ x1 then 13 else 16 : Int32)) ((f_MD_nextWord u).1) (((f_MD_nextWord u).2) 2 7)) ok_MD_write okv_MD_write tw_316 0 9 rfl rfl rfl hl.1 rfl (Nat.le_of_ble_eq_true rfl) ⟨rfl, rfl, Nat.le_of_ble_eq_true rfl, Nat.le_of_ble_eq_true rfl⟩ ⟨Nat.zero_le _, Nat.zero_le _⟩ d_MD_carry_156 (fun H locs hX => ?_)
          refine lv_goto (pc := 159) (tgt := 174) X.1 X.2.1 d_MD_carry_159 (by decide) ?_
          exact ab_kv_ret (pc := 174) X hr hk hX (by rw [f_MD_carry, if_pos h1, if_neg h3, if_neg h4, if_pos h5]) d_MD_carry_174
      ·
        refine lv_aload_n (pc := 112) X.1 X.2.1 d_MD_carry_112 rfl (lv_at hl 1 rfl) ?_
        refine lv_iload_n (pc := 113) X.1 X.2.1 d_MD_carry_113 rfl (lv_at hl 0 rfl) ?_
        refine ab_kr_callV (pc := 114) (wr := []) (w := (wM t q)) (u := (stt ((f_MD_nextWord u).2) 0 24 (if 6 ≤ x1 then 13 else 16 : Int32))) (r := f_MD_read (stt ((f_MD_nextWord u).2) 0 24 (if 6 ≤ x1 then 13 else 16 : Int32)) ((f_MD_nextWord u).1)) (as := [.int ((f_MD_nextWord u).1)]) (rest := []) X hX (c_MD_read l D t q (stt ((f_MD_nextWord u).2) 0 24 (if 6 ≤ x1 then 13 else 16 : Int32)) ((f_MD_nextWord u).1)) ok_MD_read okv_MD_read tw_295 0 9 rfl rfl rfl hl.1 rfl (Nat.le_of_ble_eq_true rfl) ⟨rfl, rfl, Nat.le_of_ble_eq_true rfl, Nat.le_of_ble_eq_true rfl⟩ ⟨Nat.zero_le _, Nat.zero_le _⟩ d_MD_carry_114 (fun H locs hX => ?_)
        refine lv_istore_n (pc := 117) (lv' := [(3, .int (f_MD_read (stt ((f_MD_nextWord u).2) 0 24 (if 6 ≤ x1 then 13 else 16 : Int32)) ((f_MD_nextWord u).1))), (2, .int ((f_MD_nextWord u).1)), (0, .ref (q 0)), (1, .int x1)]) X.1 X.2.1 d_MD_carry_117 rfl hl (Nat.le_of_ble_eq_true rfl) rfl (fun ls hl => ?_)
        refine lv_aload_n (pc := 118) X.1 X.2.1 d_MD_carry_118 rfl (lv_at hl 2 rfl) ?_
        refine ab_gx (pc := 119) (v := .ref (q 2)) X hX 0 9 5 rfl rfl (Nat.le_of_ble_eq_true rfl) in_MD rfl tw_304 rfl d_MD_carry_119 ?_
        refine lv_iconst (pc := 122) (v := 4) X.1 X.2.1 d_MD_carry_122 (by decide) ?_
        refine lv_aload_n (pc := 123) X.1 X.2.1 d_MD_carry_123 rfl (lv_at hl 2 rfl) ?_
        refine lv_iload_n (pc := 124) X.1 X.2.1 d_MD_carry_124 rfl (lv_at hl 1 rfl) ?_
        refine lv_iconst (pc := 125) (v := 1) X.1 X.2.1 d_MD_carry_125 (by decide) ?_
        refine lv_iadd (pc := 126) X.1 X.2.1 d_MD_carry_126 ?_
        refine ab_kr_callV (pc := 127) (wr := []) (w := (wM t q)) (u := (stt ((f_MD_nextWord u).2) 0 24 (if 6 ≤ x1 then 13 else 16 : Int32))) (r := f_MD_read (stt ((f_MD_nextWord u).2) 0 24 (if 6 ≤ x1 then 13 else 16 : Int32)) (((f_MD_nextWord u).1) + 1)) (as := [.int (((f_MD_nextWord u).1) + 1)]) (rest := [.int 4, .ref (q 2)]) X hX (c_MD_read l D t q (stt ((f_MD_nextWord u).2) 0 24 (if 6 ≤ x1 then 13 else 16 : Int32)) (((f_MD_nextWord u).1) + 1)) ok_MD_read okv_MD_read tw_295 0 9 rfl rfl rfl hl.1 rfl (Nat.le_of_ble_eq_true rfl) ⟨rfl, rfl, Nat.le_of_ble_eq_true rfl, Nat.le_of_ble_eq_true rfl⟩ ⟨Nat.zero_le _, Nat.zero_le _⟩ d_MD_carry_127 (fun H locs hX => ?_)
        refine ab_ast (pc := 130) (f := (stt ((f_MD_nextWord u).2) 0 24 (if 6 ≤ x1 then 13 else 16 : Int32)) 2) (j := 4) (ws' := (wM t q (stt (stt ((f_MD_nextWord u).2) 0 24 (if 6 ≤ x1 then 13 else 16 : Int32)) 2 4 (f_MD_read (stt ((f_MD_nextWord u).2) 0 24 (if 6 ≤ x1 then 13 else 16 : Int32)) (((f_MD_nextWord u).1) + 1))))) X hX 2 0 rfl rfl (ab_inc (by decide)) rfl (sa_wM_2 t q (stt ((f_MD_nextWord u).2) 0 24 (if 6 ≤ x1 then 13 else 16 : Int32)) 4 (f_MD_read (stt ((f_MD_nextWord u).2) 0 24 (if 6 ≤ x1 then 13 else 16 : Int32)) (((f_MD_nextWord u).1) + 1))) d_MD_carry_130 (fun H locs hX => ?_)
        refine lv_aload_n (pc := 131) X.1 X.2.1 d_MD_carry_131 rfl (lv_at hl 2 rfl) ?_
        refine ab_gx (pc := 132) (v := .ref (q 2)) X hX 0 9 5 rfl rfl (Nat.le_of_ble_eq_true rfl) in_MD rfl tw_304 rfl d_MD_carry_132 ?_
        refine lv_iconst (pc := 135) (v := 5) X.1 X.2.1 d_MD_carry_135 (by decide) ?_
        refine lv_iload_n (pc := 136) X.1 X.2.1 d_MD_carry_136 rfl (lv_at hl 0 rfl) ?_
        refine ab_ast (pc := 137) (f := (stt (stt ((f_MD_nextWord u).2) 0 24 (if 6 ≤ x1 then 13 else 16 : Int32)) 2 4 (f_MD_read (stt ((f_MD_nextWord u).2) 0 24 (if 6 ≤ x1 then 13 else 16 : Int32)) (((f_MD_nextWord u).1) + 1))) 2) (j := 5) (ws' := (wM t q (stt (stt (stt ((f_MD_nextWord u).2) 0 24 (if 6 ≤ x1 then 13 else 16 : Int32)) 2 4 (f_MD_read (stt ((f_MD_nextWord u).2) 0 24 (if 6 ≤ x1 then 13 else 16 : Int32)) (((f_MD_nextWord u).1) + 1))) 2 5 (f_MD_read (stt ((f_MD_nextWord u).2) 0 24 (if 6 ≤ x1 then 13 else 16 : Int32)) ((f_MD_nextWord u).1))))) X hX 2 0 rfl rfl (ab_inc (by decide)) rfl (sa_wM_2 t q (stt (stt ((f_MD_nextWord u).2) 0 24 (if 6 ≤ x1 then 13 else 16 : Int32)) 2 4 (f_MD_read (stt ((f_MD_nextWord u).2) 0 24 (if 6 ≤ x1 then 13 else 16 : Int32)) (((f_MD_nextWord u).1) + 1))) 5 (f_MD_read (stt ((f_MD_nextWord u).2) 0 24 (if 6 ≤ x1 then 13 else 16 : Int32)) ((f_MD_nextWord u).1))) d_MD_carry_137 (fun H locs hX => ?_)
        refine lv_goto (pc := 138) (tgt := 174) X.1 X.2.1 d_MD_carry_138 (by decide) ?_
        exact ab_kv_ret (pc := 174) X hr hk hX (by rw [f_MD_carry, if_pos h1, if_neg h3, if_pos h4]) d_MD_carry_174
    ·
      refine lv_aload_n (pc := 80) X.1 X.2.1 d_MD_carry_80 rfl (lv_at hl 1 rfl) ?_
      refine lv_iload_n (pc := 81) X.1 X.2.1 d_MD_carry_81 rfl (lv_at hl 0 rfl) ?_
      refine lv_aload_n (pc := 82) X.1 X.2.1 d_MD_carry_82 rfl (lv_at hl 1 rfl) ?_
      refine ab_gx (pc := 83) (v := .ref (q 2)) X hX 0 9 5 rfl rfl (Nat.le_of_ble_eq_true rfl) in_MD rfl tw_304 rfl d_MD_carry_83 ?_
      refine lv_iconst (pc := 86) (v := 5) X.1 X.2.1 d_MD_carry_86 (by decide) ?_
      refine ab_ald (pc := 87) (f := ((f_MD_nextWord u).2) 2) (j := 5) X hX 2 0 rfl rfl (ab_inc (by decide)) rfl d_MD_carry_87 ?_
      refine ab_kv_callV (pc := 88) (wr := []) (w := (wM t q)) (u := (stt ((f_MD_nextWord u).2) 0 24 (if 6 ≤ x1 then 13 else 16 : Int32))) (F := f_MD_write (stt ((f_MD_nextWord u).2) 0 24 (if 6 ≤ x1 then 13 else 16 : Int32)) ((f_MD_nextWord u).1) (((f_MD_nextWord u).2) 2 5)) (as := [.int ((f_MD_nextWord u).1), .int (((f_MD_nextWord u).2) 2 5)]) (rest := []) X hX (c_MD_write l D t q (stt ((f_MD_nextWord u).2) 0 24 (if 6 ≤ x1 then 13 else 16 : Int32)) ((f_MD_nextWord u).1) (((f_MD_nextWord u).2) 2 5)) ok_MD_write okv_MD_write tw_316 0 9 rfl rfl rfl hl.1 rfl (Nat.le_of_ble_eq_true rfl) ⟨rfl, rfl, Nat.le_of_ble_eq_true rfl, Nat.le_of_ble_eq_true rfl⟩ ⟨Nat.zero_le _, Nat.zero_le _⟩ d_MD_carry_88 (fun H locs hX => ?_)
      refine lv_aload_n (pc := 91) X.1 X.2.1 d_MD_carry_91 rfl (lv_at hl 1 rfl) ?_
      refine lv_iload_n (pc := 92) X.1 X.2.1 d_MD_carry_92 rfl (lv_at hl 0 rfl) ?_
      refine lv_iconst (pc := 93) (v := 1) X.1 X.2.1 d_MD_carry_93 (by decide) ?_
      refine lv_iadd (pc := 94) X.1 X.2.1 d_MD_carry_94 ?_
      refine lv_aload_n (pc := 95) X.1 X.2.1 d_MD_carry_95 rfl (lv_at hl 1 rfl) ?_
      refine ab_gx (pc := 96) (v := .ref (q 2)) X hX 0 9 5 rfl rfl (Nat.le_of_ble_eq_true rfl) in_MD rfl tw_304 rfl d_MD_carry_96 ?_
      refine lv_iconst (pc := 99) (v := 4) X.1 X.2.1 d_MD_carry_99 (by decide) ?_
      refine ab_ald (pc := 100) (f := (f_MD_write (stt ((f_MD_nextWord u).2) 0 24 (if 6 ≤ x1 then 13 else 16 : Int32)) ((f_MD_nextWord u).1) (((f_MD_nextWord u).2) 2 5)) 2) (j := 4) X hX 2 0 rfl rfl (ab_inc (by decide)) rfl d_MD_carry_100 ?_
      refine ab_kv_callV (pc := 101) (wr := []) (w := (wM t q)) (u := (f_MD_write (stt ((f_MD_nextWord u).2) 0 24 (if 6 ≤ x1 then 13 else 16 : Int32)) ((f_MD_nextWord u).1) (((f_MD_nextWord u).2) 2 5))) (F := f_MD_write (f_MD_write (stt ((f_MD_nextWord u).2) 0 24 (if 6 ≤ x1 then 13 else 16 : Int32)) ((f_MD_nextWord u).1) (((f_MD_nextWord u).2) 2 5)) (((f_MD_nextWord u).1) + 1) ((f_MD_write (stt ((f_MD_nextWord u).2) 0 24 (if 6 ≤ x1 then 13 else 16 : Int32)) ((f_MD_nextWord u).1) (((f_MD_nextWord u).2) 2 5)) 2 4)) (as := [.int (((f_MD_nextWord u).1) + 1), .int ((f_MD_write (stt ((f_MD_nextWord u).2) 0 24 (if 6 ≤ x1 then 13 else 16 : Int32)) ((f_MD_nextWord u).1) (((f_MD_nextWord u).2) 2 5)) 2 4)]) (rest := []) X hX (c_MD_write l D t q (f_MD_write (stt ((f_MD_nextWord u).2) 0 24 (if 6 ≤ x1 then 13 else 16 : Int32)) ((f_MD_nextWord u).1) (((f_MD_nextWord u).2) 2 5)) (((f_MD_nextWord u).1) + 1) ((f_MD_write (stt ((f_MD_nextWord u).2) 0 24 (if 6 ≤ x1 then 13 else 16 : Int32)) ((f_MD_nextWord u).1) (((f_MD_nextWord u).2) 2 5)) 2 4)) ok_MD_write okv_MD_write tw_316 0 9 rfl rfl rfl hl.1 rfl (Nat.le_of_ble_eq_true rfl) ⟨rfl, rfl, Nat.le_of_ble_eq_true rfl, Nat.le_of_ble_eq_true rfl⟩ ⟨Nat.zero_le _, Nat.zero_le _⟩ d_MD_carry_101 (fun H locs hX => ?_)
      refine lv_goto (pc := 104) (tgt := 174) X.1 X.2.1 d_MD_carry_104 (by decide) ?_
      exact ab_kv_ret (pc := 174) X hr hk hX (by rw [f_MD_carry, if_pos h1, if_pos h3]) d_MD_carry_174
  ·
    refine lv_aload_n (pc := 5) X.1 X.2.1 d_MD_carry_5 rfl (lv_at hl 0 rfl) ?_
    refine lv_bipush (pc := 6) (v := 7) X.1 X.2.1 d_MD_carry_6 (by decide) ?_
    refine ab_px (pc := 8) (ws' := (wM t q (stt u 0 24 7))) X hX 0 9 29 ty_MD ty_MD_ok nm_MD rfl rfl (Nat.le_of_ble_eq_true rfl) in_MD rfl tw_351 rfl rfl rfl rfl (Nat.le_of_ble_eq_true rfl) (sf_wM_0_29 t q u 7) d_MD_carry_8 (fun H locs hX => ?_)
    refine lv_aload_n (pc := 11) X.1 X.2.1 d_MD_carry_11 rfl (lv_at hl 0 rfl) ?_
    refine lv_iload_n (pc := 12) X.1 X.2.1 d_MD_carry_12 rfl (lv_at hl 1 rfl) ?_
    refine lv_iconst (pc := 13) (v := 2) X.1 X.2.1 d_MD_carry_13 (by decide) ?_
    refine lv_idiv (pc := 14) X.1 X.2.1 d_MD_carry_14 (by decide) ?_
    refine ab_kr_callV (pc := 15) (wr := []) (w := (wM t q)) (u := (stt u 0 24 7)) (r := f_MD_pair (stt u 0 24 7) (x1 / 2)) (as := [.int (x1 / 2)]) (rest := []) X hX (c_MD_pair l D t q (stt u 0 24 7) (x1 / 2) (ab_half p1)) ok_MD_pair okv_MD_pair tw_312 0 9 rfl rfl rfl hl.1 rfl (Nat.le_of_ble_eq_true rfl) ⟨rfl, rfl, Nat.le_of_ble_eq_true rfl, Nat.le_of_ble_eq_true rfl⟩ ⟨Nat.zero_le _, Nat.zero_le _⟩ d_MD_carry_15 (fun H locs hX => ?_)
    refine lv_istore_n (pc := 18) (lv' := [(2, .int (f_MD_pair (stt u 0 24 7) (x1 / 2))), (0, .ref (q 0)), (1, .int x1)]) X.1 X.2.1 d_MD_carry_18 rfl hl (Nat.le_of_ble_eq_true rfl) rfl (fun ls hl => ?_)
    refine lv_iload_n (pc := 19) X.1 X.2.1 d_MD_carry_19 rfl (lv_at hl 2 rfl) ?_
    refine lv_iconst (pc := 20) (v := 2) X.1 X.2.1 d_MD_carry_20 (by decide) ?_
    refine lv_irem (pc := 21) X.1 X.2.1 d_MD_carry_21 (by decide) ?_
    refine lv_if_ne (pc := 22) (tgt := 40) X.1 X.2.1 d_MD_carry_22 (by decide) (fun h6 => ?_) (fun h6 => ?_)
    ·
      refine lv_aload_n (pc := 40) X.1 X.2.1 d_MD_carry_40 rfl (lv_at hl 1 rfl) ?_
      refine ab_gx (pc := 41) (v := .ref (q 2)) X hX 0 9 5 rfl rfl (Nat.le_of_ble_eq_true rfl) in_MD rfl tw_304 rfl d_MD_carry_41 ?_
      refine lv_bipush (pc := 44) (v := 7) X.1 X.2.1 d_MD_carry_44 (by decide) ?_
      refine lv_aload_n (pc := 46) X.1 X.2.1 d_MD_carry_46 rfl (lv_at hl 1 rfl) ?_
      refine lv_iload_n (pc := 47) X.1 X.2.1 d_MD_carry_47 rfl (lv_at hl 0 rfl) ?_
      refine ab_kr_callV (pc := 48) (wr := []) (w := (wM t q)) (u := (stt u 0 24 7)) (r := f_MD_read (stt u 0 24 7) (f_MD_pair (stt u 0 24 7) (x1 / 2))) (as := [.int (f_MD_pair (stt u 0 24 7) (x1 / 2))]) (rest := [.int 7, .ref (q 2)]) X hX (c_MD_read l D t q (stt u 0 24 7) (f_MD_pair (stt u 0 24 7) (x1 / 2))) ok_MD_read okv_MD_read tw_295 0 9 rfl rfl rfl hl.1 rfl (Nat.le_of_ble_eq_true rfl) ⟨rfl, rfl, Nat.le_of_ble_eq_true rfl, Nat.le_of_ble_eq_true rfl⟩ ⟨Nat.zero_le _, Nat.zero_le _⟩ d_MD_carry_48 (fun H locs hX => ?_)
      refine ab_ast (pc := 51) (f := (stt u 0 24 7) 2) (j := 7) (ws' := (wM t q (stt (stt u 0 24 7) 2 7 (f_MD_read (stt u 0 24 7) (f_MD_pair (stt u 0 24 7) (x1 / 2)))))) X hX 2 0 rfl rfl (ab_inc (by decide)) rfl (sa_wM_2 t q (stt u 0 24 7) 7 (f_MD_read (stt u 0 24 7) (f_MD_pair (stt u 0 24 7) (x1 / 2)))) d_MD_carry_51 (fun H locs hX => ?_)
      exact ab_kv_ret (pc := 52) X hr hk hX (by rw [f_MD_carry, if_neg h1, if_neg h6]) d_MD_carry_52
    ·
      refine lv_aload_n (pc := 25) X.1 X.2.1 d_MD_carry_25 rfl (lv_at hl 1 rfl) ?_
      refine lv_iload_n (pc := 26) X.1 X.2.1 d_MD_carry_26 rfl (lv_at hl 0 rfl) ?_
      refine lv_aload_n (pc := 27) X.1 X.2.1 d_MD_carry_27 rfl (lv_at hl 1 rfl) ?_
      refine ab_gx (pc := 28) (v := .ref (q 2)) X hX 0 9 5 rfl rfl (Nat.le_of_ble_eq_true rfl) in_MD rfl tw_304 rfl d_MD_carry_28 ?_
      refine lv_bipush (pc := 31) (v := 7) X.1 X.2.1 d_MD_carry_31 (by decide) ?_
      refine ab_ald (pc := 33) (f := u 2) (j := 7) X hX 2 0 rfl rfl (ab_inc (by decide)) rfl d_MD_carry_33 ?_
      refine ab_kv_callV (pc := 34) (wr := []) (w := (wM t q)) (u := (stt u 0 24 7)) (F := f_MD_write (stt u 0 24 7) (f_MD_pair (stt u 0 24 7) (x1 / 2)) (u 2 7)) (as := [.int (f_MD_pair (stt u 0 24 7) (x1 / 2)), .int (u 2 7)]) (rest := []) X hX (c_MD_write l D t q (stt u 0 24 7) (f_MD_pair (stt u 0 24 7) (x1 / 2)) (u 2 7)) ok_MD_write okv_MD_write tw_316 0 9 rfl rfl rfl hl.1 rfl (Nat.le_of_ble_eq_true rfl) ⟨rfl, rfl, Nat.le_of_ble_eq_true rfl, Nat.le_of_ble_eq_true rfl⟩ ⟨Nat.zero_le _, Nat.zero_le _⟩ d_MD_carry_34 (fun H locs hX => ?_)
      refine lv_goto (pc := 37) (tgt := 52) X.1 X.2.1 d_MD_carry_37 (by decide) ?_
      exact ab_kv_ret (pc := 52) X hr hk hX (by rw [f_MD_carry, if_neg h1, if_pos h6]) d_MD_carry_52
