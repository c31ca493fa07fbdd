abbrev b_MD_restore : ByteArray := prog_11_method_42_code
def y_MD_restore : MethodName := ⟨"ArcadeBoardModel", "restore", "(I)Z"⟩
theorem d_MD_restore_0 : decode b_MD_restore 0 = .ok (.iload_n 1, 1) := by decide +kernel
theorem d_MD_restore_1 : decode b_MD_restore 1 = .ok (.ifCond .eq 8, 3) := by decide +kernel
theorem d_MD_restore_4 : decode b_MD_restore 4 = .ok (.iload_n 1, 1) := by decide +kernel
theorem d_MD_restore_5 : decode b_MD_restore 5 = .ok (.iconst 1, 1) := by decide +kernel
theorem d_MD_restore_6 : decode b_MD_restore 6 = .ok (.if_icmp .ne 7, 3) := by decide +kernel
theorem d_MD_restore_9 : decode b_MD_restore 9 = .ok (.iconst 1, 1) := by decide +kernel
theorem d_MD_restore_10 : decode b_MD_restore 10 = .ok (.goto 4, 3) := by decide +kernel
theorem d_MD_restore_13 : decode b_MD_restore 13 = .ok (.iconst 0, 1) := by decide +kernel
theorem d_MD_restore_14 : decode b_MD_restore 14 = .ok (.istore_n 2, 1) := by decide +kernel
theorem d_MD_restore_15 : decode b_MD_restore 15 = .ok (.aload_n 0, 1) := by decide +kernel
theorem d_MD_restore_16 : decode b_MD_restore 16 = .ok (.iload_n 2, 1) := by decide +kernel
theorem d_MD_restore_17 : decode b_MD_restore 17 = .ok (.ifCond .ne 7, 3) := by decide +kernel
theorem d_MD_restore_20 : decode b_MD_restore 20 = .ok (.iconst 1, 1) := by decide +kernel
theorem d_MD_restore_21 : decode b_MD_restore 21 = .ok (.goto 17, 3) := by decide +kernel
theorem d_MD_restore_24 : decode b_MD_restore 24 = .ok (.aload_n 0, 1) := by decide +kernel
theorem d_MD_restore_25 : decode b_MD_restore 25 = .ok (.getfield 19, 3) := by decide +kernel
theorem d_MD_restore_28 : decode b_MD_restore 28 = .ok (.iload_n 1, 1) := by decide +kernel
theorem d_MD_restore_29 : decode b_MD_restore 29 = .ok (.baload, 1) := by decide +kernel
theorem d_MD_restore_30 : decode b_MD_restore 30 = .ok (.ifCond .ne 7, 3) := by decide +kernel
theorem d_MD_restore_33 : decode b_MD_restore 33 = .ok (.iconst 2, 1) := by decide +kernel
theorem d_MD_restore_34 : decode b_MD_restore 34 = .ok (.goto 4, 3) := by decide +kernel
theorem d_MD_restore_37 : decode b_MD_restore 37 = .ok (.iconst 0, 1) := by decide +kernel
theorem d_MD_restore_38 : decode b_MD_restore 38 = .ok (.putfield 26, 3) := by decide +kernel
theorem d_MD_restore_41 : decode b_MD_restore 41 = .ok (.aload_n 0, 1) := by decide +kernel
theorem d_MD_restore_42 : decode b_MD_restore 42 = .ok (.getfield 26, 3) := by decide +kernel
theorem d_MD_restore_45 : decode b_MD_restore 45 = .ok (.ifCond .le 5, 3) := by decide +kernel
theorem d_MD_restore_48 : decode b_MD_restore 48 = .ok (.iconst 0, 1) := by decide +kernel
theorem d_MD_restore_49 : decode b_MD_restore 49 = .ok (.ireturn, 1) := by decide +kernel
theorem d_MD_restore_50 : decode b_MD_restore 50 = .ok (.sipush 540, 3) := by decide +kernel
theorem d_MD_restore_53 : decode b_MD_restore 53 = .ok (.iload_n 1, 1) := by decide +kernel
theorem d_MD_restore_54 : decode b_MD_restore 54 = .ok (.imul, 1) := by decide +kernel
theorem d_MD_restore_55 : decode b_MD_restore 55 = .ok (.istore_n 3, 1) := by decide +kernel
theorem d_MD_restore_56 : decode b_MD_restore 56 = .ok (.iconst 0, 1) := by decide +kernel
theorem d_MD_restore_57 : decode b_MD_restore 57 = .ok (.istore 4, 2) := by decide +kernel
theorem d_MD_restore_59 : decode b_MD_restore 59 = .ok (.iload 4, 2) := by decide +kernel
theorem d_MD_restore_61 : decode b_MD_restore 61 = .ok (.bipush 8, 2) := by decide +kernel
theorem d_MD_restore_63 : decode b_MD_restore 63 = .ok (.if_icmp .ge 25, 3) := by decide +kernel
theorem d_MD_restore_66 : decode b_MD_restore 66 = .ok (.aload_n 0, 1) := by decide +kernel
theorem d_MD_restore_67 : decode b_MD_restore 67 = .ok (.getfield 13, 3) := by decide +kernel
theorem d_MD_restore_70 : decode b_MD_restore 70 = .ok (.iload 4, 2) := by decide +kernel
theorem d_MD_restore_72 : decode b_MD_restore 72 = .ok (.aload_n 0, 1) := by decide +kernel
theorem d_MD_restore_73 : decode b_MD_restore 73 = .ok (.getfield 23, 3) := by decide +kernel
theorem d_MD_restore_76 : decode b_MD_restore 76 = .ok (.iload_n 3, 1) := by decide +kernel
theorem d_MD_restore_77 : decode b_MD_restore 77 = .ok (.iload 4, 2) := by decide +kernel
theorem d_MD_restore_79 : decode b_MD_restore 79 = .ok (.iadd, 1) := by decide +kernel
theorem d_MD_restore_80 : decode b_MD_restore 80 = .ok (.iaload, 1) := by decide +kernel
theorem d_MD_restore_81 : decode b_MD_restore 81 = .ok (.iastore, 1) := by decide +kernel
theorem d_MD_restore_82 : decode b_MD_restore 82 = .ok (.iinc 4 1, 3) := by decide +kernel
theorem d_MD_restore_85 : decode b_MD_restore 85 = .ok (.goto (-26), 3) := by decide +kernel
theorem d_MD_restore_88 : decode b_MD_restore 88 = .ok (.aload_n 0, 1) := by decide +kernel
theorem d_MD_restore_89 : decode b_MD_restore 89 = .ok (.aload_n 0, 1) := by decide +kernel
theorem d_MD_restore_90 : decode b_MD_restore 90 = .ok (.getfield 23, 3) := by decide +kernel
theorem d_MD_restore_93 : decode b_MD_restore 93 = .ok (.iload_n 3, 1) := by decide +kernel
theorem d_MD_restore_94 : decode b_MD_restore 94 = .ok (.bipush 8, 2) := by decide +kernel
theorem d_MD_restore_96 : decode b_MD_restore 96 = .ok (.iadd, 1) := by decide +kernel
theorem d_MD_restore_97 : decode b_MD_restore 97 = .ok (.iaload, 1) := by decide +kernel
theorem d_MD_restore_98 : decode b_MD_restore 98 = .ok (.invokevirtual 115, 3) := by decide +kernel
theorem d_MD_restore_101 : decode b_MD_restore 101 = .ok (.aload_n 0, 1) := by decide +kernel
theorem d_MD_restore_102 : decode b_MD_restore 102 = .ok (.aload_n 0, 1) := by decide +kernel
theorem d_MD_restore_103 : decode b_MD_restore 103 = .ok (.getfield 23, 3) := by decide +kernel
theorem d_MD_restore_106 : decode b_MD_restore 106 = .ok (.iload_n 3, 1) := by decide +kernel
theorem d_MD_restore_107 : decode b_MD_restore 107 = .ok (.bipush 9, 2) := by decide +kernel
theorem d_MD_restore_109 : decode b_MD_restore 109 = .ok (.iadd, 1) := by decide +kernel
theorem d_MD_restore_110 : decode b_MD_restore 110 = .ok (.iaload, 1) := by decide +kernel
theorem d_MD_restore_111 : decode b_MD_restore 111 = .ok (.putfield 42, 3) := by decide +kernel
theorem d_MD_restore_114 : decode b_MD_restore 114 = .ok (.aload_n 0, 1) := by decide +kernel
theorem d_MD_restore_115 : decode b_MD_restore 115 = .ok (.aload_n 0, 1) := by decide +kernel
theorem d_MD_restore_116 : decode b_MD_restore 116 = .ok (.getfield 23, 3) := by decide +kernel
theorem d_MD_restore_119 : decode b_MD_restore 119 = .ok (.iload_n 3, 1) := by decide +kernel
theorem d_MD_restore_120 : decode b_MD_restore 120 = .ok (.bipush 10, 2) := by decide +kernel
theorem d_MD_restore_122 : decode b_MD_restore 122 = .ok (.iadd, 1) := by decide +kernel
theorem d_MD_restore_123 : decode b_MD_restore 123 = .ok (.iaload, 1) := by decide +kernel
theorem d_MD_restore_124 : decode b_MD_restore 124 = .ok (.putfield 30, 3) := by decide +kernel
theorem d_MD_restore_127 : decode b_MD_restore 127 = .ok (.aload_n 0, 1) := by decide +kernel
theorem d_MD_restore_128 : decode b_MD_restore 128 = .ok (.aload_n 0, 1) := by decide +kernel
theorem d_MD_restore_129 : decode b_MD_restore 129 = .ok (.getfield 23, 3) := by decide +kernel
theorem d_MD_restore_132 : decode b_MD_restore 132 = .ok (.iload_n 3, 1) := by decide +kernel
theorem d_MD_restore_133 : decode b_MD_restore 133 = .ok (.bipush 11, 2) := by decide +kernel
theorem d_MD_restore_135 : decode b_MD_restore 135 = .ok (.iadd, 1) := by decide +kernel
theorem d_MD_restore_136 : decode b_MD_restore 136 = .ok (.iaload, 1) := by decide +kernel
theorem d_MD_restore_137 : decode b_MD_restore 137 = .ok (.iconst 1, 1) := by decide +kernel
theorem d_MD_restore_138 : decode b_MD_restore 138 = .ok (.if_icmp .ne 7, 3) := by decide +kernel
theorem d_MD_restore_141 : decode b_MD_restore 141 = .ok (.iconst 1, 1) := by decide +kernel
theorem d_MD_restore_142 : decode b_MD_restore 142 = .ok (.goto 4, 3) := by decide +kernel
theorem d_MD_restore_145 : decode b_MD_restore 145 = .ok (.iconst 0, 1) := by decide +kernel
theorem d_MD_restore_146 : decode b_MD_restore 146 = .ok (.putfield 124, 3) := by decide +kernel
theorem d_MD_restore_149 : decode b_MD_restore 149 = .ok (.aload_n 0, 1) := by decide +kernel
theorem d_MD_restore_150 : decode b_MD_restore 150 = .ok (.aload_n 0, 1) := by decide +kernel
theorem d_MD_restore_151 : decode b_MD_restore 151 = .ok (.getfield 23, 3) := by decide +kernel
theorem d_MD_restore_154 : decode b_MD_restore 154 = .ok (.iload_n 3, 1) := by decide +kernel
theorem d_MD_restore_155 : decode b_MD_restore 155 = .ok (.bipush 12, 2) := by decide +kernel
theorem d_MD_restore_157 : decode b_MD_restore 157 = .ok (.iadd, 1) := by decide +kernel
theorem d_MD_restore_158 : decode b_MD_restore 158 = .ok (.iaload, 1) := by decide +kernel
theorem d_MD_restore_159 : decode b_MD_restore 159 = .ok (.iconst 1, 1) := by decide +kernel
theorem d_MD_restore_160 : decode b_MD_restore 160 = .ok (.if_icmp .ne 7, 3) := by decide +kernel
theorem d_MD_restore_163 : decode b_MD_restore 163 = .ok (.iconst 1, 1) := by decide +kernel
theorem d_MD_restore_164 : decode b_MD_restore 164 = .ok (.goto 4, 3) := by decide +kernel
theorem d_MD_restore_167 : decode b_MD_restore 167 = .ok (.iconst 0, 1) := by decide +kernel
theorem d_MD_restore_168 : decode b_MD_restore 168 = .ok (.putfield 157, 3) := by decide +kernel
theorem d_MD_restore_171 : decode b_MD_restore 171 = .ok (.aload_n 0, 1) := by decide +kernel
theorem d_MD_restore_172 : decode b_MD_restore 172 = .ok (.aload_n 0, 1) := by decide +kernel
theorem d_MD_restore_173 : decode b_MD_restore 173 = .ok (.getfield 23, 3) := by decide +kernel
theorem d_MD_restore_176 : decode b_MD_restore 176 = .ok (.iload_n 3, 1) := by decide +kernel
theorem d_MD_restore_177 : decode b_MD_restore 177 = .ok (.bipush 13, 2) := by decide +kernel
theorem d_MD_restore_179 : decode b_MD_restore 179 = .ok (.iadd, 1) := by decide +kernel
theorem d_MD_restore_180 : decode b_MD_restore 180 = .ok (.iaload, 1) := by decide +kernel
theorem d_MD_restore_181 : decode b_MD_restore 181 = .ok (.putfield 160, 3) := by decide +kernel
theorem d_MD_restore_184 : decode b_MD_restore 184 = .ok (.aload_n 0, 1) := by decide +kernel
theorem d_MD_restore_185 : decode b_MD_restore 185 = .ok (.aload_n 0, 1) := by decide +kernel
theorem d_MD_restore_186 : decode b_MD_restore 186 = .ok (.getfield 23, 3) := by decide +kernel
theorem d_MD_restore_189 : decode b_MD_restore 189 = .ok (.iload_n 3, 1) := by decide +kernel
theorem d_MD_restore_190 : decode b_MD_restore 190 = .ok (.bipush 14, 2) := by decide +kernel
theorem d_MD_restore_192 : decode b_MD_restore 192 = .ok (.iadd, 1) := by decide +kernel
theorem d_MD_restore_193 : decode b_MD_restore 193 = .ok (.iaload, 1) := by decide +kernel
theorem d_MD_restore_194 : decode b_MD_restore 194 = .ok (.putfield 139, 3) := by decide +kernel
theorem d_MD_restore_197 : decode b_MD_restore 197 = .ok (.aload_n 0, 1) := by decide +kernel
theorem d_MD_restore_198 : decode b_MD_restore 198 = .ok (.aload_n 0, 1) := by decide +kernel
theorem d_MD_restore_199 : decode b_MD_restore 199 = .ok (.getfield 23, 3) := by decide +kernel
theorem d_MD_restore_202 : decode b_MD_restore 202 = .ok (.iload_n 3, 1) := by decide +kernel
theorem d_MD_restore_203 : decode b_MD_restore 203 = .ok (.bipush 15, 2) := by decide +kernel
theorem d_MD_restore_205 : decode b_MD_restore 205 = .ok (.iadd, 1) := by decide +kernel
theorem d_MD_restore_206 : decode b_MD_restore 206 = .ok (.iaload, 1) := by decide +kernel
theorem d_MD_restore_207 : decode b_MD_restore 207 = .ok (.putfield 142, 3) := by decide +kernel
theorem d_MD_restore_210 : decode b_MD_restore 210 = .ok (.aload_n 0, 1) := by decide +kernel
theorem d_MD_restore_211 : decode b_MD_restore 211 = .ok (.aload_n 0, 1) := by decide +kernel
theorem d_MD_restore_212 : decode b_MD_restore 212 = .ok (.getfield 23, 3) := by decide +kernel
theorem d_MD_restore_215 : decode b_MD_restore 215 = .ok (.iload_n 3, 1) := by decide +kernel
theorem d_MD_restore_216 : decode b_MD_restore 216 = .ok (.bipush 16, 2) := by decide +kernel
theorem d_MD_restore_218 : decode b_MD_restore 218 = .ok (.iadd, 1) := by decide +kernel
theorem d_MD_restore_219 : decode b_MD_restore 219 = .ok (.iaload, 1) := by decide +kernel
theorem d_MD_restore_220 : decode b_MD_restore 220 = .ok (.putfield 145, 3) := by decide +kernel
theorem d_MD_restore_223 : decode b_MD_restore 223 = .ok (.aload_n 0, 1) := by decide +kernel
theorem d_MD_restore_224 : decode b_MD_restore 224 = .ok (.aload_n 0, 1) := by decide +kernel
theorem d_MD_restore_225 : decode b_MD_restore 225 = .ok (.getfield 23, 3) := by decide +kernel
theorem d_MD_restore_228 : decode b_MD_restore 228 = .ok (.iload_n 3, 1) := by decide +kernel
theorem d_MD_restore_229 : decode b_MD_restore 229 = .ok (.bipush 17, 2) := by decide +kernel
theorem d_MD_restore_231 : decode b_MD_restore 231 = .ok (.iadd, 1) := by decide +kernel
theorem d_MD_restore_232 : decode b_MD_restore 232 = .ok (.iaload, 1) := by decide +kernel
theorem d_MD_restore_233 : decode b_MD_restore 233 = .ok (.putfield 166, 3) := by decide +kernel
theorem d_MD_restore_236 : decode b_MD_restore 236 = .ok (.aload_n 0, 1) := by decide +kernel
theorem d_MD_restore_237 : decode b_MD_restore 237 = .ok (.aload_n 0, 1) := by decide +kernel
theorem d_MD_restore_238 : decode b_MD_restore 238 = .ok (.getfield 23, 3) := by decide +kernel
theorem d_MD_restore_241 : decode b_MD_restore 241 = .ok (.iload_n 3, 1) := by decide +kernel
theorem d_MD_restore_242 : decode b_MD_restore 242 = .ok (.bipush 18, 2) := by decide +kernel
theorem d_MD_restore_244 : decode b_MD_restore 244 = .ok (.iadd, 1) := by decide +kernel
theorem d_MD_restore_245 : decode b_MD_restore 245 = .ok (.iaload, 1) := by decide +kernel
theorem d_MD_restore_246 : decode b_MD_restore 246 = .ok (.putfield 169, 3) := by decide +kernel
theorem d_MD_restore_249 : decode b_MD_restore 249 = .ok (.aload_n 0, 1) := by decide +kernel
theorem d_MD_restore_250 : decode b_MD_restore 250 = .ok (.aload_n 0, 1) := by decide +kernel
theorem d_MD_restore_251 : decode b_MD_restore 251 = .ok (.getfield 23, 3) := by decide +kernel
theorem d_MD_restore_254 : decode b_MD_restore 254 = .ok (.iload_n 3, 1) := by decide +kernel
theorem d_MD_restore_255 : decode b_MD_restore 255 = .ok (.bipush 19, 2) := by decide +kernel
theorem d_MD_restore_257 : decode b_MD_restore 257 = .ok (.iadd, 1) := by decide +kernel
theorem d_MD_restore_258 : decode b_MD_restore 258 = .ok (.iaload, 1) := by decide +kernel
theorem d_MD_restore_259 : decode b_MD_restore 259 = .ok (.putfield 136, 3) := by decide +kernel
theorem d_MD_restore_262 : decode b_MD_restore 262 = .ok (.aload_n 0, 1) := by decide +kernel
theorem d_MD_restore_263 : decode b_MD_restore 263 = .ok (.aload_n 0, 1) := by decide +kernel
theorem d_MD_restore_264 : decode b_MD_restore 264 = .ok (.getfield 23, 3) := by decide +kernel
theorem d_MD_restore_267 : decode b_MD_restore 267 = .ok (.iload_n 3, 1) := by decide +kernel
theorem d_MD_restore_268 : decode b_MD_restore 268 = .ok (.bipush 20, 2) := by decide +kernel
theorem d_MD_restore_270 : decode b_MD_restore 270 = .ok (.iadd, 1) := by decide +kernel
theorem d_MD_restore_271 : decode b_MD_restore 271 = .ok (.iaload, 1) := by decide +kernel
theorem d_MD_restore_272 : decode b_MD_restore 272 = .ok (.putfield 148, 3) := by decide +kernel
theorem d_MD_restore_275 : decode b_MD_restore 275 = .ok (.aload_n 0, 1) := by decide +kernel
theorem d_MD_restore_276 : decode b_MD_restore 276 = .ok (.aload_n 0, 1) := by decide +kernel
theorem d_MD_restore_277 : decode b_MD_restore 277 = .ok (.getfield 23, 3) := by decide +kernel
theorem d_MD_restore_280 : decode b_MD_restore 280 = .ok (.iload_n 3, 1) := by decide +kernel
theorem d_MD_restore_281 : decode b_MD_restore 281 = .ok (.bipush 21, 2) := by decide +kernel
theorem d_MD_restore_283 : decode b_MD_restore 283 = .ok (.iadd, 1) := by decide +kernel
theorem d_MD_restore_284 : decode b_MD_restore 284 = .ok (.iaload, 1) := by decide +kernel
theorem d_MD_restore_285 : decode b_MD_restore 285 = .ok (.putfield 151, 3) := by decide +kernel
theorem d_MD_restore_288 : decode b_MD_restore 288 = .ok (.aload_n 0, 1) := by decide +kernel
theorem d_MD_restore_289 : decode b_MD_restore 289 = .ok (.aload_n 0, 1) := by decide +kernel
theorem d_MD_restore_290 : decode b_MD_restore 290 = .ok (.getfield 23, 3) := by decide +kernel
theorem d_MD_restore_293 : decode b_MD_restore 293 = .ok (.iload_n 3, 1) := by decide +kernel
theorem d_MD_restore_294 : decode b_MD_restore 294 = .ok (.bipush 22, 2) := by decide +kernel
theorem d_MD_restore_296 : decode b_MD_restore 296 = .ok (.iadd, 1) := by decide +kernel
theorem d_MD_restore_297 : decode b_MD_restore 297 = .ok (.iaload, 1) := by decide +kernel
theorem d_MD_restore_298 : decode b_MD_restore 298 = .ok (.iconst 1, 1) := by decide +kernel
theorem d_MD_restore_299 : decode b_MD_restore 299 = .ok (.if_icmp .ne 7, 3) := by decide +kernel
theorem d_MD_restore_302 : decode b_MD_restore 302 = .ok (.iconst 1, 1) := by decide +kernel
theorem d_MD_restore_303 : decode b_MD_restore 303 = .ok (.goto 4, 3) := by decide +kernel
theorem d_MD_restore_306 : decode b_MD_restore 306 = .ok (.iconst 0, 1) := by decide +kernel
theorem d_MD_restore_307 : decode b_MD_restore 307 = .ok (.putfield 127, 3) := by decide +kernel
theorem d_MD_restore_310 : decode b_MD_restore 310 = .ok (.iconst 0, 1) := by decide +kernel
theorem d_MD_restore_311 : decode b_MD_restore 311 = .ok (.istore 4, 2) := by decide +kernel
theorem d_MD_restore_313 : decode b_MD_restore 313 = .ok (.iload 4, 2) := by decide +kernel
theorem d_MD_restore_315 : decode b_MD_restore 315 = .ok (.sipush 512, 3) := by decide +kernel
theorem d_MD_restore_318 : decode b_MD_restore 318 = .ok (.if_icmp .ge 32, 3) := by decide +kernel
theorem d_MD_restore_321 : decode b_MD_restore 321 = .ok (.aload_n 0, 1) := by decide +kernel
theorem d_MD_restore_322 : decode b_MD_restore 322 = .ok (.getfield 7, 3) := by decide +kernel
theorem d_MD_restore_325 : decode b_MD_restore 325 = .ok (.sipush 512, 3) := by decide +kernel
theorem d_MD_restore_328 : decode b_MD_restore 328 = .ok (.iload 4, 2) := by decide +kernel
theorem d_MD_restore_330 : decode b_MD_restore 330 = .ok (.iadd, 1) := by decide +kernel
theorem d_MD_restore_331 : decode b_MD_restore 331 = .ok (.aload_n 0, 1) := by decide +kernel
theorem d_MD_restore_332 : decode b_MD_restore 332 = .ok (.getfield 23, 3) := by decide +kernel
theorem d_MD_restore_335 : decode b_MD_restore 335 = .ok (.iload_n 3, 1) := by decide +kernel
theorem d_MD_restore_336 : decode b_MD_restore 336 = .ok (.bipush 23, 2) := by decide +kernel
theorem d_MD_restore_338 : decode b_MD_restore 338 = .ok (.iadd, 1) := by decide +kernel
theorem d_MD_restore_339 : decode b_MD_restore 339 = .ok (.iload 4, 2) := by decide +kernel
theorem d_MD_restore_341 : decode b_MD_restore 341 = .ok (.iadd, 1) := by decide +kernel
theorem d_MD_restore_342 : decode b_MD_restore 342 = .ok (.iaload, 1) := by decide +kernel
theorem d_MD_restore_343 : decode b_MD_restore 343 = .ok (.iastore, 1) := by decide +kernel
theorem d_MD_restore_344 : decode b_MD_restore 344 = .ok (.iinc 4 1, 3) := by decide +kernel
theorem d_MD_restore_347 : decode b_MD_restore 347 = .ok (.goto (-34), 3) := by decide +kernel
theorem d_MD_restore_350 : decode b_MD_restore 350 = .ok (.iconst 1, 1) := by decide +kernel
theorem d_MD_restore_351 : decode b_MD_restore 351 = .ok (.ireturn, 1) := by decide +kernel
theorem tw_459 : Jvm.Cond.code ⟨"ArcadeBoardModel", "restore", "(I)Z"⟩ prog_11_method_42_code 5 (Option.some Jvm.ClassFile.FieldType.boolean) ∈ AL := ab_in (ab_t4 (List.mem_of_getElem? (i := 194) (by decide +kernel))) rfl
theorem tw_460 : Jvm.Cond.instanceMethod ⟨"ArcadeBoardModel", "restore", "(I)Z"⟩ ∈ AL := ab_in (ab_t4 (List.mem_of_getElem? (i := 192) (by decide +kernel))) rfl
theorem tw_461 : Jvm.Cond.selects "ArcadeBoardModel" ⟨"ArcadeBoardModel", "restore", "(I)Z"⟩ ⟨"ArcadeBoardModel", "restore", "(I)Z"⟩ ∈ AL := ab_in (ab_t4 (List.mem_of_getElem? (i := 193) (by decide +kernel))) rfl
theorem ok_MD_restore : ab_yok y_MD_restore b_MD_restore 5 (some .boolean) 1 := ⟨tw_459, tw_280, by decide, by decide, by decide +kernel⟩
theorem okv_MD_restore : ab_yok_V y_MD_restore := ⟨tw_460, tw_461⟩
set_option maxHeartbeats 1000000 in
set_option maxRecDepth 100000 in
theorem k_MD_restore_313 {p : Program} {l : Launch} {e : Env} {s : State} {m : MethodId} {args : Array Value} {below : List Frame} {meth : Method} {c : Code} {A : Nat → Prop} {D : va_G} {t : Nat → ClassId} {q : Nat → Nat} (X : ab_cx p s m args c b_MD_restore 5 y_MD_restore.cls D (tyC t)) (hr : meth.sig.returnType = some .boolean) (hk : meth.locks = false) (k : Nat) (u : SS) (v3 : Int32) (v4 : Int32) (j : Nat) (hi : v4 = nI j) (hj : j ≤ 512) (hf : 512 < j + k) (ha : ab_540 v3) {H : Heap} {locs : List Loc} {ls : Array Slot} (hX : ab_hx D (wM t q u) A s.heap H locs) (hl : lv_has ls 5 [(0, .ref (q 0)), (3, .int v3), (4, .int v4)]) :
    W p l e { frames := 1, cells := 0, slots := 0, locals := 21 } s m args below meth c H locs 0 0 (ab_ki_E below args s D (tyC t) (wM t q) A (g_MD_restore_313 k u v3 v4)) (F0 m 313 ls []) := by
  induction k generalizing u v3 v4 j H locs ls with
  | zero => exact absurd hf (by omega)
  | succ k ih =>
    refine lv_iload (pc := 313) X.1 X.2.1 d_MD_restore_313 (lv_at hl 2 rfl) ?_
    refine lv_sipush (pc := 315) (v := 512) X.1 X.2.1 d_MD_restore_315 (by decide) ?_
    refine lv_icmp_ge (pc := 318) (tgt := 350) X.1 X.2.1 d_MD_restore_318 (by decide) (fun h10 => ?_) (fun h10 => ?_)
    ·
      refine lv_iconst (pc := 350) (v := 1) X.1 X.2.1 d_MD_restore_350 (by decide) ?_
      exact ab_ki_ret (pc := 351) X hr hk hX rfl (by rw [g_MD_restore_313, if_pos h10]) d_MD_restore_351
    ·
      refine lv_aload_n (pc := 321) X.1 X.2.1 d_MD_restore_321 rfl (lv_at hl 0 rfl) ?_
      refine ab_gx (pc := 322) (v := .ref (q 1)) X hX 0 9 1 rfl rfl (Nat.le_of_ble_eq_true rfl) in_MD rfl tw_287 rfl d_MD_restore_322 ?_
      refine lv_sipush (pc := 325) (v := 512) X.1 X.2.1 d_MD_restore_325 (by decide) ?_
      refine lv_iload (pc := 328) X.1 X.2.1 d_MD_restore_328 (lv_at hl 2 rfl) ?_
      refine lv_iadd (pc := 330) X.1 X.2.1 d_MD_restore_330 ?_
      refine lv_aload_n (pc := 331) X.1 X.2.1 d_MD_restore_331 rfl (lv_at hl 0 rfl) ?_
      refine ab_gx (pc := 332) (v := .ref (q 5)) X hX 0 9 28 rfl rfl (Nat.le_of_ble_eq_true rfl) in_MD rfl tw_458 rfl d_MD_restore_332 ?_
      refine lv_iload_n (pc := 335) X.1 X.2.1 d_MD_restore_335 rfl (lv_at hl 1 rfl) ?_
      refine lv_bipush (pc := 336) (v := 23) X.1 X.2.1 d_MD_restore_336 (by decide) ?_
      refine lv_iadd (pc := 338) X.1 X.2.1 d_MD_restore_338 ?_
      refine lv_iload (pc := 339) X.1 X.2.1 d_MD_restore_339 (lv_at hl 2 rfl) ?_
      refine lv_iadd (pc := 341) X.1 X.2.1 d_MD_restore_341 ?_
      refine ab_ald (pc := 342) (f := u 5) (j := ((v3 + 23) + v4).toNatClampNeg) X hX 5 0 rfl rfl (ab_kp23 ha h10 hi hj) rfl d_MD_restore_342 ?_
      refine ab_ast (pc := 343) (f := u 1) (j := (512 + v4).toNatClampNeg) (ws' := (wM t q (stt u 1 ((512 + v4).toNatClampNeg) (u 5 (((v3 + 23) + v4).toNatClampNeg))))) X hX 1 0 rfl rfl (ab_512 h10 hi hj) rfl (sa_wM_1 t q u ((512 + v4).toNatClampNeg) (u 5 (((v3 + 23) + v4).toNatClampNeg))) d_MD_restore_343 (fun H locs hX => ?_)
      refine lv_iinc (pc := 344) (k := 2) (v := v4 + 1) (lv' := [(4, .int (v4 + 1)), (0, .ref (q 0)), (3, .int v3)]) X.1 X.2.1 d_MD_restore_344 hl rfl rfl (Nat.le_of_ble_eq_true rfl) rfl (fun ls hl => ?_)
      refine lv_goto (pc := 347) (tgt := 313) X.1 X.2.1 d_MD_restore_347 (by decide) ?_
      rw [show g_MD_restore_313 (k + 1) u v3 v4 = g_MD_restore_313 k (stt u 1 ((512 + v4).toNatClampNeg) (u 5 (((v3 + 23) + v4).toNatClampNeg))) v3 (v4 + 1) from by rw [g_MD_restore_313, if_neg h10]]
      exact ih (stt u 1 ((512 + v4).toNatClampNeg) (u 5 (((v3 + 23) + v4).toNatClampNeg))) v3 (v4 + 1) (j + 1) (by rw [hi]; exact nI_1 j) (ab_ltN h10 hi hj rfl (by decide)) (by have := ab_ltN h10 hi hj (N := 512) rfl (by decide); omega) ha hX (lv_sub hl [1, 2, 0] rfl)
set_option maxHeartbeats 1000000 in
set_option maxRecDepth 100000 in
theorem k_MD_restore_59 {p : Program} {l : Launch} {e : Env} {s : State} {m : MethodId} {args : Array Value} {below : List Frame} {meth : Method} {c : Code} {A : Nat → Prop} {D : va_G} {t : Nat → ClassId} {q : Nat → Nat} (X : ab_cx p s m args c b_MD_restore 5 y_MD_restore.cls D (tyC t)) (hr : meth.sig.returnType = some .boolean) (hk : meth.locks = false) (k : Nat) (u : SS) (v3 : Int32) (v4 : Int32) (j : Nat) (hi : v4 = nI j) (hj : j ≤ 8) (hf : 8 < j + k) (ha : ab_540 v3) {H : Heap} {locs : List Loc} {ls : Array Slot} (hX : ab_hx D (wM t q u) A s.heap H locs) (hl : lv_has ls 5 [(0, .ref (q 0)), (3, .int v3), (4, .int v4)]) :
    W p l e { frames := 1, cells := 0, slots := 0, locals := 21 } s m args below meth c H locs 0 0 (ab_ki_E below args s D (tyC t) (wM t q) A (g_MD_restore_59 k u v3 v4)) (F0 m 59 ls []) := by
  induction k generalizing u v3 v4 j H locs ls with
  | zero => exact absurd hf (by omega)
  | succ k ih =>
    refine lv_iload (pc := 59) X.1 X.2.1 d_MD_restore_59 (lv_at hl 2 rfl) ?_
    refine lv_bipush (pc := 61) (v := 8) X.1 X.2.1 d_MD_restore_61 (by decide) ?_
    refine lv_icmp_ge (pc := 63) (tgt := 88) X.1 X.2.1 d_MD_restore_63 (by decide) (fun h6 => ?_) (fun h6 => ?_)
    ·
      refine lv_aload_n (pc := 88) X.1 X.2.1 d_MD_restore_88 rfl (lv_at hl 0 rfl) ?_
      refine lv_aload_n (pc := 89) X.1 X.2.1 d_MD_restore_89 rfl (lv_at hl 0 rfl) ?_
      refine ab_gx (pc := 90) (v := .ref (q 5)) X hX 0 9 28 rfl rfl (Nat.le_of_ble_eq_true rfl) in_MD rfl tw_458 rfl d_MD_restore_90 ?_
      refine lv_iload_n (pc := 93) X.1 X.2.1 d_MD_restore_93 rfl (lv_at hl 1 rfl) ?_
      refine lv_bipush (pc := 94) (v := 8) X.1 X.2.1 d_MD_restore_94 (by decide) ?_
      refine lv_iadd (pc := 96) X.1 X.2.1 d_MD_restore_96 ?_
      refine ab_ald (pc := 97) (f := u 5) (j := (v3 + 8).toNatClampNeg) X hX 5 0 rfl rfl (ab_kp ha (by decide)) rfl d_MD_restore_97 ?_
      refine ab_kv_callV (pc := 98) (wr := []) (w := (wM t q)) (u := u) (F := f_MD_setFlags u (u 5 ((v3 + 8).toNatClampNeg))) (as := [.int (u 5 ((v3 + 8).toNatClampNeg))]) (rest := []) X hX (c_MD_setFlags l D t q u (u 5 ((v3 + 8).toNatClampNeg))) ok_MD_setFlags okv_MD_setFlags tw_364 0 9 rfl rfl rfl hl.1 rfl (Nat.le_of_ble_eq_true rfl) ⟨rfl, rfl, Nat.le_of_ble_eq_true rfl, Nat.le_of_ble_eq_true rfl⟩ ⟨Nat.zero_le _, Nat.zero_le _⟩ d_MD_restore_98 (fun H locs hX => ?_)
      refine lv_aload_n (pc := 101) X.1 X.2.1 d_MD_restore_101 rfl (lv_at hl 0 rfl) ?_
      refine lv_aload_n (pc := 102) X.1 X.2.1 d_MD_restore_102 rfl (lv_at hl 0 rfl) ?_
      refine ab_gx (pc := 103) (v := .ref (q 5)) X hX 0 9 28 rfl rfl (Nat.le_of_ble_eq_true rfl) in_MD rfl tw_458 rfl d_MD_restore_103 ?_
      refine lv_iload_n (pc := 106) X.1 X.2.1 d_MD_restore_106 rfl (lv_at hl 1 rfl) ?_
      refine lv_bipush (pc := 107) (v := 9) X.1 X.2.1 d_MD_restore_107 (by decide) ?_
      refine lv_iadd (pc := 109) X.1 X.2.1 d_MD_restore_109 ?_
      refine ab_ald (pc := 110) (f := (f_MD_setFlags u (u 5 ((v3 + 8).toNatClampNeg))) 5) (j := (v3 + 9).toNatClampNeg) X hX 5 0 rfl rfl (ab_kp ha (by decide)) rfl d_MD_restore_110 ?_
      refine ab_px (pc := 111) (ws' := (wM t q (stt (f_MD_setFlags u (u 5 ((v3 + 8).toNatClampNeg))) 0 9 ((f_MD_setFlags u (u 5 ((v3 + 8).toNatClampNeg))) 5 ((v3 + 9).toNatClampNeg))))) X hX 0 9 11 ty_MD ty_MD_ok nm_MD rfl rfl (Nat.le_of_ble_eq_true rfl) in_MD rfl tw_305 rfl rfl rfl rfl (Nat.le_of_ble_eq_true rfl) (sf_wM_0_11 t q (f_MD_setFlags u (u 5 ((v3 + 8).toNatClampNeg))) ((f_MD_setFlags u (u 5 ((v3 + 8).toNatClampNeg))) 5 ((v3 + 9).toNatClampNeg))) d_MD_restore_111 (fun H locs hX => ?_)
      refine lv_aload_n (pc := 114) X.1 X.2.1 d_MD_restore_114 rfl (lv_at hl 0 rfl) ?_
      refine lv_aload_n (pc := 115) X.1 X.2.1 d_MD_restore_115 rfl (lv_at hl 0 rfl) ?_
      refine ab_gx (pc := 116) (v := .ref (q 5)) X hX 0 9 28 rfl rfl (Nat.le_of_ble_eq_true rfl) in_MD rfl tw_458 rfl d_MD_restore_116 ?_
      refine lv_iload_n (pc := 119) X.1 X.2.1 d_MD_restore_119 rfl (lv_at hl 1 rfl) ?_
      refine lv_bipush (pc := 120) (v := 10) X.1 X.2.1 d_MD_restore_120 (by decide) ?_
      refine lv_iadd (pc := 122) X.1 X.2.1 d_MD_restore_122 ?_
      refine ab_ald (pc := 123) (f := (f_MD_setFlags u (u 5 ((v3 + 8).toNatClampNeg))) 5) (j := (v3 + 10).toNatClampNeg) X hX 5 0 rfl rfl (ab_kp ha (by decide)) rfl d_MD_restore_123 ?_
      refine ab_px (pc := 124) (ws' := (wM t q (stt (stt (f_MD_setFlags u (u 5 ((v3 + 8).toNatClampNeg))) 0 9 ((f_MD_setFlags u (u 5 ((v3 + 8).toNatClampNeg))) 5 ((v3 + 9).toNatClampNeg))) 0 10 ((f_MD_setFlags u (u 5 ((v3 + 8).toNatClampNeg))) 5 ((v3 + 10).toNatClampNeg))))) X hX 0 9 12 ty_MD ty_MD_ok nm_MD rfl rfl (Nat.le_of_ble_eq_true rfl) in_MD rfl tw_294 rfl rfl rfl rfl (Nat.le_of_ble_eq_true rfl) (sf_wM_0_12 t q (stt (f_MD_setFlags u (u 5 ((v3 + 8).toNatClampNeg))) 0 9 ((f_MD_setFlags u (u 5 ((v3 + 8).toNatClampNeg))) 5 ((v3 + 9).toNatClampNeg))) ((f_MD_setFlags u (u 5 ((v3 + 8).toNatClampNeg))) 5 ((v3 + 10).toNatClampNeg))) d_MD_restore_124 (fun H locs hX => ?_)
      refine lv_aload_n (pc := 127) X.1 X.2.1 d_MD_restore_127 rfl (lv_at hl 0 rfl) ?_
      refine lv_aload_n (pc := 128) X.1 X.2.1 d_MD_restore_128 rfl (lv_at hl 0 rfl) ?_
      refine ab_gx (pc := 129) (v := .ref (q 5)) X hX 0 9 28 rfl rfl (Nat.le_of_ble_eq_true rfl) in_MD rfl tw_458 rfl d_MD_restore_129 ?_
      refine lv_iload_n (pc := 132) X.1 X.2.1 d_MD_restore_132 rfl (lv_at hl 1 rfl) ?_
      refine lv_bipush (pc := 133) (v := 11) X.1 X.2.1 d_MD_restore_133 (by decide) ?_
      refine lv_iadd (pc := 135) X.1 X.2.1 d_MD_restore_135 ?_
      refine ab_ald (pc := 136) (f := (f_MD_setFlags u (u 5 ((v3 + 8).toNatClampNeg))) 5) (j := (v3 + 11).toNatClampNeg) X hX 5 0 rfl rfl (ab_kp ha (by decide)) rfl d_MD_restore_136 ?_
      refine lv_iconst (pc := 137) (v := 1) X.1 X.2.1 d_MD_restore_137 (by decide) ?_
      refine ab_jn (ls := ls) (rest := [.ref (q 0)]) 146 (if ((f_MD_setFlags u (u 5 ((v3 + 8).toNatClampNeg))) 5 ((v3 + 11).toNatClampNeg)) = 1 then 1 else 0 : Int32) ?_ (fun J => ?_)
      rotate_left
      ·
        refine lv_icmp_ne (pc := 138) (tgt := 145) X.1 X.2.1 d_MD_restore_138 (by decide) (fun h7 => ?_) (fun h7 => ?_)
        ·
          refine lv_iconst (pc := 145) (v := 0) X.1 X.2.1 d_MD_restore_145 (by decide) ?_
          exact ab_jt (by rw [if_neg h7]) J
        ·
          refine lv_iconst (pc := 141) (v := 1) X.1 X.2.1 d_MD_restore_141 (by decide) ?_
          refine lv_goto (pc := 142) (tgt := 146) X.1 X.2.1 d_MD_restore_142 (by decide) ?_
          exact ab_jt (by rw [if_pos h7]) J
      refine ab_px (pc := 146) (ws' := (wM t q (stt (stt (stt (f_MD_setFlags u (u 5 ((v3 + 8).toNatClampNeg))) 0 9 ((f_MD_setFlags u (u 5 ((v3 + 8).toNatClampNeg))) 5 ((v3 + 9).toNatClampNeg))) 0 10 ((f_MD_setFlags u (u 5 ((v3 + 8).toNatClampNeg))) 5 ((v3 + 10).toNatClampNeg))) 0 11 (if ((f_MD_setFlags u (u 5 ((v3 + 8).toNatClampNeg))) 5 ((v3 + 11).toNatClampNeg)) = 1 then 1 else 0 : Int32)))) X hX 0 9 13 ty_MD ty_MD_ok nm_MD rfl rfl (Nat.le_of_ble_eq_true rfl) in_MD rfl tw_384 rfl rfl (ab_nb (ab_bi ab_bo1 ab_bo0)) (ab_fb (ab_bi ab_bo1 ab_bo0)) (Nat.le_of_ble_eq_true rfl) (sf_wM_0_13 t q (stt (stt (f_MD_setFlags u (u 5 ((v3 + 8).toNatClampNeg))) 0 9 ((f_MD_setFlags u (u 5 ((v3 + 8).toNatClampNeg))) 5 ((v3 + 9).toNatClampNeg))) 0 10 ((f_MD_setFlags u (u 5 ((v3 + 8).toNatClampNeg))) 5 ((v3 + 10).toNatClampNeg))) (if ((f_MD_setFlags u (u 5 ((v3 + 8).toNatClampNeg))) 5 ((v3 + 11).toNatClampNeg)) = 1 then 1 else 0 : Int32)) d_MD_restore_146 (fun H locs hX => ?_)
      refine lv_aload_n (pc := 149) X.1 X.2.1 d_MD_restore_149 rfl (lv_at hl 0 rfl) ?_
      refine lv_aload_n (pc := 150) X.1 X.2.1 d_MD_restore_150 rfl (lv_at hl 0 rfl) ?_
      refine ab_gx (pc := 151) (v := .ref (q 5)) X hX 0 9 28 rfl rfl (Nat.le_of_ble_eq_true rfl) in_MD rfl tw_458 rfl d_MD_restore_151 ?_
      refine lv_iload_n (pc := 154) X.1 X.2.1 d_MD_restore_154 rfl (lv_at hl 1 rfl) ?_
      refine lv_bipush (pc := 155) (v := 12) X.1 X.2.1 d_MD_restore_155 (by decide) ?_
      refine lv_iadd (pc := 157) X.1 X.2.1 d_MD_restore_157 ?_
      refine ab_ald (pc := 158) (f := (f_MD_setFlags u (u 5 ((v3 + 8).toNatClampNeg))) 5) (j := (v3 + 12).toNatClampNeg) X hX 5 0 rfl rfl (ab_kp ha (by decide)) rfl d_MD_restore_158 ?_
      refine lv_iconst (pc := 159) (v := 1) X.1 X.2.1 d_MD_restore_159 (by decide) ?_
      refine ab_jn (ls := ls) (rest := [.ref (q 0)]) 168 (if ((f_MD_setFlags u (u 5 ((v3 + 8).toNatClampNeg))) 5 ((v3 + 12).toNatClampNeg)) = 1 then 1 else 0 : Int32) ?_ (fun J => ?_)
      rotate_left
      ·
        refine lv_icmp_ne (pc := 160) (tgt := 167) X.1 X.2.1 d_MD_restore_160 (by decide) (fun h8 => ?_) (fun h8 => ?_)
        ·
          refine lv_iconst (pc := 167) (v := 0) X.1 X.2.1 d_MD_restore_167 (by decide) ?_
          exact ab_jt (by rw [if_neg h8]) J
        ·
          refine lv_iconst (pc := 163) (v := 1) X.1 X.2.1 d_MD_restore_163 (by decide) ?_
          refine lv_goto (pc := 164) (tgt := 168) X.1 X.2.1 d_MD_restore_164 (by decide) ?_
          exact ab_jt (by rw [if_pos h8]) J
      refine ab_px (pc := 168) (ws' := (wM t q (stt (stt (stt (stt (f_MD_setFlags u (u 5 ((v3 + 8).toNatClampNeg))) 0 9 ((f_MD_setFlags u (u 5 ((v3 + 8).toNatClampNeg))) 5 ((v3 + 9).toNatClampNeg))) 0 10 ((f_MD_setFlags u (u 5 ((v3 + 8).toNatClampNeg))) 5 ((v3 + 10).toNatClampNeg))) 0 11 (if ((f_MD_setFlags u (u 5 ((v3 + 8).toNatClampNeg))) 5 ((v3 + 11).toNatClampNeg)) = 1 then 1 else 0 : Int32)) 0 13 (if ((f_MD_setFlags u (u 5 ((v3 + 8).toNatClampNeg))) 5 ((v3 + 12).toNatClampNeg)) = 1 then 1 else 0 : Int32)))) X hX 0 9 15 ty_MD ty_MD_ok nm_MD rfl rfl (Nat.le_of_ble_eq_true rfl) in_MD rfl tw_400 rfl rfl (ab_nb (ab_bi ab_bo1 ab_bo0)) (ab_fb (ab_bi ab_bo1 ab_bo0)) (Nat.le_of_ble_eq_true rfl) (sf_wM_0_15 t q (stt (stt (stt (f_MD_setFlags u (u 5 ((v3 + 8).toNatClampNeg))) 0 9 ((f_MD_setFlags u (u 5 ((v3 + 8).toNatClampNeg))) 5 ((v3 + 9).toNatClampNeg))) 0 10 ((f_MD_setFlags u (u 5 ((v3 + 8).toNatClampNeg))) 5 ((v3 + 10).toNatClampNeg))) 0 11 (if ((f_MD_setFlags u (u 5 ((v3 + 8).toNatClampNeg))) 5 ((v3 + 11).toNatClampNeg)) = 1 then 1 else 0 : Int32)) (if ((f_MD_setFlags u (u 5 ((v3 + 8).toNatClampNeg))) 5 ((v3 + 12).toNatClampNeg)) = 1 then 1 else 0 : Int32)) d_MD_restore_168 (fun H locs hX => ?_)
      refine lv_aload_n (pc := 171) X.1 X.2.1 d_MD_restore_171 rfl (lv_at hl 0 rfl) ?_
      refine lv_aload_n (pc := 172) X.1 X.2.1 d_MD_restore_172 rfl (lv_at hl 0 rfl) ?_
      refine ab_gx (pc := 173) (v := .ref (q 5)) X hX 0 9 28 rfl rfl (Nat.le_of_ble_eq_true rfl) in_MD rfl tw_458 rfl d_MD_restore_173 ?_
      refine lv_iload_n (pc := 176) X.1 X.2.1 d_MD_restore_176 rfl (lv_at hl 1 rfl) ?_
      refine lv_bipush (pc := 177) (v := 13) X.1 X.2.1 d_MD_restore_177 (by decide) ?_
      refine lv_iadd (pc := 179) X.1 X.2.1 d_MD_restore_179 ?_
      refine ab_ald (pc := 180) (f := (f_MD_setFlags u (u 5 ((v3 + 8).toNatClampNeg))) 5) (j := (v3 + 13).toNatClampNeg) X hX 5 0 rfl rfl (ab_kp ha (by decide)) rfl d_MD_restore_180 ?_
      refine ab_px (pc := 181) (ws' := (wM t q (stt (stt (stt (stt (stt (f_MD_setFlags u (u 5 ((v3 + 8).toNatClampNeg))) 0 9 ((f_MD_setFlags u (u 5 ((v3 + 8).toNatClampNeg))) 5 ((v3 + 9).toNatClampNeg))) 0 10 ((f_MD_setFlags u (u 5 ((v3 + 8).toNatClampNeg))) 5 ((v3 + 10).toNatClampNeg))) 0 11 (if ((f_MD_setFlags u (u 5 ((v3 + 8).toNatClampNeg))) 5 ((v3 + 11).toNatClampNeg)) = 1 then 1 else 0 : Int32)) 0 13 (if ((f_MD_setFlags u (u 5 ((v3 + 8).toNatClampNeg))) 5 ((v3 + 12).toNatClampNeg)) = 1 then 1 else 0 : Int32)) 0 14 ((f_MD_setFlags u (u 5 ((v3 + 8).toNatClampNeg))) 5 ((v3 + 13).toNatClampNeg))))) X hX 0 9 16 ty_MD ty_MD_ok nm_MD rfl rfl (Nat.le_of_ble_eq_true rfl) in_MD rfl tw_401 rfl rfl rfl rfl (Nat.le_of_ble_eq_true rfl) (sf_wM_0_16 t q (stt (stt (stt (stt (f_MD_setFlags u (u 5 ((v3 + 8).toNatClampNeg))) 0 9 ((f_MD_setFlags u (u 5 ((v3 + 8).toNatClampNeg))) 5 ((v3 + 9).toNatClampNeg))) 0 10 ((f_MD_setFlags u (u 5 ((v3 + 8).toNatClampNeg))) 5 ((v3 + 10).toNatClampNeg))) 0 11 (if ((f_MD_setFlags u (u 5 ((v3 + 8).toNatClampNeg))) 5 ((v3 + 11).toNatClampNeg)) = 1 then 1 else 0 : Int32)) 0 13 (if ((f_MD_setFlags u (u 5 ((v3 + 8).toNatClampNeg))) 5 ((v3 + 12).toNatClampNeg)) = 1 then 1 else 0 : Int32)) ((f_MD_setFlags u (u 5 ((v3 + 8).toNatClampNeg))) 5 ((v3 + 13).toNatClampNeg))) d_MD_restore_181 (fun H locs hX => ?_)
      refine lv_aload_n (pc := 184) X.1 X.2.1 d_MD_restore_184 rfl (lv_at hl 0 rfl) ?_
      refine lv_aload_n (pc := 185) X.1 X.2.1 d_MD_restore_185 rfl (lv_at hl 0 rfl) ?_
      refine ab_gx (pc := 186) (v := .ref (q 5)) X hX 0 9 28 rfl rfl (Nat.le_of_ble_eq_true rfl) in_MD rfl tw_458 rfl d_MD_restore_186 ?_
      refine lv_iload_n (pc := 189) X.1 X.2.1 d_MD_restore_189 rfl (lv_at hl 1 rfl) ?_
      refine lv_bipush (pc := 190) (v := 14) X.1 X.2.1 d_MD_restore_190 (by decide) ?_
      refine lv_iadd (pc := 192) X.1 X.2.1 d_MD_restore_192 ?_
      refine ab_ald (pc := 193) (f := (f_MD_setFlags u (u 5 ((v3 + 8).toNatClampNeg))) 5) (j := (v3 + 14).toNatClampNeg) X hX 5 0 rfl rfl (ab_kp ha (by decide)) rfl d_MD_restore_193 ?_
      refine ab_px (pc := 194) (ws' := (wM t q (stt (stt (stt (stt (stt (stt (f_MD_setFlags u (u 5 ((v3 + 8).toNatClampNeg))) 0 9 ((f_MD_setFlags u (u 5 ((v3 + 8).toNatClampNeg))) 5 ((v3 + 9).toNatClampNeg))) 0 10 ((f_MD_setFlags u (u 5 ((v3 + 8).toNatClampNeg))) 5 ((v3 + 10).toNatClampNeg))) 0 11 (if ((f_MD_setFlags u (u 5 ((v3 + 8).toNatClampNeg))) 5 ((v3 + 11).toNatClampNeg)) = 1 then 1 else 0 : Int32)) 0 13 (if ((f_MD_setFlags u (u 5 ((v3 + 8).toNatClampNeg))) 5 ((v3 + 12).toNatClampNeg)) = 1 then 1 else 0 : Int32)) 0 14 ((f_MD_setFlags u (u 5 ((v3 + 8).toNatClampNeg))) 5 ((v3 + 13).toNatClampNeg))) 0 15 ((f_MD_setFlags u (u 5 ((v3 + 8).toNatClampNeg))) 5 ((v3 + 14).toNatClampNeg))))) X hX 0 9 17 ty_MD ty_MD_ok nm_MD rfl rfl (Nat.le_of_ble_eq_true rfl) in_MD rfl tw_371 rfl rfl rfl rfl (Nat.le_of_ble_eq_true rfl) (sf_wM_0_17 t q (stt (stt (stt (stt (stt (f_MD_setFlags u (u 5 ((v3 + 8).toNatClampNeg))) 0 9 ((f_MD_setFlags u (u 5 ((v3 + 8).toNatClampNeg))) 5 ((v3 + 9).toNatClampNeg))) 0 10 ((f_MD_setFlags u (u 5 ((v3 + 8).toNatClampNeg))) 5 ((v3 + 10).toNatClampNeg))) 0 11 (if ((f_MD_setFlags u (u 5 ((v3 + 8).toNatClampNeg))) 5 ((v3 + 11).toNatClampNeg)) = 1 then 1 else 0 : Int32)) 0 13 (if ((f_MD_setFlags u (u 5 ((v3 + 8).toNatClampNeg))) 5 ((v3 + 12).toNatClampNeg)) = 1 then 1 else 0 : Int32)) 0 14 ((f_MD_setFlags u (u 5 ((v3 + 8).toNatClampNeg))) 5 ((v3 + 13).toNatClampNeg))) ((f_MD_setFlags u (u 5 ((v3 + 8).toNatClampNeg))) 5 ((v3 + 14).toNatClampNeg))) d_MD_restore_194 (fun H locs hX => ?_)
      refine lv_aload_n (pc := 197) X.1 X.2.1 d_MD_restore_197 rfl (lv_at hl 0 rfl) ?_
      refine lv_aload_n (pc := 198) X.1 X.2.1 d_MD_restore_198 rfl (lv_at hl 0 rfl) ?_
      refine ab_gx (pc := 199) (v := .ref (q 5)) X hX 0 9 28 rfl rfl (Nat.le_of_ble_eq_true rfl) in_MD rfl tw_458 rfl d_MD_restore_199 ?_
      refine lv_iload_n (pc := 202) X.1 X.2.1 d_MD_restore_202 rfl (lv_at hl 1 rfl) ?_
      refine lv_bipush (pc := 203) (v := 15) X.1 X.2.1 d_MD_restore_203 (by decide) ?_
      refine lv_iadd (pc := 205) X.1 X.2.1 d_MD_restore_205 ?_
      refine ab_ald (pc := 206) (f := (f_MD_setFlags u (u 5 ((v3 + 8).toNatClampNeg))) 5) (j := (v3 + 15).toNatClampNeg) X hX 5 0 rfl rfl (ab_kp ha (by decide)) rfl d_MD_restore_206 ?_
      refine ab_px (pc := 207) (ws' := (wM t q (stt (stt (stt (stt (stt (stt (stt (f_MD_setFlags u (u 5 ((v3 + 8).toNatClampNeg))) 0 9 ((f_MD_setFlags u (u 5 ((v3 + 8).toNatClampNeg))) 5 ((v3 + 9).toNatClampNeg))) 0 10 ((f_MD_setFlags u (u 5 ((v3 + 8).toNatClampNeg))) 5 ((v3 + 10).toNatClampNeg))) 0 11 (if ((f_MD_setFlags u (u 5 ((v3 + 8).toNatClampNeg))) 5 ((v3 + 11).toNatClampNeg)) = 1 then 1 else 0 : Int32)) 0 13 (if ((f_MD_setFlags u (u 5 ((v3 + 8).toNatClampNeg))) 5 ((v3 + 12).toNatClampNeg)) = 1 then 1 else 0 : Int32)) 0 14 ((f_MD_setFlags u (u 5 ((v3 + 8).toNatClampNeg))) 5 ((v3 + 13).toNatClampNeg))) 0 15 ((f_MD_setFlags u (u 5 ((v3 + 8).toNatClampNeg))) 5 ((v3 + 14).toNatClampNeg))) 0 16 ((f_MD_setFlags u (u 5 ((v3 + 8).toNatClampNeg))) 5 ((v3 + 15).toNatClampNeg))))) X hX 0 9 18 ty_MD ty_MD_ok nm_MD rfl rfl (Nat.le_of_ble_eq_true rfl) in_MD rfl tw_372 rfl rfl rfl rfl (Nat.le_of_ble_eq_true rfl) (sf_wM_0_18 t q (stt (stt (stt (stt (stt (stt (f_MD_setFlags u (u 5 ((v3 + 8).toNatClampNeg))) 0 9 ((f_MD_setFlags u (u 5 ((v3 + 8).toNatClampNeg))) 5 ((v3 + 9).toNatClampNeg))) 0 10 ((f_MD_setFlags u (u 5 ((v3 + 8).toNatClampNeg))) 5 ((v3 + 10).toNatClampNeg))) 0 11 (if ((f_MD_setFlags u (u 5 ((v3 + 8).toNatClampNeg))) 5 ((v3 + 11).toNatClampNeg)) = 1 then 1 else 0 : Int32)) 0 13 (if ((f_MD_setFlags u (u 5 ((v3 + 8).toNatClampNeg))) 5 ((v3 + 12).toNatClampNeg)) = 1 then 1 else 0 : Int32)) 0 14 ((f_MD_setFlags u (u 5 ((v3 + 8).toNatClampNeg))) 5 ((v3 + 13).toNatClampNeg))) 0 15 ((f_MD_setFlags u (u 5 ((v3 + 8).toNatClampNeg))) 5 ((v3 + 14).toNatClampNeg))) ((f_MD_setFlags u (u 5 ((v3 + 8).toNatClampNeg))) 5 ((v3 + 15).toNatClampNeg))) d_MD_restore_207 (fun H locs hX => ?_)
      refine lv_aload_n (pc := 210) X.1 X.2.1 d_MD_restore_210 rfl (lv_at hl 0 rfl) ?_
      refine lv_aload_n (pc := 211) X.1 X.2.1 d_MD_restore_211 rfl (lv_at hl 0 rfl) ?_
      refine ab_gx (pc := 212) (v := .ref (q 5)) X hX 0 9 28 rfl rfl (Nat.le_of_ble_eq_true rfl) in_MD rfl tw_458 rfl d_MD_restore_212 ?_
      refine lv_iload_n (pc := 215) X.1 X.2.1 d_MD_restore_215 rfl (lv_at hl 1 rfl) ?_
      refine lv_bipush (pc := 216) (v := 16) X.1 X.2.1 d_MD_restore_216 (by decide) ?_
      refine lv_iadd (pc := 218) X.1 X.2.1 d_MD_restore_218 ?_
      refine ab_ald (pc := 219) (f := (f_MD_setFlags u (u 5 ((v3 + 8).toNatClampNeg))) 5) (j := (v3 + 16).toNatClampNeg) X hX 5 0 rfl rfl (ab_kp ha (by decide)) rfl d_MD_restore_219 ?_
      refine ab_px (pc := 220) (ws' := (wM t q (stt (stt (stt (stt (stt (stt (stt (stt (f_MD_setFlags u (u 5 ((v3 + 8).toNatClampNeg))) 0 9 ((f_MD_setFlags u (u 5 ((v3 + 8).toNatClampNeg))) 5 ((v3 + 9).toNatClampNeg))) 0 10 ((f_MD_setFlags u (u 5 ((v3 + 8).toNatClampNeg))) 5 ((v3 + 10).toNatClampNeg))) 0 11 (if ((f_MD_setFlags u (u 5 ((v3 + 8).toNatClampNeg))) 5 ((v3 + 11).toNatClampNeg)) = 1 then 1 else 0 : Int32)) 0 13 (if ((f_MD_setFlags u (u 5 ((v3 + 8).toNatClampNeg))) 5 ((v3 + 12).toNatClampNeg)) = 1 then 1 else 0 : Int32)) 0 14 ((f_MD_setFlags u (u 5 ((v3 + 8).toNatClampNeg))) 5 ((v3 + 13).toNatClampNeg))) 0 15 ((f_MD_setFlags u (u 5 ((v3 + 8).toNatClampNeg))) 5 ((v3 + 14).toNatClampNeg))) 0 16 ((f_MD_setFlags u (u 5 ((v3 + 8).toNatClampNeg))) 5 ((v3 + 15).toNatClampNeg))) 0 17 ((f_MD_setFlags u (u 5 ((v3 + 8).toNatClampNeg))) 5 ((v3 + 16).toNatClampNeg))))) X hX 0 9 19 ty_MD ty_MD_ok nm_MD rfl rfl (Nat.le_of_ble_eq_true rfl) in_MD rfl tw_370 rfl rfl rfl rfl (Nat.le_of_ble_eq_true rfl) (sf_wM_0_19 t q (stt (stt (stt (stt (stt (stt (stt (f_MD_setFlags u (u 5 ((v3 + 8).toNatClampNeg))) 0 9 ((f_MD_setFlags u (u 5 ((v3 + 8).toNatClampNeg))) 5 ((v3 + 9).toNatClampNeg))) 0 10 ((f_MD_setFlags u (u 5 ((v3 + 8).toNatClampNeg))) 5 ((v3 + 10).toNatClampNeg))) 0 11 (if ((f_MD_setFlags u (u 5 ((v3 + 8).toNatClampNeg))) 5 ((v3 + 11).toNatClampNeg)) = 1 then 1 else 0 : Int32)) 0 13 (if ((f_MD_setFlags u (u 5 ((v3 + 8).toNatClampNeg))) 5 ((v3 + 12).toNatClampNeg)) = 1 then 1 else 0 : Int32)) 0 14 ((f_MD_setFlags u (u 5 ((v3 + 8).toNatClampNeg))) 5 ((v3 + 13).toNatClampNeg))) 0 15 ((f_MD_setFlags u (u 5 ((v3 + 8).toNatClampNeg))) 5 ((v3 + 14).toNatClampNeg))) 0 16 ((f_MD_setFlags u (u 5 ((v3 + 8).toNatClampNeg))) 5 ((v3 + 15).toNatClampNeg))) ((f_MD_setFlags u (u 5 ((v3 + 8).toNatClampNeg))) 5 ((v3 + 16).toNatClampNeg))) d_MD_restore_220 (fun H locs hX => ?_)
      refine lv_aload_n (pc := 223) X.1 X.2.1 d_MD_restore_223 rfl (lv_at hl 0 rfl) ?_
      refine lv_aload_n (pc := 224) X.1 X.2.1 d_MD_restore_224 rfl (lv_at hl 0 rfl) ?_
      refine ab_gx (pc := 225) (v := .ref (q 5)) X hX 0 9 28 rfl rfl (Nat.le_of_ble_eq_true rfl) in_MD rfl tw_458 rfl d_MD_restore_225 ?_
      refine lv_iload_n (pc := 228) X.1 X.2.1 d_MD_restore_228 rfl (lv_at hl 1 rfl) ?_
      refine lv_bipush (pc := 229) (v := 17) X.1 X.2.1 d_MD_restore_229 (by decide) ?_
      refine lv_iadd (pc := 231) X.1 X.2.1 d_MD_restore_231 ?_
      refine ab_ald (pc := 232) (f := (f_MD_setFlags u (u 5 ((v3 + 8).toNatClampNeg))) 5) (j := (v3 + 17).toNatClampNeg) X hX 5 0 rfl rfl (ab_kp ha (by decide)) rfl d_MD_restore_232 ?_
      refine ab_px (pc := 233) (ws' := (wM t q (stt (stt (stt (stt (stt (stt (stt (stt (stt (f_MD_setFlags u (u 5 ((v3 + 8).toNatClampNeg))) 0 9 ((f_MD_setFlags u (u 5 ((v3 + 8).toNatClampNeg))) 5 ((v3 + 9).toNatClampNeg))) 0 10 ((f_MD_setFlags u (u 5 ((v3 + 8).toNatClampNeg))) 5 ((v3 + 10).toNatClampNeg))) 0 11 (if ((f_MD_setFlags u (u 5 ((v3 + 8).toNatClampNeg))) 5 ((v3 + 11).toNatClampNeg)) = 1 then 1 else 0 : Int32)) 0 13 (if ((f_MD_setFlags u (u 5 ((v3 + 8).toNatClampNeg))) 5 ((v3 + 12).toNatClampNeg)) = 1 then 1 else 0 : Int32)) 0 14 ((f_MD_setFlags u (u 5 ((v3 + 8).toNatClampNeg))) 5 ((v3 + 13).toNatClampNeg))) 0 15 ((f_MD_setFlags u (u 5 ((v3 + 8).toNatClampNeg))) 5 ((v3 + 14).toNatClampNeg))) 0 16 ((f_MD_setFlags u (u 5 ((v3 + 8).toNatClampNeg))) 5 ((v3 + 15).toNatClampNeg))) 0 17 ((f_MD_setFlags u (u 5 ((v3 + 8).toNatClampNeg))) 5 ((v3 + 16).toNatClampNeg))) 0 18 ((f_MD_setFlags u (u 5 ((v3 + 8).toNatClampNeg))) 5 ((v3 + 17).toNatClampNeg))))) X hX 0 9 20 ty_MD ty_MD_ok nm_MD rfl rfl (Nat.le_of_ble_eq_true rfl) in_MD rfl tw_411 rfl rfl rfl rfl (Nat.le_of_ble_eq_true rfl) (sf_wM_0_20 t q (stt (stt (stt (stt (stt (stt (stt (stt (f_MD_setFlags u (u 5 ((v3 + 8).toNatClampNeg))) 0 9 ((f_MD_setFlags u (u 5 ((v3 + 8).toNatClampNeg))) 5 ((v3 + 9).toNatClampNeg))) 0 10 ((f_MD_setFlags u (u 5 ((v3 + 8).toNatClampNeg))) 5 ((v3 + 10).toNatClampNeg))) 0 11 (if ((f_MD_setFlags u (u 5 ((v3 + 8).toNatClampNeg))) 5 ((v3 + 11).toNatClampNeg)) = 1 then 1 else 0 : Int32)) 0 13 (if ((f_MD_setFlags u (u 5 ((v3 + 8).toNatClampNeg))) 5 ((v3 + 12).toNatClampNeg)) = 1 then 1 else 0 : Int32)) 0 14 ((f_MD_setFlags u (u 5 ((v3 + 8).toNatClampNeg))) 5 ((v3 + 13).toNatClampNeg))) 0 15 ((f_MD_setFlags u (u 5 ((v3 + 8).toNatClampNeg))) 5 ((v3 + 14).toNatClampNeg))) 0 16 ((f_MD_setFlags u (u 5 ((v3 + 8).toNatClampNeg))) 5 ((v3 + 15).toNatClampNeg))) 0 17 ((f_MD_setFlags u (u 5 ((v3 + 8).toNatClampNeg))) 5 ((v3 + 16).toNatClampNeg))) ((f_MD_setFlags u (u 5 ((v3 + 8).toNatClampNeg))) 5 ((v3 + 17).toNatClampNeg))) d_MD_restore_233 (fun H locs hX => ?_)
      refine lv_aload_n (pc := 236) X.1 X.2.1 d_MD_restore_236 rfl (lv_at hl 0 rfl) ?_
      refine lv_aload_n (pc := 237) X.1 X.2.1 d_MD_restore_237 rfl (lv_at hl 0 rfl) ?_
      refine ab_gx (pc := 238) (v := .ref (q 5)) X hX 0 9 28 rfl rfl (Nat.le_of_ble_eq_true rfl) in_MD rfl tw_458 rfl d_MD_restore_238 ?_
      refine lv_iload_n (pc := 241) X.1 X.2.1 d_MD_restore_241 rfl (lv_at hl 1 rfl) ?_
      refine lv_bipush (pc := 242) (v := 18) X.1 X.2.1 d_MD_restore_242 (by decide) ?_
      refine lv_iadd (pc := 244) X.1 X.2.1 d_MD_restore_244 ?_
      refine ab_ald (pc := 245) (f := (f_MD_setFlags u (u 5 ((v3 + 8).toNatClampNeg))) 5) (j := (v3 + 18).toNatClampNeg) X hX 5 0 rfl rfl (ab_kp ha (by decide)) rfl d_MD_restore_245 ?_
      refine ab_px (pc := 246) (ws' := (wM t q (stt (stt (stt (stt (stt (stt (stt (stt (stt (stt (f_MD_setFlags u (u 5 ((v3 + 8).toNatClampNeg))) 0 9 ((f_MD_setFlags u (u 5 ((v3 + 8).toNatClampNeg))) 5 ((v3 + 9).toNatClampNeg))) 0 10 ((f_MD_setFlags u (u 5 ((v3 + 8).toNatClampNeg))) 5 ((v3 + 10).toNatClampNeg))) 0 11 (if ((f_MD_setFlags u (u 5 ((v3 + 8).toNatClampNeg))) 5 ((v3 + 11).toNatClampNeg)) = 1 then 1 else 0 : Int32)) 0 13 (if ((f_MD_setFlags u (u 5 ((v3 + 8).toNatClampNeg))) 5 ((v3 + 12).toNatClampNeg)) = 1 then 1 else 0 : Int32)) 0 14 ((f_MD_setFlags u (u 5 ((v3 + 8).toNatClampNeg))) 5 ((v3 + 13).toNatClampNeg))) 0 15 ((f_MD_setFlags u (u 5 ((v3 + 8).toNatClampNeg))) 5 ((v3 + 14).toNatClampNeg))) 0 16 ((f_MD_setFlags u (u 5 ((v3 + 8).toNatClampNeg))) 5 ((v3 + 15).toNatClampNeg))) 0 17 ((f_MD_setFlags u (u 5 ((v3 + 8).toNatClampNeg))) 5 ((v3 + 16).toNatClampNeg))) 0 18 ((f_MD_setFlags u (u 5 ((v3 + 8).toNatClampNeg))) 5 ((v3 + 17).toNatClampNeg))) 0 19 ((f_MD_setFlags u (u 5 ((v3 + 8).toNatClampNeg))) 5 ((v3 + 18).toNatClampNeg))))) X hX 0 9 21 ty_MD ty_MD_ok nm_MD rfl rfl (Nat.le_of_ble_eq_true rfl) in_MD rfl tw_412 rfl rfl rfl rfl (Nat.le_of_ble_eq_true rfl) (sf_wM_0_21 t q (stt (stt (stt (stt (stt (stt (stt (stt (stt (f_MD_setFlags u (u 5 ((v3 + 8).toNatClampNeg))) 0 9 ((f_MD_setFlags u (u 5 ((v3 + 8).toNatClampNeg))) 5 ((v3 + 9).toNatClampNeg))) 0 10 ((f_MD_setFlags u (u 5 ((v3 + 8).toNatClampNeg))) 5 ((v3 + 10).toNatClampNeg))) 0 11 (if ((f_MD_setFlags u (u 5 ((v3 + 8).toNatClampNeg))) 5 ((v3 + 11).toNatClampNeg)) = 1 then 1 else 0 : Int32)) 0 13 (if ((f_MD_setFlags u (u 5 ((v3 + 8).toNatClampNeg))) 5 ((v3 + 12).toNatClampNeg)) = 1 then 1 else 0 : Int32)) 0 14 ((f_MD_setFlags u (u 5 ((v3 + 8).toNatClampNeg))) 5 ((v3 + 13).toNatClampNeg))) 0 15 ((f_MD_setFlags u (u 5 ((v3 + 8).toNatClampNeg))) 5 ((v3 + 14).toNatClampNeg))) 0 16 ((f_MD_setFlags u (u 5 ((v3 + 8).toNatClampNeg))) 5 ((v3 + 15).toNatClampNeg))) 0 17 ((f_MD_setFlags u (u 5 ((v3 + 8).toNatClampNeg))) 5 ((v3 + 16).toNatClampNeg))) 0 18 ((f_MD_setFlags u (u 5 ((v3 + 8).toNatClampNeg))) 5 ((v3 + 17).toNatClampNeg))) ((f_MD_setFlags u (u 5 ((v3 + 8).toNatClampNeg))) 5 ((v3 + 18).toNatClampNeg))) d_MD_restore_246 (fun H locs hX => ?_)
      refine lv_aload_n (pc := 249) X.1 X.2.1 d_MD_restore_249 rfl (lv_at hl 0 rfl) ?_
      refine lv_aload_n (pc := 250) X.1 X.2.1 d_MD_restore_250 rfl (lv_at hl 0 rfl) ?_
      refine ab_gx (pc := 251) (v := .ref (q 5)) X hX 0 9 28 rfl rfl (Nat.le_of_ble_eq_true rfl) in_MD rfl tw_458 rfl d_MD_restore_251 ?_
      refine lv_iload_n (pc := 254) X.1 X.2.1 d_MD_restore_254 rfl (lv_at hl 1 rfl) ?_
      refine lv_bipush (pc := 255) (v := 19) X.1 X.2.1 d_MD_restore_255 (by decide) ?_
      refine lv_iadd (pc := 257) X.1 X.2.1 d_MD_restore_257 ?_
      refine ab_ald (pc := 258) (f := (f_MD_setFlags u (u 5 ((v3 + 8).toNatClampNeg))) 5) (j := (v3 + 19).toNatClampNeg) X hX 5 0 rfl rfl (ab_kp ha (by decide)) rfl d_MD_restore_258 ?_
      refine ab_px (pc := 259) (ws' := (wM t q (stt (stt (stt (stt (stt (stt (stt (stt (stt (stt (stt (f_MD_setFlags u (u 5 ((v3 + 8).toNatClampNeg))) 0 9 ((f_MD_setFlags u (u 5 ((v3 + 8).toNatClampNeg))) 5 ((v3 + 9).toNatClampNeg))) 0 10 ((f_MD_setFlags u (u 5 ((v3 + 8).toNatClampNeg))) 5 ((v3 + 10).toNatClampNeg))) 0 11 (if ((f_MD_setFlags u (u 5 ((v3 + 8).toNatClampNeg))) 5 ((v3 + 11).toNatClampNeg)) = 1 then 1 else 0 : Int32)) 0 13 (if ((f_MD_setFlags u (u 5 ((v3 + 8).toNatClampNeg))) 5 ((v3 + 12).toNatClampNeg)) = 1 then 1 else 0 : Int32)) 0 14 ((f_MD_setFlags u (u 5 ((v3 + 8).toNatClampNeg))) 5 ((v3 + 13).toNatClampNeg))) 0 15 ((f_MD_setFlags u (u 5 ((v3 + 8).toNatClampNeg))) 5 ((v3 + 14).toNatClampNeg))) 0 16 ((f_MD_setFlags u (u 5 ((v3 + 8).toNatClampNeg))) 5 ((v3 + 15).toNatClampNeg))) 0 17 ((f_MD_setFlags u (u 5 ((v3 + 8).toNatClampNeg))) 5 ((v3 + 16).toNatClampNeg))) 0 18 ((f_MD_setFlags u (u 5 ((v3 + 8).toNatClampNeg))) 5 ((v3 + 17).toNatClampNeg))) 0 19 ((f_MD_setFlags u (u 5 ((v3 + 8).toNatClampNeg))) 5 ((v3 + 18).toNatClampNeg))) 0 20 ((f_MD_setFlags u (u 5 ((v3 + 8).toNatClampNeg))) 5 ((v3 + 19).toNatClampNeg))))) X hX 0 9 22 ty_MD ty_MD_ok nm_MD rfl rfl (Nat.le_of_ble_eq_true rfl) in_MD rfl tw_379 rfl rfl rfl rfl (Nat.le_of_ble_eq_true rfl) (sf_wM_0_22 t q (stt (stt (stt (stt (stt (stt (stt (stt (stt (stt (f_MD_setFlags u (u 5 ((v3 + 8).toNatClampNeg))) 0 9 ((f_MD_setFlags u (u 5 ((v3 + 8).toNatClampNeg))) 5 ((v3 + 9).toNatClampNeg))) 0 10 ((f_MD_setFlags u (u 5 ((v3 + 8).toNatClampNeg))) 5 ((v3 + 10).toNatClampNeg))) 0 11 (if ((f_MD_setFlags u (u 5 ((v3 + 8).toNatClampNeg))) 5 ((v3 + 11).toNatClampNeg)) = 1 then 1 else 0 : Int32)) 0 13 (if ((f_MD_setFlags u (u 5 ((v3 + 8).toNatClampNeg))) 5 ((v3 + 12).toNatClampNeg)) = 1 then 1 else 0 : Int32)) 0 14 ((f_MD_setFlags u (u 5 ((v3 + 8).toNatClampNeg))) 5 ((v3 + 13).toNatClampNeg))) 0 15 ((f_MD_setFlags u (u 5 ((v3 + 8).toNatClampNeg))) 5 ((v3 + 14).toNatClampNeg))) 0 16 ((f_MD_setFlags u (u 5 ((v3 + 8).toNatClampNeg))) 5 ((v3 + 15).toNatClampNeg))) 0 17 ((f_MD_setFlags u (u 5 ((v3 + 8).toNatClampNeg))) 5 ((v3 + 16).toNatClampNeg))) 0 18 ((f_MD_setFlags u (u 5 ((v3 + 8).toNatClampNeg))) 5 ((v3 + 17).toNatClampNeg))) 0 19 ((f_MD_setFlags u (u 5 ((v3 + 8).toNatClampNeg))) 5 ((v3 + 18).toNatClampNeg))) ((f_MD_setFlags u (u 5 ((v3 + 8).toNatClampNeg))) 5 ((v3 + 19).toNatClampNeg))) d_MD_restore_259 (fun H locs hX => ?_)
      refine lv_aload_n (pc := 262) X.1 X.2.1 d_MD_restore_262 rfl (lv_at hl 0 rfl) ?_
      refine lv_aload_n (pc := 263) X.1 X.2.1 d_MD_restore_263 rfl (lv_at hl 0 rfl) ?_
      refine ab_gx (pc := 264) (v := .ref (q 5)) X hX 0 9 28 rfl rfl (Nat.le_of_ble_eq_true rfl) in_MD rfl tw_458 rfl d_MD_restore_264 ?_
      refine lv_iload_n (pc := 267) X.1 X.2.1 d_MD_restore_267 rfl (lv_at hl 1 rfl) ?_
      refine lv_bipush (pc := 268) (v := 20) X.1 X.2.1 d_MD_restore_268 (by decide) ?_
      refine lv_iadd (pc := 270) X.1 X.2.1 d_MD_restore_270 ?_
      refine ab_ald (pc := 271) (f := (f_MD_setFlags u (u 5 ((v3 + 8).toNatClampNeg))) 5) (j := (v3 + 20).toNatClampNeg) X hX 5 0 rfl rfl (ab_kp ha (by decide)) rfl d_MD_restore_271 ?_
      refine ab_px (pc := 272) (ws' := (wM t q (stt (stt (stt (stt (stt (stt (stt (stt (stt (stt (stt (stt (f_MD_setFlags u (u 5 ((v3 + 8).toNatClampNeg))) 0 9 ((f_MD_setFlags u (u 5 ((v3 + 8).toNatClampNeg))) 5 ((v3 + 9).toNatClampNeg))) 0 10 ((f_MD_setFlags u (u 5 ((v3 + 8).toNatClampNeg))) 5 ((v3 + 10).toNatClampNeg))) 0 11 (if ((f_MD_setFlags u (u 5 ((v3 + 8).toNatClampNeg))) 5 ((v3 + 11).toNatClampNeg)) = 1 then 1 else 0 : Int32)) 0 13 (if ((f_MD_setFlags u (u 5 ((v3 + 8).toNatClampNeg))) 5 ((v3 + 12).toNatClampNeg)) = 1 then 1 else 0 : Int32)) 0 14 ((f_MD_setFlags u (u 5 ((v3 + 8).toNatClampNeg))) 5 ((v3 + 13).toNatClampNeg))) 0 15 ((f_MD_setFlags u (u 5 ((v3 + 8).toNatClampNeg))) 5 ((v3 + 14).toNatClampNeg))) 0 16 ((f_MD_setFlags u (u 5 ((v3 + 8).toNatClampNeg))) 5 ((v3 + 15).toNatClampNeg))) 0 17 ((f_MD_setFlags u (u 5 ((v3 + 8).toNatClampNeg))) 5 ((v3 + 16).toNatClampNeg))) 0 18 ((f_MD_setFlags u (u 5 ((v3 + 8).toNatClampNeg))) 5 ((v3 + 17).toNatClampNeg))) 0 19 ((f_MD_setFlags u (u 5 ((v3 + 8).toNatClampNeg))) 5 ((v3 + 18).toNatClampNeg))) 0 20 ((f_MD_setFlags u (u 5 ((v3 + 8).toNatClampNeg))) 5 ((v3 + 19).toNatClampNeg))) 0 21 ((f_MD_setFlags u (u 5 ((v3 + 8).toNatClampNeg))) 5 ((v3 + 20).toNatClampNeg))))) X hX 0 9 23 ty_MD ty_MD_ok nm_MD rfl rfl (Nat.le_of_ble_eq_true rfl) in_MD rfl tw_369 rfl rfl rfl rfl (Nat.le_of_ble_eq_true rfl) (sf_wM_0_23 t q (stt (stt (stt (stt (stt (stt (stt (stt (stt (stt (stt (f_MD_setFlags u (u 5 ((v3 + 8).toNatClampNeg))) 0 9 ((f_MD_setFlags u (u 5 ((v3 + 8).toNatClampNeg))) 5 ((v3 + 9).toNatClampNeg))) 0 10 ((f_MD_setFlags u (u 5 ((v3 + 8).toNatClampNeg))) 5 ((v3 + 10).toNatClampNeg))) 0 11 (if ((f_MD_setFlags u (u 5 ((v3 + 8).toNatClampNeg))) 5 ((v3 + 11).toNatClampNeg)) = 1 then 1 else 0 : Int32)) 0 13 (if ((f_MD_setFlags u (u 5 ((v3 + 8).toNatClampNeg))) 5 ((v3 + 12).toNatClampNeg)) = 1 then 1 else 0 : Int32)) 0 14 ((f_MD_setFlags u (u 5 ((v3 + 8).toNatClampNeg))) 5 ((v3 + 13).toNatClampNeg))) 0 15 ((f_MD_setFlags u (u 5 ((v3 + 8).toNatClampNeg))) 5 ((v3 + 14).toNatClampNeg))) 0 16 ((f_MD_setFlags u (u 5 ((v3 + 8).toNatClampNeg))) 5 ((v3 + 15).toNatClampNeg))) 0 17 ((f_MD_setFlags u (u 5 ((v3 + 8).toNatClampNeg))) 5 ((v3 + 16).toNatClampNeg))) 0 18 ((f_MD_setFlags u (u 5 ((v3 + 8).toNatClampNeg))) 5 ((v3 + 17).toNatClampNeg))) 0 19 ((f_MD_setFlags u (u 5 ((v3 + 8).toNatClampNeg))) 5 ((v3 + 18).toNatClampNeg))) 0 20 ((f_MD_setFlags u (u 5 ((v3 + 8).toNatClampNeg))) 5 ((v3 + 19).toNatClampNeg))) ((f_MD_setFlags u (u 5 ((v3 + 8).toNatClampNeg))) 5 ((v3 + 20).toNatClampNeg))) d_MD_restore_272 (fun H locs hX => ?_)
      refine lv_aload_n (pc := 275) X.1 X.2.1 d_MD_restore_275 rfl (lv_at hl 0 rfl) ?_
      refine lv_aload_n (pc := 276) X.1 X.2.1 d_MD_restore_276 rfl (lv_at hl 0 rfl) ?_
      refine ab_gx (pc := 277) (v := .ref (q 5)) X hX 0 9 28 rfl rfl (Nat.le_of_ble_eq_true rfl) in_MD rfl tw_458 rfl d_MD_restore_277 ?_
      refine lv_iload_n (pc := 280) X.1 X.2.1 d_MD_restore_280 rfl (lv_at hl 1 rfl) ?_
      refine lv_bipush (pc := 281) (v := 21) X.1 X.2.1 d_MD_restore_281 (by decide) ?_
      refine lv_iadd (pc := 283) X.1 X.2.1 d_MD_restore_283 ?_
      refine ab_ald (pc := 284) (f := (f_MD_setFlags u (u 5 ((v3 + 8).toNatClampNeg))) 5) (j := (v3 + 21).toNatClampNeg) X hX 5 0 rfl rfl (ab_kp ha (by decide)) rfl d_MD_restore_284 ?_
      refine ab_px (pc := 285) (ws' := (wM t q (stt (stt (stt (stt (stt (stt (stt (stt (stt (stt (stt (stt (stt (f_MD_setFlags u (u 5 ((v3 + 8).toNatClampNeg))) 0 9 ((f_MD_setFlags u (u 5 ((v3 + 8).toNatClampNeg))) 5 ((v3 + 9).toNatClampNeg))) 0 10 ((f_MD_setFlags u (u 5 ((v3 + 8).toNatClampNeg))) 5 ((v3 + 10).toNatClampNeg))) 0 11 (if ((f_MD_setFlags u (u 5 ((v3 + 8).toNatClampNeg))) 5 ((v3 + 11).toNatClampNeg)) = 1 then 1 else 0 : Int32)) 0 13 (if ((f_MD_setFlags u (u 5 ((v3 + 8).toNatClampNeg))) 5 ((v3 + 12).toNatClampNeg)) = 1 then 1 else 0 : Int32)) 0 14 ((f_MD_setFlags u (u 5 ((v3 + 8).toNatClampNeg))) 5 ((v3 + 13).toNatClampNeg))) 0 15 ((f_MD_setFlags u (u 5 ((v3 + 8).toNatClampNeg))) 5 ((v3 + 14).toNatClampNeg))) 0 16 ((f_MD_setFlags u (u 5 ((v3 + 8).toNatClampNeg))) 5 ((v3 + 15).toNatClampNeg))) 0 17 ((f_MD_setFlags u (u 5 ((v3 + 8).toNatClampNeg))) 5 ((v3 + 16).toNatClampNeg))) 0 18 ((f_MD_setFlags u (u 5 ((v3 + 8).toNatClampNeg))) 5 ((v3 + 17).toNatClampNeg))) 0 19 ((f_MD_setFlags u (u 5 ((v3 + 8).toNatClampNeg))) 5 ((v3 + 18).toNatClampNeg))) 0 20 ((f_MD_setFlags u (u 5 ((v3 + 8).toNatClampNeg))) 5 ((v3 + 19).toNatClampNeg))) 0 21 ((f_MD_setFlags u (u 5 ((v3 + 8).toNatClampNeg))) 5 ((v3 + 20).toNatClampNeg))) 0 22 ((f_MD_setFlags u (u 5 ((v3 + 8).toNatClampNeg))) 5 ((v3 + 21).toNatClampNeg))))) X hX 0 9 24 ty_MD ty_MD_ok nm_MD rfl rfl (Nat.le_of_ble_eq_true rfl) in_MD rfl tw_368 rfl rfl rfl rfl (Nat.le_of_ble_eq_true rfl) (sf_wM_0_24 t q (stt (stt (stt (stt (stt (stt (stt (stt (stt (stt (stt (stt (f_MD_setFlags u (u 5 ((v3 + 8).toNatClampNeg))) 0 9 ((f_MD_setFlags u (u 5 ((v3 + 8).toNatClampNeg))) 5 ((v3 + 9).toNatClampNeg))) 0 10 ((f_MD_setFlags u (u 5 ((v3 + 8).toNatClampNeg))) 5 ((v3 + 10).toNatClampNeg))) 0 11 (if ((f_MD_setFlags u (u 5 ((v3 + 8).toNatClampNeg))) 5 ((v3 + 11).toNatClampNeg)) = 1 then 1 else 0 : Int32)) 0 13 (if ((f_MD_setFlags u (u 5 ((v3 + 8).toNatClampNeg))) 5 ((v3 + 12).toNatClampNeg)) = 1 then 1 else 0 : Int32)) 0 14 ((f_MD_setFlags u (u 5 ((v3 + 8).toNatClampNeg))) 5 ((v3 + 13).toNatClampNeg))) 0 15 ((f_MD_setFlags u (u 5 ((v3 + 8).toNatClampNeg))) 5 ((v3 + 14).toNatClampNeg))) 0 16 ((f_MD_setFlags u (u 5 ((v3 + 8).toNatClampNeg))) 5 ((v3 + 15).toNatClampNeg))) 0 17 ((f_MD_setFlags u (u 5 ((v3 + 8).toNatClampNeg))) 5 ((v3 + 16).toNatClampNeg))) 0 18 ((f_MD_setFlags u (u 5 ((v3 + 8).toNatClampNeg))) 5 ((v3 + 17).toNatClampNeg))) 0 19 ((f_MD_setFlags u (u 5 ((v3 + 8).toNatClampNeg))) 5 ((v3 + 18).toNatClampNeg))) 0 20 ((f_MD_setFlags u (u 5 ((v3 + 8).toNatClampNeg))) 5 ((v3 + 19).toNatClampNeg))) 0 21 ((f_MD_setFlags u (u 5 ((v3 + 8).toNatClampNeg))) 5 ((v3 + 20).toNatClampNeg))) ((f_MD_setFlags u (u 5 ((v3 + 8).toNatClampNeg))) 5 ((v3 + 21).toNatClampNeg))) d_MD_restore_285 (fun H locs hX => ?_)
      refine lv_aload_n (pc := 288) X.1 X.2.1 d_MD_restore_288 rfl (lv_at hl 0 rfl) ?_
      refine lv_aload_n (pc := 289) X.1 X.2.1 d_MD_restore_289 rfl (lv_at hl 0 rfl) ?_
      refine ab_gx (pc := 290) (v := .ref (q 5)) X hX 0 9 28 rfl rfl (Nat.le_of_ble_eq_true rfl) in_MD rfl tw_458 rfl d_MD_restore_290 ?_
      refine lv_iload_n (pc := 293) X.1 X.2.1 d_MD_restore_293 rfl (lv_at hl 1 rfl) ?_
      refine lv_bipush (pc := 294) (v := 22) X.1 X.2.1 d_MD_restore_294 (by decide) ?_
      refine lv_iadd (pc := 296) X.1 X.2.1 d_MD_restore_296 ?_
      refine ab_ald (pc := 297) (f := (f_MD_setFlags u (u 5 ((v3 + 8).toNatClampNeg))) 5) (j := (v3 + 22).toNatClampNeg) X hX 5 0 rfl rfl (ab_kp ha (by decide)) rfl d_MD_restore_297 ?_
      refine lv_iconst (pc := 298) (v := 1) X.1 X.2.1 d_MD_restore_298 (by decide) ?_
      refine ab_jn (ls := ls) (rest := [.ref (q 0)]) 307 (if ((f_MD_setFlags u (u 5 ((v3 + 8).toNatClampNeg))) 5 ((v3 + 22).toNatClampNeg)) = 1 then 1 else 0 : Int32) ?_ (fun J => ?_)
      rotate_left
      ·
        refine lv_icmp_ne (pc := 299) (tgt := 306) X.1 X.2.1 d_MD_restore_299 (by decide) (fun h9 => ?_) (fun h9 => ?_)
        ·
          refine lv_iconst (pc := 306) (v := 0) X.1 X.2.1 d_MD_restore_306 (by decide) ?_
          exact ab_jt (by rw [if_neg h9]) J
        ·
          refine lv_iconst (pc := 302) (v := 1) X.1 X.2.1 d_MD_restore_302 (by decide) ?_
          refine lv_goto (pc := 303) (tgt := 307) X.1 X.2.1 d_MD_restore_303 (by decide) ?_
          exact ab_jt (by rw [if_pos h9]) J
      refine ab_px (pc := 307) (ws' := (wM t q (stt (stt (stt (stt (stt (stt (stt (stt (stt (stt (stt (stt (stt (stt (f_MD_setFlags u (u 5 ((v3 + 8).toNatClampNeg))) 0 9 ((f_MD_setFlags u (u 5 ((v3 + 8).toNatClampNeg))) 5 ((v3 + 9).toNatClampNeg))) 0 10 ((f_MD_setFlags u (u 5 ((v3 + 8).toNatClampNeg))) 5 ((v3 + 10).toNatClampNeg))) 0 11 (if ((f_MD_setFlags u (u 5 ((v3 + 8).toNatClampNeg))) 5 ((v3 + 11).toNatClampNeg)) = 1 then 1 else 0 : Int32)) 0 13 (if ((f_MD_setFlags u (u 5 ((v3 + 8).toNatClampNeg))) 5 ((v3 + 12).toNatClampNeg)) = 1 then 1 else 0 : Int32)) 0 14 ((f_MD_setFlags u (u 5 ((v3 + 8).toNatClampNeg))) 5 ((v3 + 13).toNatClampNeg))) 0 15 ((f_MD_setFlags u (u 5 ((v3 + 8).toNatClampNeg))) 5 ((v3 + 14).toNatClampNeg))) 0 16 ((f_MD_setFlags u (u 5 ((v3 + 8).toNatClampNeg))) 5 ((v3 + 15).toNatClampNeg))) 0 17 ((f_MD_setFlags u (u 5 ((v3 + 8).toNatClampNeg))) 5 ((v3 + 16).toNatClampNeg))) 0 18 ((f_MD_setFlags u (u 5 ((v3 + 8).toNatClampNeg))) 5 ((v3 + 17).toNatClampNeg))) 0 19 ((f_MD_setFlags u (u 5 ((v3 + 8).toNatClampNeg))) 5 ((v3 + 18).toNatClampNeg))) 0 20 ((f_MD_setFlags u (u 5 ((v3 + 8).toNatClampNeg))) 5 ((v3 + 19).toNatClampNeg))) 0 21 ((f_MD_setFlags u (u 5 ((v3 + 8).toNatClampNeg))) 5 ((v3 + 20).toNatClampNeg))) 0 22 ((f_MD_setFlags u (u 5 ((v3 + 8).toNatClampNeg))) 5 ((v3 + 21).toNatClampNeg))) 0 12 (if ((f_MD_setFlags u (u 5 ((v3 + 8).toNatClampNeg))) 5 ((v3 + 22).toNatClampNeg)) = 1 then 1 else 0 : Int32)))) X hX 0 9 14 ty_MD ty_MD_ok nm_MD rfl rfl (Nat.le_of_ble_eq_true rfl) in_MD rfl tw_385 rfl rfl (ab_nb (ab_bi ab_bo1 ab_bo0)) (ab_fb (ab_bi ab_bo1 ab_bo0)) (Nat.le_of_ble_eq_true rfl) (sf_wM_0_14 t q (stt (stt (stt (stt (stt (stt (stt (stt (stt (stt (stt (stt (stt (f_MD_setFlags u (u 5 ((v3 + 8).toNatClampNeg))) 0 9 ((f_MD_setFlags u (u 5 ((v3 + 8).toNatClampNeg))) 5 ((v3 + 9).toNatClampNeg))) 0 10 ((f_MD_setFlags u (u 5 ((v3 + 8).toNatClampNeg))) 5 ((v3 + 10).toNatClampNeg))) 0 11 (if ((f_MD_setFlags u (u 5 ((v3 + 8).toNatClampNeg))) 5 ((v3 + 11).toNatClampNeg)) = 1 then 1 else 0 : Int32)) 0 13 (if ((f_MD_setFlags u (u 5 ((v3 + 8).toNatClampNeg))) 5 ((v3 + 12).toNatClampNeg)) = 1 then 1 else 0 : Int32)) 0 14 ((f_MD_setFlags u (u 5 ((v3 + 8).toNatClampNeg))) 5 ((v3 + 13).toNatClampNeg))) 0 15 ((f_MD_setFlags u (u 5 ((v3 + 8).toNatClampNeg))) 5 ((v3 + 14).toNatClampNeg))) 0 16 ((f_MD_setFlags u (u 5 ((v3 + 8).toNatClampNeg))) 5 ((v3 + 15).toNatClampNeg))) 0 17 ((f_MD_setFlags u (u 5 ((v3 + 8).toNatClampNeg))) 5 ((v3 + 16).toNatClampNeg))) 0 18 ((f_MD_setFlags u (u 5 ((v3 + 8).toNatClampNeg))) 5 ((v3 + 17).toNatClampNeg))) 0 19 ((f_MD_setFlags u (u 5 ((v3 + 8).toNatClampNeg))) 5 ((v3 + 18).toNatClampNeg))) 0 20 ((f_MD_setFlags u (u 5 ((v3 + 8).toNatClampNeg))) 5 ((v3 + 19).toNatClampNeg))) 0 21 ((f_MD_setFlags u (u 5 ((v3 + 8).toNatClampNeg))) 5 ((v3 + 20).toNatClampNeg))) 0 22 ((f_MD_setFlags u (u 5 ((v3 + 8).toNatClampNeg))) 5 ((v3 + 21).toNatClampNeg))) (if ((f_MD_setFlags u (u 5 ((v3 + 8).toNatClampNeg))) 5 ((v3 + 22).toNatClampNeg)) = 1 then 1 else 0 : Int32)) d_MD_restore_307 (fun H locs hX => ?_)
      refine lv_iconst (pc := 310) (v := 0) X.1 X.2.1 d_MD_restore_310 (by decide) ?_
      refine lv_istore (pc := 311) (lv' := [(4, .int 0), (0, .ref (q 0)), (3, .int v3)]) X.1 X.2.1 d_MD_restore_311 hl (Nat.le_of_ble_eq_true rfl) rfl (fun ls hl => ?_)
      rw [show g_MD_restore_59 (k + 1) u v3 v4 = g_MD_restore_313 513 (stt (stt (stt (stt (stt (stt (stt (stt (stt (stt (stt (stt (stt (stt (f_MD_setFlags u (u 5 ((v3 + 8).toNatClampNeg))) 0 9 ((f_MD_setFlags u (u 5 ((v3 + 8).toNatClampNeg))) 5 ((v3 + 9).toNatClampNeg))) 0 10 ((f_MD_setFlags u (u 5 ((v3 + 8).toNatClampNeg))) 5 ((v3 + 10).toNatClampNeg))) 0 11 (if ((f_MD_setFlags u (u 5 ((v3 + 8).toNatClampNeg))) 5 ((v3 + 11).toNatClampNeg)) = 1 then 1 else 0 : Int32)) 0 13 (if ((f_MD_setFlags u (u 5 ((v3 + 8).toNatClampNeg))) 5 ((v3 + 12).toNatClampNeg)) = 1 then 1 else 0 : Int32)) 0 14 ((f_MD_setFlags u (u 5 ((v3 + 8).toNatClampNeg))) 5 ((v3 + 13).toNatClampNeg))) 0 15 ((f_MD_setFlags u (u 5 ((v3 + 8).toNatClampNeg))) 5 ((v3 + 14).toNatClampNeg))) 0 16 ((f_MD_setFlags u (u 5 ((v3 + 8).toNatClampNeg))) 5 ((v3 + 15).toNatClampNeg))) 0 17 ((f_MD_setFlags u (u 5 ((v3 + 8).toNatClampNeg))) 5 ((v3 + 16).toNatClampNeg))) 0 18 ((f_MD_setFlags u (u 5 ((v3 + 8).toNatClampNeg))) 5 ((v3 + 17).toNatClampNeg))) 0 19 ((f_MD_setFlags u (u 5 ((v3 + 8).toNatClampNeg))) 5 ((v3 + 18).toNatClampNeg))) 0 20 ((f_MD_setFlags u (u 5 ((v3 + 8).toNatClampNeg))) 5 ((v3 + 19).toNatClampNeg))) 0 21 ((f_MD_setFlags u (u 5 ((v3 + 8).toNatClampNeg))) 5 ((v3 + 20).toNatClampNeg))) 0 22 ((f_MD_setFlags u (u 5 ((v3 + 8).toNatClampNeg))) 5 ((v3 + 21).toNatClampNeg))) 0 12 (if ((f_MD_setFlags u (u 5 ((v3 + 8).toNatClampNeg))) 5 ((v3 + 22).toNatClampNeg)) = 1 then 1 else 0 : Int32)) v3 0 from by rw [g_MD_restore_59, if_pos h6]]
      exact k_MD_restore_313 X hr hk 513 (stt (stt (stt (stt (stt (stt (stt (stt (stt (stt (stt (stt (stt (stt (f_MD_setFlags u (u 5 ((v3 + 8).toNatClampNeg))) 0 9 ((f_MD_setFlags u (u 5 ((v3 + 8).toNatClampNeg))) 5 ((v3 + 9).toNatClampNeg))) 0 10 ((f_MD_setFlags u (u 5 ((v3 + 8).toNatClampNeg))) 5 ((v3 + 10).toNatClampNeg))) 0 11 (if ((f_MD_setFlags u (u 5 ((v3 + 8).toNatClampNeg))) 5 ((v3 + 11).toNatClampNeg)) = 1 then 1 else 0 : Int32)) 0 13 (if ((f_MD_setFlags u (u 5 ((v3 + 8).toNatClampNeg))) 5 ((v3 + 12).toNatClampNeg)) = 1 then 1 else 0 : Int32)) 0 14 ((f_MD_setFlags u (u 5 ((v3 + 8).toNatClampNeg))) 5 ((v3 + 13).toNatClampNeg))) 0 15 ((f_MD_setFlags u (u 5 ((v3 + 8).toNatClampNeg))) 5 ((v3 + 14).toNatClampNeg))) 0 16 ((f_MD_setFlags u (u 5 ((v3 + 8).toNatClampNeg))) 5 ((v3 + 15).toNatClampNeg))) 0 17 ((f_MD_setFlags u (u 5 ((v3 + 8).toNatClampNeg))) 5 ((v3 + 16).toNatClampNeg))) 0 18 ((f_MD_setFlags u (u 5 ((v3 + 8).toNatClampNeg))) 5 ((v3 + 17).toNatClampNeg))) 0 19 ((f_MD_setFlags u (u 5 ((v3 + 8).toNatClampNeg))) 5 ((v3 + 18).toNatClampNeg))) 0 20 ((f_MD_setFlags u (u 5 ((v3 + 8).toNatClampNeg))) 5 ((v3 + 19).toNatClampNeg))) 0 21 ((f_MD_setFlags u (u 5 ((v3 + 8).toNatClampNeg))) 5 ((v3 + 20).toNatClampNeg))) 0 22 ((f_MD_setFlags u (u 5 ((v3 + 8).toNatClampNeg))) 5 ((v3 + 21).toNatClampNeg))) 0 12 (if ((f_MD_setFlags u (u 5 ((v3 + 8).toNatClampNeg))) 5 ((v3 + 22).toNatClampNeg)) = 1 then 1 else 0 : Int32)) v3 0 0 rfl (Nat.zero_le _) (by decide) ha hX (lv_sub hl [1, 2, 0] rfl)
    ·
      refine lv_aload_n (pc := 66) X.1 X.2.1 d_MD_restore_66 rfl (lv_at hl 0 rfl) ?_
      refine ab_gx (pc := 67) (v := .ref (q 2)) X hX 0 9 5 rfl rfl (Nat.le_of_ble_eq_true rfl) in_MD rfl tw_304 rfl d_MD_restore_67 ?_
      refine lv_iload (pc := 70) X.1 X.2.1 d_MD_restore_70 (lv_at hl 2 rfl) ?_
      refine lv_aload_n (pc := 72) X.1 X.2.1 d_MD_restore_72 rfl (lv_at hl 0 rfl) ?_
      refine ab_gx (pc := 73) (v := .ref (q 5)) X hX 0 9 28 rfl rfl (Nat.le_of_ble_eq_true rfl) in_MD rfl tw_458 rfl d_MD_restore_73 ?_
      refine lv_iload_n (pc := 76) X.1 X.2.1 d_MD_restore_76 rfl (lv_at hl 1 rfl) ?_
      refine lv_iload (pc := 77) X.1 X.2.1 d_MD_restore_77 (lv_at hl 2 rfl) ?_
      refine lv_iadd (pc := 79) X.1 X.2.1 d_MD_restore_79 ?_
      refine ab_ald (pc := 80) (f := u 5) (j := (v3 + v4).toNatClampNeg) X hX 5 0 rfl rfl (ab_kpi ha h6 hi hj (by decide)) rfl d_MD_restore_80 ?_
      refine ab_ast (pc := 81) (f := u 2) (j := (v4).toNatClampNeg) (ws' := (wM t q (stt u 2 ((v4).toNatClampNeg) (u 5 ((v3 + v4).toNatClampNeg))))) X hX 2 0 rfl rfl (ab_inN h6 hi hj rfl (by decide)) rfl (sa_wM_2 t q u ((v4).toNatClampNeg) (u 5 ((v3 + v4).toNatClampNeg))) d_MD_restore_81 (fun H locs hX => ?_)
      refine lv_iinc (pc := 82) (k := 2) (v := v4 + 1) (lv' := [(4, .int (v4 + 1)), (0, .ref (q 0)), (3, .int v3)]) X.1 X.2.1 d_MD_restore_82 hl rfl rfl (Nat.le_of_ble_eq_true rfl) rfl (fun ls hl => ?_)
      refine lv_goto (pc := 85) (tgt := 59) X.1 X.2.1 d_MD_restore_85 (by decide) ?_
      rw [show g_MD_restore_59 (k + 1) u v3 v4 = g_MD_restore_59 k (stt u 2 ((v4).toNatClampNeg) (u 5 ((v3 + v4).toNatClampNeg))) v3 (v4 + 1) from by rw [g_MD_restore_59, if_neg h6]]
      exact ih (stt u 2 ((v4).toNatClampNeg) (u 5 ((v3 + v4).toNatClampNeg))) v3 (v4 + 1) (j + 1) (by rw [hi]; exact nI_1 j) (ab_ltN h6 hi hj rfl (by decide)) (by have := ab_ltN h6 hi hj (N := 8) rfl (by decide); omega) ha hX (lv_sub hl [1, 2, 0] rfl)
set_option maxHeartbeats 1000000 in
set_option maxRecDepth 100000 in
theorem c_MD_restore (l : Launch) (D : va_G) (t : Nat → ClassId) (q : Nat → Nat) (u : SS) (x1 : Int32) : ab_ki l D (tyC t) (wM t q) y_MD_restore b_MD_restore 5 .boolean { frames := 1, cells := 0, slots := 0, locals := 21 } [.ref (q 0), .int x1] u (f_MD_restore u x1) := by
  refine ab_ki_ofW (by decide) (Nat.le_of_ble_eq_true rfl) (fun p e s m below meth c ls A X hr hk hl hX => ?_)
  have hl : lv_has ls 5 [(0, .ref (q 0)), (1, .int x1)] := hl
  refine lv_iload_n (pc := 0) X.1 X.2.1 d_MD_restore_0 rfl (lv_at hl 1 rfl) ?_
  refine ab_jn (ls := ls) (rest := []) 14 (if x1 = 0 then 1 else (if x1 = 1 then 1 else 0 : Int32) : Int32) ?_ (fun J => ?_)
  rotate_left
  ·
    refine lv_if_eq (pc := 1) (tgt := 9) X.1 X.2.1 d_MD_restore_1 (by decide) (fun h1 => ?_) (fun h1 => ?_)
    ·
      refine lv_iconst (pc := 9) (v := 1) X.1 X.2.1 d_MD_restore_9 (by decide) ?_
      refine lv_goto (pc := 10) (tgt := 14) X.1 X.2.1 d_MD_restore_10 (by decide) ?_
      exact ab_jt (by rw [if_pos h1]) J
    ·
      refine lv_iload_n (pc := 4) X.1 X.2.1 d_MD_restore_4 rfl (lv_at hl 1 rfl) ?_
      refine lv_iconst (pc := 5) (v := 1) X.1 X.2.1 d_MD_restore_5 (by decide) ?_
      refine lv_icmp_ne (pc := 6) (tgt := 13) X.1 X.2.1 d_MD_restore_6 (by decide) (fun h2 => ?_) (fun h2 => ?_)
      ·
        refine lv_iconst (pc := 13) (v := 0) X.1 X.2.1 d_MD_restore_13 (by decide) ?_
        exact ab_jt (by rw [if_neg h1, if_neg h2]) J
      ·
        refine lv_iconst (pc := 9) (v := 1) X.1 X.2.1 d_MD_restore_9 (by decide) ?_
        refine lv_goto (pc := 10) (tgt := 14) X.1 X.2.1 d_MD_restore_10 (by decide) ?_
        exact ab_jt (by rw [if_neg h1, if_pos h2]) J
  refine lv_istore_n (pc := 14) (lv' := [(2, .int (if x1 = 0 then 1 else (if x1 = 1 then 1 else 0 : Int32) : Int32)), (0, .ref (q 0)), (1, .int x1)]) X.1 X.2.1 d_MD_restore_14 rfl hl (Nat.le_of_ble_eq_true rfl) rfl (fun ls hl => ?_)
  refine lv_aload_n (pc := 15) X.1 X.2.1 d_MD_restore_15 rfl (lv_at hl 1 rfl) ?_
  refine lv_iload_n (pc := 16) X.1 X.2.1 d_MD_restore_16 rfl (lv_at hl 0 rfl) ?_
  refine ab_jn (ls := ls) (rest := [.ref (q 0)]) 38 (if (if x1 = 0 then 1 else (if x1 = 1 then 1 else 0 : Int32) : Int32) = 0 then 1 else (if (u 4 ((x1).toNatClampNeg)) = 0 then 2 else 0 : Int32) : Int32) ?_ (fun J => ?_)
  rotate_left
  ·
    refine lv_if_ne (pc := 17) (tgt := 24) X.1 X.2.1 d_MD_restore_17 (by decide) (fun h3 => ?_) (fun h3 => ?_)
    ·
      refine lv_aload_n (pc := 24) X.1 X.2.1 d_MD_restore_24 rfl (lv_at hl 1 rfl) ?_
      refine ab_gx (pc := 25) (v := .ref (q 4)) X hX 0 9 27 rfl rfl (Nat.le_of_ble_eq_true rfl) in_MD rfl tw_457 rfl d_MD_restore_25 ?_
      refine lv_iload_n (pc := 28) X.1 X.2.1 d_MD_restore_28 rfl (lv_at hl 2 rfl) ?_
      refine ab_aldz (pc := 29) (f := u 4) (j := (x1).toNatClampNeg) X hX 4 1 rfl rfl (ab_in01r h3) rfl d_MD_restore_29 ?_
      refine lv_if_ne (pc := 30) (tgt := 37) X.1 X.2.1 d_MD_restore_30 (by decide) (fun h4 => ?_) (fun h4 => ?_)
      ·
        refine lv_iconst (pc := 37) (v := 0) X.1 X.2.1 d_MD_restore_37 (by decide) ?_
        exact ab_jt (by rw [if_neg h3, if_neg h4]) J
      ·
        refine lv_iconst (pc := 33) (v := 2) X.1 X.2.1 d_MD_restore_33 (by decide) ?_
        refine lv_goto (pc := 34) (tgt := 38) X.1 X.2.1 d_MD_restore_34 (by decide) ?_
        exact ab_jt (by rw [if_neg h3, if_pos h4]) J
    ·
      refine lv_iconst (pc := 20) (v := 1) X.1 X.2.1 d_MD_restore_20 (by decide) ?_
      refine lv_goto (pc := 21) (tgt := 38) X.1 X.2.1 d_MD_restore_21 (by decide) ?_
      exact ab_jt (by rw [if_pos h3]) J
  refine ab_px (pc := 38) (ws' := (wM t q (stt u 0 0 (if (if x1 = 0 then 1 else (if x1 = 1 then 1 else 0 : Int32) : Int32) = 0 then 1 else (if (u 4 ((x1).toNatClampNeg)) = 0 then 2 else 0 : Int32) : Int32)))) X hX 0 9 0 ty_MD ty_MD_ok nm_MD rfl rfl (Nat.le_of_ble_eq_true rfl) in_MD rfl tw_283 rfl rfl rfl rfl (Nat.le_of_ble_eq_true rfl) (sf_wM_0_0 t q u (if (if x1 = 0 then 1 else (if x1 = 1 then 1 else 0 : Int32) : Int32) = 0 then 1 else (if (u 4 ((x1).toNatClampNeg)) = 0 then 2 else 0 : Int32) : Int32)) d_MD_restore_38 (fun H locs hX => ?_)
  refine lv_aload_n (pc := 41) X.1 X.2.1 d_MD_restore_41 rfl (lv_at hl 1 rfl) ?_
  refine ab_gx (pc := 42) (v := .int (if (if x1 = 0 then 1 else (if x1 = 1 then 1 else 0 : Int32) : Int32) = 0 then 1 else (if (u 4 ((x1).toNatClampNeg)) = 0 then 2 else 0 : Int32) : Int32)) X hX 0 9 0 rfl rfl (Nat.le_of_ble_eq_true rfl) in_MD rfl tw_283 rfl d_MD_restore_42 ?_
  refine lv_if_le (pc := 45) (tgt := 50) X.1 X.2.1 d_MD_restore_45 (by decide) (fun h5 => ?_) (fun h5 => ?_)
  ·
    refine lv_sipush (pc := 50) (v := 540) X.1 X.2.1 d_MD_restore_50 (by decide) ?_
    refine lv_iload_n (pc := 53) X.1 X.2.1 d_MD_restore_53 rfl (lv_at hl 2 rfl) ?_
    refine lv_imul (pc := 54) X.1 X.2.1 d_MD_restore_54 ?_
    refine lv_istore_n (pc := 55) (lv' := [(3, .int (540 * x1)), (2, .int (if x1 = 0 then 1 else (if x1 = 1 then 1 else 0 : Int32) : Int32)), (0, .ref (q 0)), (1, .int x1)]) X.1 X.2.1 d_MD_restore_55 rfl hl (Nat.le_of_ble_eq_true rfl) rfl (fun ls hl => ?_)
    refine lv_iconst (pc := 56) (v := 0) X.1 X.2.1 d_MD_restore_56 (by decide) ?_
    refine lv_istore (pc := 57) (lv' := [(4, .int 0), (3, .int (540 * x1)), (2, .int (if x1 = 0 then 1 else (if x1 = 1 then 1 else 0 : Int32) : Int32)), (0, .ref (q 0)), (1, .int x1)]) X.1 X.2.1 d_MD_restore_57 hl (Nat.le_of_ble_eq_true rfl) rfl (fun ls hl => ?_)
    rw [show f_MD_restore u x1 = g_MD_restore_59 9 (stt u 0 0 (if (if x1 = 0 then 1 else (if x1 = 1 then 1 else 0 : Int32) : Int32) = 0 then 1 else (if (u 4 ((x1).toNatClampNeg)) = 0 then 2 else 0 : Int32) : Int32)) (540 * x1) 0 from by rw [f_MD_restore, if_pos h5]]
    exact k_MD_restore_59 X hr hk 9 (stt u 0 0 (if (if x1 = 0 then 1 else (if x1 = 1 then 1 else 0 : Int32) : Int32) = 0 then 1 else (if (u 4 ((x1).toNatClampNeg)) = 0 then 2 else 0 : Int32) : Int32)) (540 * x1) 0 0 rfl (Nat.zero_le _) (by decide) (ab_540r h5) hX (lv_sub hl [3, 1, 0] rfl)
  ·
    refine lv_iconst (pc := 48) (v := 0) X.1 X.2.1 d_MD_restore_48 (by decide) ?_
    exact ab_ki_ret (pc := 49) X hr hk hX rfl (by rw [f_MD_restore, if_neg h5]) d_MD_restore_49
