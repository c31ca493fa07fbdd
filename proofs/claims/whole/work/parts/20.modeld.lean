abbrev b_MD_lowOperation : ByteArray := prog_11_method_19_code
def y_MD_lowOperation : MethodName := ⟨"ArcadeBoardModel", "lowOperation", "(II)V"⟩
theorem d_MD_lowOperation_0 : decode b_MD_lowOperation 0 = .ok (.iload_n 2, 1) := by decide +kernel
theorem d_MD_lowOperation_1 : decode b_MD_lowOperation 1 = .ok (.ifCond .ne 11, 3) := by decide +kernel
theorem d_MD_lowOperation_4 : decode b_MD_lowOperation 4 = .ok (.aload_n 0, 1) := by decide +kernel
theorem d_MD_lowOperation_5 : decode b_MD_lowOperation 5 = .ok (.iconst 4, 1) := by decide +kernel
theorem d_MD_lowOperation_6 : decode b_MD_lowOperation 6 = .ok (.putfield 71, 3) := by decide +kernel
theorem d_MD_lowOperation_9 : decode b_MD_lowOperation 9 = .ok (.goto 261, 3) := by decide +kernel
theorem d_MD_lowOperation_12 : decode b_MD_lowOperation 12 = .ok (.iload_n 2, 1) := by decide +kernel
theorem d_MD_lowOperation_13 : decode b_MD_lowOperation 13 = .ok (.iconst 1, 1) := by decide +kernel
theorem d_MD_lowOperation_14 : decode b_MD_lowOperation 14 = .ok (.if_icmp .ne 67, 3) := by decide +kernel
theorem d_MD_lowOperation_17 : decode b_MD_lowOperation 17 = .ok (.aload_n 0, 1) := by decide +kernel
theorem d_MD_lowOperation_18 : decode b_MD_lowOperation 18 = .ok (.bipush 10, 2) := by decide +kernel
theorem d_MD_lowOperation_20 : decode b_MD_lowOperation 20 = .ok (.putfield 71, 3) := by decide +kernel
theorem d_MD_lowOperation_23 : decode b_MD_lowOperation 23 = .ok (.iload_n 1, 1) := by decide +kernel
theorem d_MD_lowOperation_24 : decode b_MD_lowOperation 24 = .ok (.iconst 2, 1) := by decide +kernel
theorem d_MD_lowOperation_25 : decode b_MD_lowOperation 25 = .ok (.irem, 1) := by decide +kernel
theorem d_MD_lowOperation_26 : decode b_MD_lowOperation 26 = .ok (.ifCond .ne 17, 3) := by decide +kernel
theorem d_MD_lowOperation_29 : decode b_MD_lowOperation 29 = .ok (.aload_n 0, 1) := by decide +kernel
theorem d_MD_lowOperation_30 : decode b_MD_lowOperation 30 = .ok (.iload_n 1, 1) := by decide +kernel
theorem d_MD_lowOperation_31 : decode b_MD_lowOperation 31 = .ok (.iconst 2, 1) := by decide +kernel
theorem d_MD_lowOperation_32 : decode b_MD_lowOperation 32 = .ok (.idiv, 1) := by decide +kernel
theorem d_MD_lowOperation_33 : decode b_MD_lowOperation 33 = .ok (.aload_n 0, 1) := by decide +kernel
theorem d_MD_lowOperation_34 : decode b_MD_lowOperation 34 = .ok (.invokevirtual 74, 3) := by decide +kernel
theorem d_MD_lowOperation_37 : decode b_MD_lowOperation 37 = .ok (.invokevirtual 77, 3) := by decide +kernel
theorem d_MD_lowOperation_40 : decode b_MD_lowOperation 40 = .ok (.goto 230, 3) := by decide +kernel
theorem d_MD_lowOperation_43 : decode b_MD_lowOperation 43 = .ok (.aload_n 0, 1) := by decide +kernel
theorem d_MD_lowOperation_44 : decode b_MD_lowOperation 44 = .ok (.iconst 2, 1) := by decide +kernel
theorem d_MD_lowOperation_45 : decode b_MD_lowOperation 45 = .ok (.invokevirtual 45, 3) := by decide +kernel
theorem d_MD_lowOperation_48 : decode b_MD_lowOperation 48 = .ok (.aload_n 0, 1) := by decide +kernel
theorem d_MD_lowOperation_49 : decode b_MD_lowOperation 49 = .ok (.iload_n 1, 1) := by decide +kernel
theorem d_MD_lowOperation_50 : decode b_MD_lowOperation 50 = .ok (.iconst 2, 1) := by decide +kernel
theorem d_MD_lowOperation_51 : decode b_MD_lowOperation 51 = .ok (.idiv, 1) := by decide +kernel
theorem d_MD_lowOperation_52 : decode b_MD_lowOperation 52 = .ok (.invokevirtual 45, 3) := by decide +kernel
theorem d_MD_lowOperation_55 : decode b_MD_lowOperation 55 = .ok (.iadd, 1) := by decide +kernel
theorem d_MD_lowOperation_56 : decode b_MD_lowOperation 56 = .ok (.istore_n 3, 1) := by decide +kernel
theorem d_MD_lowOperation_57 : decode b_MD_lowOperation 57 = .ok (.aload_n 0, 1) := by decide +kernel
theorem d_MD_lowOperation_58 : decode b_MD_lowOperation 58 = .ok (.iload_n 3, 1) := by decide +kernel
theorem d_MD_lowOperation_59 : decode b_MD_lowOperation 59 = .ok (.ldc 37, 2) := by decide +kernel
theorem d_MD_lowOperation_61 : decode b_MD_lowOperation 61 = .ok (.if_icmp .le 7, 3) := by decide +kernel
theorem d_MD_lowOperation_64 : decode b_MD_lowOperation 64 = .ok (.iconst 1, 1) := by decide +kernel
theorem d_MD_lowOperation_65 : decode b_MD_lowOperation 65 = .ok (.goto 4, 3) := by decide +kernel
theorem d_MD_lowOperation_68 : decode b_MD_lowOperation 68 = .ok (.iconst 0, 1) := by decide +kernel
theorem d_MD_lowOperation_69 : decode b_MD_lowOperation 69 = .ok (.putfield 65, 3) := by decide +kernel
theorem d_MD_lowOperation_72 : decode b_MD_lowOperation 72 = .ok (.aload_n 0, 1) := by decide +kernel
theorem d_MD_lowOperation_73 : decode b_MD_lowOperation 73 = .ok (.iconst 2, 1) := by decide +kernel
theorem d_MD_lowOperation_74 : decode b_MD_lowOperation 74 = .ok (.iload_n 3, 1) := by decide +kernel
theorem d_MD_lowOperation_75 : decode b_MD_lowOperation 75 = .ok (.invokevirtual 77, 3) := by decide +kernel
theorem d_MD_lowOperation_78 : decode b_MD_lowOperation 78 = .ok (.goto 192, 3) := by decide +kernel
theorem d_MD_lowOperation_81 : decode b_MD_lowOperation 81 = .ok (.iload_n 2, 1) := by decide +kernel
theorem d_MD_lowOperation_82 : decode b_MD_lowOperation 82 = .ok (.iconst 2, 1) := by decide +kernel
theorem d_MD_lowOperation_83 : decode b_MD_lowOperation 83 = .ok (.if_icmp .ne 11, 3) := by decide +kernel
theorem d_MD_lowOperation_86 : decode b_MD_lowOperation 86 = .ok (.aload_n 0, 1) := by decide +kernel
theorem d_MD_lowOperation_87 : decode b_MD_lowOperation 87 = .ok (.iload_n 1, 1) := by decide +kernel
theorem d_MD_lowOperation_88 : decode b_MD_lowOperation 88 = .ok (.invokevirtual 80, 3) := by decide +kernel
theorem d_MD_lowOperation_91 : decode b_MD_lowOperation 91 = .ok (.goto 179, 3) := by decide +kernel
theorem d_MD_lowOperation_94 : decode b_MD_lowOperation 94 = .ok (.iload_n 2, 1) := by decide +kernel
theorem d_MD_lowOperation_95 : decode b_MD_lowOperation 95 = .ok (.iconst 3, 1) := by decide +kernel
theorem d_MD_lowOperation_96 : decode b_MD_lowOperation 96 = .ok (.if_icmp .ne 37, 3) := by decide +kernel
theorem d_MD_lowOperation_99 : decode b_MD_lowOperation 99 = .ok (.aload_n 0, 1) := by decide +kernel
theorem d_MD_lowOperation_100 : decode b_MD_lowOperation 100 = .ok (.iconst 5, 1) := by decide +kernel
theorem d_MD_lowOperation_101 : decode b_MD_lowOperation 101 = .ok (.putfield 71, 3) := by decide +kernel
theorem d_MD_lowOperation_104 : decode b_MD_lowOperation 104 = .ok (.aload_n 0, 1) := by decide +kernel
theorem d_MD_lowOperation_105 : decode b_MD_lowOperation 105 = .ok (.iload_n 1, 1) := by decide +kernel
theorem d_MD_lowOperation_106 : decode b_MD_lowOperation 106 = .ok (.iconst 2, 1) := by decide +kernel
theorem d_MD_lowOperation_107 : decode b_MD_lowOperation 107 = .ok (.idiv, 1) := by decide +kernel
theorem d_MD_lowOperation_108 : decode b_MD_lowOperation 108 = .ok (.aload_n 0, 1) := by decide +kernel
theorem d_MD_lowOperation_109 : decode b_MD_lowOperation 109 = .ok (.iload_n 1, 1) := by decide +kernel
theorem d_MD_lowOperation_110 : decode b_MD_lowOperation 110 = .ok (.iconst 2, 1) := by decide +kernel
theorem d_MD_lowOperation_111 : decode b_MD_lowOperation 111 = .ok (.idiv, 1) := by decide +kernel
theorem d_MD_lowOperation_112 : decode b_MD_lowOperation 112 = .ok (.invokevirtual 45, 3) := by decide +kernel
theorem d_MD_lowOperation_115 : decode b_MD_lowOperation 115 = .ok (.iload_n 1, 1) := by decide +kernel
theorem d_MD_lowOperation_116 : decode b_MD_lowOperation 116 = .ok (.iconst 2, 1) := by decide +kernel
theorem d_MD_lowOperation_117 : decode b_MD_lowOperation 117 = .ok (.irem, 1) := by decide +kernel
theorem d_MD_lowOperation_118 : decode b_MD_lowOperation 118 = .ok (.ifCond .ne 7, 3) := by decide +kernel
theorem d_MD_lowOperation_121 : decode b_MD_lowOperation 121 = .ok (.iconst 1, 1) := by decide +kernel
theorem d_MD_lowOperation_122 : decode b_MD_lowOperation 122 = .ok (.goto 4, 3) := by decide +kernel
theorem d_MD_lowOperation_125 : decode b_MD_lowOperation 125 = .ok (.iconst (-1), 1) := by decide +kernel
theorem d_MD_lowOperation_126 : decode b_MD_lowOperation 126 = .ok (.iadd, 1) := by decide +kernel
theorem d_MD_lowOperation_127 : decode b_MD_lowOperation 127 = .ok (.invokevirtual 77, 3) := by decide +kernel
theorem d_MD_lowOperation_130 : decode b_MD_lowOperation 130 = .ok (.goto 140, 3) := by decide +kernel
theorem d_MD_lowOperation_133 : decode b_MD_lowOperation 133 = .ok (.iload_n 2, 1) := by decide +kernel
theorem d_MD_lowOperation_134 : decode b_MD_lowOperation 134 = .ok (.bipush 6, 2) := by decide +kernel
theorem d_MD_lowOperation_136 : decode b_MD_lowOperation 136 = .ok (.if_icmp .ge 89, 3) := by decide +kernel
theorem d_MD_lowOperation_139 : decode b_MD_lowOperation 139 = .ok (.aload_n 0, 1) := by decide +kernel
theorem d_MD_lowOperation_140 : decode b_MD_lowOperation 140 = .ok (.iload_n 1, 1) := by decide +kernel
theorem d_MD_lowOperation_141 : decode b_MD_lowOperation 141 = .ok (.bipush 6, 2) := by decide +kernel
theorem d_MD_lowOperation_143 : decode b_MD_lowOperation 143 = .ok (.if_icmp .ne 8, 3) := by decide +kernel
theorem d_MD_lowOperation_146 : decode b_MD_lowOperation 146 = .ok (.bipush 10, 2) := by decide +kernel
theorem d_MD_lowOperation_148 : decode b_MD_lowOperation 148 = .ok (.goto 4, 3) := by decide +kernel
theorem d_MD_lowOperation_151 : decode b_MD_lowOperation 151 = .ok (.iconst 5, 1) := by decide +kernel
theorem d_MD_lowOperation_152 : decode b_MD_lowOperation 152 = .ok (.putfield 71, 3) := by decide +kernel
theorem d_MD_lowOperation_155 : decode b_MD_lowOperation 155 = .ok (.aload_n 0, 1) := by decide +kernel
theorem d_MD_lowOperation_156 : decode b_MD_lowOperation 156 = .ok (.iload_n 1, 1) := by decide +kernel
theorem d_MD_lowOperation_157 : decode b_MD_lowOperation 157 = .ok (.invokevirtual 84, 3) := by decide +kernel
theorem d_MD_lowOperation_160 : decode b_MD_lowOperation 160 = .ok (.istore_n 3, 1) := by decide +kernel
theorem d_MD_lowOperation_161 : decode b_MD_lowOperation 161 = .ok (.aload_n 0, 1) := by decide +kernel
theorem d_MD_lowOperation_162 : decode b_MD_lowOperation 162 = .ok (.iload_n 2, 1) := by decide +kernel
theorem d_MD_lowOperation_163 : decode b_MD_lowOperation 163 = .ok (.iconst 4, 1) := by decide +kernel
theorem d_MD_lowOperation_164 : decode b_MD_lowOperation 164 = .ok (.if_icmp .ne 20, 3) := by decide +kernel
theorem d_MD_lowOperation_167 : decode b_MD_lowOperation 167 = .ok (.iload_n 3, 1) := by decide +kernel
theorem d_MD_lowOperation_168 : decode b_MD_lowOperation 168 = .ok (.bipush 16, 2) := by decide +kernel
theorem d_MD_lowOperation_170 : decode b_MD_lowOperation 170 = .ok (.irem, 1) := by decide +kernel
theorem d_MD_lowOperation_171 : decode b_MD_lowOperation 171 = .ok (.bipush 15, 2) := by decide +kernel
theorem d_MD_lowOperation_173 : decode b_MD_lowOperation 173 = .ok (.if_icmp .ne 7, 3) := by decide +kernel
theorem d_MD_lowOperation_176 : decode b_MD_lowOperation 176 = .ok (.iconst 1, 1) := by decide +kernel
theorem d_MD_lowOperation_177 : decode b_MD_lowOperation 177 = .ok (.goto 19, 3) := by decide +kernel
theorem d_MD_lowOperation_180 : decode b_MD_lowOperation 180 = .ok (.iconst 0, 1) := by decide +kernel
theorem d_MD_lowOperation_181 : decode b_MD_lowOperation 181 = .ok (.goto 15, 3) := by decide +kernel
theorem d_MD_lowOperation_184 : decode b_MD_lowOperation 184 = .ok (.iload_n 3, 1) := by decide +kernel
theorem d_MD_lowOperation_185 : decode b_MD_lowOperation 185 = .ok (.bipush 16, 2) := by decide +kernel
theorem d_MD_lowOperation_187 : decode b_MD_lowOperation 187 = .ok (.irem, 1) := by decide +kernel
theorem d_MD_lowOperation_188 : decode b_MD_lowOperation 188 = .ok (.ifCond .le 7, 3) := by decide +kernel
theorem d_MD_lowOperation_191 : decode b_MD_lowOperation 191 = .ok (.iconst 1, 1) := by decide +kernel
theorem d_MD_lowOperation_192 : decode b_MD_lowOperation 192 = .ok (.goto 4, 3) := by decide +kernel
theorem d_MD_lowOperation_195 : decode b_MD_lowOperation 195 = .ok (.iconst 0, 1) := by decide +kernel
theorem d_MD_lowOperation_196 : decode b_MD_lowOperation 196 = .ok (.putfield 59, 3) := by decide +kernel
theorem d_MD_lowOperation_199 : decode b_MD_lowOperation 199 = .ok (.aload_n 0, 1) := by decide +kernel
theorem d_MD_lowOperation_200 : decode b_MD_lowOperation 200 = .ok (.iload_n 1, 1) := by decide +kernel
theorem d_MD_lowOperation_201 : decode b_MD_lowOperation 201 = .ok (.aload_n 0, 1) := by decide +kernel
theorem d_MD_lowOperation_202 : decode b_MD_lowOperation 202 = .ok (.iload_n 2, 1) := by decide +kernel
theorem d_MD_lowOperation_203 : decode b_MD_lowOperation 203 = .ok (.iconst 4, 1) := by decide +kernel
theorem d_MD_lowOperation_204 : decode b_MD_lowOperation 204 = .ok (.if_icmp .ne 9, 3) := by decide +kernel
theorem d_MD_lowOperation_207 : decode b_MD_lowOperation 207 = .ok (.iload_n 3, 1) := by decide +kernel
theorem d_MD_lowOperation_208 : decode b_MD_lowOperation 208 = .ok (.iconst 1, 1) := by decide +kernel
theorem d_MD_lowOperation_209 : decode b_MD_lowOperation 209 = .ok (.iadd, 1) := by decide +kernel
theorem d_MD_lowOperation_210 : decode b_MD_lowOperation 210 = .ok (.goto 6, 3) := by decide +kernel
theorem d_MD_lowOperation_213 : decode b_MD_lowOperation 213 = .ok (.iload_n 3, 1) := by decide +kernel
theorem d_MD_lowOperation_214 : decode b_MD_lowOperation 214 = .ok (.iconst 1, 1) := by decide +kernel
theorem d_MD_lowOperation_215 : decode b_MD_lowOperation 215 = .ok (.isub, 1) := by decide +kernel
theorem d_MD_lowOperation_216 : decode b_MD_lowOperation 216 = .ok (.invokevirtual 68, 3) := by decide +kernel
theorem d_MD_lowOperation_219 : decode b_MD_lowOperation 219 = .ok (.invokevirtual 87, 3) := by decide +kernel
theorem d_MD_lowOperation_222 : decode b_MD_lowOperation 222 = .ok (.goto 48, 3) := by decide +kernel
theorem d_MD_lowOperation_225 : decode b_MD_lowOperation 225 = .ok (.iload_n 2, 1) := by decide +kernel
theorem d_MD_lowOperation_226 : decode b_MD_lowOperation 226 = .ok (.bipush 6, 2) := by decide +kernel
theorem d_MD_lowOperation_228 : decode b_MD_lowOperation 228 = .ok (.if_icmp .ne 32, 3) := by decide +kernel
theorem d_MD_lowOperation_231 : decode b_MD_lowOperation 231 = .ok (.aload_n 0, 1) := by decide +kernel
theorem d_MD_lowOperation_232 : decode b_MD_lowOperation 232 = .ok (.iload_n 1, 1) := by decide +kernel
theorem d_MD_lowOperation_233 : decode b_MD_lowOperation 233 = .ok (.bipush 6, 2) := by decide +kernel
theorem d_MD_lowOperation_235 : decode b_MD_lowOperation 235 = .ok (.if_icmp .ne 8, 3) := by decide +kernel
theorem d_MD_lowOperation_238 : decode b_MD_lowOperation 238 = .ok (.bipush 10, 2) := by decide +kernel
theorem d_MD_lowOperation_240 : decode b_MD_lowOperation 240 = .ok (.goto 5, 3) := by decide +kernel
theorem d_MD_lowOperation_243 : decode b_MD_lowOperation 243 = .ok (.bipush 7, 2) := by decide +kernel
theorem d_MD_lowOperation_245 : decode b_MD_lowOperation 245 = .ok (.putfield 71, 3) := by decide +kernel
theorem d_MD_lowOperation_248 : decode b_MD_lowOperation 248 = .ok (.aload_n 0, 1) := by decide +kernel
theorem d_MD_lowOperation_249 : decode b_MD_lowOperation 249 = .ok (.iload_n 1, 1) := by decide +kernel
theorem d_MD_lowOperation_250 : decode b_MD_lowOperation 250 = .ok (.aload_n 0, 1) := by decide +kernel
theorem d_MD_lowOperation_251 : decode b_MD_lowOperation 251 = .ok (.invokevirtual 38, 3) := by decide +kernel
theorem d_MD_lowOperation_254 : decode b_MD_lowOperation 254 = .ok (.invokevirtual 87, 3) := by decide +kernel
theorem d_MD_lowOperation_257 : decode b_MD_lowOperation 257 = .ok (.goto 13, 3) := by decide +kernel
theorem d_MD_lowOperation_260 : decode b_MD_lowOperation 260 = .ok (.aload_n 0, 1) := by decide +kernel
theorem d_MD_lowOperation_261 : decode b_MD_lowOperation 261 = .ok (.iconst 4, 1) := by decide +kernel
theorem d_MD_lowOperation_262 : decode b_MD_lowOperation 262 = .ok (.putfield 71, 3) := by decide +kernel
theorem d_MD_lowOperation_265 : decode b_MD_lowOperation 265 = .ok (.aload_n 0, 1) := by decide +kernel
theorem d_MD_lowOperation_266 : decode b_MD_lowOperation 266 = .ok (.iload_n 1, 1) := by decide +kernel
theorem d_MD_lowOperation_267 : decode b_MD_lowOperation 267 = .ok (.invokevirtual 90, 3) := by decide +kernel
theorem d_MD_lowOperation_270 : decode b_MD_lowOperation 270 = .ok (.return_, 1) := by decide +kernel
theorem tw_352 : Jvm.Cond.code ⟨"ArcadeBoardModel", "lowOperation", "(II)V"⟩ prog_11_method_19_code 4 (Option.none : Option Jvm.ClassFile.FieldType) ∈ AL := ab_in (ab_t4 (List.mem_of_getElem? (i := 86) (by decide +kernel))) rfl
theorem tw_353 : Jvm.Cond.instanceMethod ⟨"ArcadeBoardModel", "lowOperation", "(II)V"⟩ ∈ AL := ab_in (ab_t4 (List.mem_of_getElem? (i := 85) (by decide +kernel))) rfl
theorem tw_354 : Cond.selects "ArcadeBoardModel" ⟨"ArcadeBoardModel", "lowOperation", "(II)V"⟩ ⟨"ArcadeBoardModel", "lowOperation", "(II)V"⟩ ∈ AL := ab_in (ab_s2 (List.mem_of_getElem? (i := 15) (by decide +kernel))) rfl
theorem tw_355 : Jvm.Cond.methodLink "ArcadeBoardModel" 90 ⟨"ArcadeBoardModel", "turnA", "(I)V"⟩ ∈ AL := ab_in (ab_t4 (List.mem_of_getElem? (i := 115) (by decide +kernel))) rfl
theorem tw_356 : Jvm.Cond.methodLink "ArcadeBoardModel" 87 ⟨"ArcadeBoardModel", "set", "(II)V"⟩ ∈ AL := ab_in (ab_t4 (List.mem_of_getElem? (i := 111) (by decide +kernel))) rfl
theorem tw_357 : Jvm.Cond.methodLink "ArcadeBoardModel" 84 ⟨"ArcadeBoardModel", "get", "(I)I"⟩ ∈ AL := ab_in (ab_t4 (List.mem_of_getElem? (i := 103) (by decide +kernel))) rfl
theorem tw_358 : Jvm.Cond.methodLink "ArcadeBoardModel" 77 ⟨"ArcadeBoardModel", "setPair", "(II)V"⟩ ∈ AL := ab_in (ab_t4 (List.mem_of_getElem? (i := 91) (by decide +kernel))) rfl
theorem tw_359 : Jvm.Cond.methodLink "ArcadeBoardModel" 80 ⟨"ArcadeBoardModel", "carry", "(I)V"⟩ ∈ AL := ab_in (ab_t4 (List.mem_of_getElem? (i := 99) (by decide +kernel))) rfl
theorem ok_MD_lowOperation : ab_yok y_MD_lowOperation b_MD_lowOperation 4 none 2 := ⟨tw_352, tw_280, by decide, by decide, by decide +kernel⟩
theorem okv_MD_lowOperation : ab_yok_V y_MD_lowOperation := ⟨tw_353, tw_354⟩
set_option maxHeartbeats 1000000 in
set_option maxRecDepth 100000 in
theorem c_MD_lowOperation (l : Launch) (D : va_G) (t : Nat → ClassId) (q : Nat → Nat) (u : SS) (x1 : Int32) (x2 : Int32) (p1 : ab_lt8 x1) : ab_kv l D (tyC t) (wM t q) y_MD_lowOperation b_MD_lowOperation 4 { frames := 4, cells := 0, slots := 0, locals := 86 } [.ref (q 0), .int x1, .int x2] u (f_MD_lowOperation u x1 x2) := by
  refine ab_kv_ofW (by decide) (Nat.le_of_ble_eq_true rfl) (fun p e s m below meth c ls A X hr hk hl hX => ?_)
  have hl : lv_has ls 4 [(0, .ref (q 0)), (1, .int x1), (2, .int x2)] := hl
  refine lv_iload_n (pc := 0) X.1 X.2.1 d_MD_lowOperation_0 rfl (lv_at hl 2 rfl) ?_
  refine lv_if_ne (pc := 1) (tgt := 12) X.1 X.2.1 d_MD_lowOperation_1 (by decide) (fun h1 => ?_) (fun h1 => ?_)
  ·
    refine lv_iload_n (pc := 12) X.1 X.2.1 d_MD_lowOperation_12 rfl (lv_at hl 2 rfl) ?_
    refine lv_iconst (pc := 13) (v := 1) X.1 X.2.1 d_MD_lowOperation_13 (by decide) ?_
    refine lv_icmp_ne (pc := 14) (tgt := 81) X.1 X.2.1 d_MD_lowOperation_14 (by decide) (fun h2 => ?_) (fun h2 => ?_)
    ·
      refine lv_iload_n (pc := 81) X.1 X.2.1 d_MD_lowOperation_81 rfl (lv_at hl 2 rfl) ?_
      refine lv_iconst (pc := 82) (v := 2) X.1 X.2.1 d_MD_lowOperation_82 (by decide) ?_
      refine lv_icmp_ne (pc := 83) (tgt := 94) X.1 X.2.1 d_MD_lowOperation_83 (by decide) (fun h3 => ?_) (fun h3 => ?_)
      ·
        refine lv_iload_n (pc := 94) X.1 X.2.1 d_MD_lowOperation_94 rfl (lv_at hl 2 rfl) ?_
        refine lv_iconst (pc := 95) (v := 3) X.1 X.2.1 d_MD_lowOperation_95 (by decide) ?_
        refine lv_icmp_ne (pc := 96) (tgt := 133) X.1 X.2.1 d_MD_lowOperation_96 (by decide) (fun h4 => ?_) (fun h4 => ?_)
        ·
          refine lv_iload_n (pc := 133) X.1 X.2.1 d_MD_lowOperation_133 rfl (lv_at hl 2 rfl) ?_
          refine lv_bipush (pc := 134) (v := 6) X.1 X.2.1 d_MD_lowOperation_134 (by decide) ?_
          refine lv_icmp_ge (pc := 136) (tgt := 225) X.1 X.2.1 d_MD_lowOperation_136 (by decide) (fun h5 => ?_) (fun h5 => ?_)
          ·
            refine lv_iload_n (pc := 225) X.1 X.2.1 d_MD_lowOperation_225 rfl (lv_at hl 2 rfl) ?_
            refine lv_bipush (pc := 226) (v := 6) X.1 X.2.1 d_MD_lowOperation_226 (by decide) ?_
            refine lv_icmp_ne (pc := 228) (tgt := 260) X.1 X.2.1 d_MD_lowOperation_228 (by decide) (fun h6 => ?_) (fun h6 => ?_)
            ·
              refine lv_aload_n (pc := 260) X.1 X.2.1 d_MD_lowOperation_260 rfl (lv_at hl 0 rfl) ?_
              refine lv_iconst (pc := 261) (v := 4) X.1 X.2.1 d_MD_lowOperation_261 (by decide) ?_
              refine ab_px (pc := 262) (ws' := (wM t q (stt u 0 24 4))) X hX 0 9 29 ty_MD ty_MD_ok nm_MD rfl rfl (Nat.le_of_ble_eq_true rfl) in_MD rfl tw_351 rfl rfl rfl rfl (Nat.le_of_ble_eq_true rfl) (sf_wM_0_29 t q u 4) d_MD_lowOperation_262 (fun H locs hX => ?_)
              refine lv_aload_n (pc := 265) X.1 X.2.1 d_MD_lowOperation_265 rfl (lv_at hl 0 rfl) ?_
              refine lv_iload_n (pc := 266) X.1 X.2.1 d_MD_lowOperation_266 rfl (lv_at hl 1 rfl) ?_
              refine ab_kv_callV (pc := 267) (wr := []) (w := (wM t q)) (u := (stt u 0 24 4)) (F := f_MD_turnA (stt u 0 24 4) x1) (as := [.int x1]) (rest := []) X hX (c_MD_turnA l D t q (stt u 0 24 4) x1) ok_MD_turnA okv_MD_turnA tw_355 0 9 rfl rfl rfl hl.1 rfl (Nat.le_of_ble_eq_true rfl) ⟨rfl, rfl, Nat.le_of_ble_eq_true rfl, Nat.le_of_ble_eq_true rfl⟩ ⟨Nat.zero_le _, Nat.zero_le _⟩ d_MD_lowOperation_267 (fun H locs hX => ?_)
              exact ab_kv_ret (pc := 270) X hr hk hX (by rw [f_MD_lowOperation, if_neg h1, if_neg h2, if_neg h3, if_neg h4, if_pos h5, if_neg h6]) d_MD_lowOperation_270
            ·
              refine lv_aload_n (pc := 231) X.1 X.2.1 d_MD_lowOperation_231 rfl (lv_at hl 0 rfl) ?_
              refine lv_iload_n (pc := 232) X.1 X.2.1 d_MD_lowOperation_232 rfl (lv_at hl 1 rfl) ?_
              refine lv_bipush (pc := 233) (v := 6) X.1 X.2.1 d_MD_lowOperation_233 (by decide) ?_
              refine ab_jn (ls := ls) (rest := [.ref (q 0)]) 245 (if x1 = 6 then 10 else 7 : Int32) ?_ (fun J => ?_)
              rotate_left
              ·
                refine lv_icmp_ne (pc := 235) (tgt := 243) X.1 X.2.1 d_MD_lowOperation_235 (by decide) (fun h7 => ?_) (fun h7 => ?_)
                ·
                  refine lv_bipush (pc := 243) (v := 7) X.1 X.2.1 d_MD_lowOperation_243 (by decide) ?_
                  exact ab_jt (by rw [if_neg h7]) J
                ·
                  refine lv_bipush (pc := 238) (v := 10) X.1 X.2.1 d_MD_lowOperation_238 (by decide) ?_
                  refine lv_goto (pc := 240) (tgt := 245) X.1 X.2.1 d_MD_lowOperation_240 (by decide) ?_
                  exact ab_jt (by rw [if_pos h7]) J
              refine ab_px (pc := 245) (ws' := (wM t q (stt u 0 24 (if x1 = 6 then 10 else 7 : Int32)))) X hX 0 9 29 ty_MD ty_MD_ok nm_MD rfl rfl (Nat.le_of_ble_eq_true rfl) in_MD rfl tw_351 rfl rfl rfl rfl (Nat.le_of_ble_eq_true rfl) (sf_wM_0_29 t q u (if x1 = 6 then 10 else 7 : Int32)) d_MD_lowOperation_245 (fun H locs hX => ?_)
              refine lv_aload_n (pc := 248) X.1 X.2.1 d_MD_lowOperation_248 rfl (lv_at hl 0 rfl) ?_
              refine lv_iload_n (pc := 249) X.1 X.2.1 d_MD_lowOperation_249 rfl (lv_at hl 1 rfl) ?_
              refine lv_aload_n (pc := 250) X.1 X.2.1 d_MD_lowOperation_250 rfl (lv_at hl 0 rfl) ?_
              refine ab_ki_callV (pc := 251) (wr := []) (w := (wM t q)) (u := (stt u 0 24 (if x1 = 6 then 10 else 7 : Int32))) (F := f_MD_next (stt u 0 24 (if x1 = 6 then 10 else 7 : Int32))) (as := []) (rest := [.int x1, .ref (q 0)]) X hX (c_MD_next l D t q (stt u 0 24 (if x1 = 6 then 10 else 7 : Int32))) ok_MD_next okv_MD_next tw_300 0 9 rfl rfl rfl hl.1 rfl (Nat.le_of_ble_eq_true rfl) ⟨rfl, rfl, Nat.le_of_ble_eq_true rfl, Nat.le_of_ble_eq_true rfl⟩ ⟨Nat.zero_le _, Nat.zero_le _⟩ d_MD_lowOperation_251 (fun H locs hX => ?_)
              refine ab_kv_callV (pc := 254) (wr := []) (w := (wM t q)) (u := ((f_MD_next (stt u 0 24 (if x1 = 6 then 10 else 7 : Int32))).2)) (F := f_MD_set ((f_MD_next (stt u 0 24 (if x1 = 6 then 10 else 7 : Int32))).2) x1 ((f_MD_next (stt u 0 24 (if x1 = 6 then 10 else 7 : Int32))).1)) (as := [.int x1, .int ((f_MD_next (stt u 0 24 (if x1 = 6 then 10 else 7 : Int32))).1)]) (rest := []) X hX (c_MD_set l D t q ((f_MD_next (stt u 0 24 (if x1 = 6 then 10 else 7 : Int32))).2) x1 ((f_MD_next (stt u 0 24 (if x1 = 6 then 10 else 7 : Int32))).1) p1) ok_MD_set okv_MD_set tw_356 0 9 rfl rfl rfl hl.1 rfl (Nat.le_of_ble_eq_true rfl) ⟨rfl, rfl, Nat.le_of_ble_eq_true rfl, Nat.le_of_ble_eq_true rfl⟩ ⟨Nat.zero_le _, Nat.zero_le _⟩ d_MD_lowOperation_254 (fun H locs hX => ?_)
              refine lv_goto (pc := 257) (tgt := 270) X.1 X.2.1 d_MD_lowOperation_257 (by decide) ?_
              exact ab_kv_ret (pc := 270) X hr hk hX (by rw [f_MD_lowOperation, if_neg h1, if_neg h2, if_neg h3, if_neg h4, if_pos h5, if_pos h6]) d_MD_lowOperation_270
          ·
            refine lv_aload_n (pc := 139) X.1 X.2.1 d_MD_lowOperation_139 rfl (lv_at hl 0 rfl) ?_
            refine lv_iload_n (pc := 140) X.1 X.2.1 d_MD_lowOperation_140 rfl (lv_at hl 1 rfl) ?_
            refine lv_bipush (pc := 141) (v := 6) X.1 X.2.1 d_MD_lowOperation_141 (by decide) ?_
            refine ab_jn (ls := ls) (rest := [.ref (q 0)]) 152 (if x1 = 6 then 10 else 5 : Int32) ?_ (fun J => ?_)
            rotate_left
            ·
              refine lv_icmp_ne (pc := 143) (tgt := 151) X.1 X.2.1 d_MD_lowOperation_143 (by decide) (fun h8 => ?_) (fun h8 => ?_)
              ·
                refine lv_iconst (pc := 151) (v := 5) X.1 X.2.1 d_MD_lowOperation_151 (by decide) ?_
                exact ab_jt (by rw [if_neg h8]) J
              ·
                refine lv_bipush (pc := 146) (v := 10) X.1 X.2.1 d_MD_lowOperation_146 (by decide) ?_
                refine lv_goto (pc := 148) (tgt := 152) X.1 X.2.1 d_MD_lowOperation_148 (by decide) ?_
                exact ab_jt (by rw [if_pos h8]) J
            refine ab_px (pc := 152) (ws' := (wM t q (stt u 0 24 (if x1 = 6 then 10 else 5 : Int32)))) X hX 0 9 29 ty_MD ty_MD_ok nm_MD rfl rfl (Nat.le_of_ble_eq_true rfl) in_MD rfl tw_351 rfl rfl rfl rfl (Nat.le_of_ble_eq_true rfl) (sf_wM_0_29 t q u (if x1 = 6 then 10 else 5 : Int32)) d_MD_lowOperation_152 (fun H locs hX => ?_)
            refine lv_aload_n (pc := 155) X.1 X.2.1 d_MD_lowOperation_155 rfl (lv_at hl 0 rfl) ?_
            refine lv_iload_n (pc := 156) X.1 X.2.1 d_MD_lowOperation_156 rfl (lv_at hl 1 rfl) ?_
            refine ab_kr_callV (pc := 157) (wr := []) (w := (wM t q)) (u := (stt u 0 24 (if x1 = 6 then 10 else 5 : Int32))) (r := f_MD_get (stt u 0 24 (if x1 = 6 then 10 else 5 : Int32)) x1) (as := [.int x1]) (rest := []) X hX (c_MD_get l D t q (stt u 0 24 (if x1 = 6 then 10 else 5 : Int32)) x1 p1) ok_MD_get okv_MD_get tw_357 0 9 rfl rfl rfl hl.1 rfl (Nat.le_of_ble_eq_true rfl) ⟨rfl, rfl, Nat.le_of_ble_eq_true rfl, Nat.le_of_ble_eq_true rfl⟩ ⟨Nat.zero_le _, Nat.zero_le _⟩ d_MD_lowOperation_157 (fun H locs hX => ?_)
            refine lv_istore_n (pc := 160) (lv' := [(3, .int (f_MD_get (stt u 0 24 (if x1 = 6 then 10 else 5 : Int32)) x1)), (0, .ref (q 0)), (1, .int x1), (2, .int x2)]) X.1 X.2.1 d_MD_lowOperation_160 rfl hl (Nat.le_of_ble_eq_true rfl) rfl (fun ls hl => ?_)
            refine lv_aload_n (pc := 161) X.1 X.2.1 d_MD_lowOperation_161 rfl (lv_at hl 1 rfl) ?_
            refine lv_iload_n (pc := 162) X.1 X.2.1 d_MD_lowOperation_162 rfl (lv_at hl 3 rfl) ?_
            refine lv_iconst (pc := 163) (v := 4) X.1 X.2.1 d_MD_lowOperation_163 (by decide) ?_
            refine ab_jn (ls := ls) (rest := [.ref (q 0)]) 196 (if x2 = 4 then (if ((f_MD_get (stt u 0 24 (if x1 = 6 then 10 else 5 : Int32)) x1) - (f_MD_get (stt u 0 24 (if x1 = 6 then 10 else 5 : Int32)) x1) / 16 * 16) = 15 then 1 else 0 : Int32) else (if ((f_MD_get (stt u 0 24 (if x1 = 6 then 10 else 5 : Int32)) x1) - (f_MD_get (stt u 0 24 (if x1 = 6 then 10 else 5 : Int32)) x1) / 16 * 16) ≤ 0 then 0 else 1 : Int32) : Int32) ?_ (fun J => ?_)
            rotate_left
            ·
              refine lv_icmp_ne (pc := 164) (tgt := 184) X.1 X.2.1 d_MD_lowOperation_164 (by decide) (fun h9 => ?_) (fun h9 => ?_)
              ·
                refine lv_iload_n (pc := 184) X.1 X.2.1 d_MD_lowOperation_184 rfl (lv_at hl 0 rfl) ?_
                refine lv_bipush (pc := 185) (v := 16) X.1 X.2.1 d_MD_lowOperation_185 (by decide) ?_
                refine lv_irem (pc := 187) X.1 X.2.1 d_MD_lowOperation_187 (by decide) ?_
                refine lv_if_le (pc := 188) (tgt := 195) X.1 X.2.1 d_MD_lowOperation_188 (by decide) (fun h10 => ?_) (fun h10 => ?_)
                ·
                  refine lv_iconst (pc := 195) (v := 0) X.1 X.2.1 d_MD_lowOperation_195 (by decide) ?_
                  exact ab_jt (by rw [if_neg h9, if_pos h10]) J
                ·
                  refine lv_iconst (pc := 191) (v := 1) X.1 X.2.1 d_MD_lowOperation_191 (by decide) ?_
                  refine lv_goto (pc := 192) (tgt := 196) X.1 X.2.1 d_MD_lowOperation_192 (by decide) ?_
                  exact ab_jt (by rw [if_neg h9, if_neg h10]) J
              ·
                refine lv_iload_n (pc := 167) X.1 X.2.1 d_MD_lowOperation_167 rfl (lv_at hl 0 rfl) ?_
                refine lv_bipush (pc := 168) (v := 16) X.1 X.2.1 d_MD_lowOperation_168 (by decide) ?_
                refine lv_irem (pc := 170) X.1 X.2.1 d_MD_lowOperation_170 (by decide) ?_
                refine lv_bipush (pc := 171) (v := 15) X.1 X.2.1 d_MD_lowOperation_171 (by decide) ?_
                refine lv_icmp_ne (pc := 173) (tgt := 180) X.1 X.2.1 d_MD_lowOperation_173 (by decide) (fun h11 => ?_) (fun h11 => ?_)
                ·
                  refine lv_iconst (pc := 180) (v := 0) X.1 X.2.1 d_MD_lowOperation_180 (by decide) ?_
                  refine lv_goto (pc := 181) (tgt := 196) X.1 X.2.1 d_MD_lowOperation_181 (by decide) ?_
                  exact ab_jt (by rw [if_pos h9, if_neg h11]) J
                ·
                  refine lv_iconst (pc := 176) (v := 1) X.1 X.2.1 d_MD_lowOperation_176 (by decide) ?_
                  refine lv_goto (pc := 177) (tgt := 196) X.1 X.2.1 d_MD_lowOperation_177 (by decide) ?_
                  exact ab_jt (by rw [if_pos h9, if_pos h11]) J
            refine ab_px (pc := 196) (ws' := (wM t q (stt (stt u 0 24 (if x1 = 6 then 10 else 5 : Int32)) 0 6 (if x2 = 4 then (if ((f_MD_get (stt u 0 24 (if x1 = 6 then 10 else 5 : Int32)) x1) - (f_MD_get (stt u 0 24 (if x1 = 6 then 10 else 5 : Int32)) x1) / 16 * 16) = 15 then 1 else 0 : Int32) else (if ((f_MD_get (stt u 0 24 (if x1 = 6 then 10 else 5 : Int32)) x1) - (f_MD_get (stt u 0 24 (if x1 = 6 then 10 else 5 : Int32)) x1) / 16 * 16) ≤ 0 then 0 else 1 : Int32) : Int32)))) X hX 0 9 8 ty_MD ty_MD_ok nm_MD rfl rfl (Nat.le_of_ble_eq_true rfl) in_MD rfl tw_328 rfl rfl (ab_nb (ab_bi (ab_bi ab_bo1 ab_bo0) (ab_bi ab_bo0 ab_bo1))) (ab_fb (ab_bi (ab_bi ab_bo1 ab_bo0) (ab_bi ab_bo0 ab_bo1))) (Nat.le_of_ble_eq_true rfl) (sf_wM_0_8 t q (stt u 0 24 (if x1 = 6 then 10 else 5 : Int32)) (if x2 = 4 then (if ((f_MD_get (stt u 0 24 (if x1 = 6 then 10 else 5 : Int32)) x1) - (f_MD_get (stt u 0 24 (if x1 = 6 then 10 else 5 : Int32)) x1) / 16 * 16) = 15 then 1 else 0 : Int32) else (if ((f_MD_get (stt u 0 24 (if x1 = 6 then 10 else 5 : Int32)) x1) - (f_MD_get (stt u 0 24 (if x1 = 6 then 10 else 5 : Int32)) x1) / 16 * 16) ≤ 0 then 0 else 1 : Int32) : Int32)) d_MD_lowOperation_196 (fun H locs hX => ?_)
            refine lv_aload_n (pc := 199) X.1 X.2.1 d_MD_lowOperation_199 rfl (lv_at hl 1 rfl) ?_
            refine lv_iload_n (pc := 200) X.1 X.2.1 d_MD_lowOperation_200 rfl (lv_at hl 2 rfl) ?_
            refine lv_aload_n (pc := 201) X.1 X.2.1 d_MD_lowOperation_201 rfl (lv_at hl 1 rfl) ?_
            refine lv_iload_n (pc := 202) X.1 X.2.1 d_MD_lowOperation_202 rfl (lv_at hl 3 rfl) ?_
            refine lv_iconst (pc := 203) (v := 4) X.1 X.2.1 d_MD_lowOperation_203 (by decide) ?_
            refine ab_jn (ls := ls) (rest := [.ref (q 0), .int x1, .ref (q 0)]) 216 (if x2 = 4 then ((f_MD_get (stt u 0 24 (if x1 = 6 then 10 else 5 : Int32)) x1) + 1) else ((f_MD_get (stt u 0 24 (if x1 = 6 then 10 else 5 : Int32)) x1) - 1) : Int32) ?_ (fun J => ?_)
            rotate_left
            ·
              refine lv_icmp_ne (pc := 204) (tgt := 213) X.1 X.2.1 d_MD_lowOperation_204 (by decide) (fun h12 => ?_) (fun h12 => ?_)
              ·
                refine lv_iload_n (pc := 213) X.1 X.2.1 d_MD_lowOperation_213 rfl (lv_at hl 0 rfl) ?_
                refine lv_iconst (pc := 214) (v := 1) X.1 X.2.1 d_MD_lowOperation_214 (by decide) ?_
                refine lv_isub (pc := 215) X.1 X.2.1 d_MD_lowOperation_215 ?_
                exact ab_jt (by rw [if_neg h12]) J
              ·
                refine lv_iload_n (pc := 207) X.1 X.2.1 d_MD_lowOperation_207 rfl (lv_at hl 0 rfl) ?_
                refine lv_iconst (pc := 208) (v := 1) X.1 X.2.1 d_MD_lowOperation_208 (by decide) ?_
                refine lv_iadd (pc := 209) X.1 X.2.1 d_MD_lowOperation_209 ?_
                refine lv_goto (pc := 210) (tgt := 216) X.1 X.2.1 d_MD_lowOperation_210 (by decide) ?_
                exact ab_jt (by rw [if_pos h12]) J
            refine ab_ki_callV (pc := 216) (wr := []) (w := (wM t q)) (u := (stt (stt u 0 24 (if x1 = 6 then 10 else 5 : Int32)) 0 6 (if x2 = 4 then (if ((f_MD_get (stt u 0 24 (if x1 = 6 then 10 else 5 : Int32)) x1) - (f_MD_get (stt u 0 24 (if x1 = 6 then 10 else 5 : Int32)) x1) / 16 * 16) = 15 then 1 else 0 : Int32) else (if ((f_MD_get (stt u 0 24 (if x1 = 6 then 10 else 5 : Int32)) x1) - (f_MD_get (stt u 0 24 (if x1 = 6 then 10 else 5 : Int32)) x1) / 16 * 16) ≤ 0 then 0 else 1 : Int32) : Int32))) (F := f_MD_result (stt (stt u 0 24 (if x1 = 6 then 10 else 5 : Int32)) 0 6 (if x2 = 4 then (if ((f_MD_get (stt u 0 24 (if x1 = 6 then 10 else 5 : Int32)) x1) - (f_MD_get (stt u 0 24 (if x1 = 6 then 10 else 5 : Int32)) x1) / 16 * 16) = 15 then 1 else 0 : Int32) else (if ((f_MD_get (stt u 0 24 (if x1 = 6 then 10 else 5 : Int32)) x1) - (f_MD_get (stt u 0 24 (if x1 = 6 then 10 else 5 : Int32)) x1) / 16 * 16) ≤ 0 then 0 else 1 : Int32) : Int32)) (if x2 = 4 then ((f_MD_get (stt u 0 24 (if x1 = 6 then 10 else 5 : Int32)) x1) + 1) else ((f_MD_get (stt u 0 24 (if x1 = 6 then 10 else 5 : Int32)) x1) - 1) : Int32)) (as := [.int (if x2 = 4 then ((f_MD_get (stt u 0 24 (if x1 = 6 then 10 else 5 : Int32)) x1) + 1) else ((f_MD_get (stt u 0 24 (if x1 = 6 then 10 else 5 : Int32)) x1) - 1) : Int32)]) (rest := [.int x1, .ref (q 0)]) X hX (c_MD_result l D t q (stt (stt u 0 24 (if x1 = 6 then 10 else 5 : Int32)) 0 6 (if x2 = 4 then (if ((f_MD_get (stt u 0 24 (if x1 = 6 then 10 else 5 : Int32)) x1) - (f_MD_get (stt u 0 24 (if x1 = 6 then 10 else 5 : Int32)) x1) / 16 * 16) = 15 then 1 else 0 : Int32) else (if ((f_MD_get (stt u 0 24 (if x1 = 6 then 10 else 5 : Int32)) x1) - (f_MD_get (stt u 0 24 (if x1 = 6 then 10 else 5 : Int32)) x1) / 16 * 16) ≤ 0 then 0 else 1 : Int32) : Int32)) (if x2 = 4 then ((f_MD_get (stt u 0 24 (if x1 = 6 then 10 else 5 : Int32)) x1) + 1) else ((f_MD_get (stt u 0 24 (if x1 = 6 then 10 else 5 : Int32)) x1) - 1) : Int32)) ok_MD_result okv_MD_result tw_343 0 9 rfl rfl rfl hl.1 rfl (Nat.le_of_ble_eq_true rfl) ⟨rfl, rfl, Nat.le_of_ble_eq_true rfl, Nat.le_of_ble_eq_true rfl⟩ ⟨Nat.zero_le _, Nat.zero_le _⟩ d_MD_lowOperation_216 (fun H locs hX => ?_)
            refine ab_kv_callV (pc := 219) (wr := []) (w := (wM t q)) (u := ((f_MD_result (stt (stt u 0 24 (if x1 = 6 then 10 else 5 : Int32)) 0 6 (if x2 = 4 then (if ((f_MD_get (stt u 0 24 (if x1 = 6 then 10 else 5 : Int32)) x1) - (f_MD_get (stt u 0 24 (if x1 = 6 then 10 else 5 : Int32)) x1) / 16 * 16) = 15 then 1 else 0 : Int32) else (if ((f_MD_get (stt u 0 24 (if x1 = 6 then 10 else 5 : Int32)) x1) - (f_MD_get (stt u 0 24 (if x1 = 6 then 10 else 5 : Int32)) x1) / 16 * 16) ≤ 0 then 0 else 1 : Int32) : Int32)) (if x2 = 4 then ((f_MD_get (stt u 0 24 (if x1 = 6 then 10 else 5 : Int32)) x1) + 1) else ((f_MD_get (stt u 0 24 (if x1 = 6 then 10 else 5 : Int32)) x1) - 1) : Int32)).2)) (F := f_MD_set ((f_MD_result (stt (stt u 0 24 (if x1 = 6 then 10 else 5 : Int32)) 0 6 (if x2 = 4 then (if ((f_MD_get (stt u 0 24 (if x1 = 6 then 10 else 5 : Int32)) x1) - (f_MD_get (stt u 0 24 (if x1 = 6 then 10 else 5 : Int32)) x1) / 16 * 16) = 15 then 1 else 0 : Int32) else (if ((f_MD_get (stt u 0 24 (if x1 = 6 then 10 else 5 : Int32)) x1) - (f_MD_get (stt u 0 24 (if x1 = 6 then 10 else 5 : Int32)) x1) / 16 * 16) ≤ 0 then 0 else 1 : Int32) : Int32)) (if x2 = 4 then ((f_MD_get (stt u 0 24 (if x1 = 6 then 10 else 5 : Int32)) x1) + 1) else ((f_MD_get (stt u 0 24 (if x1 = 6 then 10 else 5 : Int32)) x1) - 1) : Int32)).2) x1 ((f_MD_result (stt (stt u 0 24 (if x1 = 6 then 10 else 5 : Int32)) 0 6 (if x2 = 4 then (if ((f_MD_get (stt u 0 24 (if x1 = 6 then 10 else 5 : Int32)) x1) - (f_MD_get (stt u 0 24 (if x1 = 6 then 10 else 5 : Int32)) x1) / 16 * 16) = 15 then 1 else 0 : Int32) else (if ((f_MD_get (stt u 0 24 (if x1 = 6 then 10 else 5 : Int32)) x1) - (f_MD_get (stt u 0 24 (if x1 = 6 then 10 else 5 : Int32)) x1) / 16 * 16) ≤ 0 then 0 else 1 : Int32) : Int32)) (if x2 = 4 then ((f_MD_get (stt u 0 24 (if x1 = 6 then 10 else 5 : Int32)) x1) + 1) else ((f_MD_get (stt u 0 24 (if x1 = 6 then 10 else 5 : Int32)) x1) - 1) : Int32)).1)) (as := [.int x1, .int ((f_MD_result (stt (stt u 0 24 (if x1 = 6 then 10 else 5 : Int32)) 0 6 (if x2 = 4 then (if ((f_MD_get (stt u 0 24 (if x1 = 6 then 10 else 5 : Int32)) x1) - (f_MD_get (stt u 0 24 (if x1 = 6 then 10 else 5 : Int32)) x1) / 16 * 16) = 15 then 1 else 0 : Int32) else (if ((f_MD_get (stt u 0 24 (if x1 = 6 then 10 else 5 : Int32)) x1) - (f_MD_get (stt u 0 24 (if x1 = 6 then 10 else 5 : Int32)) x1) / 16 * 16) ≤ 0 then 0 else 1 : Int32) : Int32)) (if x2 = 4 then ((f_MD_get (stt u 0 24 (if x1 = 6 then 10 else 5 : Int32)) x1) + 1) else ((f_MD_get (stt u 0 24 (if x1 = 6 then 10 else 5 : Int32)) x1) - 1) : Int32)).1)]) (rest := []) X hX (c_MD_set l D t q ((f_MD_result (stt (stt u 0 24 (if x1 = 6 then 10 else 5 : Int32)) 0 6 (if x2 = 4 then (if ((f_MD_get (stt u 0 24 (if x1 = 6 then 10 else 5 : Int32)) x1) - (f_MD_get (stt u 0 24 (if x1 = 6 then 10 else 5 : Int32)) x1) / 16 * 16) = 15 then 1 else 0 : Int32) else (if ((f_MD_get (stt u 0 24 (if x1 = 6 then 10 else 5 : Int32)) x1) - (f_MD_get (stt u 0 24 (if x1 = 6 then 10 else 5 : Int32)) x1) / 16 * 16) ≤ 0 then 0 else 1 : Int32) : Int32)) (if x2 = 4 then ((f_MD_get (stt u 0 24 (if x1 = 6 then 10 else 5 : Int32)) x1) + 1) else ((f_MD_get (stt u 0 24 (if x1 = 6 then 10 else 5 : Int32)) x1) - 1) : Int32)).2) x1 ((f_MD_result (stt (stt u 0 24 (if x1 = 6 then 10 else 5 : Int32)) 0 6 (if x2 = 4 then (if ((f_MD_get (stt u 0 24 (if x1 = 6 then 10 else 5 : Int32)) x1) - (f_MD_get (stt u 0 24 (if x1 = 6 then 10 else 5 : Int32)) x1) / 16 * 16) = 15 then 1 else 0 : Int32) else (if ((f_MD_get (stt u 0 24 (if x1 = 6 then 10 else 5 : Int32)) x1) - (f_MD_get (stt u 0 24 (if x1 = 6 then 10 else 5 : Int32)) x1) / 16 * 16) ≤ 0 then 0 else 1 : Int32) : Int32)) (if x2 = 4 then ((f_MD_get (stt u 0 24 (if x1 = 6 then 10 else 5 : Int32)) x1) + 1) else ((f_MD_get (stt u 0 24 (if x1 = 6 then 10 else 5 : Int32)) x1) - 1) : Int32)).1) p1) ok_MD_set okv_MD_set tw_356 0 9 rfl rfl rfl hl.1 rfl (Nat.le_of_ble_eq_true rfl) ⟨rfl, rfl, Nat.le_of_ble_eq_true rfl, Nat.le_of_ble_eq_true rfl⟩ ⟨Nat.zero_le _, Nat.zero_le _⟩ d_MD_lowOperation_219 (fun H locs hX => ?_)
            refine lv_goto (pc := 222) (tgt := 270) X.1 X.2.1 d_MD_lowOperation_222 (by decide) ?_
            exact ab_kv_ret (pc := 270) X hr hk hX (by rw [f_MD_lowOperation, if_neg h1, if_neg h2, if_neg h3, if_neg h4, if_neg h5]) d_MD_lowOperation_270
        ·
          refine lv_aload_n (pc := 99) X.1 X.2.1 d_MD_lowOperation_99 rfl (lv_at hl 0 rfl) ?_
          refine lv_iconst (pc := 100) (v := 5) X.1 X.2.1 d_MD_lowOperation_100 (by decide) ?_
          refine ab_px (pc := 101) (ws' := (wM t q (stt u 0 24 5))) X hX 0 9 29 ty_MD ty_MD_ok nm_MD rfl rfl (Nat.le_of_ble_eq_true rfl) in_MD rfl tw_351 rfl rfl rfl rfl (Nat.le_of_ble_eq_true rfl) (sf_wM_0_29 t q u 5) d_MD_lowOperation_101 (fun H locs hX => ?_)
          refine lv_aload_n (pc := 104) X.1 X.2.1 d_MD_lowOperation_104 rfl (lv_at hl 0 rfl) ?_
          refine lv_iload_n (pc := 105) X.1 X.2.1 d_MD_lowOperation_105 rfl (lv_at hl 1 rfl) ?_
          refine lv_iconst (pc := 106) (v := 2) X.1 X.2.1 d_MD_lowOperation_106 (by decide) ?_
          refine lv_idiv (pc := 107) X.1 X.2.1 d_MD_lowOperation_107 (by decide) ?_
          refine lv_aload_n (pc := 108) X.1 X.2.1 d_MD_lowOperation_108 rfl (lv_at hl 0 rfl) ?_
          refine lv_iload_n (pc := 109) X.1 X.2.1 d_MD_lowOperation_109 rfl (lv_at hl 1 rfl) ?_
          refine lv_iconst (pc := 110) (v := 2) X.1 X.2.1 d_MD_lowOperation_110 (by decide) ?_
          refine lv_idiv (pc := 111) X.1 X.2.1 d_MD_lowOperation_111 (by decide) ?_
          refine ab_kr_callV (pc := 112) (wr := []) (w := (wM t q)) (u := (stt u 0 24 5)) (r := f_MD_pair (stt u 0 24 5) (x1 / 2)) (as := [.int (x1 / 2)]) (rest := [.int (x1 / 2), .ref (q 0)]) X hX (c_MD_pair l D t q (stt u 0 24 5) (x1 / 2) (ab_half p1)) ok_MD_pair okv_MD_pair tw_312 0 9 rfl rfl rfl hl.1 rfl (Nat.le_of_ble_eq_true rfl) ⟨rfl, rfl, Nat.le_of_ble_eq_true rfl, Nat.le_of_ble_eq_true rfl⟩ ⟨Nat.zero_le _, Nat.zero_le _⟩ d_MD_lowOperation_112 (fun H locs hX => ?_)
          refine lv_iload_n (pc := 115) X.1 X.2.1 d_MD_lowOperation_115 rfl (lv_at hl 1 rfl) ?_
          refine lv_iconst (pc := 116) (v := 2) X.1 X.2.1 d_MD_lowOperation_116 (by decide) ?_
          refine lv_irem (pc := 117) X.1 X.2.1 d_MD_lowOperation_117 (by decide) ?_
          refine ab_jn (ls := ls) (rest := [.int (f_MD_pair (stt u 0 24 5) (x1 / 2)), .int (x1 / 2), .ref (q 0)]) 126 (if (x1 - x1 / 2 * 2) = 0 then 1 else (-1) : Int32) ?_ (fun J => ?_)
          rotate_left
          ·
            refine lv_if_ne (pc := 118) (tgt := 125) X.1 X.2.1 d_MD_lowOperation_118 (by decide) (fun h13 => ?_) (fun h13 => ?_)
            ·
              refine lv_iconst (pc := 125) (v := (-1)) X.1 X.2.1 d_MD_lowOperation_125 (by decide) ?_
              exact ab_jt (by rw [if_neg h13]) J
            ·
              refine lv_iconst (pc := 121) (v := 1) X.1 X.2.1 d_MD_lowOperation_121 (by decide) ?_
              refine lv_goto (pc := 122) (tgt := 126) X.1 X.2.1 d_MD_lowOperation_122 (by decide) ?_
              exact ab_jt (by rw [if_pos h13]) J
          refine lv_iadd (pc := 126) X.1 X.2.1 d_MD_lowOperation_126 ?_
          refine ab_kv_callV (pc := 127) (wr := []) (w := (wM t q)) (u := (stt u 0 24 5)) (F := f_MD_setPair (stt u 0 24 5) (x1 / 2) ((f_MD_pair (stt u 0 24 5) (x1 / 2)) + (if (x1 - x1 / 2 * 2) = 0 then 1 else (-1) : Int32))) (as := [.int (x1 / 2), .int ((f_MD_pair (stt u 0 24 5) (x1 / 2)) + (if (x1 - x1 / 2 * 2) = 0 then 1 else (-1) : Int32))]) (rest := []) X hX (c_MD_setPair l D t q (stt u 0 24 5) (x1 / 2) ((f_MD_pair (stt u 0 24 5) (x1 / 2)) + (if (x1 - x1 / 2 * 2) = 0 then 1 else (-1) : Int32)) (ab_half p1)) ok_MD_setPair okv_MD_setPair tw_358 0 9 rfl rfl rfl hl.1 rfl (Nat.le_of_ble_eq_true rfl) ⟨rfl, rfl, Nat.le_of_ble_eq_true rfl, Nat.le_of_ble_eq_true rfl⟩ ⟨Nat.zero_le _, Nat.zero_le _⟩ d_MD_lowOperation_127 (fun H locs hX => ?_)
          refine lv_goto (pc := 130) (tgt := 270) X.1 X.2.1 d_MD_lowOperation_130 (by decide) ?_
          exact ab_kv_ret (pc := 270) X hr hk hX (by rw [f_MD_lowOperation, if_neg h1, if_neg h2, if_neg h3, if_pos h4]) d_MD_lowOperation_270
      ·
        refine lv_aload_n (pc := 86) X.1 X.2.1 d_MD_lowOperation_86 rfl (lv_at hl 0 rfl) ?_
        refine lv_iload_n (pc := 87) X.1 X.2.1 d_MD_lowOperation_87 rfl (lv_at hl 1 rfl) ?_
        refine ab_kv_callV (pc := 88) (wr := []) (w := (wM t q)) (u := u) (F := f_MD_carry u x1) (as := [.int x1]) (rest := []) X hX (c_MD_carry l D t q u x1 p1) ok_MD_carry okv_MD_carry tw_359 0 9 rfl rfl rfl hl.1 rfl (Nat.le_of_ble_eq_true rfl) ⟨rfl, rfl, Nat.le_of_ble_eq_true rfl, Nat.le_of_ble_eq_true rfl⟩ ⟨Nat.zero_le _, Nat.zero_le _⟩ d_MD_lowOperation_88 (fun H locs hX => ?_)
        refine lv_goto (pc := 91) (tgt := 270) X.1 X.2.1 d_MD_lowOperation_91 (by decide) ?_
        exact ab_kv_ret (pc := 270) X hr hk hX (by rw [f_MD_lowOperation, if_neg h1, if_neg h2, if_pos h3]) d_MD_lowOperation_270
    ·
      refine lv_aload_n (pc := 17) X.1 X.2.1 d_MD_lowOperation_17 rfl (lv_at hl 0 rfl) ?_
      refine lv_bipush (pc := 18) (v := 10) X.1 X.2.1 d_MD_lowOperation_18 (by decide) ?_
      refine ab_px (pc := 20) (ws' := (wM t q (stt u 0 24 10))) X hX 0 9 29 ty_MD ty_MD_ok nm_MD rfl rfl (Nat.le_of_ble_eq_true rfl) in_MD rfl tw_351 rfl rfl rfl rfl (Nat.le_of_ble_eq_true rfl) (sf_wM_0_29 t q u 10) d_MD_lowOperation_20 (fun H locs hX => ?_)
      refine lv_iload_n (pc := 23) X.1 X.2.1 d_MD_lowOperation_23 rfl (lv_at hl 1 rfl) ?_
      refine lv_iconst (pc := 24) (v := 2) X.1 X.2.1 d_MD_lowOperation_24 (by decide) ?_
      refine lv_irem (pc := 25) X.1 X.2.1 d_MD_lowOperation_25 (by decide) ?_
      refine lv_if_ne (pc := 26) (tgt := 43) X.1 X.2.1 d_MD_lowOperation_26 (by decide) (fun h14 => ?_) (fun h14 => ?_)
      ·
        refine lv_aload_n (pc := 43) X.1 X.2.1 d_MD_lowOperation_43 rfl (lv_at hl 0 rfl) ?_
        refine lv_iconst (pc := 44) (v := 2) X.1 X.2.1 d_MD_lowOperation_44 (by decide) ?_
        refine ab_kr_callV (pc := 45) (wr := []) (w := (wM t q)) (u := (stt u 0 24 10)) (r := f_MD_pair (stt u 0 24 10) 2) (as := [.int 2]) (rest := []) X hX (c_MD_pair l D t q (stt u 0 24 10) 2 (ab_le3c (by decide : (2 : Nat) ≤ 3))) ok_MD_pair okv_MD_pair tw_312 0 9 rfl rfl rfl hl.1 rfl (Nat.le_of_ble_eq_true rfl) ⟨rfl, rfl, Nat.le_of_ble_eq_true rfl, Nat.le_of_ble_eq_true rfl⟩ ⟨Nat.zero_le _, Nat.zero_le _⟩ d_MD_lowOperation_45 (fun H locs hX => ?_)
        refine lv_aload_n (pc := 48) X.1 X.2.1 d_MD_lowOperation_48 rfl (lv_at hl 0 rfl) ?_
        refine lv_iload_n (pc := 49) X.1 X.2.1 d_MD_lowOperation_49 rfl (lv_at hl 1 rfl) ?_
        refine lv_iconst (pc := 50) (v := 2) X.1 X.2.1 d_MD_lowOperation_50 (by decide) ?_
        refine lv_idiv (pc := 51) X.1 X.2.1 d_MD_lowOperation_51 (by decide) ?_
        refine ab_kr_callV (pc := 52) (wr := []) (w := (wM t q)) (u := (stt u 0 24 10)) (r := f_MD_pair (stt u 0 24 10) (x1 / 2)) (as := [.int (x1 / 2)]) (rest := [.int (f_MD_pair (stt u 0 24 10) 2)]) X hX (c_MD_pair l D t q (stt u 0 24 10) (x1 / 2) (ab_half p1)) ok_MD_pair okv_MD_pair tw_312 0 9 rfl rfl rfl hl.1 rfl (Nat.le_of_ble_eq_true rfl) ⟨rfl, rfl, Nat.le_of_ble_eq_true rfl, Nat.le_of_ble_eq_true rfl⟩ ⟨Nat.zero_le _, Nat.zero_le _⟩ d_MD_lowOperation_52 (fun H locs hX => ?_)
        refine lv_iadd (pc := 55) X.1 X.2.1 d_MD_lowOperation_55 ?_
        refine lv_istore_n (pc := 56) (lv' := [(3, .int ((f_MD_pair (stt u 0 24 10) 2) + (f_MD_pair (stt u 0 24 10) (x1 / 2)))), (0, .ref (q 0)), (1, .int x1), (2, .int x2)]) X.1 X.2.1 d_MD_lowOperation_56 rfl hl (Nat.le_of_ble_eq_true rfl) rfl (fun ls hl => ?_)
        refine lv_aload_n (pc := 57) X.1 X.2.1 d_MD_lowOperation_57 rfl (lv_at hl 1 rfl) ?_
        refine lv_iload_n (pc := 58) X.1 X.2.1 d_MD_lowOperation_58 rfl (lv_at hl 0 rfl) ?_
        refine lv_ldc (pc := 59) (v := 65535) X.1 X.2.1 X.2.2.2.1 (X.2.2.2.2.1 _ tw_296) d_MD_lowOperation_59 ?_
        refine ab_jn (ls := ls) (rest := [.ref (q 0)]) 69 (if ((f_MD_pair (stt u 0 24 10) 2) + (f_MD_pair (stt u 0 24 10) (x1 / 2))) ≤ 65535 then 0 else 1 : Int32) ?_ (fun J => ?_)
        rotate_left
        ·
          refine lv_icmp_le (pc := 61) (tgt := 68) X.1 X.2.1 d_MD_lowOperation_61 (by decide) (fun h15 => ?_) (fun h15 => ?_)
          ·
            refine lv_iconst (pc := 68) (v := 0) X.1 X.2.1 d_MD_lowOperation_68 (by decide) ?_
            exact ab_jt (by rw [if_pos h15]) J
          ·
            refine lv_iconst (pc := 64) (v := 1) X.1 X.2.1 d_MD_lowOperation_64 (by decide) ?_
            refine lv_goto (pc := 65) (tgt := 69) X.1 X.2.1 d_MD_lowOperation_65 (by decide) ?_
            exact ab_jt (by rw [if_neg h15]) J
        refine ab_px (pc := 69) (ws' := (wM t q (stt (stt u 0 24 10) 0 8 (if ((f_MD_pair (stt u 0 24 10) 2) + (f_MD_pair (stt u 0 24 10) (x1 / 2))) ≤ 65535 then 0 else 1 : Int32)))) X hX 0 9 10 ty_MD ty_MD_ok nm_MD rfl rfl (Nat.le_of_ble_eq_true rfl) in_MD rfl tw_330 rfl rfl (ab_nb (ab_bi ab_bo0 ab_bo1)) (ab_fb (ab_bi ab_bo0 ab_bo1)) (Nat.le_of_ble_eq_true rfl) (sf_wM_0_10 t q (stt u 0 24 10) (if ((f_MD_pair (stt u 0 24 10) 2) + (f_MD_pair (stt u 0 24 10) (x1 / 2))) ≤ 65535 then 0 else 1 : Int32)) d_MD_lowOperation_69 (fun H locs hX => ?_)
        refine lv_aload_n (pc := 72) X.1 X.2.1 d_MD_lowOperation_72 rfl (lv_at hl 1 rfl) ?_
        refine lv_iconst (pc := 73) (v := 2) X.1 X.2.1 d_MD_lowOperation_73 (by decide) ?_
        refine lv_iload_n (pc := 74) X.1 X.2.1 d_MD_lowOperation_74 rfl (lv_at hl 0 rfl) ?_
        refine ab_kv_callV (pc := 75) (wr := []) (w := (wM t q)) (u := (stt (stt u 0 24 10) 0 8 (if ((f_MD_pair (stt u 0 24 10) 2) + (f_MD_pair (stt u 0 24 10) (x1 / 2))) ≤ 65535 then 0 else 1 : Int32))) (F := f_MD_setPair (stt (stt u 0 24 10) 0 8 (if ((f_MD_pair (stt u 0 24 10) 2) + (f_MD_pair (stt u 0 24 10) (x1 / 2))) ≤ 65535 then 0 else 1 : Int32)) 2 ((f_MD_pair (stt u 0 24 10) 2) + (f_MD_pair (stt u 0 24 10) (x1 / 2)))) (as := [.int 2, .int ((f_MD_pair (stt u 0 24 10) 2) + (f_MD_pair (stt u 0 24 10) (x1 / 2)))]) (rest := []) X hX (c_MD_setPair l D t q (stt (stt u 0 24 10) 0 8 (if ((f_MD_pair (stt u 0 24 10) 2) + (f_MD_pair (stt u 0 24 10) (x1 / 2))) ≤ 65535 then 0 else 1 : Int32)) 2 ((f_MD_pair (stt u 0 24 10) 2) + (f_MD_pair (stt u 0 24 10) (x1 / 2))) (ab_le3c (by decide : (2 : Nat) ≤ 3))) ok_MD_setPair okv_MD_setPair tw_358 0 9 rfl rfl rfl hl.1 rfl (Nat.le_of_ble_eq_true rfl) ⟨rfl, rfl, Nat.le_of_ble_eq_true rfl, Nat.le_of_ble_eq_true rfl⟩ ⟨Nat.zero_le _, Nat.zero_le _⟩ d_MD_lowOperation_75 (fun H locs hX => ?_)
        refine lv_goto (pc := 78) (tgt := 270) X.1 X.2.1 d_MD_lowOperation_78 (by decide) ?_
        exact ab_kv_ret (pc := 270) X hr hk hX (by rw [f_MD_lowOperation, if_neg h1, if_pos h2, if_neg h14]) d_MD_lowOperation_270
      ·
        refine lv_aload_n (pc := 29) X.1 X.2.1 d_MD_lowOperation_29 rfl (lv_at hl 0 rfl) ?_
        refine lv_iload_n (pc := 30) X.1 X.2.1 d_MD_lowOperation_30 rfl (lv_at hl 1 rfl) ?_
        refine lv_iconst (pc := 31) (v := 2) X.1 X.2.1 d_MD_lowOperation_31 (by decide) ?_
        refine lv_idiv (pc := 32) X.1 X.2.1 d_MD_lowOperation_32 (by decide) ?_
        refine lv_aload_n (pc := 33) X.1 X.2.1 d_MD_lowOperation_33 rfl (lv_at hl 0 rfl) ?_
        refine ab_ki_callV (pc := 34) (wr := []) (w := (wM t q)) (u := (stt u 0 24 10)) (F := f_MD_nextWord (stt u 0 24 10)) (as := []) (rest := [.int (x1 / 2), .ref (q 0)]) X hX (c_MD_nextWord l D t q (stt u 0 24 10)) ok_MD_nextWord okv_MD_nextWord tw_350 0 9 rfl rfl rfl hl.1 rfl (Nat.le_of_ble_eq_true rfl) ⟨rfl, rfl, Nat.le_of_ble_eq_true rfl, Nat.le_of_ble_eq_true rfl⟩ ⟨Nat.zero_le _, Nat.zero_le _⟩ d_MD_lowOperation_34 (fun H locs hX => ?_)
        refine ab_kv_callV (pc := 37) (wr := []) (w := (wM t q)) (u := ((f_MD_nextWord (stt u 0 24 10)).2)) (F := f_MD_setPair ((f_MD_nextWord (stt u 0 24 10)).2) (x1 / 2) ((f_MD_nextWord (stt u 0 24 10)).1)) (as := [.int (x1 / 2), .int ((f_MD_nextWord (stt u 0 24 10)).1)]) (rest := []) X hX (c_MD_setPair l D t q ((f_MD_nextWord (stt u 0 24 10)).2) (x1 / 2) ((f_MD_nextWord (stt u 0 24 10)).1) (ab_half p1)) ok_MD_setPair okv_MD_setPair tw_358 0 9 rfl rfl rfl hl.1 rfl (Nat.le_of_ble_eq_true rfl) ⟨rfl, rfl, Nat.le_of_ble_eq_true rfl, Nat.le_of_ble_eq_true rfl⟩ ⟨Nat.zero_le _, Nat.zero_le _⟩ d_MD_lowOperation_37 (fun H locs hX => ?_)
        refine lv_goto (pc := 40) (tgt := 270) X.1 X.2.1 d_MD_lowOperation_40 (by decide) ?_
        exact ab_kv_ret (pc := 270) X hr hk hX (by rw [f_MD_lowOperation, if_neg h1, if_pos h2, if_pos h14]) d_MD_lowOperation_270
  ·
    refine lv_aload_n (pc := 4) X.1 X.2.1 d_MD_lowOperation_4 rfl (lv_at hl 0 rfl) ?_
    refine lv_iconst (pc := 5) (v := 4) X.1 X.2.1 d_MD_lowOperation_5 (by decide) ?_
    refine ab_px (pc := 6) (ws' := (wM t q (stt u 0 24 4))) X hX 0 9 29 ty_MD ty_MD_ok nm_MD rfl rfl (Nat.le_of_ble_eq_true rfl) in_MD rfl tw_351 rfl rfl rfl rfl (Nat.le_of_ble_eq_true rfl) (sf_wM_0_29 t q u 4) d_MD_lowOperation_6 (fun H locs hX => ?_)
    refine lv_goto (pc := 9) (tgt := 270) X.1 X.2.1 d_MD_lowOperation_9 (by decide) ?_
    exact ab_kv_ret (pc := 270) X hr hk hX (by rw [f_MD_lowOperation, if_pos h1]) d_MD_lowOperation_270
abbrev b_MD_popOrSo : ByteArray := prog_11_method_22_code
def y_MD_popOrSo : MethodName := ⟨"ArcadeBoardModel", "popOrSo", "(I)V"⟩
theorem d_MD_popOrSo_0 : decode b_MD_popOrSo 0 = .ok (.aload_n 0, 1) := by decide +kernel
theorem d_MD_popOrSo_1 : decode b_MD_popOrSo 1 = .ok (.iload_n 1, 1) := by decide +kernel
theorem d_MD_popOrSo_2 : decode b_MD_popOrSo 2 = .ok (.iconst 5, 1) := by decide +kernel
theorem d_MD_popOrSo_3 : decode b_MD_popOrSo 3 = .ok (.if_icmp .eq 9, 3) := by decide +kernel
theorem d_MD_popOrSo_6 : decode b_MD_popOrSo 6 = .ok (.iload_n 1, 1) := by decide +kernel
theorem d_MD_popOrSo_7 : decode b_MD_popOrSo 7 = .ok (.bipush 7, 2) := by decide +kernel
theorem d_MD_popOrSo_9 : decode b_MD_popOrSo 9 = .ok (.if_icmp .ne 7, 3) := by decide +kernel
theorem d_MD_popOrSo_12 : decode b_MD_popOrSo 12 = .ok (.iconst 5, 1) := by decide +kernel
theorem d_MD_popOrSo_13 : decode b_MD_popOrSo 13 = .ok (.goto 5, 3) := by decide +kernel
theorem d_MD_popOrSo_16 : decode b_MD_popOrSo 16 = .ok (.bipush 10, 2) := by decide +kernel
theorem d_MD_popOrSo_18 : decode b_MD_popOrSo 18 = .ok (.putfield 71, 3) := by decide +kernel
theorem d_MD_popOrSo_21 : decode b_MD_popOrSo 21 = .ok (.iload_n 1, 1) := by decide +kernel
theorem d_MD_popOrSo_22 : decode b_MD_popOrSo 22 = .ok (.iconst 1, 1) := by decide +kernel
theorem d_MD_popOrSo_23 : decode b_MD_popOrSo 23 = .ok (.if_icmp .eq 8, 3) := by decide +kernel
theorem d_MD_popOrSo_26 : decode b_MD_popOrSo 26 = .ok (.iload_n 1, 1) := by decide +kernel
theorem d_MD_popOrSo_27 : decode b_MD_popOrSo 27 = .ok (.iconst 3, 1) := by decide +kernel
theorem d_MD_popOrSo_28 : decode b_MD_popOrSo 28 = .ok (.if_icmp .ne 14, 3) := by decide +kernel
theorem d_MD_popOrSo_31 : decode b_MD_popOrSo 31 = .ok (.aload_n 0, 1) := by decide +kernel
theorem d_MD_popOrSo_32 : decode b_MD_popOrSo 32 = .ok (.aload_n 0, 1) := by decide +kernel
theorem d_MD_popOrSo_33 : decode b_MD_popOrSo 33 = .ok (.invokevirtual 97, 3) := by decide +kernel
theorem d_MD_popOrSo_36 : decode b_MD_popOrSo 36 = .ok (.putfield 30, 3) := by decide +kernel
theorem d_MD_popOrSo_39 : decode b_MD_popOrSo 39 = .ok (.goto 81, 3) := by decide +kernel
theorem d_MD_popOrSo_42 : decode b_MD_popOrSo 42 = .ok (.iload_n 1, 1) := by decide +kernel
theorem d_MD_popOrSo_43 : decode b_MD_popOrSo 43 = .ok (.iconst 5, 1) := by decide +kernel
theorem d_MD_popOrSo_44 : decode b_MD_popOrSo 44 = .ok (.if_icmp .ne 15, 3) := by decide +kernel
theorem d_MD_popOrSo_47 : decode b_MD_popOrSo 47 = .ok (.aload_n 0, 1) := by decide +kernel
theorem d_MD_popOrSo_48 : decode b_MD_popOrSo 48 = .ok (.aload_n 0, 1) := by decide +kernel
theorem d_MD_popOrSo_49 : decode b_MD_popOrSo 49 = .ok (.iconst 2, 1) := by decide +kernel
theorem d_MD_popOrSo_50 : decode b_MD_popOrSo 50 = .ok (.invokevirtual 45, 3) := by decide +kernel
theorem d_MD_popOrSo_53 : decode b_MD_popOrSo 53 = .ok (.putfield 30, 3) := by decide +kernel
theorem d_MD_popOrSo_56 : decode b_MD_popOrSo 56 = .ok (.goto 64, 3) := by decide +kernel
theorem d_MD_popOrSo_59 : decode b_MD_popOrSo 59 = .ok (.iload_n 1, 1) := by decide +kernel
theorem d_MD_popOrSo_60 : decode b_MD_popOrSo 60 = .ok (.bipush 7, 2) := by decide +kernel
theorem d_MD_popOrSo_62 : decode b_MD_popOrSo 62 = .ok (.if_icmp .ne 15, 3) := by decide +kernel
theorem d_MD_popOrSo_65 : decode b_MD_popOrSo 65 = .ok (.aload_n 0, 1) := by decide +kernel
theorem d_MD_popOrSo_66 : decode b_MD_popOrSo 66 = .ok (.aload_n 0, 1) := by decide +kernel
theorem d_MD_popOrSo_67 : decode b_MD_popOrSo 67 = .ok (.iconst 2, 1) := by decide +kernel
theorem d_MD_popOrSo_68 : decode b_MD_popOrSo 68 = .ok (.invokevirtual 45, 3) := by decide +kernel
theorem d_MD_popOrSo_71 : decode b_MD_popOrSo 71 = .ok (.putfield 42, 3) := by decide +kernel
theorem d_MD_popOrSo_74 : decode b_MD_popOrSo 74 = .ok (.goto 46, 3) := by decide +kernel
theorem d_MD_popOrSo_77 : decode b_MD_popOrSo 77 = .ok (.aload_n 0, 1) := by decide +kernel
theorem d_MD_popOrSo_78 : decode b_MD_popOrSo 78 = .ok (.invokevirtual 97, 3) := by decide +kernel
theorem d_MD_popOrSo_81 : decode b_MD_popOrSo 81 = .ok (.istore_n 2, 1) := by decide +kernel
theorem d_MD_popOrSo_82 : decode b_MD_popOrSo 82 = .ok (.iload_n 1, 1) := by decide +kernel
theorem d_MD_popOrSo_83 : decode b_MD_popOrSo 83 = .ok (.bipush 6, 2) := by decide +kernel
theorem d_MD_popOrSo_85 : decode b_MD_popOrSo 85 = .ok (.if_icmp .ne 27, 3) := by decide +kernel
theorem d_MD_popOrSo_88 : decode b_MD_popOrSo 88 = .ok (.aload_n 0, 1) := by decide +kernel
theorem d_MD_popOrSo_89 : decode b_MD_popOrSo 89 = .ok (.getfield 13, 3) := by decide +kernel
theorem d_MD_popOrSo_92 : decode b_MD_popOrSo 92 = .ok (.bipush 7, 2) := by decide +kernel
theorem d_MD_popOrSo_94 : decode b_MD_popOrSo 94 = .ok (.iload_n 2, 1) := by decide +kernel
theorem d_MD_popOrSo_95 : decode b_MD_popOrSo 95 = .ok (.sipush 256, 3) := by decide +kernel
theorem d_MD_popOrSo_98 : decode b_MD_popOrSo 98 = .ok (.idiv, 1) := by decide +kernel
theorem d_MD_popOrSo_99 : decode b_MD_popOrSo 99 = .ok (.iastore, 1) := by decide +kernel
theorem d_MD_popOrSo_100 : decode b_MD_popOrSo 100 = .ok (.aload_n 0, 1) := by decide +kernel
theorem d_MD_popOrSo_101 : decode b_MD_popOrSo 101 = .ok (.iload_n 2, 1) := by decide +kernel
theorem d_MD_popOrSo_102 : decode b_MD_popOrSo 102 = .ok (.sipush 256, 3) := by decide +kernel
theorem d_MD_popOrSo_105 : decode b_MD_popOrSo 105 = .ok (.irem, 1) := by decide +kernel
theorem d_MD_popOrSo_106 : decode b_MD_popOrSo 106 = .ok (.invokevirtual 115, 3) := by decide +kernel
theorem d_MD_popOrSo_109 : decode b_MD_popOrSo 109 = .ok (.goto 11, 3) := by decide +kernel
theorem d_MD_popOrSo_112 : decode b_MD_popOrSo 112 = .ok (.aload_n 0, 1) := by decide +kernel
theorem d_MD_popOrSo_113 : decode b_MD_popOrSo 113 = .ok (.iload_n 1, 1) := by decide +kernel
theorem d_MD_popOrSo_114 : decode b_MD_popOrSo 114 = .ok (.iconst 2, 1) := by decide +kernel
theorem d_MD_popOrSo_115 : decode b_MD_popOrSo 115 = .ok (.idiv, 1) := by decide +kernel
theorem d_MD_popOrSo_116 : decode b_MD_popOrSo 116 = .ok (.iload_n 2, 1) := by decide +kernel
theorem d_MD_popOrSo_117 : decode b_MD_popOrSo 117 = .ok (.invokevirtual 77, 3) := by decide +kernel
theorem d_MD_popOrSo_120 : decode b_MD_popOrSo 120 = .ok (.return_, 1) := by decide +kernel
theorem tw_360 : Jvm.Cond.code ⟨"ArcadeBoardModel", "popOrSo", "(I)V"⟩ prog_11_method_22_code 3 (Option.none : Option Jvm.ClassFile.FieldType) ∈ AL := ab_in (ab_t4 (List.mem_of_getElem? (i := 138) (by decide +kernel))) rfl
theorem tw_361 : Jvm.Cond.instanceMethod ⟨"ArcadeBoardModel", "popOrSo", "(I)V"⟩ ∈ AL := ab_in (ab_t4 (List.mem_of_getElem? (i := 137) (by decide +kernel))) rfl
theorem tw_362 : Cond.selects "ArcadeBoardModel" ⟨"ArcadeBoardModel", "popOrSo", "(I)V"⟩ ⟨"ArcadeBoardModel", "popOrSo", "(I)V"⟩ ∈ AL := ab_in (ab_s3 (List.mem_of_getElem? (i := 12) (by decide +kernel))) rfl
theorem tw_363 : Jvm.Cond.methodLink "ArcadeBoardModel" 97 ⟨"ArcadeBoardModel", "pop", "()I"⟩ ∈ AL := ab_in (ab_t4 (List.mem_of_getElem? (i := 131) (by decide +kernel))) rfl
theorem tw_364 : Jvm.Cond.methodLink "ArcadeBoardModel" 115 ⟨"ArcadeBoardModel", "setFlags", "(I)V"⟩ ∈ AL := ab_in (ab_t4 (List.mem_of_getElem? (i := 139) (by decide +kernel))) rfl
theorem ok_MD_popOrSo : ab_yok y_MD_popOrSo b_MD_popOrSo 3 none 1 := ⟨tw_360, tw_280, by decide, by decide, by decide +kernel⟩
theorem okv_MD_popOrSo : ab_yok_V y_MD_popOrSo := ⟨tw_361, tw_362⟩
set_option maxHeartbeats 1000000 in
set_option maxRecDepth 100000 in
theorem c_MD_popOrSo (l : Launch) (D : va_G) (t : Nat → ClassId) (q : Nat → Nat) (u : SS) (x1 : Int32) (p1 : ab_lt8 x1) : ab_kv l D (tyC t) (wM t q) y_MD_popOrSo b_MD_popOrSo 3 { frames := 2, cells := 0, slots := 0, locals := 42 } [.ref (q 0), .int x1] u (f_MD_popOrSo u x1) := by
  refine ab_kv_ofW (by decide) (Nat.le_of_ble_eq_true rfl) (fun p e s m below meth c ls A X hr hk hl hX => ?_)
  have hl : lv_has ls 3 [(0, .ref (q 0)), (1, .int x1)] := hl
  refine lv_aload_n (pc := 0) X.1 X.2.1 d_MD_popOrSo_0 rfl (lv_at hl 0 rfl) ?_
  refine lv_iload_n (pc := 1) X.1 X.2.1 d_MD_popOrSo_1 rfl (lv_at hl 1 rfl) ?_
  refine lv_iconst (pc := 2) (v := 5) X.1 X.2.1 d_MD_popOrSo_2 (by decide) ?_
  refine ab_jn (ls := ls) (rest := [.ref (q 0)]) 18 (if x1 = 5 then 5 else (if x1 = 7 then 5 else 10 : Int32) : Int32) ?_ (fun J => ?_)
  rotate_left
  ·
    refine lv_icmp_eq (pc := 3) (tgt := 12) X.1 X.2.1 d_MD_popOrSo_3 (by decide) (fun h1 => ?_) (fun h1 => ?_)
    ·
      refine lv_iconst (pc := 12) (v := 5) X.1 X.2.1 d_MD_popOrSo_12 (by decide) ?_
      refine lv_goto (pc := 13) (tgt := 18) X.1 X.2.1 d_MD_popOrSo_13 (by decide) ?_
      exact ab_jt (by rw [if_pos h1]) J
    ·
      refine lv_iload_n (pc := 6) X.1 X.2.1 d_MD_popOrSo_6 rfl (lv_at hl 1 rfl) ?_
      refine lv_bipush (pc := 7) (v := 7) X.1 X.2.1 d_MD_popOrSo_7 (by decide) ?_
      refine lv_icmp_ne (pc := 9) (tgt := 16) X.1 X.2.1 d_MD_popOrSo_9 (by decide) (fun h2 => ?_) (fun h2 => ?_)
      ·
        refine lv_bipush (pc := 16) (v := 10) X.1 X.2.1 d_MD_popOrSo_16 (by decide) ?_
        exact ab_jt (by rw [if_neg h1, if_neg h2]) J
      ·
        refine lv_iconst (pc := 12) (v := 5) X.1 X.2.1 d_MD_popOrSo_12 (by decide) ?_
        refine lv_goto (pc := 13) (tgt := 18) X.1 X.2.1 d_MD_popOrSo_13 (by decide) ?_
        exact ab_jt (by rw [if_neg h1, if_pos h2]) J
  refine ab_px (pc := 18) (ws' := (wM t q (stt u 0 24 (if x1 = 5 then 5 else (if x1 = 7 then 5 else 10 : Int32) : Int32)))) X hX 0 9 29 ty_MD ty_MD_ok nm_MD rfl rfl (Nat.le_of_ble_eq_true rfl) in_MD rfl tw_351 rfl rfl rfl rfl (Nat.le_of_ble_eq_true rfl) (sf_wM_0_29 t q u (if x1 = 5 then 5 else (if x1 = 7 then 5 else 10 : Int32) : Int32)) d_MD_popOrSo_18 (fun H locs hX => ?_)
  refine lv_iload_n (pc := 21) X.1 X.2.1 d_MD_popOrSo_21 rfl (lv_at hl 1 rfl) ?_
  refine lv_iconst (pc := 22) (v := 1) X.1 X.2.1 d_MD_popOrSo_22 (by decide) ?_
  refine lv_icmp_eq (pc := 23) (tgt := 31) X.1 X.2.1 d_MD_popOrSo_23 (by decide) (fun h3 => ?_) (fun h3 => ?_)
  ·
    refine lv_aload_n (pc := 31) X.1 X.2.1 d_MD_popOrSo_31 rfl (lv_at hl 0 rfl) ?_
    refine lv_aload_n (pc := 32) X.1 X.2.1 d_MD_popOrSo_32 rfl (lv_at hl 0 rfl) ?_
    refine ab_ki_callV (pc := 33) (wr := []) (w := (wM t q)) (u := (stt u 0 24 (if x1 = 5 then 5 else (if x1 = 7 then 5 else 10 : Int32) : Int32))) (F := f_MD_pop (stt u 0 24 (if x1 = 5 then 5 else (if x1 = 7 then 5 else 10 : Int32) : Int32))) (as := []) (rest := [.ref (q 0)]) X hX (c_MD_pop l D t q (stt u 0 24 (if x1 = 5 then 5 else (if x1 = 7 then 5 else 10 : Int32) : Int32))) ok_MD_pop okv_MD_pop tw_363 0 9 rfl rfl rfl hl.1 rfl (Nat.le_of_ble_eq_true rfl) ⟨rfl, rfl, Nat.le_of_ble_eq_true rfl, Nat.le_of_ble_eq_true rfl⟩ ⟨Nat.zero_le _, Nat.zero_le _⟩ d_MD_popOrSo_33 (fun H locs hX => ?_)
    refine ab_px (pc := 36) (ws' := (wM t q (stt ((f_MD_pop (stt u 0 24 (if x1 = 5 then 5 else (if x1 = 7 then 5 else 10 : Int32) : Int32))).2) 0 10 ((f_MD_pop (stt u 0 24 (if x1 = 5 then 5 else (if x1 = 7 then 5 else 10 : Int32) : Int32))).1)))) X hX 0 9 12 ty_MD ty_MD_ok nm_MD rfl rfl (Nat.le_of_ble_eq_true rfl) in_MD rfl tw_294 rfl rfl rfl rfl (Nat.le_of_ble_eq_true rfl) (sf_wM_0_12 t q ((f_MD_pop (stt u 0 24 (if x1 = 5 then 5 else (if x1 = 7 then 5 else 10 : Int32) : Int32))).2) ((f_MD_pop (stt u 0 24 (if x1 = 5 then 5 else (if x1 = 7 then 5 else 10 : Int32) : Int32))).1)) d_MD_popOrSo_36 (fun H locs hX => ?_)
    refine lv_goto (pc := 39) (tgt := 120) X.1 X.2.1 d_MD_popOrSo_39 (by decide) ?_
    exact ab_kv_ret (pc := 120) X hr hk hX (by rw [f_MD_popOrSo, if_pos h3]) d_MD_popOrSo_120
  ·
    refine lv_iload_n (pc := 26) X.1 X.2.1 d_MD_popOrSo_26 rfl (lv_at hl 1 rfl) ?_
    refine lv_iconst (pc := 27) (v := 3) X.1 X.2.1 d_MD_popOrSo_27 (by decide) ?_
    refine lv_icmp_ne (pc := 28) (tgt := 42) X.1 X.2.1 d_MD_popOrSo_28 (by decide) (fun h4 => ?_) (fun h4 => ?_)
    ·
      refine lv_iload_n (pc := 42) X.1 X.2.1 d_MD_popOrSo_42 rfl (lv_at hl 1 rfl) ?_
      refine lv_iconst (pc := 43) (v := 5) X.1 X.2.1 d_MD_popOrSo_43 (by decide) ?_
      refine lv_icmp_ne (pc := 44) (tgt := 59) X.1 X.2.1 d_MD_popOrSo_44 (by decide) (fun h5 => ?_) (fun h5 => ?_)
      ·
        refine lv_iload_n (pc := 59) X.1 X.2.1 d_MD_popOrSo_59 rfl (lv_at hl 1 rfl) ?_
        refine lv_bipush (pc := 60) (v := 7) X.1 X.2.1 d_MD_popOrSo_60 (by decide) ?_
        refine lv_icmp_ne (pc := 62) (tgt := 77) X.1 X.2.1 d_MD_popOrSo_62 (by decide) (fun h6 => ?_) (fun h6 => ?_)
        ·
          refine lv_aload_n (pc := 77) X.1 X.2.1 d_MD_popOrSo_77 rfl (lv_at hl 0 rfl) ?_
          refine ab_ki_callV (pc := 78) (wr := []) (w := (wM t q)) (u := (stt u 0 24 (if x1 = 5 then 5 else (if x1 = 7 then 5 else 10 : Int32) : Int32))) (F := f_MD_pop (stt u 0 24 (if x1 = 5 then 5 else (if x1 = 7 then 5 else 10 : Int32) : Int32))) (as := []) (rest := []) X hX (c_MD_pop l D t q (stt u 0 24 (if x1 = 5 then 5 else (if x1 = 7 then 5 else 10 : Int32) : Int32))) ok_MD_pop okv_MD_pop tw_363 0 9 rfl rfl rfl hl.1 rfl (Nat.le_of_ble_eq_true rfl) ⟨rfl, rfl, Nat.le_of_ble_eq_true rfl, Nat.le_of_ble_eq_true rfl⟩ ⟨Nat.zero_le _, Nat.zero_le _⟩ d_MD_popOrSo_78 (fun H locs hX => ?_)
          refine lv_istore_n (pc := 81) (lv' := [(2, .int ((f_MD_pop (stt u 0 24 (if x1 = 5 then 5 else (if x1 = 7 then 5 else 10 : Int32) : Int32))).1)), (0, .ref (q 0)), (1, .int x1)]) X.1 X.2.1 d_MD_popOrSo_81 rfl hl (Nat.le_of_ble_eq_true rfl) rfl (fun ls hl => ?_)
          refine lv_iload_n (pc := 82) X.1 X.2.1 d_MD_popOrSo_82 rfl (lv_at hl 2 rfl) ?_
          refine lv_bipush (pc := 83) (v := 6) X.1 X.2.1 d_MD_popOrSo_83 (by decide) ?_
          refine lv_icmp_ne (pc := 85) (tgt := 112) X.1 X.2.1 d_MD_popOrSo_85 (by decide) (fun h7 => ?_) (fun h7 => ?_)
          ·
            refine lv_aload_n (pc := 112) X.1 X.2.1 d_MD_popOrSo_112 rfl (lv_at hl 1 rfl) ?_
            refine lv_iload_n (pc := 113) X.1 X.2.1 d_MD_popOrSo_113 rfl (lv_at hl 2 rfl) ?_
            refine lv_iconst (pc := 114) (v := 2) X.1 X.2.1 d_MD_popOrSo_114 (by decide) ?_
            refine lv_idiv (pc := 115) X.1 X.2.1 d_MD_popOrSo_115 (by decide) ?_
            refine lv_iload_n (pc := 116) X.1 X.2.1 d_MD_popOrSo_116 rfl (lv_at hl 0 rfl) ?_
            refine ab_kv_callV (pc := 117) (wr := []) (w := (wM t q)) (u := ((f_MD_pop (stt u 0 24 (if x1 = 5 then 5 else (if x1 = 7 then 5 else 10 : Int32) : Int32))).2)) (F := f_MD_setPair ((f_MD_pop (stt u 0 24 (if x1 = 5 then 5 else (if x1 = 7 then 5 else 10 : Int32) : Int32))).2) (x1 / 2) ((f_MD_pop (stt u 0 24 (if x1 = 5 then 5 else (if x1 = 7 then 5 else 10 : Int32) : Int32))).1)) (as := [.int (x1 / 2), .int ((f_MD_pop (stt u 0 24 (if x1 = 5 then 5 else (if x1 = 7 then 5 else 10 : Int32) : Int32))).1)]) (rest := []) X hX (c_MD_setPair l D t q ((f_MD_pop (stt u 0 24 (if x1 = 5 then 5 else (if x1 = 7 then 5 else 10 : Int32) : Int32))).2) (x1 / 2) ((f_MD_pop (stt u 0 24 (if x1 = 5 then 5 else (if x1 = 7 then 5 else 10 : Int32) : Int32))).1) (ab_half p1)) ok_MD_setPair okv_MD_setPair tw_358 0 9 rfl rfl rfl hl.1 rfl (Nat.le_of_ble_eq_true rfl) ⟨rfl, rfl, Nat.le_of_ble_eq_true rfl, Nat.le_of_ble_eq_true rfl⟩ ⟨Nat.zero_le _, Nat.zero_le _⟩ d_MD_popOrSo_117 (fun H locs hX => ?_)
            exact ab_kv_ret (pc := 120) X hr hk hX (by rw [f_MD_popOrSo, if_neg h3, if_neg h4, if_neg h5, if_neg h6, if_neg h7]) d_MD_popOrSo_120
          ·
            refine lv_aload_n (pc := 88) X.1 X.2.1 d_MD_popOrSo_88 rfl (lv_at hl 1 rfl) ?_
            refine ab_gx (pc := 89) (v := .ref (q 2)) X hX 0 9 5 rfl rfl (Nat.le_of_ble_eq_true rfl) in_MD rfl tw_304 rfl d_MD_popOrSo_89 ?_
            refine lv_bipush (pc := 92) (v := 7) X.1 X.2.1 d_MD_popOrSo_92 (by decide) ?_
            refine lv_iload_n (pc := 94) X.1 X.2.1 d_MD_popOrSo_94 rfl (lv_at hl 0 rfl) ?_
            refine lv_sipush (pc := 95) (v := 256) X.1 X.2.1 d_MD_popOrSo_95 (by decide) ?_
            refine lv_idiv (pc := 98) X.1 X.2.1 d_MD_popOrSo_98 (by decide) ?_
            refine ab_ast (pc := 99) (f := ((f_MD_pop (stt u 0 24 (if x1 = 5 then 5 else (if x1 = 7 then 5 else 10 : Int32) : Int32))).2) 2) (j := 7) (ws' := (wM t q (stt ((f_MD_pop (stt u 0 24 (if x1 = 5 then 5 else (if x1 = 7 then 5 else 10 : Int32) : Int32))).2) 2 7 (((f_MD_pop (stt u 0 24 (if x1 = 5 then 5 else (if x1 = 7 then 5 else 10 : Int32) : Int32))).1) / 256)))) X hX 2 0 rfl rfl (ab_inc (by decide)) rfl (sa_wM_2 t q ((f_MD_pop (stt u 0 24 (if x1 = 5 then 5 else (if x1 = 7 then 5 else 10 : Int32) : Int32))).2) 7 (((f_MD_pop (stt u 0 24 (if x1 = 5 then 5 else (if x1 = 7 then 5 else 10 : Int32) : Int32))).1) / 256)) d_MD_popOrSo_99 (fun H locs hX => ?_)
            refine lv_aload_n (pc := 100) X.1 X.2.1 d_MD_popOrSo_100 rfl (lv_at hl 1 rfl) ?_
            refine lv_iload_n (pc := 101) X.1 X.2.1 d_MD_popOrSo_101 rfl (lv_at hl 0 rfl) ?_
            refine lv_sipush (pc := 102) (v := 256) X.1 X.2.1 d_MD_popOrSo_102 (by decide) ?_
            refine lv_irem (pc := 105) X.1 X.2.1 d_MD_popOrSo_105 (by decide) ?_
            refine ab_kv_callV (pc := 106) (wr := []) (w := (wM t q)) (u := (stt ((f_MD_pop (stt u 0 24 (if x1 = 5 then 5 else (if x1 = 7 then 5 else 10 : Int32) : Int32))).2) 2 7 (((f_MD_pop (stt u 0 24 (if x1 = 5 then 5 else (if x1 = 7 then 5 else 10 : Int32) : Int32))).1) / 256))) (F := f_MD_setFlags (stt ((f_MD_pop (stt u 0 24 (if x1 = 5 then 5 else (if x1 = 7 then 5 else 10 : Int32) : Int32))).2) 2 7 (((f_MD_pop (stt u 0 24 (if x1 = 5 then 5 else (if x1 = 7 then 5 else 10 : Int32) : Int32))).1) / 256)) (((f_MD_pop (stt u 0 24 (if x1 = 5 then 5 else (if x1 = 7 then 5 else 10 : Int32) : Int32))).1) - ((f_MD_pop (stt u 0 24 (if x1 = 5 then 5 else (if x1 = 7 then 5 else 10 : Int32) : Int32))).1) / 256 * 256)) (as := [.int (((f_MD_pop (stt u 0 24 (if x1 = 5 then 5 else (if x1 = 7 then 5 else 10 : Int32) : Int32))).1) - ((f_MD_pop (stt u 0 24 (if x1 = 5 then 5 else (if x1 = 7 then 5 else 10 : Int32) : Int32))).1) / 256 * 256)]) (rest := []) X hX (c_MD_setFlags l D t q (stt ((f_MD_pop (stt u 0 24 (if x1 = 5 then 5 else (if x1 = 7 then 5 else 10 : Int32) : Int32))).2) 2 7 (((f_MD_pop (stt u 0 24 (if x1 = 5 then 5 else (if x1 = 7 then 5 else 10 : Int32) : Int32))).1) / 256)) (((f_MD_pop (stt u 0 24 (if x1 = 5 then 5 else (if x1 = 7 then 5 else 10 : Int32) : Int32))).1) - ((f_MD_pop (stt u 0 24 (if x1 = 5 then 5 else (if x1 = 7 then 5 else 10 : Int32) : Int32))).1) / 256 * 256)) ok_MD_setFlags okv_MD_setFlags tw_364 0 9 rfl rfl rfl hl.1 rfl (Nat.le_of_ble_eq_true rfl) ⟨rfl, rfl, Nat.le_of_ble_eq_true rfl, Nat.le_of_ble_eq_true rfl⟩ ⟨Nat.zero_le _, Nat.zero_le _⟩ d_MD_popOrSo_106 (fun H locs hX => ?_)
            refine lv_goto (pc := 109) (tgt := 120) X.1 X.2.1 d_MD_popOrSo_109 (by decide) ?_
            exact ab_kv_ret (pc := 120) X hr hk hX (by rw [f_MD_popOrSo, if_neg h3, if_neg h4, if_neg h5, if_neg h6, if_pos h7]) d_MD_popOrSo_120
        ·
          refine lv_aload_n (pc := 65) X.1 X.2.1 d_MD_popOrSo_65 rfl (lv_at hl 0 rfl) ?_
          refine lv_aload_n (pc := 66) X.1 X.2.1 d_MD_popOrSo_66 rfl (lv_at hl 0 rfl) ?_
          refine lv_iconst (pc := 67) (v := 2) X.1 X.2.1 d_MD_popOrSo_67 (by decide) ?_
          refine ab_kr_callV (pc := 68) (wr := []) (w := (wM t q)) (u := (stt u 0 24 (if x1 = 5 then 5 else (if x1 = 7 then 5 else 10 : Int32) : Int32))) (r := f_MD_pair (stt u 0 24 (if x1 = 5 then 5 else (if x1 = 7 then 5 else 10 : Int32) : Int32)) 2) (as := [.int 2]) (rest := [.ref (q 0)]) X hX (c_MD_pair l D t q (stt u 0 24 (if x1 = 5 then 5 else (if x1 = 7 then 5 else 10 : Int32) : Int32)) 2 (ab_le3c (by decide : (2 : Nat) ≤ 3))) ok_MD_pair okv_MD_pair tw_312 0 9 rfl rfl rfl hl.1 rfl (Nat.le_of_ble_eq_true rfl) ⟨rfl, rfl, Nat.le_of_ble_eq_true rfl, Nat.le_of_ble_eq_true rfl⟩ ⟨Nat.zero_le _, Nat.zero_le _⟩ d_MD_popOrSo_68 (fun H locs hX => ?_)
          refine ab_px (pc := 71) (ws' := (wM t q (stt (stt u 0 24 (if x1 = 5 then 5 else (if x1 = 7 then 5 else 10 : Int32) : Int32)) 0 9 (f_MD_pair (stt u 0 24 (if x1 = 5 then 5 else (if x1 = 7 then 5 else 10 : Int32) : Int32)) 2)))) X hX 0 9 11 ty_MD ty_MD_ok nm_MD rfl rfl (Nat.le_of_ble_eq_true rfl) in_MD rfl tw_305 rfl rfl rfl rfl (Nat.le_of_ble_eq_true rfl) (sf_wM_0_11 t q (stt u 0 24 (if x1 = 5 then 5 else (if x1 = 7 then 5 else 10 : Int32) : Int32)) (f_MD_pair (stt u 0 24 (if x1 = 5 then 5 else (if x1 = 7 then 5 else 10 : Int32) : Int32)) 2)) d_MD_popOrSo_71 (fun H locs hX => ?_)
          refine lv_goto (pc := 74) (tgt := 120) X.1 X.2.1 d_MD_popOrSo_74 (by decide) ?_
          exact ab_kv_ret (pc := 120) X hr hk hX (by rw [f_MD_popOrSo, if_neg h3, if_neg h4, if_neg h5, if_pos h6]) d_MD_popOrSo_120
      ·
        refine lv_aload_n (pc := 47) X.1 X.2.1 d_MD_popOrSo_47 rfl (lv_at hl 0 rfl) ?_
        refine lv_aload_n (pc := 48) X.1 X.2.1 d_MD_popOrSo_48 rfl (lv_at hl 0 rfl) ?_
        refine lv_iconst (pc := 49) (v := 2) X.1 X.2.1 d_MD_popOrSo_49 (by decide) ?_
        refine ab_kr_callV (pc := 50) (wr := []) (w := (wM t q)) (u := (stt u 0 24 (if x1 = 5 then 5 else (if x1 = 7 then 5 else 10 : Int32) : Int32))) (r := f_MD_pair (stt u 0 24 (if x1 = 5 then 5 else (if x1 = 7 then 5 else 10 : Int32) : Int32)) 2) (as := [.int 2]) (rest := [.ref (q 0)]) X hX (c_MD_pair l D t q (stt u 0 24 (if x1 = 5 then 5 else (if x1 = 7 then 5 else 10 : Int32) : Int32)) 2 (ab_le3c (by decide : (2 : Nat) ≤ 3))) ok_MD_pair okv_MD_pair tw_312 0 9 rfl rfl rfl hl.1 rfl (Nat.le_of_ble_eq_true rfl) ⟨rfl, rfl, Nat.le_of_ble_eq_true rfl, Nat.le_of_ble_eq_true rfl⟩ ⟨Nat.zero_le _, Nat.zero_le _⟩ d_MD_popOrSo_50 (fun H locs hX => ?_)
        refine ab_px (pc := 53) (ws' := (wM t q (stt (stt u 0 24 (if x1 = 5 then 5 else (if x1 = 7 then 5 else 10 : Int32) : Int32)) 0 10 (f_MD_pair (stt u 0 24 (if x1 = 5 then 5 else (if x1 = 7 then 5 else 10 : Int32) : Int32)) 2)))) X hX 0 9 12 ty_MD ty_MD_ok nm_MD rfl rfl (Nat.le_of_ble_eq_true rfl) in_MD rfl tw_294 rfl rfl rfl rfl (Nat.le_of_ble_eq_true rfl) (sf_wM_0_12 t q (stt u 0 24 (if x1 = 5 then 5 else (if x1 = 7 then 5 else 10 : Int32) : Int32)) (f_MD_pair (stt u 0 24 (if x1 = 5 then 5 else (if x1 = 7 then 5 else 10 : Int32) : Int32)) 2)) d_MD_popOrSo_53 (fun H locs hX => ?_)
        refine lv_goto (pc := 56) (tgt := 120) X.1 X.2.1 d_MD_popOrSo_56 (by decide) ?_
        exact ab_kv_ret (pc := 120) X hr hk hX (by rw [f_MD_popOrSo, if_neg h3, if_neg h4, if_pos h5]) d_MD_popOrSo_120
    ·
      refine lv_aload_n (pc := 31) X.1 X.2.1 d_MD_popOrSo_31 rfl (lv_at hl 0 rfl) ?_
      refine lv_aload_n (pc := 32) X.1 X.2.1 d_MD_popOrSo_32 rfl (lv_at hl 0 rfl) ?_
      refine ab_ki_callV (pc := 33) (wr := []) (w := (wM t q)) (u := (stt u 0 24 (if x1 = 5 then 5 else (if x1 = 7 then 5 else 10 : Int32) : Int32))) (F := f_MD_pop (stt u 0 24 (if x1 = 5 then 5 else (if x1 = 7 then 5 else 10 : Int32) : Int32))) (as := []) (rest := [.ref (q 0)]) X hX (c_MD_pop l D t q (stt u 0 24 (if x1 = 5 then 5 else (if x1 = 7 then 5 else 10 : Int32) : Int32))) ok_MD_pop okv_MD_pop tw_363 0 9 rfl rfl rfl hl.1 rfl (Nat.le_of_ble_eq_true rfl) ⟨rfl, rfl, Nat.le_of_ble_eq_true rfl, Nat.le_of_ble_eq_true rfl⟩ ⟨Nat.zero_le _, Nat.zero_le _⟩ d_MD_popOrSo_33 (fun H locs hX => ?_)
      refine ab_px (pc := 36) (ws' := (wM t q (stt ((f_MD_pop (stt u 0 24 (if x1 = 5 then 5 else (if x1 = 7 then 5 else 10 : Int32) : Int32))).2) 0 10 ((f_MD_pop (stt u 0 24 (if x1 = 5 then 5 else (if x1 = 7 then 5 else 10 : Int32) : Int32))).1)))) X hX 0 9 12 ty_MD ty_MD_ok nm_MD rfl rfl (Nat.le_of_ble_eq_true rfl) in_MD rfl tw_294 rfl rfl rfl rfl (Nat.le_of_ble_eq_true rfl) (sf_wM_0_12 t q ((f_MD_pop (stt u 0 24 (if x1 = 5 then 5 else (if x1 = 7 then 5 else 10 : Int32) : Int32))).2) ((f_MD_pop (stt u 0 24 (if x1 = 5 then 5 else (if x1 = 7 then 5 else 10 : Int32) : Int32))).1)) d_MD_popOrSo_36 (fun H locs hX => ?_)
      refine lv_goto (pc := 39) (tgt := 120) X.1 X.2.1 d_MD_popOrSo_39 (by decide) ?_
      exact ab_kv_ret (pc := 120) X hr hk hX (by rw [f_MD_popOrSo, if_neg h3, if_pos h4]) d_MD_popOrSo_120
abbrev b_MD_out : ByteArray := prog_11_method_25_code
def y_MD_out : MethodName := ⟨"ArcadeBoardModel", "out", "(II)V"⟩
theorem d_MD_out_0 : decode b_MD_out 0 = .ok (.iload_n 1, 1) := by decide +kernel
theorem d_MD_out_1 : decode b_MD_out 1 = .ok (.iconst 2, 1) := by decide +kernel
theorem d_MD_out_2 : decode b_MD_out 2 = .ok (.if_icmp .ne 14, 3) := by decide +kernel
theorem d_MD_out_5 : decode b_MD_out 5 = .ok (.aload_n 0, 1) := by decide +kernel
theorem d_MD_out_6 : decode b_MD_out 6 = .ok (.iload_n 2, 1) := by decide +kernel
theorem d_MD_out_7 : decode b_MD_out 7 = .ok (.bipush 7, 2) := by decide +kernel
theorem d_MD_out_9 : decode b_MD_out 9 = .ok (.iand, 1) := by decide +kernel
theorem d_MD_out_10 : decode b_MD_out 10 = .ok (.putfield 142, 3) := by decide +kernel
theorem d_MD_out_13 : decode b_MD_out 13 = .ok (.goto 168, 3) := by decide +kernel
theorem d_MD_out_16 : decode b_MD_out 16 = .ok (.iload_n 1, 1) := by decide +kernel
theorem d_MD_out_17 : decode b_MD_out 17 = .ok (.iconst 4, 1) := by decide +kernel
theorem d_MD_out_18 : decode b_MD_out 18 = .ok (.if_icmp .ne 24, 3) := by decide +kernel
theorem d_MD_out_21 : decode b_MD_out 21 = .ok (.aload_n 0, 1) := by decide +kernel
theorem d_MD_out_22 : decode b_MD_out 22 = .ok (.aload_n 0, 1) := by decide +kernel
theorem d_MD_out_23 : decode b_MD_out 23 = .ok (.getfield 139, 3) := by decide +kernel
theorem d_MD_out_26 : decode b_MD_out 26 = .ok (.sipush 256, 3) := by decide +kernel
theorem d_MD_out_29 : decode b_MD_out 29 = .ok (.idiv, 1) := by decide +kernel
theorem d_MD_out_30 : decode b_MD_out 30 = .ok (.sipush 256, 3) := by decide +kernel
theorem d_MD_out_33 : decode b_MD_out 33 = .ok (.iload_n 2, 1) := by decide +kernel
theorem d_MD_out_34 : decode b_MD_out 34 = .ok (.imul, 1) := by decide +kernel
theorem d_MD_out_35 : decode b_MD_out 35 = .ok (.iadd, 1) := by decide +kernel
theorem d_MD_out_36 : decode b_MD_out 36 = .ok (.putfield 139, 3) := by decide +kernel
theorem d_MD_out_39 : decode b_MD_out 39 = .ok (.goto 142, 3) := by decide +kernel
theorem d_MD_out_42 : decode b_MD_out 42 = .ok (.iload_n 1, 1) := by decide +kernel
theorem d_MD_out_43 : decode b_MD_out 43 = .ok (.bipush 6, 2) := by decide +kernel
theorem d_MD_out_45 : decode b_MD_out 45 = .ok (.if_icmp .ne 11, 3) := by decide +kernel
theorem d_MD_out_48 : decode b_MD_out 48 = .ok (.aload_n 0, 1) := by decide +kernel
theorem d_MD_out_49 : decode b_MD_out 49 = .ok (.iconst 0, 1) := by decide +kernel
theorem d_MD_out_50 : decode b_MD_out 50 = .ok (.putfield 145, 3) := by decide +kernel
theorem d_MD_out_53 : decode b_MD_out 53 = .ok (.goto 128, 3) := by decide +kernel
theorem d_MD_out_56 : decode b_MD_out 56 = .ok (.iload_n 1, 1) := by decide +kernel
theorem d_MD_out_57 : decode b_MD_out 57 = .ok (.iconst 3, 1) := by decide +kernel
theorem d_MD_out_58 : decode b_MD_out 58 = .ok (.if_icmp .eq 8, 3) := by decide +kernel
theorem d_MD_out_61 : decode b_MD_out 61 = .ok (.iload_n 1, 1) := by decide +kernel
theorem d_MD_out_62 : decode b_MD_out 62 = .ok (.iconst 5, 1) := by decide +kernel
theorem d_MD_out_63 : decode b_MD_out 63 = .ok (.if_icmp .ne 118, 3) := by decide +kernel
theorem d_MD_out_66 : decode b_MD_out 66 = .ok (.iload_n 1, 1) := by decide +kernel
theorem d_MD_out_67 : decode b_MD_out 67 = .ok (.iconst 3, 1) := by decide +kernel
theorem d_MD_out_68 : decode b_MD_out 68 = .ok (.if_icmp .ne 10, 3) := by decide +kernel
theorem d_MD_out_71 : decode b_MD_out 71 = .ok (.aload_n 0, 1) := by decide +kernel
theorem d_MD_out_72 : decode b_MD_out 72 = .ok (.getfield 148, 3) := by decide +kernel
theorem d_MD_out_75 : decode b_MD_out 75 = .ok (.goto 7, 3) := by decide +kernel
theorem d_MD_out_78 : decode b_MD_out 78 = .ok (.aload_n 0, 1) := by decide +kernel
theorem d_MD_out_79 : decode b_MD_out 79 = .ok (.getfield 151, 3) := by decide +kernel
theorem d_MD_out_82 : decode b_MD_out 82 = .ok (.istore_n 3, 1) := by decide +kernel
theorem d_MD_out_83 : decode b_MD_out 83 = .ok (.iconst 0, 1) := by decide +kernel
theorem d_MD_out_84 : decode b_MD_out 84 = .ok (.istore 4, 2) := by decide +kernel
theorem d_MD_out_86 : decode b_MD_out 86 = .ok (.iload 4, 2) := by decide +kernel
theorem d_MD_out_88 : decode b_MD_out 88 = .ok (.bipush 8, 2) := by decide +kernel
theorem d_MD_out_90 : decode b_MD_out 90 = .ok (.if_icmp .ge 57, 3) := by decide +kernel
theorem d_MD_out_93 : decode b_MD_out 93 = .ok (.iload_n 2, 1) := by decide +kernel
theorem d_MD_out_94 : decode b_MD_out 94 = .ok (.iload 4, 2) := by decide +kernel
theorem d_MD_out_96 : decode b_MD_out 96 = .ok (.ishr, 1) := by decide +kernel
theorem d_MD_out_97 : decode b_MD_out 97 = .ok (.iconst 1, 1) := by decide +kernel
theorem d_MD_out_98 : decode b_MD_out 98 = .ok (.iand, 1) := by decide +kernel
theorem d_MD_out_99 : decode b_MD_out 99 = .ok (.iconst 1, 1) := by decide +kernel
theorem d_MD_out_100 : decode b_MD_out 100 = .ok (.if_icmp .ne 41, 3) := by decide +kernel
theorem d_MD_out_103 : decode b_MD_out 103 = .ok (.iload_n 3, 1) := by decide +kernel
theorem d_MD_out_104 : decode b_MD_out 104 = .ok (.iload 4, 2) := by decide +kernel
theorem d_MD_out_106 : decode b_MD_out 106 = .ok (.ishr, 1) := by decide +kernel
theorem d_MD_out_107 : decode b_MD_out 107 = .ok (.iconst 1, 1) := by decide +kernel
theorem d_MD_out_108 : decode b_MD_out 108 = .ok (.iand, 1) := by decide +kernel
theorem d_MD_out_109 : decode b_MD_out 109 = .ok (.ifCond .ne 32, 3) := by decide +kernel
theorem d_MD_out_112 : decode b_MD_out 112 = .ok (.aload_n 0, 1) := by decide +kernel
theorem d_MD_out_113 : decode b_MD_out 113 = .ok (.getfield 16, 3) := by decide +kernel
theorem d_MD_out_116 : decode b_MD_out 116 = .ok (.aload_n 0, 1) := by decide +kernel
theorem d_MD_out_117 : decode b_MD_out 117 = .ok (.getfield 154, 3) := by decide +kernel
theorem d_MD_out_120 : decode b_MD_out 120 = .ok (.bipush 8, 2) := by decide +kernel
theorem d_MD_out_122 : decode b_MD_out 122 = .ok (.irem, 1) := by decide +kernel
theorem d_MD_out_123 : decode b_MD_out 123 = .ok (.bipush 8, 2) := by decide +kernel
theorem d_MD_out_125 : decode b_MD_out 125 = .ok (.iload_n 1, 1) := by decide +kernel
theorem d_MD_out_126 : decode b_MD_out 126 = .ok (.imul, 1) := by decide +kernel
theorem d_MD_out_127 : decode b_MD_out 127 = .ok (.iload 4, 2) := by decide +kernel
theorem d_MD_out_129 : decode b_MD_out 129 = .ok (.iadd, 1) := by decide +kernel
theorem d_MD_out_130 : decode b_MD_out 130 = .ok (.iastore, 1) := by decide +kernel
theorem d_MD_out_131 : decode b_MD_out 131 = .ok (.aload_n 0, 1) := by decide +kernel
theorem d_MD_out_132 : decode b_MD_out 132 = .ok (.dup, 1) := by decide +kernel
theorem d_MD_out_133 : decode b_MD_out 133 = .ok (.getfield 154, 3) := by decide +kernel
theorem d_MD_out_136 : decode b_MD_out 136 = .ok (.iconst 1, 1) := by decide +kernel
theorem d_MD_out_137 : decode b_MD_out 137 = .ok (.iadd, 1) := by decide +kernel
theorem d_MD_out_138 : decode b_MD_out 138 = .ok (.putfield 154, 3) := by decide +kernel
theorem d_MD_out_141 : decode b_MD_out 141 = .ok (.iinc 4 1, 3) := by decide +kernel
theorem d_MD_out_144 : decode b_MD_out 144 = .ok (.goto (-58), 3) := by decide +kernel
theorem d_MD_out_147 : decode b_MD_out 147 = .ok (.aload_n 0, 1) := by decide +kernel
theorem d_MD_out_148 : decode b_MD_out 148 = .ok (.iload_n 1, 1) := by decide +kernel
theorem d_MD_out_149 : decode b_MD_out 149 = .ok (.iconst 3, 1) := by decide +kernel
theorem d_MD_out_150 : decode b_MD_out 150 = .ok (.if_icmp .ne 7, 3) := by decide +kernel
theorem d_MD_out_153 : decode b_MD_out 153 = .ok (.iload_n 2, 1) := by decide +kernel
theorem d_MD_out_154 : decode b_MD_out 154 = .ok (.goto 7, 3) := by decide +kernel
theorem d_MD_out_157 : decode b_MD_out 157 = .ok (.aload_n 0, 1) := by decide +kernel
theorem d_MD_out_158 : decode b_MD_out 158 = .ok (.getfield 148, 3) := by decide +kernel
theorem d_MD_out_161 : decode b_MD_out 161 = .ok (.putfield 148, 3) := by decide +kernel
theorem d_MD_out_164 : decode b_MD_out 164 = .ok (.aload_n 0, 1) := by decide +kernel
theorem d_MD_out_165 : decode b_MD_out 165 = .ok (.iload_n 1, 1) := by decide +kernel
theorem d_MD_out_166 : decode b_MD_out 166 = .ok (.iconst 5, 1) := by decide +kernel
theorem d_MD_out_167 : decode b_MD_out 167 = .ok (.if_icmp .ne 7, 3) := by decide +kernel
theorem d_MD_out_170 : decode b_MD_out 170 = .ok (.iload_n 2, 1) := by decide +kernel
theorem d_MD_out_171 : decode b_MD_out 171 = .ok (.goto 7, 3) := by decide +kernel
theorem d_MD_out_174 : decode b_MD_out 174 = .ok (.aload_n 0, 1) := by decide +kernel
theorem d_MD_out_175 : decode b_MD_out 175 = .ok (.getfield 151, 3) := by decide +kernel
theorem d_MD_out_178 : decode b_MD_out 178 = .ok (.putfield 151, 3) := by decide +kernel
theorem d_MD_out_181 : decode b_MD_out 181 = .ok (.return_, 1) := by decide +kernel
theorem tw_365 : Jvm.Cond.code ⟨"ArcadeBoardModel", "out", "(II)V"⟩ prog_11_method_25_code 5 (Option.none : Option Jvm.ClassFile.FieldType) ∈ AL := ab_in (ab_t4 (List.mem_of_getElem? (i := 150) (by decide +kernel))) rfl
theorem tw_366 : Jvm.Cond.instanceMethod ⟨"ArcadeBoardModel", "out", "(II)V"⟩ ∈ AL := ab_in (ab_t4 (List.mem_of_getElem? (i := 149) (by decide +kernel))) rfl
theorem tw_367 : Cond.selects "ArcadeBoardModel" ⟨"ArcadeBoardModel", "out", "(II)V"⟩ ⟨"ArcadeBoardModel", "out", "(II)V"⟩ ∈ AL := ab_in (ab_s3 (List.mem_of_getElem? (i := 15) (by decide +kernel))) rfl
theorem tw_368 : Jvm.Cond.fieldLink "ArcadeBoardModel" 151 "ArcadeBoardModel" "port5" "I" ∈ AL := ab_in (ab_t3 (List.mem_of_getElem? (i := 202) (by decide +kernel))) rfl
theorem tw_369 : Jvm.Cond.fieldLink "ArcadeBoardModel" 148 "ArcadeBoardModel" "port3" "I" ∈ AL := ab_in (ab_t3 (List.mem_of_getElem? (i := 201) (by decide +kernel))) rfl
theorem tw_370 : Jvm.Cond.fieldLink "ArcadeBoardModel" 145 "ArcadeBoardModel" "watch" "I" ∈ AL := ab_in (ab_t3 (List.mem_of_getElem? (i := 197) (by decide +kernel))) rfl
theorem tw_371 : Jvm.Cond.fieldLink "ArcadeBoardModel" 139 "ArcadeBoardModel" "shift" "I" ∈ AL := ab_in (ab_t3 (List.mem_of_getElem? (i := 195) (by decide +kernel))) rfl
theorem tw_372 : Jvm.Cond.fieldLink "ArcadeBoardModel" 142 "ArcadeBoardModel" "offset" "I" ∈ AL := ab_in (ab_t3 (List.mem_of_getElem? (i := 196) (by decide +kernel))) rfl
theorem tw_373 : Jvm.Cond.fieldLink "ArcadeBoardModel" 16 "ArcadeBoardModel" "latest" "[I" ∈ AL := ab_in (ab_t3 (List.mem_of_getElem? (i := 204) (by decide +kernel))) rfl
theorem tw_374 : Jvm.Cond.fieldLink "ArcadeBoardModel" 154 "ArcadeBoardModel" "sounds" "I" ∈ AL := ab_in (ab_t3 (List.mem_of_getElem? (i := 203) (by decide +kernel))) rfl
theorem ok_MD_out : ab_yok y_MD_out b_MD_out 5 none 2 := ⟨tw_365, tw_280, by decide, by decide, by decide +kernel⟩
theorem okv_MD_out : ab_yok_V y_MD_out := ⟨tw_366, tw_367⟩
set_option maxHeartbeats 1000000 in
set_option maxRecDepth 100000 in
theorem k_MD_out_86 {p : Program} {l : Launch} {e : Env} {s : State} {m : MethodId} {args : Array Value} {below : List Frame} {meth : Method} {c : Code} {A : Nat → Prop} {D : va_G} {t : Nat → ClassId} {q : Nat → Nat} (X : ab_cx p s m args c b_MD_out 5 y_MD_out.cls D (tyC t)) (hr : meth.sig.returnType = none) (hk : meth.locks = false) (k : Nat) (u : SS) (v1 : Int32) (v2 : Int32) (v3 : Int32) (v4 : Int32) (j : Nat) (hi : v4 = nI j) (hj : j ≤ 8) (hf : 8 < j + k) (hs : ∃ n : Nat, n ≤ 1073741824 + j ∧ u 0 23 = nI n) {H : Heap} {locs : List Loc} {ls : Array Slot} (hX : ab_hx D (wM t q u) A s.heap H locs) (hl : lv_has ls 5 [(0, .ref (q 0)), (1, .int v1), (2, .int v2), (3, .int v3), (4, .int v4)]) :
    W p l e { frames := 0, cells := 0, slots := 0, locals := 0 } s m args below meth c H locs 0 0 (ab_kv_E below args s D (tyC t) (wM t q) A (g_MD_out_86 k u v1 v2 v3 v4)) (F0 m 86 ls []) := by
  induction k generalizing u v1 v2 v3 v4 j H locs ls with
  | zero => exact absurd hf (by omega)
  | succ k ih =>
    refine lv_iload (pc := 86) X.1 X.2.1 d_MD_out_86 (lv_at hl 4 rfl) ?_
    refine lv_bipush (pc := 88) (v := 8) X.1 X.2.1 d_MD_out_88 (by decide) ?_
    refine lv_icmp_ge (pc := 90) (tgt := 147) X.1 X.2.1 d_MD_out_90 (by decide) (fun h8 => ?_) (fun h8 => ?_)
    ·
      refine lv_aload_n (pc := 147) X.1 X.2.1 d_MD_out_147 rfl (lv_at hl 0 rfl) ?_
      refine lv_iload_n (pc := 148) X.1 X.2.1 d_MD_out_148 rfl (lv_at hl 1 rfl) ?_
      refine lv_iconst (pc := 149) (v := 3) X.1 X.2.1 d_MD_out_149 (by decide) ?_
      refine ab_jn (ls := ls) (rest := [.ref (q 0)]) 161 (if v1 = 3 then v2 else (u 0 21) : Int32) ?_ (fun J => ?_)
      rotate_left
      ·
        refine lv_icmp_ne (pc := 150) (tgt := 157) X.1 X.2.1 d_MD_out_150 (by decide) (fun h9 => ?_) (fun h9 => ?_)
        ·
          refine lv_aload_n (pc := 157) X.1 X.2.1 d_MD_out_157 rfl (lv_at hl 0 rfl) ?_
          refine ab_gx (pc := 158) (v := .int (u 0 21)) X hX 0 9 23 rfl rfl (Nat.le_of_ble_eq_true rfl) in_MD rfl tw_369 rfl d_MD_out_158 ?_
          exact ab_jt (by rw [if_neg h9]) J
        ·
          refine lv_iload_n (pc := 153) X.1 X.2.1 d_MD_out_153 rfl (lv_at hl 2 rfl) ?_
          refine lv_goto (pc := 154) (tgt := 161) X.1 X.2.1 d_MD_out_154 (by decide) ?_
          exact ab_jt (by rw [if_pos h9]) J
      refine ab_px (pc := 161) (ws' := (wM t q (stt u 0 21 (if v1 = 3 then v2 else (u 0 21) : Int32)))) X hX 0 9 23 ty_MD ty_MD_ok nm_MD rfl rfl (Nat.le_of_ble_eq_true rfl) in_MD rfl tw_369 rfl rfl rfl rfl (Nat.le_of_ble_eq_true rfl) (sf_wM_0_23 t q u (if v1 = 3 then v2 else (u 0 21) : Int32)) d_MD_out_161 (fun H locs hX => ?_)
      refine lv_aload_n (pc := 164) X.1 X.2.1 d_MD_out_164 rfl (lv_at hl 0 rfl) ?_
      refine lv_iload_n (pc := 165) X.1 X.2.1 d_MD_out_165 rfl (lv_at hl 1 rfl) ?_
      refine lv_iconst (pc := 166) (v := 5) X.1 X.2.1 d_MD_out_166 (by decide) ?_
      refine ab_jn (ls := ls) (rest := [.ref (q 0)]) 178 (if v1 = 5 then v2 else (u 0 22) : Int32) ?_ (fun J => ?_)
      rotate_left
      ·
        refine lv_icmp_ne (pc := 167) (tgt := 174) X.1 X.2.1 d_MD_out_167 (by decide) (fun h10 => ?_) (fun h10 => ?_)
        ·
          refine lv_aload_n (pc := 174) X.1 X.2.1 d_MD_out_174 rfl (lv_at hl 0 rfl) ?_
          refine ab_gx (pc := 175) (v := .int (u 0 22)) X hX 0 9 24 rfl rfl (Nat.le_of_ble_eq_true rfl) in_MD rfl tw_368 rfl d_MD_out_175 ?_
          exact ab_jt (by rw [if_neg h10]) J
        ·
          refine lv_iload_n (pc := 170) X.1 X.2.1 d_MD_out_170 rfl (lv_at hl 2 rfl) ?_
          refine lv_goto (pc := 171) (tgt := 178) X.1 X.2.1 d_MD_out_171 (by decide) ?_
          exact ab_jt (by rw [if_pos h10]) J
      refine ab_px (pc := 178) (ws' := (wM t q (stt (stt u 0 21 (if v1 = 3 then v2 else (u 0 21) : Int32)) 0 22 (if v1 = 5 then v2 else (u 0 22) : Int32)))) X hX 0 9 24 ty_MD ty_MD_ok nm_MD rfl rfl (Nat.le_of_ble_eq_true rfl) in_MD rfl tw_368 rfl rfl rfl rfl (Nat.le_of_ble_eq_true rfl) (sf_wM_0_24 t q (stt u 0 21 (if v1 = 3 then v2 else (u 0 21) : Int32)) (if v1 = 5 then v2 else (u 0 22) : Int32)) d_MD_out_178 (fun H locs hX => ?_)
      exact ab_kv_ret (pc := 181) X hr hk hX (by rw [g_MD_out_86, if_pos h8]) d_MD_out_181
    ·
      refine lv_iload_n (pc := 93) X.1 X.2.1 d_MD_out_93 rfl (lv_at hl 2 rfl) ?_
      refine lv_iload (pc := 94) X.1 X.2.1 d_MD_out_94 (lv_at hl 4 rfl) ?_
      refine lv_ishr (pc := 96) X.1 X.2.1 d_MD_out_96 ?_
      refine lv_iconst (pc := 97) (v := 1) X.1 X.2.1 d_MD_out_97 (by decide) ?_
      refine lv_iand (pc := 98) X.1 X.2.1 d_MD_out_98 ?_
      refine lv_iconst (pc := 99) (v := 1) X.1 X.2.1 d_MD_out_99 (by decide) ?_
      refine lv_icmp_ne (pc := 100) (tgt := 141) X.1 X.2.1 d_MD_out_100 (by decide) (fun h11 => ?_) (fun h11 => ?_)
      ·
        refine lv_iinc (pc := 141) (k := 4) (v := v4 + 1) (lv' := [(4, .int (v4 + 1)), (0, .ref (q 0)), (1, .int v1), (2, .int v2), (3, .int v3)]) X.1 X.2.1 d_MD_out_141 hl rfl rfl (Nat.le_of_ble_eq_true rfl) rfl (fun ls hl => ?_)
        refine lv_goto (pc := 144) (tgt := 86) X.1 X.2.1 d_MD_out_144 (by decide) ?_
        rw [show g_MD_out_86 (k + 1) u v1 v2 v3 v4 = g_MD_out_86 k u v1 v2 v3 (v4 + 1) from by rw [g_MD_out_86, if_neg h8, if_neg h11]]
        exact ih u v1 v2 v3 (v4 + 1) (j + 1) (by rw [hi]; exact nI_1 j) (ab_ltN h8 hi hj rfl (by decide)) (by have := ab_ltN h8 hi hj (N := 8) rfl (by decide); omega) (ab_sndS hs) hX (lv_sub hl [1, 2, 3, 4, 0] rfl)
      ·
        refine lv_iload_n (pc := 103) X.1 X.2.1 d_MD_out_103 rfl (lv_at hl 3 rfl) ?_
        refine lv_iload (pc := 104) X.1 X.2.1 d_MD_out_104 (lv_at hl 4 rfl) ?_
        refine lv_ishr (pc := 106) X.1 X.2.1 d_MD_out_106 ?_
        refine lv_iconst (pc := 107) (v := 1) X.1 X.2.1 d_MD_out_107 (by decide) ?_
        refine lv_iand (pc := 108) X.1 X.2.1 d_MD_out_108 ?_
        refine lv_if_ne (pc := 109) (tgt := 141) X.1 X.2.1 d_MD_out_109 (by decide) (fun h12 => ?_) (fun h12 => ?_)
        ·
          refine lv_iinc (pc := 141) (k := 4) (v := v4 + 1) (lv' := [(4, .int (v4 + 1)), (0, .ref (q 0)), (1, .int v1), (2, .int v2), (3, .int v3)]) X.1 X.2.1 d_MD_out_141 hl rfl rfl (Nat.le_of_ble_eq_true rfl) rfl (fun ls hl => ?_)
          refine lv_goto (pc := 144) (tgt := 86) X.1 X.2.1 d_MD_out_144 (by decide) ?_
          rw [show g_MD_out_86 (k + 1) u v1 v2 v3 v4 = g_MD_out_86 k u v1 v2 v3 (v4 + 1) from by rw [g_MD_out_86, if_neg h8, if_pos h11, if_neg h12]]
          exact ih u v1 v2 v3 (v4 + 1) (j + 1) (by rw [hi]; exact nI_1 j) (ab_ltN h8 hi hj rfl (by decide)) (by have := ab_ltN h8 hi hj (N := 8) rfl (by decide); omega) (ab_sndS hs) hX (lv_sub hl [1, 2, 3, 4, 0] rfl)
        ·
          refine lv_aload_n (pc := 112) X.1 X.2.1 d_MD_out_112 rfl (lv_at hl 0 rfl) ?_
          refine ab_gx (pc := 113) (v := .ref (q 3)) X hX 0 9 26 rfl rfl (Nat.le_of_ble_eq_true rfl) in_MD rfl tw_373 rfl d_MD_out_113 ?_
          refine lv_aload_n (pc := 116) X.1 X.2.1 d_MD_out_116 rfl (lv_at hl 0 rfl) ?_
          refine ab_gx (pc := 117) (v := .int (u 0 23)) X hX 0 9 25 rfl rfl (Nat.le_of_ble_eq_true rfl) in_MD rfl tw_374 rfl d_MD_out_117 ?_
          refine lv_bipush (pc := 120) (v := 8) X.1 X.2.1 d_MD_out_120 (by decide) ?_
          refine lv_irem (pc := 122) X.1 X.2.1 d_MD_out_122 (by decide) ?_
          refine lv_bipush (pc := 123) (v := 8) X.1 X.2.1 d_MD_out_123 (by decide) ?_
          refine lv_iload_n (pc := 125) X.1 X.2.1 d_MD_out_125 rfl (lv_at hl 1 rfl) ?_
          refine lv_imul (pc := 126) X.1 X.2.1 d_MD_out_126 ?_
          refine lv_iload (pc := 127) X.1 X.2.1 d_MD_out_127 (lv_at hl 4 rfl) ?_
          refine lv_iadd (pc := 129) X.1 X.2.1 d_MD_out_129 ?_
          refine ab_ast (pc := 130) (f := u 3) (j := ((u 0 23) - (u 0 23) / 8 * 8).toNatClampNeg) (ws' := (wM t q (stt u 3 (((u 0 23) - (u 0 23) / 8 * 8).toNatClampNeg) ((8 * v1) + v4)))) X hX 3 0 rfl rfl (ab_snd8 hs hj) rfl (sa_wM_3 t q u (((u 0 23) - (u 0 23) / 8 * 8).toNatClampNeg) ((8 * v1) + v4)) d_MD_out_130 (fun H locs hX => ?_)
          refine lv_aload_n (pc := 131) X.1 X.2.1 d_MD_out_131 rfl (lv_at hl 0 rfl) ?_
          refine lv_dup (pc := 132) X.1 X.2.1 d_MD_out_132 rfl ?_
          refine ab_gx (pc := 133) (v := .int (u 0 23)) X hX 0 9 25 rfl rfl (Nat.le_of_ble_eq_true rfl) in_MD rfl tw_374 rfl d_MD_out_133 ?_
          refine lv_iconst (pc := 136) (v := 1) X.1 X.2.1 d_MD_out_136 (by decide) ?_
          refine lv_iadd (pc := 137) X.1 X.2.1 d_MD_out_137 ?_
          refine ab_px (pc := 138) (ws' := (wM t q (stt (stt u 3 (((u 0 23) - (u 0 23) / 8 * 8).toNatClampNeg) ((8 * v1) + v4)) 0 23 ((u 0 23) + 1)))) X hX 0 9 25 ty_MD ty_MD_ok nm_MD rfl rfl (Nat.le_of_ble_eq_true rfl) in_MD rfl tw_374 rfl rfl rfl rfl (Nat.le_of_ble_eq_true rfl) (sf_wM_0_25 t q (stt u 3 (((u 0 23) - (u 0 23) / 8 * 8).toNatClampNeg) ((8 * v1) + v4)) ((u 0 23) + 1)) d_MD_out_138 (fun H locs hX => ?_)
          refine lv_iinc (pc := 141) (k := 4) (v := v4 + 1) (lv' := [(4, .int (v4 + 1)), (0, .ref (q 0)), (1, .int v1), (2, .int v2), (3, .int v3)]) X.1 X.2.1 d_MD_out_141 hl rfl rfl (Nat.le_of_ble_eq_true rfl) rfl (fun ls hl => ?_)
          refine lv_goto (pc := 144) (tgt := 86) X.1 X.2.1 d_MD_out_144 (by decide) ?_
          rw [show g_MD_out_86 (k + 1) u v1 v2 v3 v4 = g_MD_out_86 k (stt (stt u 3 (((u 0 23) - (u 0 23) / 8 * 8).toNatClampNeg) ((8 * v1) + v4)) 0 23 ((u 0 23) + 1)) v1 v2 v3 (v4 + 1) from by rw [g_MD_out_86, if_neg h8, if_pos h11, if_pos h12]]
          exact ih (stt (stt u 3 (((u 0 23) - (u 0 23) / 8 * 8).toNatClampNeg) ((8 * v1) + v4)) 0 23 ((u 0 23) + 1)) v1 v2 v3 (v4 + 1) (j + 1) (by rw [hi]; exact nI_1 j) (ab_ltN h8 hi hj rfl (by decide)) (by have := ab_ltN h8 hi hj (N := 8) rfl (by decide); omega) (ab_sndU hs) hX (lv_sub hl [1, 2, 3, 4, 0] rfl)
set_option maxHeartbeats 1000000 in
set_option maxRecDepth 100000 in
theorem c_MD_out (l : Launch) (D : va_G) (t : Nat → ClassId) (q : Nat → Nat) (u : SS) (x1 : Int32) (x2 : Int32) (ps : ab_snd (u 0 23)) : ab_kv l D (tyC t) (wM t q) y_MD_out b_MD_out 5 { frames := 0, cells := 0, slots := 0, locals := 0 } [.ref (q 0), .int x1, .int x2] u (f_MD_out u x1 x2) := by
  refine ab_kv_ofW (by decide) (Nat.le_of_ble_eq_true rfl) (fun p e s m below meth c ls A X hr hk hl hX => ?_)
  have hl : lv_has ls 5 [(0, .ref (q 0)), (1, .int x1), (2, .int x2)] := hl
  refine lv_iload_n (pc := 0) X.1 X.2.1 d_MD_out_0 rfl (lv_at hl 1 rfl) ?_
  refine lv_iconst (pc := 1) (v := 2) X.1 X.2.1 d_MD_out_1 (by decide) ?_
  refine lv_icmp_ne (pc := 2) (tgt := 16) X.1 X.2.1 d_MD_out_2 (by decide) (fun h1 => ?_) (fun h1 => ?_)
  ·
    refine lv_iload_n (pc := 16) X.1 X.2.1 d_MD_out_16 rfl (lv_at hl 1 rfl) ?_
    refine lv_iconst (pc := 17) (v := 4) X.1 X.2.1 d_MD_out_17 (by decide) ?_
    refine lv_icmp_ne (pc := 18) (tgt := 42) X.1 X.2.1 d_MD_out_18 (by decide) (fun h2 => ?_) (fun h2 => ?_)
    ·
      refine lv_iload_n (pc := 42) X.1 X.2.1 d_MD_out_42 rfl (lv_at hl 1 rfl) ?_
      refine lv_bipush (pc := 43) (v := 6) X.1 X.2.1 d_MD_out_43 (by decide) ?_
      refine lv_icmp_ne (pc := 45) (tgt := 56) X.1 X.2.1 d_MD_out_45 (by decide) (fun h3 => ?_) (fun h3 => ?_)
      ·
        refine lv_iload_n (pc := 56) X.1 X.2.1 d_MD_out_56 rfl (lv_at hl 1 rfl) ?_
        refine lv_iconst (pc := 57) (v := 3) X.1 X.2.1 d_MD_out_57 (by decide) ?_
        refine lv_icmp_eq (pc := 58) (tgt := 66) X.1 X.2.1 d_MD_out_58 (by decide) (fun h4 => ?_) (fun h4 => ?_)
        ·
          refine lv_iload_n (pc := 66) X.1 X.2.1 d_MD_out_66 rfl (lv_at hl 1 rfl) ?_
          refine lv_iconst (pc := 67) (v := 3) X.1 X.2.1 d_MD_out_67 (by decide) ?_
          refine ab_jn (ls := ls) (rest := []) 82 (if x1 = 3 then (u 0 21) else (u 0 22) : Int32) ?_ (fun J => ?_)
          rotate_left
          ·
            refine lv_icmp_ne (pc := 68) (tgt := 78) X.1 X.2.1 d_MD_out_68 (by decide) (fun h5 => ?_) (fun h5 => ?_)
            ·
              refine lv_aload_n (pc := 78) X.1 X.2.1 d_MD_out_78 rfl (lv_at hl 0 rfl) ?_
              refine ab_gx (pc := 79) (v := .int (u 0 22)) X hX 0 9 24 rfl rfl (Nat.le_of_ble_eq_true rfl) in_MD rfl tw_368 rfl d_MD_out_79 ?_
              exact ab_jt (by rw [if_neg h5]) J
            ·
              refine lv_aload_n (pc := 71) X.1 X.2.1 d_MD_out_71 rfl (lv_at hl 0 rfl) ?_
              refine ab_gx (pc := 72) (v := .int (u 0 21)) X hX 0 9 23 rfl rfl (Nat.le_of_ble_eq_true rfl) in_MD rfl tw_369 rfl d_MD_out_72 ?_
              refine lv_goto (pc := 75) (tgt := 82) X.1 X.2.1 d_MD_out_75 (by decide) ?_
              exact ab_jt (by rw [if_pos h5]) J
          refine lv_istore_n (pc := 82) (lv' := [(3, .int (if x1 = 3 then (u 0 21) else (u 0 22) : Int32)), (0, .ref (q 0)), (1, .int x1), (2, .int x2)]) X.1 X.2.1 d_MD_out_82 rfl hl (Nat.le_of_ble_eq_true rfl) rfl (fun ls hl => ?_)
          refine lv_iconst (pc := 83) (v := 0) X.1 X.2.1 d_MD_out_83 (by decide) ?_
          refine lv_istore (pc := 84) (lv' := [(4, .int 0), (3, .int (if x1 = 3 then (u 0 21) else (u 0 22) : Int32)), (0, .ref (q 0)), (1, .int x1), (2, .int x2)]) X.1 X.2.1 d_MD_out_84 hl (Nat.le_of_ble_eq_true rfl) rfl (fun ls hl => ?_)
          rw [show f_MD_out u x1 x2 = g_MD_out_86 9 u x1 x2 (if x1 = 3 then (u 0 21) else (u 0 22) : Int32) 0 from by rw [f_MD_out, if_neg h1, if_neg h2, if_neg h3, if_pos h4]]
          exact k_MD_out_86 X hr hk 9 u x1 x2 (if x1 = 3 then (u 0 21) else (u 0 22) : Int32) 0 0 rfl (Nat.zero_le _) (by decide) ps hX (lv_sub hl [2, 3, 4, 1, 0] rfl)
        ·
          refine lv_iload_n (pc := 61) X.1 X.2.1 d_MD_out_61 rfl (lv_at hl 1 rfl) ?_
          refine lv_iconst (pc := 62) (v := 5) X.1 X.2.1 d_MD_out_62 (by decide) ?_
          refine lv_icmp_ne (pc := 63) (tgt := 181) X.1 X.2.1 d_MD_out_63 (by decide) (fun h6 => ?_) (fun h6 => ?_)
          ·
            exact ab_kv_ret (pc := 181) X hr hk hX (by rw [f_MD_out, if_neg h1, if_neg h2, if_neg h3, if_neg h4, if_neg h6]) d_MD_out_181
          ·
            refine lv_iload_n (pc := 66) X.1 X.2.1 d_MD_out_66 rfl (lv_at hl 1 rfl) ?_
            refine lv_iconst (pc := 67) (v := 3) X.1 X.2.1 d_MD_out_67 (by decide) ?_
            refine ab_jn (ls := ls) (rest := []) 82 (if x1 = 3 then (u 0 21) else (u 0 22) : Int32) ?_ (fun J => ?_)
            rotate_left
            ·
              refine lv_icmp_ne (pc := 68) (tgt := 78) X.1 X.2.1 d_MD_out_68 (by decide) (fun h7 => ?_) (fun h7 => ?_)
              ·
                refine lv_aload_n (pc := 78) X.1 X.2.1 d_MD_out_78 rfl (lv_at hl 0 rfl) ?_
                refine ab_gx (pc := 79) (v := .int (u 0 22)) X hX 0 9 24 rfl rfl (Nat.le_of_ble_eq_true rfl) in_MD rfl tw_368 rfl d_MD_out_79 ?_
                exact ab_jt (by rw [if_neg h7]) J
              ·
                refine lv_aload_n (pc := 71) X.1 X.2.1 d_MD_out_71 rfl (lv_at hl 0 rfl) ?_
                refine ab_gx (pc := 72) (v := .int (u 0 21)) X hX 0 9 23 rfl rfl (Nat.le_of_ble_eq_true rfl) in_MD rfl tw_369 rfl d_MD_out_72 ?_
                refine lv_goto (pc := 75) (tgt := 82) X.1 X.2.1 d_MD_out_75 (by decide) ?_
                exact ab_jt (by rw [if_pos h7]) J
            refine lv_istore_n (pc := 82) (lv' := [(3, .int (if x1 = 3 then (u 0 21) else (u 0 22) : Int32)), (0, .ref (q 0)), (1, .int x1), (2, .int x2)]) X.1 X.2.1 d_MD_out_82 rfl hl (Nat.le_of_ble_eq_true rfl) rfl (fun ls hl => ?_)
            refine lv_iconst (pc := 83) (v := 0) X.1 X.2.1 d_MD_out_83 (by decide) ?_
            refine lv_istore (pc := 84) (lv' := [(4, .int 0), (3, .int (if x1 = 3 then (u 0 21) else (u 0 22) : Int32)), (0, .ref (q 0)), (1, .int x1), (2, .int x2)]) X.1 X.2.1 d_MD_out_84 hl (Nat.le_of_ble_eq_true rfl) rfl (fun ls hl => ?_)
            rw [show f_MD_out u x1 x2 = g_MD_out_86 9 u x1 x2 (if x1 = 3 then (u 0 21) else (u 0 22) : Int32) 0 from by rw [f_MD_out, if_neg h1, if_neg h2, if_neg h3, if_neg h4, if_pos h6]]
            exact k_MD_out_86 X hr hk 9 u x1 x2 (if x1 = 3 then (u 0 21) else (u 0 22) : Int32) 0 0 rfl (Nat.zero_le _) (by decide) ps hX (lv_sub hl [2, 3, 4, 1, 0] rfl)
      ·
        refine lv_aload_n (pc := 48) X.1 X.2.1 d_MD_out_48 rfl (lv_at hl 0 rfl) ?_
        refine lv_iconst (pc := 49) (v := 0) X.1 X.2.1 d_MD_out_49 (by decide) ?_
        refine ab_px (pc := 50) (ws' := (wM t q (stt u 0 17 0))) X hX 0 9 19 ty_MD ty_MD_ok nm_MD rfl rfl (Nat.le_of_ble_eq_true rfl) in_MD rfl tw_370 rfl rfl rfl rfl (Nat.le_of_ble_eq_true rfl) (sf_wM_0_19 t q u 0) d_MD_out_50 (fun H locs hX => ?_)
        refine lv_goto (pc := 53) (tgt := 181) X.1 X.2.1 d_MD_out_53 (by decide) ?_
        exact ab_kv_ret (pc := 181) X hr hk hX (by rw [f_MD_out, if_neg h1, if_neg h2, if_pos h3]) d_MD_out_181
    ·
      refine lv_aload_n (pc := 21) X.1 X.2.1 d_MD_out_21 rfl (lv_at hl 0 rfl) ?_
      refine lv_aload_n (pc := 22) X.1 X.2.1 d_MD_out_22 rfl (lv_at hl 0 rfl) ?_
      refine ab_gx (pc := 23) (v := .int (u 0 15)) X hX 0 9 17 rfl rfl (Nat.le_of_ble_eq_true rfl) in_MD rfl tw_371 rfl d_MD_out_23 ?_
      refine lv_sipush (pc := 26) (v := 256) X.1 X.2.1 d_MD_out_26 (by decide) ?_
      refine lv_idiv (pc := 29) X.1 X.2.1 d_MD_out_29 (by decide) ?_
      refine lv_sipush (pc := 30) (v := 256) X.1 X.2.1 d_MD_out_30 (by decide) ?_
      refine lv_iload_n (pc := 33) X.1 X.2.1 d_MD_out_33 rfl (lv_at hl 2 rfl) ?_
      refine lv_imul (pc := 34) X.1 X.2.1 d_MD_out_34 ?_
      refine lv_iadd (pc := 35) X.1 X.2.1 d_MD_out_35 ?_
      refine ab_px (pc := 36) (ws' := (wM t q (stt u 0 15 (((u 0 15) / 256) + (256 * x2))))) X hX 0 9 17 ty_MD ty_MD_ok nm_MD rfl rfl (Nat.le_of_ble_eq_true rfl) in_MD rfl tw_371 rfl rfl rfl rfl (Nat.le_of_ble_eq_true rfl) (sf_wM_0_17 t q u (((u 0 15) / 256) + (256 * x2))) d_MD_out_36 (fun H locs hX => ?_)
      refine lv_goto (pc := 39) (tgt := 181) X.1 X.2.1 d_MD_out_39 (by decide) ?_
      exact ab_kv_ret (pc := 181) X hr hk hX (by rw [f_MD_out, if_neg h1, if_pos h2]) d_MD_out_181
  ·
    refine lv_aload_n (pc := 5) X.1 X.2.1 d_MD_out_5 rfl (lv_at hl 0 rfl) ?_
    refine lv_iload_n (pc := 6) X.1 X.2.1 d_MD_out_6 rfl (lv_at hl 2 rfl) ?_
    refine lv_bipush (pc := 7) (v := 7) X.1 X.2.1 d_MD_out_7 (by decide) ?_
    refine lv_iand (pc := 9) X.1 X.2.1 d_MD_out_9 ?_
    refine ab_px (pc := 10) (ws' := (wM t q (stt u 0 16 (x2 &&& 7)))) X hX 0 9 18 ty_MD ty_MD_ok nm_MD rfl rfl (Nat.le_of_ble_eq_true rfl) in_MD rfl tw_372 rfl rfl rfl rfl (Nat.le_of_ble_eq_true rfl) (sf_wM_0_18 t q u (x2 &&& 7)) d_MD_out_10 (fun H locs hX => ?_)
    refine lv_goto (pc := 13) (tgt := 181) X.1 X.2.1 d_MD_out_13 (by decide) ?_
    exact ab_kv_ret (pc := 181) X hr hk hX (by rw [f_MD_out, if_pos h1]) d_MD_out_181
abbrev b_MD_in : ByteArray := prog_11_method_24_code
def y_MD_in : MethodName := ⟨"ArcadeBoardModel", "in", "(I)I"⟩
theorem d_MD_in_0 : decode b_MD_in 0 = .ok (.iload_n 1, 1) := by decide +kernel
theorem d_MD_in_1 : decode b_MD_in 1 = .ok (.ifCond .ne 8, 3) := by decide +kernel
theorem d_MD_in_4 : decode b_MD_in 4 = .ok (.aload_n 0, 1) := by decide +kernel
theorem d_MD_in_5 : decode b_MD_in 5 = .ok (.getfield 130, 3) := by decide +kernel
theorem d_MD_in_8 : decode b_MD_in 8 = .ok (.ireturn, 1) := by decide +kernel
theorem d_MD_in_9 : decode b_MD_in 9 = .ok (.iload_n 1, 1) := by decide +kernel
theorem d_MD_in_10 : decode b_MD_in 10 = .ok (.iconst 1, 1) := by decide +kernel
theorem d_MD_in_11 : decode b_MD_in 11 = .ok (.if_icmp .ne 21, 3) := by decide +kernel
theorem d_MD_in_14 : decode b_MD_in 14 = .ok (.aload_n 0, 1) := by decide +kernel
theorem d_MD_in_15 : decode b_MD_in 15 = .ok (.getfield 133, 3) := by decide +kernel
theorem d_MD_in_18 : decode b_MD_in 18 = .ok (.aload_n 0, 1) := by decide +kernel
theorem d_MD_in_19 : decode b_MD_in 19 = .ok (.getfield 136, 3) := by decide +kernel
theorem d_MD_in_22 : decode b_MD_in 22 = .ok (.ifCond .le 7, 3) := by decide +kernel
theorem d_MD_in_25 : decode b_MD_in 25 = .ok (.iconst 1, 1) := by decide +kernel
theorem d_MD_in_26 : decode b_MD_in 26 = .ok (.goto 4, 3) := by decide +kernel
theorem d_MD_in_29 : decode b_MD_in 29 = .ok (.iconst 0, 1) := by decide +kernel
theorem d_MD_in_30 : decode b_MD_in 30 = .ok (.iadd, 1) := by decide +kernel
theorem d_MD_in_31 : decode b_MD_in 31 = .ok (.ireturn, 1) := by decide +kernel
theorem d_MD_in_32 : decode b_MD_in 32 = .ok (.iload_n 1, 1) := by decide +kernel
theorem d_MD_in_33 : decode b_MD_in 33 = .ok (.iconst 3, 1) := by decide +kernel
theorem d_MD_in_34 : decode b_MD_in 34 = .ok (.if_icmp .ne 22, 3) := by decide +kernel
theorem d_MD_in_37 : decode b_MD_in 37 = .ok (.aload_n 0, 1) := by decide +kernel
theorem d_MD_in_38 : decode b_MD_in 38 = .ok (.getfield 139, 3) := by decide +kernel
theorem d_MD_in_41 : decode b_MD_in 41 = .ok (.aload_n 0, 1) := by decide +kernel
theorem d_MD_in_42 : decode b_MD_in 42 = .ok (.getfield 142, 3) := by decide +kernel
theorem d_MD_in_45 : decode b_MD_in 45 = .ok (.ishl, 1) := by decide +kernel
theorem d_MD_in_46 : decode b_MD_in 46 = .ok (.bipush 8, 2) := by decide +kernel
theorem d_MD_in_48 : decode b_MD_in 48 = .ok (.ishr, 1) := by decide +kernel
theorem d_MD_in_49 : decode b_MD_in 49 = .ok (.sipush 255, 3) := by decide +kernel
theorem d_MD_in_52 : decode b_MD_in 52 = .ok (.iand, 1) := by decide +kernel
theorem d_MD_in_53 : decode b_MD_in 53 = .ok (.goto 4, 3) := by decide +kernel
theorem d_MD_in_56 : decode b_MD_in 56 = .ok (.iconst 0, 1) := by decide +kernel
theorem d_MD_in_57 : decode b_MD_in 57 = .ok (.ireturn, 1) := by decide +kernel
theorem tw_375 : Jvm.Cond.code ⟨"ArcadeBoardModel", "in", "(I)I"⟩ prog_11_method_24_code 2 (Option.some Jvm.ClassFile.FieldType.int) ∈ AL := ab_in (ab_t4 (List.mem_of_getElem? (i := 154) (by decide +kernel))) rfl
theorem tw_376 : Jvm.Cond.instanceMethod ⟨"ArcadeBoardModel", "in", "(I)I"⟩ ∈ AL := ab_in (ab_t4 (List.mem_of_getElem? (i := 153) (by decide +kernel))) rfl
theorem tw_377 : Cond.selects "ArcadeBoardModel" ⟨"ArcadeBoardModel", "in", "(I)I"⟩ ⟨"ArcadeBoardModel", "in", "(I)I"⟩ ∈ AL := ab_in (ab_s4 (List.mem_of_getElem? (i := 0) (by decide +kernel))) rfl
theorem tw_378 : Jvm.Cond.fieldLink "ArcadeBoardModel" 133 "ArcadeBoardModel" "inputs" "I" ∈ AL := ab_in (ab_t3 (List.mem_of_getElem? (i := 182) (by decide +kernel))) rfl
theorem tw_379 : Jvm.Cond.fieldLink "ArcadeBoardModel" 136 "ArcadeBoardModel" "coins" "I" ∈ AL := ab_in (ab_t3 (List.mem_of_getElem? (i := 200) (by decide +kernel))) rfl
theorem tw_380 : Jvm.Cond.fieldLink "ArcadeBoardModel" 130 "ArcadeBoardModel" "dips" "I" ∈ AL := ab_in (ab_t3 (List.mem_of_getElem? (i := 181) (by decide +kernel))) rfl
theorem ok_MD_in : ab_yok y_MD_in b_MD_in 2 (some .int) 1 := ⟨tw_375, tw_280, by decide, by decide, by decide +kernel⟩
theorem okv_MD_in : ab_yok_V y_MD_in := ⟨tw_376, tw_377⟩
set_option maxHeartbeats 1000000 in
set_option maxRecDepth 100000 in
theorem c_MD_in (l : Launch) (D : va_G) (t : Nat → ClassId) (q : Nat → Nat) (u : SS) (x1 : Int32) : ab_ki l D (tyC t) (wM t q) y_MD_in b_MD_in 2 .int { frames := 0, cells := 0, slots := 0, locals := 0 } [.ref (q 0), .int x1] u ((f_MD_in u x1, u)) := by
  refine ab_ki_ofW (by decide) (Nat.le_of_ble_eq_true rfl) (fun p e s m below meth c ls A X hr hk hl hX => ?_)
  have hl : lv_has ls 2 [(0, .ref (q 0)), (1, .int x1)] := hl
  refine lv_iload_n (pc := 0) X.1 X.2.1 d_MD_in_0 rfl (lv_at hl 1 rfl) ?_
  refine lv_if_ne (pc := 1) (tgt := 9) X.1 X.2.1 d_MD_in_1 (by decide) (fun h1 => ?_) (fun h1 => ?_)
  ·
    refine lv_iload_n (pc := 9) X.1 X.2.1 d_MD_in_9 rfl (lv_at hl 1 rfl) ?_
    refine lv_iconst (pc := 10) (v := 1) X.1 X.2.1 d_MD_in_10 (by decide) ?_
    refine lv_icmp_ne (pc := 11) (tgt := 32) X.1 X.2.1 d_MD_in_11 (by decide) (fun h2 => ?_) (fun h2 => ?_)
    ·
      refine lv_iload_n (pc := 32) X.1 X.2.1 d_MD_in_32 rfl (lv_at hl 1 rfl) ?_
      refine lv_iconst (pc := 33) (v := 3) X.1 X.2.1 d_MD_in_33 (by decide) ?_
      refine ab_jn (ls := ls) (rest := []) 57 (if x1 = 3 then ((((u 0 15) <<< ((u 0 16) &&& 31)) >>> ((8 : Int32) &&& 31)) &&& 255) else 0 : Int32) ?_ (fun J => ?_)
      rotate_left
      ·
        refine lv_icmp_ne (pc := 34) (tgt := 56) X.1 X.2.1 d_MD_in_34 (by decide) (fun h3 => ?_) (fun h3 => ?_)
        ·
          refine lv_iconst (pc := 56) (v := 0) X.1 X.2.1 d_MD_in_56 (by decide) ?_
          exact ab_jt (by rw [if_neg h3]) J
        ·
          refine lv_aload_n (pc := 37) X.1 X.2.1 d_MD_in_37 rfl (lv_at hl 0 rfl) ?_
          refine ab_gx (pc := 38) (v := .int (u 0 15)) X hX 0 9 17 rfl rfl (Nat.le_of_ble_eq_true rfl) in_MD rfl tw_371 rfl d_MD_in_38 ?_
          refine lv_aload_n (pc := 41) X.1 X.2.1 d_MD_in_41 rfl (lv_at hl 0 rfl) ?_
          refine ab_gx (pc := 42) (v := .int (u 0 16)) X hX 0 9 18 rfl rfl (Nat.le_of_ble_eq_true rfl) in_MD rfl tw_372 rfl d_MD_in_42 ?_
          refine lv_ishl (pc := 45) X.1 X.2.1 d_MD_in_45 ?_
          refine lv_bipush (pc := 46) (v := 8) X.1 X.2.1 d_MD_in_46 (by decide) ?_
          refine lv_ishr (pc := 48) X.1 X.2.1 d_MD_in_48 ?_
          refine lv_sipush (pc := 49) (v := 255) X.1 X.2.1 d_MD_in_49 (by decide) ?_
          refine lv_iand (pc := 52) X.1 X.2.1 d_MD_in_52 ?_
          refine lv_goto (pc := 53) (tgt := 57) X.1 X.2.1 d_MD_in_53 (by decide) ?_
          exact ab_jt (by rw [if_pos h3]) J
      exact ab_ki_ret (pc := 57) X hr hk hX rfl (by rw [f_MD_in, if_neg h1, if_neg h2]) d_MD_in_57
    ·
      refine lv_aload_n (pc := 14) X.1 X.2.1 d_MD_in_14 rfl (lv_at hl 0 rfl) ?_
      refine ab_gx (pc := 15) (v := .int (u 0 3)) X hX 0 9 4 rfl rfl (Nat.le_of_ble_eq_true rfl) in_MD rfl tw_378 rfl d_MD_in_15 ?_
      refine lv_aload_n (pc := 18) X.1 X.2.1 d_MD_in_18 rfl (lv_at hl 0 rfl) ?_
      refine ab_gx (pc := 19) (v := .int (u 0 20)) X hX 0 9 22 rfl rfl (Nat.le_of_ble_eq_true rfl) in_MD rfl tw_379 rfl d_MD_in_19 ?_
      refine ab_jn (ls := ls) (rest := [.int (u 0 3)]) 30 (if (u 0 20) ≤ 0 then 0 else 1 : Int32) ?_ (fun J => ?_)
      rotate_left
      ·
        refine lv_if_le (pc := 22) (tgt := 29) X.1 X.2.1 d_MD_in_22 (by decide) (fun h4 => ?_) (fun h4 => ?_)
        ·
          refine lv_iconst (pc := 29) (v := 0) X.1 X.2.1 d_MD_in_29 (by decide) ?_
          exact ab_jt (by rw [if_pos h4]) J
        ·
          refine lv_iconst (pc := 25) (v := 1) X.1 X.2.1 d_MD_in_25 (by decide) ?_
          refine lv_goto (pc := 26) (tgt := 30) X.1 X.2.1 d_MD_in_26 (by decide) ?_
          exact ab_jt (by rw [if_neg h4]) J
      refine lv_iadd (pc := 30) X.1 X.2.1 d_MD_in_30 ?_
      exact ab_ki_ret (pc := 31) X hr hk hX rfl (by rw [f_MD_in, if_neg h1, if_pos h2]) d_MD_in_31
  ·
    refine lv_aload_n (pc := 4) X.1 X.2.1 d_MD_in_4 rfl (lv_at hl 0 rfl) ?_
    refine ab_gx (pc := 5) (v := .int (u 0 2)) X hX 0 9 3 rfl rfl (Nat.le_of_ble_eq_true rfl) in_MD rfl tw_380 rfl d_MD_in_5 ?_
    exact ab_ki_ret (pc := 8) X hr hk hX rfl (by rw [f_MD_in, if_pos h1]) d_MD_in_8
