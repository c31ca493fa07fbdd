abbrev b_MD_operate : ByteArray := prog_11_method_17_code
def y_MD_operate : MethodName := ⟨"ArcadeBoardModel", "operate", "(II)V"⟩
theorem d_MD_operate_0 : decode b_MD_operate 0 = .ok (.aload_n 0, 1) := by decide +kernel
theorem d_MD_operate_1 : decode b_MD_operate 1 = .ok (.getfield 13, 3) := by decide +kernel
theorem d_MD_operate_4 : decode b_MD_operate 4 = .ok (.bipush 7, 2) := by decide +kernel
theorem d_MD_operate_6 : decode b_MD_operate 6 = .ok (.iaload, 1) := by decide +kernel
theorem d_MD_operate_7 : decode b_MD_operate 7 = .ok (.istore_n 3, 1) := by decide +kernel
theorem d_MD_operate_8 : decode b_MD_operate 8 = .ok (.aload_n 0, 1) := by decide +kernel
theorem d_MD_operate_9 : decode b_MD_operate 9 = .ok (.getfield 65, 3) := by decide +kernel
theorem d_MD_operate_12 : decode b_MD_operate 12 = .ok (.ifCond .eq 17, 3) := by decide +kernel
theorem d_MD_operate_15 : decode b_MD_operate 15 = .ok (.iload_n 1, 1) := by decide +kernel
theorem d_MD_operate_16 : decode b_MD_operate 16 = .ok (.iconst 1, 1) := by decide +kernel
theorem d_MD_operate_17 : decode b_MD_operate 17 = .ok (.if_icmp .eq 8, 3) := by decide +kernel
theorem d_MD_operate_20 : decode b_MD_operate 20 = .ok (.iload_n 1, 1) := by decide +kernel
theorem d_MD_operate_21 : decode b_MD_operate 21 = .ok (.iconst 3, 1) := by decide +kernel
theorem d_MD_operate_22 : decode b_MD_operate 22 = .ok (.if_icmp .ne 7, 3) := by decide +kernel
theorem d_MD_operate_25 : decode b_MD_operate 25 = .ok (.iconst 1, 1) := by decide +kernel
theorem d_MD_operate_26 : decode b_MD_operate 26 = .ok (.goto 4, 3) := by decide +kernel
theorem d_MD_operate_29 : decode b_MD_operate 29 = .ok (.iconst 0, 1) := by decide +kernel
theorem d_MD_operate_30 : decode b_MD_operate 30 = .ok (.istore 4, 2) := by decide +kernel
theorem d_MD_operate_32 : decode b_MD_operate 32 = .ok (.iload_n 1, 1) := by decide +kernel
theorem d_MD_operate_33 : decode b_MD_operate 33 = .ok (.iconst 2, 1) := by decide +kernel
theorem d_MD_operate_34 : decode b_MD_operate 34 = .ok (.if_icmp .ge 70, 3) := by decide +kernel
theorem d_MD_operate_37 : decode b_MD_operate 37 = .ok (.aload_n 0, 1) := by decide +kernel
theorem d_MD_operate_38 : decode b_MD_operate 38 = .ok (.iload_n 3, 1) := by decide +kernel
theorem d_MD_operate_39 : decode b_MD_operate 39 = .ok (.iload_n 2, 1) := by decide +kernel
theorem d_MD_operate_40 : decode b_MD_operate 40 = .ok (.iadd, 1) := by decide +kernel
theorem d_MD_operate_41 : decode b_MD_operate 41 = .ok (.iload 4, 2) := by decide +kernel
theorem d_MD_operate_43 : decode b_MD_operate 43 = .ok (.iadd, 1) := by decide +kernel
theorem d_MD_operate_44 : decode b_MD_operate 44 = .ok (.sipush 255, 3) := by decide +kernel
theorem d_MD_operate_47 : decode b_MD_operate 47 = .ok (.if_icmp .le 7, 3) := by decide +kernel
theorem d_MD_operate_50 : decode b_MD_operate 50 = .ok (.iconst 1, 1) := by decide +kernel
theorem d_MD_operate_51 : decode b_MD_operate 51 = .ok (.goto 4, 3) := by decide +kernel
theorem d_MD_operate_54 : decode b_MD_operate 54 = .ok (.iconst 0, 1) := by decide +kernel
theorem d_MD_operate_55 : decode b_MD_operate 55 = .ok (.putfield 65, 3) := by decide +kernel
theorem d_MD_operate_58 : decode b_MD_operate 58 = .ok (.aload_n 0, 1) := by decide +kernel
theorem d_MD_operate_59 : decode b_MD_operate 59 = .ok (.iload_n 3, 1) := by decide +kernel
theorem d_MD_operate_60 : decode b_MD_operate 60 = .ok (.bipush 16, 2) := by decide +kernel
theorem d_MD_operate_62 : decode b_MD_operate 62 = .ok (.irem, 1) := by decide +kernel
theorem d_MD_operate_63 : decode b_MD_operate 63 = .ok (.iload_n 2, 1) := by decide +kernel
theorem d_MD_operate_64 : decode b_MD_operate 64 = .ok (.bipush 16, 2) := by decide +kernel
theorem d_MD_operate_66 : decode b_MD_operate 66 = .ok (.irem, 1) := by decide +kernel
theorem d_MD_operate_67 : decode b_MD_operate 67 = .ok (.iadd, 1) := by decide +kernel
theorem d_MD_operate_68 : decode b_MD_operate 68 = .ok (.iload 4, 2) := by decide +kernel
theorem d_MD_operate_70 : decode b_MD_operate 70 = .ok (.iadd, 1) := by decide +kernel
theorem d_MD_operate_71 : decode b_MD_operate 71 = .ok (.bipush 15, 2) := by decide +kernel
theorem d_MD_operate_73 : decode b_MD_operate 73 = .ok (.if_icmp .le 7, 3) := by decide +kernel
theorem d_MD_operate_76 : decode b_MD_operate 76 = .ok (.iconst 1, 1) := by decide +kernel
theorem d_MD_operate_77 : decode b_MD_operate 77 = .ok (.goto 4, 3) := by decide +kernel
theorem d_MD_operate_80 : decode b_MD_operate 80 = .ok (.iconst 0, 1) := by decide +kernel
theorem d_MD_operate_81 : decode b_MD_operate 81 = .ok (.putfield 59, 3) := by decide +kernel
theorem d_MD_operate_84 : decode b_MD_operate 84 = .ok (.aload_n 0, 1) := by decide +kernel
theorem d_MD_operate_85 : decode b_MD_operate 85 = .ok (.getfield 13, 3) := by decide +kernel
theorem d_MD_operate_88 : decode b_MD_operate 88 = .ok (.bipush 7, 2) := by decide +kernel
theorem d_MD_operate_90 : decode b_MD_operate 90 = .ok (.aload_n 0, 1) := by decide +kernel
theorem d_MD_operate_91 : decode b_MD_operate 91 = .ok (.iload_n 3, 1) := by decide +kernel
theorem d_MD_operate_92 : decode b_MD_operate 92 = .ok (.iload_n 2, 1) := by decide +kernel
theorem d_MD_operate_93 : decode b_MD_operate 93 = .ok (.iadd, 1) := by decide +kernel
theorem d_MD_operate_94 : decode b_MD_operate 94 = .ok (.iload 4, 2) := by decide +kernel
theorem d_MD_operate_96 : decode b_MD_operate 96 = .ok (.iadd, 1) := by decide +kernel
theorem d_MD_operate_97 : decode b_MD_operate 97 = .ok (.invokevirtual 68, 3) := by decide +kernel
theorem d_MD_operate_100 : decode b_MD_operate 100 = .ok (.iastore, 1) := by decide +kernel
theorem d_MD_operate_101 : decode b_MD_operate 101 = .ok (.goto 161, 3) := by decide +kernel
theorem d_MD_operate_104 : decode b_MD_operate 104 = .ok (.iload_n 1, 1) := by decide +kernel
theorem d_MD_operate_105 : decode b_MD_operate 105 = .ok (.iconst 4, 1) := by decide +kernel
theorem d_MD_operate_106 : decode b_MD_operate 106 = .ok (.if_icmp .lt 9, 3) := by decide +kernel
theorem d_MD_operate_109 : decode b_MD_operate 109 = .ok (.iload_n 1, 1) := by decide +kernel
theorem d_MD_operate_110 : decode b_MD_operate 110 = .ok (.bipush 7, 2) := by decide +kernel
theorem d_MD_operate_112 : decode b_MD_operate 112 = .ok (.if_icmp .ne 86, 3) := by decide +kernel
theorem d_MD_operate_115 : decode b_MD_operate 115 = .ok (.aload_n 0, 1) := by decide +kernel
theorem d_MD_operate_116 : decode b_MD_operate 116 = .ok (.iload_n 3, 1) := by decide +kernel
theorem d_MD_operate_117 : decode b_MD_operate 117 = .ok (.iload_n 2, 1) := by decide +kernel
theorem d_MD_operate_118 : decode b_MD_operate 118 = .ok (.isub, 1) := by decide +kernel
theorem d_MD_operate_119 : decode b_MD_operate 119 = .ok (.iload 4, 2) := by decide +kernel
theorem d_MD_operate_121 : decode b_MD_operate 121 = .ok (.isub, 1) := by decide +kernel
theorem d_MD_operate_122 : decode b_MD_operate 122 = .ok (.ifCond .ge 7, 3) := by decide +kernel
theorem d_MD_operate_125 : decode b_MD_operate 125 = .ok (.iconst 1, 1) := by decide +kernel
theorem d_MD_operate_126 : decode b_MD_operate 126 = .ok (.goto 4, 3) := by decide +kernel
theorem d_MD_operate_129 : decode b_MD_operate 129 = .ok (.iconst 0, 1) := by decide +kernel
theorem d_MD_operate_130 : decode b_MD_operate 130 = .ok (.putfield 65, 3) := by decide +kernel
theorem d_MD_operate_133 : decode b_MD_operate 133 = .ok (.aload_n 0, 1) := by decide +kernel
theorem d_MD_operate_134 : decode b_MD_operate 134 = .ok (.iload_n 3, 1) := by decide +kernel
theorem d_MD_operate_135 : decode b_MD_operate 135 = .ok (.bipush 16, 2) := by decide +kernel
theorem d_MD_operate_137 : decode b_MD_operate 137 = .ok (.irem, 1) := by decide +kernel
theorem d_MD_operate_138 : decode b_MD_operate 138 = .ok (.bipush 15, 2) := by decide +kernel
theorem d_MD_operate_140 : decode b_MD_operate 140 = .ok (.iload_n 2, 1) := by decide +kernel
theorem d_MD_operate_141 : decode b_MD_operate 141 = .ok (.bipush 16, 2) := by decide +kernel
theorem d_MD_operate_143 : decode b_MD_operate 143 = .ok (.irem, 1) := by decide +kernel
theorem d_MD_operate_144 : decode b_MD_operate 144 = .ok (.isub, 1) := by decide +kernel
theorem d_MD_operate_145 : decode b_MD_operate 145 = .ok (.iadd, 1) := by decide +kernel
theorem d_MD_operate_146 : decode b_MD_operate 146 = .ok (.iconst 1, 1) := by decide +kernel
theorem d_MD_operate_147 : decode b_MD_operate 147 = .ok (.iadd, 1) := by decide +kernel
theorem d_MD_operate_148 : decode b_MD_operate 148 = .ok (.iload 4, 2) := by decide +kernel
theorem d_MD_operate_150 : decode b_MD_operate 150 = .ok (.isub, 1) := by decide +kernel
theorem d_MD_operate_151 : decode b_MD_operate 151 = .ok (.bipush 15, 2) := by decide +kernel
theorem d_MD_operate_153 : decode b_MD_operate 153 = .ok (.if_icmp .le 7, 3) := by decide +kernel
theorem d_MD_operate_156 : decode b_MD_operate 156 = .ok (.iconst 1, 1) := by decide +kernel
theorem d_MD_operate_157 : decode b_MD_operate 157 = .ok (.goto 4, 3) := by decide +kernel
theorem d_MD_operate_160 : decode b_MD_operate 160 = .ok (.iconst 0, 1) := by decide +kernel
theorem d_MD_operate_161 : decode b_MD_operate 161 = .ok (.putfield 59, 3) := by decide +kernel
theorem d_MD_operate_164 : decode b_MD_operate 164 = .ok (.aload_n 0, 1) := by decide +kernel
theorem d_MD_operate_165 : decode b_MD_operate 165 = .ok (.iload_n 3, 1) := by decide +kernel
theorem d_MD_operate_166 : decode b_MD_operate 166 = .ok (.iload_n 2, 1) := by decide +kernel
theorem d_MD_operate_167 : decode b_MD_operate 167 = .ok (.isub, 1) := by decide +kernel
theorem d_MD_operate_168 : decode b_MD_operate 168 = .ok (.iload 4, 2) := by decide +kernel
theorem d_MD_operate_170 : decode b_MD_operate 170 = .ok (.isub, 1) := by decide +kernel
theorem d_MD_operate_171 : decode b_MD_operate 171 = .ok (.invokevirtual 68, 3) := by decide +kernel
theorem d_MD_operate_174 : decode b_MD_operate 174 = .ok (.istore 5, 2) := by decide +kernel
theorem d_MD_operate_176 : decode b_MD_operate 176 = .ok (.aload_n 0, 1) := by decide +kernel
theorem d_MD_operate_177 : decode b_MD_operate 177 = .ok (.getfield 13, 3) := by decide +kernel
theorem d_MD_operate_180 : decode b_MD_operate 180 = .ok (.bipush 7, 2) := by decide +kernel
theorem d_MD_operate_182 : decode b_MD_operate 182 = .ok (.iload_n 1, 1) := by decide +kernel
theorem d_MD_operate_183 : decode b_MD_operate 183 = .ok (.bipush 7, 2) := by decide +kernel
theorem d_MD_operate_185 : decode b_MD_operate 185 = .ok (.if_icmp .ne 7, 3) := by decide +kernel
theorem d_MD_operate_188 : decode b_MD_operate 188 = .ok (.iload_n 3, 1) := by decide +kernel
theorem d_MD_operate_189 : decode b_MD_operate 189 = .ok (.goto 5, 3) := by decide +kernel
theorem d_MD_operate_192 : decode b_MD_operate 192 = .ok (.iload 5, 2) := by decide +kernel
theorem d_MD_operate_194 : decode b_MD_operate 194 = .ok (.iastore, 1) := by decide +kernel
theorem d_MD_operate_195 : decode b_MD_operate 195 = .ok (.goto 67, 3) := by decide +kernel
theorem d_MD_operate_198 : decode b_MD_operate 198 = .ok (.aload_n 0, 1) := by decide +kernel
theorem d_MD_operate_199 : decode b_MD_operate 199 = .ok (.iconst 0, 1) := by decide +kernel
theorem d_MD_operate_200 : decode b_MD_operate 200 = .ok (.putfield 65, 3) := by decide +kernel
theorem d_MD_operate_203 : decode b_MD_operate 203 = .ok (.aload_n 0, 1) := by decide +kernel
theorem d_MD_operate_204 : decode b_MD_operate 204 = .ok (.iload_n 1, 1) := by decide +kernel
theorem d_MD_operate_205 : decode b_MD_operate 205 = .ok (.iconst 4, 1) := by decide +kernel
theorem d_MD_operate_206 : decode b_MD_operate 206 = .ok (.if_icmp .ne 16, 3) := by decide +kernel
theorem d_MD_operate_209 : decode b_MD_operate 209 = .ok (.iload_n 3, 1) := by decide +kernel
theorem d_MD_operate_210 : decode b_MD_operate 210 = .ok (.iload_n 2, 1) := by decide +kernel
theorem d_MD_operate_211 : decode b_MD_operate 211 = .ok (.ior, 1) := by decide +kernel
theorem d_MD_operate_212 : decode b_MD_operate 212 = .ok (.bipush 8, 2) := by decide +kernel
theorem d_MD_operate_214 : decode b_MD_operate 214 = .ok (.iand, 1) := by decide +kernel
theorem d_MD_operate_215 : decode b_MD_operate 215 = .ok (.ifCond .eq 7, 3) := by decide +kernel
theorem d_MD_operate_218 : decode b_MD_operate 218 = .ok (.iconst 1, 1) := by decide +kernel
theorem d_MD_operate_219 : decode b_MD_operate 219 = .ok (.goto 4, 3) := by decide +kernel
theorem d_MD_operate_222 : decode b_MD_operate 222 = .ok (.iconst 0, 1) := by decide +kernel
theorem d_MD_operate_223 : decode b_MD_operate 223 = .ok (.putfield 59, 3) := by decide +kernel
theorem d_MD_operate_226 : decode b_MD_operate 226 = .ok (.aload_n 0, 1) := by decide +kernel
theorem d_MD_operate_227 : decode b_MD_operate 227 = .ok (.getfield 13, 3) := by decide +kernel
theorem d_MD_operate_230 : decode b_MD_operate 230 = .ok (.bipush 7, 2) := by decide +kernel
theorem d_MD_operate_232 : decode b_MD_operate 232 = .ok (.aload_n 0, 1) := by decide +kernel
theorem d_MD_operate_233 : decode b_MD_operate 233 = .ok (.iload_n 1, 1) := by decide +kernel
theorem d_MD_operate_234 : decode b_MD_operate 234 = .ok (.iconst 4, 1) := by decide +kernel
theorem d_MD_operate_235 : decode b_MD_operate 235 = .ok (.if_icmp .ne 9, 3) := by decide +kernel
theorem d_MD_operate_238 : decode b_MD_operate 238 = .ok (.iload_n 3, 1) := by decide +kernel
theorem d_MD_operate_239 : decode b_MD_operate 239 = .ok (.iload_n 2, 1) := by decide +kernel
theorem d_MD_operate_240 : decode b_MD_operate 240 = .ok (.iand, 1) := by decide +kernel
theorem d_MD_operate_241 : decode b_MD_operate 241 = .ok (.goto 17, 3) := by decide +kernel
theorem d_MD_operate_244 : decode b_MD_operate 244 = .ok (.iload_n 1, 1) := by decide +kernel
theorem d_MD_operate_245 : decode b_MD_operate 245 = .ok (.iconst 5, 1) := by decide +kernel
theorem d_MD_operate_246 : decode b_MD_operate 246 = .ok (.if_icmp .ne 9, 3) := by decide +kernel
theorem d_MD_operate_249 : decode b_MD_operate 249 = .ok (.iload_n 3, 1) := by decide +kernel
theorem d_MD_operate_250 : decode b_MD_operate 250 = .ok (.iload_n 2, 1) := by decide +kernel
theorem d_MD_operate_251 : decode b_MD_operate 251 = .ok (.ixor, 1) := by decide +kernel
theorem d_MD_operate_252 : decode b_MD_operate 252 = .ok (.goto 6, 3) := by decide +kernel
theorem d_MD_operate_255 : decode b_MD_operate 255 = .ok (.iload_n 3, 1) := by decide +kernel
theorem d_MD_operate_256 : decode b_MD_operate 256 = .ok (.iload_n 2, 1) := by decide +kernel
theorem d_MD_operate_257 : decode b_MD_operate 257 = .ok (.ior, 1) := by decide +kernel
theorem d_MD_operate_258 : decode b_MD_operate 258 = .ok (.invokevirtual 68, 3) := by decide +kernel
theorem d_MD_operate_261 : decode b_MD_operate 261 = .ok (.iastore, 1) := by decide +kernel
theorem d_MD_operate_262 : decode b_MD_operate 262 = .ok (.return_, 1) := by decide +kernel
theorem tw_340 : Jvm.Cond.code ⟨"ArcadeBoardModel", "operate", "(II)V"⟩ prog_11_method_17_code 6 (Option.none : Option Jvm.ClassFile.FieldType) ∈ AL := ab_in (ab_t4 (List.mem_of_getElem? (i := 122) (by decide +kernel))) rfl
theorem tw_341 : Jvm.Cond.instanceMethod ⟨"ArcadeBoardModel", "operate", "(II)V"⟩ ∈ AL := ab_in (ab_t4 (List.mem_of_getElem? (i := 121) (by decide +kernel))) rfl
theorem tw_342 : Cond.selects "ArcadeBoardModel" ⟨"ArcadeBoardModel", "operate", "(II)V"⟩ ⟨"ArcadeBoardModel", "operate", "(II)V"⟩ ∈ AL := ab_in (ab_s3 (List.mem_of_getElem? (i := 8) (by decide +kernel))) rfl
theorem tw_343 : Jvm.Cond.methodLink "ArcadeBoardModel" 68 ⟨"ArcadeBoardModel", "result", "(I)I"⟩ ∈ AL := ab_in (ab_t4 (List.mem_of_getElem? (i := 107) (by decide +kernel))) rfl
theorem ok_MD_operate : ab_yok y_MD_operate b_MD_operate 6 none 2 := ⟨tw_340, tw_280, by decide, by decide, by decide +kernel⟩
theorem okv_MD_operate : ab_yok_V y_MD_operate := ⟨tw_341, tw_342⟩
set_option maxHeartbeats 1000000 in
set_option maxRecDepth 100000 in
theorem c_MD_operate (l : Launch) (D : va_G) (t : Nat → ClassId) (q : Nat → Nat) (u : SS) (x1 : Int32) (x2 : Int32) : ab_kv l D (tyC t) (wM t q) y_MD_operate b_MD_operate 6 { frames := 1, cells := 0, slots := 0, locals := 24 } [.ref (q 0), .int x1, .int x2] u (f_MD_operate u x1 x2) := by
  refine ab_kv_ofW (by decide) (Nat.le_of_ble_eq_true rfl) (fun p e s m below meth c ls A X hr hk hl hX => ?_)
  have hl : lv_has ls 6 [(0, .ref (q 0)), (1, .int x1), (2, .int x2)] := hl
  refine lv_aload_n (pc := 0) X.1 X.2.1 d_MD_operate_0 rfl (lv_at hl 0 rfl) ?_
  refine ab_gx (pc := 1) (v := .ref (q 2)) X hX 0 9 5 rfl rfl (Nat.le_of_ble_eq_true rfl) in_MD rfl tw_304 rfl d_MD_operate_1 ?_
  refine lv_bipush (pc := 4) (v := 7) X.1 X.2.1 d_MD_operate_4 (by decide) ?_
  refine ab_ald (pc := 6) (f := u 2) (j := 7) X hX 2 0 rfl rfl (ab_inc (by decide)) rfl d_MD_operate_6 ?_
  refine lv_istore_n (pc := 7) (lv' := [(3, .int (u 2 7)), (0, .ref (q 0)), (1, .int x1), (2, .int x2)]) X.1 X.2.1 d_MD_operate_7 rfl hl (Nat.le_of_ble_eq_true rfl) rfl (fun ls hl => ?_)
  refine lv_aload_n (pc := 8) X.1 X.2.1 d_MD_operate_8 rfl (lv_at hl 1 rfl) ?_
  refine ab_gx (pc := 9) (v := .int (u 0 8)) X hX 0 9 10 rfl rfl (Nat.le_of_ble_eq_true rfl) in_MD rfl tw_330 rfl d_MD_operate_9 ?_
  refine ab_jn (ls := ls) (rest := []) 30 (if (u 0 8) = 0 then 0 else (if x1 = 1 then 1 else (if x1 = 3 then 1 else 0 : Int32) : Int32) : Int32) ?_ (fun J => ?_)
  rotate_left
  ·
    refine lv_if_eq (pc := 12) (tgt := 29) X.1 X.2.1 d_MD_operate_12 (by decide) (fun h1 => ?_) (fun h1 => ?_)
    ·
      refine lv_iconst (pc := 29) (v := 0) X.1 X.2.1 d_MD_operate_29 (by decide) ?_
      exact ab_jt (by rw [if_pos h1]) J
    ·
      refine lv_iload_n (pc := 15) X.1 X.2.1 d_MD_operate_15 rfl (lv_at hl 2 rfl) ?_
      refine lv_iconst (pc := 16) (v := 1) X.1 X.2.1 d_MD_operate_16 (by decide) ?_
      refine lv_icmp_eq (pc := 17) (tgt := 25) X.1 X.2.1 d_MD_operate_17 (by decide) (fun h2 => ?_) (fun h2 => ?_)
      ·
        refine lv_iconst (pc := 25) (v := 1) X.1 X.2.1 d_MD_operate_25 (by decide) ?_
        refine lv_goto (pc := 26) (tgt := 30) X.1 X.2.1 d_MD_operate_26 (by decide) ?_
        exact ab_jt (by rw [if_neg h1, if_pos h2]) J
      ·
        refine lv_iload_n (pc := 20) X.1 X.2.1 d_MD_operate_20 rfl (lv_at hl 2 rfl) ?_
        refine lv_iconst (pc := 21) (v := 3) X.1 X.2.1 d_MD_operate_21 (by decide) ?_
        refine lv_icmp_ne (pc := 22) (tgt := 29) X.1 X.2.1 d_MD_operate_22 (by decide) (fun h3 => ?_) (fun h3 => ?_)
        ·
          refine lv_iconst (pc := 29) (v := 0) X.1 X.2.1 d_MD_operate_29 (by decide) ?_
          exact ab_jt (by rw [if_neg h1, if_neg h2, if_neg h3]) J
        ·
          refine lv_iconst (pc := 25) (v := 1) X.1 X.2.1 d_MD_operate_25 (by decide) ?_
          refine lv_goto (pc := 26) (tgt := 30) X.1 X.2.1 d_MD_operate_26 (by decide) ?_
          exact ab_jt (by rw [if_neg h1, if_neg h2, if_pos h3]) J
  refine lv_istore (pc := 30) (lv' := [(4, .int (if (u 0 8) = 0 then 0 else (if x1 = 1 then 1 else (if x1 = 3 then 1 else 0 : Int32) : Int32) : Int32)), (3, .int (u 2 7)), (0, .ref (q 0)), (1, .int x1), (2, .int x2)]) X.1 X.2.1 d_MD_operate_30 hl (Nat.le_of_ble_eq_true rfl) rfl (fun ls hl => ?_)
  refine lv_iload_n (pc := 32) X.1 X.2.1 d_MD_operate_32 rfl (lv_at hl 3 rfl) ?_
  refine lv_iconst (pc := 33) (v := 2) X.1 X.2.1 d_MD_operate_33 (by decide) ?_
  refine lv_icmp_ge (pc := 34) (tgt := 104) X.1 X.2.1 d_MD_operate_34 (by decide) (fun h4 => ?_) (fun h4 => ?_)
  ·
    refine lv_iload_n (pc := 104) X.1 X.2.1 d_MD_operate_104 rfl (lv_at hl 3 rfl) ?_
    refine lv_iconst (pc := 105) (v := 4) X.1 X.2.1 d_MD_operate_105 (by decide) ?_
    refine lv_icmp_lt (pc := 106) (tgt := 115) X.1 X.2.1 d_MD_operate_106 (by decide) (fun h5 => ?_) (fun h5 => ?_)
    ·
      refine lv_aload_n (pc := 115) X.1 X.2.1 d_MD_operate_115 rfl (lv_at hl 2 rfl) ?_
      refine lv_iload_n (pc := 116) X.1 X.2.1 d_MD_operate_116 rfl (lv_at hl 1 rfl) ?_
      refine lv_iload_n (pc := 117) X.1 X.2.1 d_MD_operate_117 rfl (lv_at hl 4 rfl) ?_
      refine lv_isub (pc := 118) X.1 X.2.1 d_MD_operate_118 ?_
      refine lv_iload (pc := 119) X.1 X.2.1 d_MD_operate_119 (lv_at hl 0 rfl) ?_
      refine lv_isub (pc := 121) X.1 X.2.1 d_MD_operate_121 ?_
      refine ab_jn (ls := ls) (rest := [.ref (q 0)]) 130 (if 0 ≤ (((u 2 7) - x2) - (if (u 0 8) = 0 then 0 else (if x1 = 1 then 1 else (if x1 = 3 then 1 else 0 : Int32) : Int32) : Int32)) then 0 else 1 : Int32) ?_ (fun J => ?_)
      rotate_left
      ·
        refine lv_if_ge (pc := 122) (tgt := 129) X.1 X.2.1 d_MD_operate_122 (by decide) (fun h6 => ?_) (fun h6 => ?_)
        ·
          refine lv_iconst (pc := 129) (v := 0) X.1 X.2.1 d_MD_operate_129 (by decide) ?_
          exact ab_jt (by rw [if_pos h6]) J
        ·
          refine lv_iconst (pc := 125) (v := 1) X.1 X.2.1 d_MD_operate_125 (by decide) ?_
          refine lv_goto (pc := 126) (tgt := 130) X.1 X.2.1 d_MD_operate_126 (by decide) ?_
          exact ab_jt (by rw [if_neg h6]) J
      refine ab_px (pc := 130) (ws' := (wM t q (stt u 0 8 (if 0 ≤ (((u 2 7) - x2) - (if (u 0 8) = 0 then 0 else (if x1 = 1 then 1 else (if x1 = 3 then 1 else 0 : Int32) : Int32) : Int32)) then 0 else 1 : Int32)))) X hX 0 9 10 ty_MD ty_MD_ok nm_MD rfl rfl (Nat.le_of_ble_eq_true rfl) in_MD rfl tw_330 rfl rfl (ab_nb (ab_bi ab_bo0 ab_bo1)) (ab_fb (ab_bi ab_bo0 ab_bo1)) (Nat.le_of_ble_eq_true rfl) (sf_wM_0_10 t q u (if 0 ≤ (((u 2 7) - x2) - (if (u 0 8) = 0 then 0 else (if x1 = 1 then 1 else (if x1 = 3 then 1 else 0 : Int32) : Int32) : Int32)) then 0 else 1 : Int32)) d_MD_operate_130 (fun H locs hX => ?_)
      refine lv_aload_n (pc := 133) X.1 X.2.1 d_MD_operate_133 rfl (lv_at hl 2 rfl) ?_
      refine lv_iload_n (pc := 134) X.1 X.2.1 d_MD_operate_134 rfl (lv_at hl 1 rfl) ?_
      refine lv_bipush (pc := 135) (v := 16) X.1 X.2.1 d_MD_operate_135 (by decide) ?_
      refine lv_irem (pc := 137) X.1 X.2.1 d_MD_operate_137 (by decide) ?_
      refine lv_bipush (pc := 138) (v := 15) X.1 X.2.1 d_MD_operate_138 (by decide) ?_
      refine lv_iload_n (pc := 140) X.1 X.2.1 d_MD_operate_140 rfl (lv_at hl 4 rfl) ?_
      refine lv_bipush (pc := 141) (v := 16) X.1 X.2.1 d_MD_operate_141 (by decide) ?_
      refine lv_irem (pc := 143) X.1 X.2.1 d_MD_operate_143 (by decide) ?_
      refine lv_isub (pc := 144) X.1 X.2.1 d_MD_operate_144 ?_
      refine lv_iadd (pc := 145) X.1 X.2.1 d_MD_operate_145 ?_
      refine lv_iconst (pc := 146) (v := 1) X.1 X.2.1 d_MD_operate_146 (by decide) ?_
      refine lv_iadd (pc := 147) X.1 X.2.1 d_MD_operate_147 ?_
      refine lv_iload (pc := 148) X.1 X.2.1 d_MD_operate_148 (lv_at hl 0 rfl) ?_
      refine lv_isub (pc := 150) X.1 X.2.1 d_MD_operate_150 ?_
      refine lv_bipush (pc := 151) (v := 15) X.1 X.2.1 d_MD_operate_151 (by decide) ?_
      refine ab_jn (ls := ls) (rest := [.ref (q 0)]) 161 (if (((((u 2 7) - (u 2 7) / 16 * 16) + (15 - (x2 - x2 / 16 * 16))) + 1) - (if (u 0 8) = 0 then 0 else (if x1 = 1 then 1 else (if x1 = 3 then 1 else 0 : Int32) : Int32) : Int32)) ≤ 15 then 0 else 1 : Int32) ?_ (fun J => ?_)
      rotate_left
      ·
        refine lv_icmp_le (pc := 153) (tgt := 160) X.1 X.2.1 d_MD_operate_153 (by decide) (fun h7 => ?_) (fun h7 => ?_)
        ·
          refine lv_iconst (pc := 160) (v := 0) X.1 X.2.1 d_MD_operate_160 (by decide) ?_
          exact ab_jt (by rw [if_pos h7]) J
        ·
          refine lv_iconst (pc := 156) (v := 1) X.1 X.2.1 d_MD_operate_156 (by decide) ?_
          refine lv_goto (pc := 157) (tgt := 161) X.1 X.2.1 d_MD_operate_157 (by decide) ?_
          exact ab_jt (by rw [if_neg h7]) J
      refine ab_px (pc := 161) (ws' := (wM t q (stt (stt u 0 8 (if 0 ≤ (((u 2 7) - x2) - (if (u 0 8) = 0 then 0 else (if x1 = 1 then 1 else (if x1 = 3 then 1 else 0 : Int32) : Int32) : Int32)) then 0 else 1 : Int32)) 0 6 (if (((((u 2 7) - (u 2 7) / 16 * 16) + (15 - (x2 - x2 / 16 * 16))) + 1) - (if (u 0 8) = 0 then 0 else (if x1 = 1 then 1 else (if x1 = 3 then 1 else 0 : Int32) : Int32) : Int32)) ≤ 15 then 0 else 1 : Int32)))) X hX 0 9 8 ty_MD ty_MD_ok nm_MD rfl rfl (Nat.le_of_ble_eq_true rfl) in_MD rfl tw_328 rfl rfl (ab_nb (ab_bi ab_bo0 ab_bo1)) (ab_fb (ab_bi ab_bo0 ab_bo1)) (Nat.le_of_ble_eq_true rfl) (sf_wM_0_8 t q (stt u 0 8 (if 0 ≤ (((u 2 7) - x2) - (if (u 0 8) = 0 then 0 else (if x1 = 1 then 1 else (if x1 = 3 then 1 else 0 : Int32) : Int32) : Int32)) then 0 else 1 : Int32)) (if (((((u 2 7) - (u 2 7) / 16 * 16) + (15 - (x2 - x2 / 16 * 16))) + 1) - (if (u 0 8) = 0 then 0 else (if x1 = 1 then 1 else (if x1 = 3 then 1 else 0 : Int32) : Int32) : Int32)) ≤ 15 then 0 else 1 : Int32)) d_MD_operate_161 (fun H locs hX => ?_)
      refine lv_aload_n (pc := 164) X.1 X.2.1 d_MD_operate_164 rfl (lv_at hl 2 rfl) ?_
      refine lv_iload_n (pc := 165) X.1 X.2.1 d_MD_operate_165 rfl (lv_at hl 1 rfl) ?_
      refine lv_iload_n (pc := 166) X.1 X.2.1 d_MD_operate_166 rfl (lv_at hl 4 rfl) ?_
      refine lv_isub (pc := 167) X.1 X.2.1 d_MD_operate_167 ?_
      refine lv_iload (pc := 168) X.1 X.2.1 d_MD_operate_168 (lv_at hl 0 rfl) ?_
      refine lv_isub (pc := 170) X.1 X.2.1 d_MD_operate_170 ?_
      refine ab_ki_callV (pc := 171) (wr := []) (w := (wM t q)) (u := (stt (stt u 0 8 (if 0 ≤ (((u 2 7) - x2) - (if (u 0 8) = 0 then 0 else (if x1 = 1 then 1 else (if x1 = 3 then 1 else 0 : Int32) : Int32) : Int32)) then 0 else 1 : Int32)) 0 6 (if (((((u 2 7) - (u 2 7) / 16 * 16) + (15 - (x2 - x2 / 16 * 16))) + 1) - (if (u 0 8) = 0 then 0 else (if x1 = 1 then 1 else (if x1 = 3 then 1 else 0 : Int32) : Int32) : Int32)) ≤ 15 then 0 else 1 : Int32))) (F := f_MD_result (stt (stt u 0 8 (if 0 ≤ (((u 2 7) - x2) - (if (u 0 8) = 0 then 0 else (if x1 = 1 then 1 else (if x1 = 3 then 1 else 0 : Int32) : Int32) : Int32)) then 0 else 1 : Int32)) 0 6 (if (((((u 2 7) - (u 2 7) / 16 * 16) + (15 - (x2 - x2 / 16 * 16))) + 1) - (if (u 0 8) = 0 then 0 else (if x1 = 1 then 1 else (if x1 = 3 then 1 else 0 : Int32) : Int32) : Int32)) ≤ 15 then 0 else 1 : Int32)) (((u 2 7) - x2) - (if (u 0 8) = 0 then 0 else (if x1 = 1 then 1 else (if x1 = 3 then 1 else 0 : Int32) : Int32) : Int32))) (as := [.int (((u 2 7) - x2) - (if (u 0 8) = 0 then 0 else (if x1 = 1 then 1 else (if x1 = 3 then 1 else 0 : Int32) : Int32) : Int32))]) (rest := []) X hX (c_MD_result l D t q (stt (stt u 0 8 (if 0 ≤ (((u 2 7) - x2) - (if (u 0 8) = 0 then 0 else (if x1 = 1 then 1 else (if x1 = 3 then 1 else 0 : Int32) : Int32) : Int32)) then 0 else 1 : Int32)) 0 6 (if (((((u 2 7) - (u 2 7) / 16 * 16) + (15 - (x2 - x2 / 16 * 16))) + 1) - (if (u 0 8) = 0 then 0 else (if x1 = 1 then 1 else (if x1 = 3 then 1 else 0 : Int32) : Int32) : Int32)) ≤ 15 then 0 else 1 : Int32)) (((u 2 7) - x2) - (if (u 0 8) = 0 then 0 else (if x1 = 1 then 1 else (if x1 = 3 then 1 else 0 : Int32) : Int32) : Int32))) ok_MD_result okv_MD_result tw_343 0 9 rfl rfl rfl hl.1 rfl (Nat.le_of_ble_eq_true rfl) ⟨rfl, rfl, Nat.le_of_ble_eq_true rfl, Nat.le_of_ble_eq_true rfl⟩ ⟨Nat.zero_le _, Nat.zero_le _⟩ d_MD_operate_171 (fun H locs hX => ?_)
      refine lv_istore (pc := 174) (lv' := [(5, .int ((f_MD_result (stt (stt u 0 8 (if 0 ≤ (((u 2 7) - x2) - (if (u 0 8) = 0 then 0 else (if x1 = 1 then 1 else (if x1 = 3 then 1 else 0 : Int32) : Int32) : Int32)) then 0 else 1 : Int32)) 0 6 (if (((((u 2 7) - (u 2 7) / 16 * 16) + (15 - (x2 - x2 / 16 * 16))) + 1) - (if (u 0 8) = 0 then 0 else (if x1 = 1 then 1 else (if x1 = 3 then 1 else 0 : Int32) : Int32) : Int32)) ≤ 15 then 0 else 1 : Int32)) (((u 2 7) - x2) - (if (u 0 8) = 0 then 0 else (if x1 = 1 then 1 else (if x1 = 3 then 1 else 0 : Int32) : Int32) : Int32))).1)), (4, .int (if (u 0 8) = 0 then 0 else (if x1 = 1 then 1 else (if x1 = 3 then 1 else 0 : Int32) : Int32) : Int32)), (3, .int (u 2 7)), (0, .ref (q 0)), (1, .int x1), (2, .int x2)]) X.1 X.2.1 d_MD_operate_174 hl (Nat.le_of_ble_eq_true rfl) rfl (fun ls hl => ?_)
      refine lv_aload_n (pc := 176) X.1 X.2.1 d_MD_operate_176 rfl (lv_at hl 3 rfl) ?_
      refine ab_gx (pc := 177) (v := .ref (q 2)) X hX 0 9 5 rfl rfl (Nat.le_of_ble_eq_true rfl) in_MD rfl tw_304 rfl d_MD_operate_177 ?_
      refine lv_bipush (pc := 180) (v := 7) X.1 X.2.1 d_MD_operate_180 (by decide) ?_
      refine lv_iload_n (pc := 182) X.1 X.2.1 d_MD_operate_182 rfl (lv_at hl 4 rfl) ?_
      refine lv_bipush (pc := 183) (v := 7) X.1 X.2.1 d_MD_operate_183 (by decide) ?_
      refine ab_jn (ls := ls) (rest := [.int 7, .ref (q 2)]) 194 (if x1 = 7 then (u 2 7) else ((f_MD_result (stt (stt u 0 8 (if 0 ≤ (((u 2 7) - x2) - (if (u 0 8) = 0 then 0 else (if x1 = 1 then 1 else (if x1 = 3 then 1 else 0 : Int32) : Int32) : Int32)) then 0 else 1 : Int32)) 0 6 (if (((((u 2 7) - (u 2 7) / 16 * 16) + (15 - (x2 - x2 / 16 * 16))) + 1) - (if (u 0 8) = 0 then 0 else (if x1 = 1 then 1 else (if x1 = 3 then 1 else 0 : Int32) : Int32) : Int32)) ≤ 15 then 0 else 1 : Int32)) (((u 2 7) - x2) - (if (u 0 8) = 0 then 0 else (if x1 = 1 then 1 else (if x1 = 3 then 1 else 0 : Int32) : Int32) : Int32))).1) : Int32) ?_ (fun J => ?_)
      rotate_left
      ·
        refine lv_icmp_ne (pc := 185) (tgt := 192) X.1 X.2.1 d_MD_operate_185 (by decide) (fun h8 => ?_) (fun h8 => ?_)
        ·
          refine lv_iload (pc := 192) X.1 X.2.1 d_MD_operate_192 (lv_at hl 0 rfl) ?_
          exact ab_jt (by rw [if_neg h8]) J
        ·
          refine lv_iload_n (pc := 188) X.1 X.2.1 d_MD_operate_188 rfl (lv_at hl 2 rfl) ?_
          refine lv_goto (pc := 189) (tgt := 194) X.1 X.2.1 d_MD_operate_189 (by decide) ?_
          exact ab_jt (by rw [if_pos h8]) J
      refine ab_ast (pc := 194) (f := ((f_MD_result (stt (stt u 0 8 (if 0 ≤ (((u 2 7) - x2) - (if (u 0 8) = 0 then 0 else (if x1 = 1 then 1 else (if x1 = 3 then 1 else 0 : Int32) : Int32) : Int32)) then 0 else 1 : Int32)) 0 6 (if (((((u 2 7) - (u 2 7) / 16 * 16) + (15 - (x2 - x2 / 16 * 16))) + 1) - (if (u 0 8) = 0 then 0 else (if x1 = 1 then 1 else (if x1 = 3 then 1 else 0 : Int32) : Int32) : Int32)) ≤ 15 then 0 else 1 : Int32)) (((u 2 7) - x2) - (if (u 0 8) = 0 then 0 else (if x1 = 1 then 1 else (if x1 = 3 then 1 else 0 : Int32) : Int32) : Int32))).2) 2) (j := 7) (ws' := (wM t q (stt ((f_MD_result (stt (stt u 0 8 (if 0 ≤ (((u 2 7) - x2) - (if (u 0 8) = 0 then 0 else (if x1 = 1 then 1 else (if x1 = 3 then 1 else 0 : Int32) : Int32) : Int32)) then 0 else 1 : Int32)) 0 6 (if (((((u 2 7) - (u 2 7) / 16 * 16) + (15 - (x2 - x2 / 16 * 16))) + 1) - (if (u 0 8) = 0 then 0 else (if x1 = 1 then 1 else (if x1 = 3 then 1 else 0 : Int32) : Int32) : Int32)) ≤ 15 then 0 else 1 : Int32)) (((u 2 7) - x2) - (if (u 0 8) = 0 then 0 else (if x1 = 1 then 1 else (if x1 = 3 then 1 else 0 : Int32) : Int32) : Int32))).2) 2 7 (if x1 = 7 then (u 2 7) else ((f_MD_result (stt (stt u 0 8 (if 0 ≤ (((u 2 7) - x2) - (if (u 0 8) = 0 then 0 else (if x1 = 1 then 1 else (if x1 = 3 then 1 else 0 : Int32) : Int32) : Int32)) then 0 else 1 : Int32)) 0 6 (if (((((u 2 7) - (u 2 7) / 16 * 16) + (15 - (x2 - x2 / 16 * 16))) + 1) - (if (u 0 8) = 0 then 0 else (if x1 = 1 then 1 else (if x1 = 3 then 1 else 0 : Int32) : Int32) : Int32)) ≤ 15 then 0 else 1 : Int32)) (((u 2 7) - x2) - (if (u 0 8) = 0 then 0 else (if x1 = 1 then 1 else (if x1 = 3 then 1 else 0 : Int32) : Int32) : Int32))).1) : Int32)))) X hX 2 0 rfl rfl (ab_inc (by decide)) rfl (sa_wM_2 t q ((f_MD_result (stt (stt u 0 8 (if 0 ≤ (((u 2 7) - x2) - (if (u 0 8) = 0 then 0 else (if x1 = 1 then 1 else (if x1 = 3 then 1 else 0 : Int32) : Int32) : Int32)) then 0 else 1 : Int32)) 0 6 (if (((((u 2 7) - (u 2 7) / 16 * 16) + (15 - (x2 - x2 / 16 * 16))) + 1) - (if (u 0 8) = 0 then 0 else (if x1 = 1 then 1 else (if x1 = 3 then 1 else 0 : Int32) : Int32) : Int32)) ≤ 15 then 0 else 1 : Int32)) (((u 2 7) - x2) - (if (u 0 8) = 0 then 0 else (if x1 = 1 then 1 else (if x1 = 3 then 1 else 0 : Int32) : Int32) : Int32))).2) 7 (if x1 = 7 then (u 2 7) else ((f_MD_result (stt (stt u 0 8 (if 0 ≤ (((u 2 7) - x2) - (if (u 0 8) = 0 then 0 else (if x1 = 1 then 1 else (if x1 = 3 then 1 else 0 : Int32) : Int32) : Int32)) then 0 else 1 : Int32)) 0 6 (if (((((u 2 7) - (u 2 7) / 16 * 16) + (15 - (x2 - x2 / 16 * 16))) + 1) - (if (u 0 8) = 0 then 0 else (if x1 = 1 then 1 else (if x1 = 3 then 1 else 0 : Int32) : Int32) : Int32)) ≤ 15 then 0 else 1 : Int32)) (((u 2 7) - x2) - (if (u 0 8) = 0 then 0 else (if x1 = 1 then 1 else (if x1 = 3 then 1 else 0 : Int32) : Int32) : Int32))).1) : Int32)) d_MD_operate_194 (fun H locs hX => ?_)
      refine lv_goto (pc := 195) (tgt := 262) X.1 X.2.1 d_MD_operate_195 (by decide) ?_
      exact ab_kv_ret (pc := 262) X hr hk hX (by rw [f_MD_operate, if_pos h4, if_pos h5]) d_MD_operate_262
    ·
      refine lv_iload_n (pc := 109) X.1 X.2.1 d_MD_operate_109 rfl (lv_at hl 3 rfl) ?_
      refine lv_bipush (pc := 110) (v := 7) X.1 X.2.1 d_MD_operate_110 (by decide) ?_
      refine lv_icmp_ne (pc := 112) (tgt := 198) X.1 X.2.1 d_MD_operate_112 (by decide) (fun h9 => ?_) (fun h9 => ?_)
      ·
        refine lv_aload_n (pc := 198) X.1 X.2.1 d_MD_operate_198 rfl (lv_at hl 2 rfl) ?_
        refine lv_iconst (pc := 199) (v := 0) X.1 X.2.1 d_MD_operate_199 (by decide) ?_
        refine ab_px (pc := 200) (ws' := (wM t q (stt u 0 8 0))) X hX 0 9 10 ty_MD ty_MD_ok nm_MD rfl rfl (Nat.le_of_ble_eq_true rfl) in_MD rfl tw_330 rfl rfl rfl rfl (Nat.le_of_ble_eq_true rfl) (sf_wM_0_10 t q u 0) d_MD_operate_200 (fun H locs hX => ?_)
        refine lv_aload_n (pc := 203) X.1 X.2.1 d_MD_operate_203 rfl (lv_at hl 2 rfl) ?_
        refine lv_iload_n (pc := 204) X.1 X.2.1 d_MD_operate_204 rfl (lv_at hl 3 rfl) ?_
        refine lv_iconst (pc := 205) (v := 4) X.1 X.2.1 d_MD_operate_205 (by decide) ?_
        refine ab_jn (ls := ls) (rest := [.ref (q 0)]) 223 (if x1 = 4 then (if (((u 2 7) ||| x2) &&& 8) = 0 then 0 else 1 : Int32) else 0 : Int32) ?_ (fun J => ?_)
        rotate_left
        ·
          refine lv_icmp_ne (pc := 206) (tgt := 222) X.1 X.2.1 d_MD_operate_206 (by decide) (fun h10 => ?_) (fun h10 => ?_)
          ·
            refine lv_iconst (pc := 222) (v := 0) X.1 X.2.1 d_MD_operate_222 (by decide) ?_
            exact ab_jt (by rw [if_neg h10]) J
          ·
            refine lv_iload_n (pc := 209) X.1 X.2.1 d_MD_operate_209 rfl (lv_at hl 1 rfl) ?_
            refine lv_iload_n (pc := 210) X.1 X.2.1 d_MD_operate_210 rfl (lv_at hl 4 rfl) ?_
            refine lv_ior (pc := 211) X.1 X.2.1 d_MD_operate_211 ?_
            refine lv_bipush (pc := 212) (v := 8) X.1 X.2.1 d_MD_operate_212 (by decide) ?_
            refine lv_iand (pc := 214) X.1 X.2.1 d_MD_operate_214 ?_
            refine lv_if_eq (pc := 215) (tgt := 222) X.1 X.2.1 d_MD_operate_215 (by decide) (fun h11 => ?_) (fun h11 => ?_)
            ·
              refine lv_iconst (pc := 222) (v := 0) X.1 X.2.1 d_MD_operate_222 (by decide) ?_
              exact ab_jt (by rw [if_pos h10, if_pos h11]) J
            ·
              refine lv_iconst (pc := 218) (v := 1) X.1 X.2.1 d_MD_operate_218 (by decide) ?_
              refine lv_goto (pc := 219) (tgt := 223) X.1 X.2.1 d_MD_operate_219 (by decide) ?_
              exact ab_jt (by rw [if_pos h10, if_neg h11]) J
        refine ab_px (pc := 223) (ws' := (wM t q (stt (stt u 0 8 0) 0 6 (if x1 = 4 then (if (((u 2 7) ||| x2) &&& 8) = 0 then 0 else 1 : Int32) else 0 : Int32)))) X hX 0 9 8 ty_MD ty_MD_ok nm_MD rfl rfl (Nat.le_of_ble_eq_true rfl) in_MD rfl tw_328 rfl rfl (ab_nb (ab_bi (ab_bi ab_bo0 ab_bo1) ab_bo0)) (ab_fb (ab_bi (ab_bi ab_bo0 ab_bo1) ab_bo0)) (Nat.le_of_ble_eq_true rfl) (sf_wM_0_8 t q (stt u 0 8 0) (if x1 = 4 then (if (((u 2 7) ||| x2) &&& 8) = 0 then 0 else 1 : Int32) else 0 : Int32)) d_MD_operate_223 (fun H locs hX => ?_)
        refine lv_aload_n (pc := 226) X.1 X.2.1 d_MD_operate_226 rfl (lv_at hl 2 rfl) ?_
        refine ab_gx (pc := 227) (v := .ref (q 2)) X hX 0 9 5 rfl rfl (Nat.le_of_ble_eq_true rfl) in_MD rfl tw_304 rfl d_MD_operate_227 ?_
        refine lv_bipush (pc := 230) (v := 7) X.1 X.2.1 d_MD_operate_230 (by decide) ?_
        refine lv_aload_n (pc := 232) X.1 X.2.1 d_MD_operate_232 rfl (lv_at hl 2 rfl) ?_
        refine lv_iload_n (pc := 233) X.1 X.2.1 d_MD_operate_233 rfl (lv_at hl 3 rfl) ?_
        refine lv_iconst (pc := 234) (v := 4) X.1 X.2.1 d_MD_operate_234 (by decide) ?_
        refine ab_jn (ls := ls) (rest := [.ref (q 0), .int 7, .ref (q 2)]) 258 (if x1 = 4 then ((u 2 7) &&& x2) else (if x1 = 5 then ((u 2 7) ^^^ x2) else ((u 2 7) ||| x2) : Int32) : Int32) ?_ (fun J => ?_)
        rotate_left
        ·
          refine lv_icmp_ne (pc := 235) (tgt := 244) X.1 X.2.1 d_MD_operate_235 (by decide) (fun h12 => ?_) (fun h12 => ?_)
          ·
            refine lv_iload_n (pc := 244) X.1 X.2.1 d_MD_operate_244 rfl (lv_at hl 3 rfl) ?_
            refine lv_iconst (pc := 245) (v := 5) X.1 X.2.1 d_MD_operate_245 (by decide) ?_
            refine lv_icmp_ne (pc := 246) (tgt := 255) X.1 X.2.1 d_MD_operate_246 (by decide) (fun h13 => ?_) (fun h13 => ?_)
            ·
              refine lv_iload_n (pc := 255) X.1 X.2.1 d_MD_operate_255 rfl (lv_at hl 1 rfl) ?_
              refine lv_iload_n (pc := 256) X.1 X.2.1 d_MD_operate_256 rfl (lv_at hl 4 rfl) ?_
              refine lv_ior (pc := 257) X.1 X.2.1 d_MD_operate_257 ?_
              exact ab_jt (by rw [if_neg h12, if_neg h13]) J
            ·
              refine lv_iload_n (pc := 249) X.1 X.2.1 d_MD_operate_249 rfl (lv_at hl 1 rfl) ?_
              refine lv_iload_n (pc := 250) X.1 X.2.1 d_MD_operate_250 rfl (lv_at hl 4 rfl) ?_
              refine lv_ixor (pc := 251) X.1 X.2.1 d_MD_operate_251 ?_
              refine lv_goto (pc := 252) (tgt := 258) X.1 X.2.1 d_MD_operate_252 (by decide) ?_
              exact ab_jt (by rw [if_neg h12, if_pos h13]) J
          ·
            refine lv_iload_n (pc := 238) X.1 X.2.1 d_MD_operate_238 rfl (lv_at hl 1 rfl) ?_
            refine lv_iload_n (pc := 239) X.1 X.2.1 d_MD_operate_239 rfl (lv_at hl 4 rfl) ?_
            refine lv_iand (pc := 240) X.1 X.2.1 d_MD_operate_240 ?_
            refine lv_goto (pc := 241) (tgt := 258) X.1 X.2.1 d_MD_operate_241 (by decide) ?_
            exact ab_jt (by rw [if_pos h12]) J
        refine ab_ki_callV (pc := 258) (wr := []) (w := (wM t q)) (u := (stt (stt u 0 8 0) 0 6 (if x1 = 4 then (if (((u 2 7) ||| x2) &&& 8) = 0 then 0 else 1 : Int32) else 0 : Int32))) (F := f_MD_result (stt (stt u 0 8 0) 0 6 (if x1 = 4 then (if (((u 2 7) ||| x2) &&& 8) = 0 then 0 else 1 : Int32) else 0 : Int32)) (if x1 = 4 then ((u 2 7) &&& x2) else (if x1 = 5 then ((u 2 7) ^^^ x2) else ((u 2 7) ||| x2) : Int32) : Int32)) (as := [.int (if x1 = 4 then ((u 2 7) &&& x2) else (if x1 = 5 then ((u 2 7) ^^^ x2) else ((u 2 7) ||| x2) : Int32) : Int32)]) (rest := [.int 7, .ref (q 2)]) X hX (c_MD_result l D t q (stt (stt u 0 8 0) 0 6 (if x1 = 4 then (if (((u 2 7) ||| x2) &&& 8) = 0 then 0 else 1 : Int32) else 0 : Int32)) (if x1 = 4 then ((u 2 7) &&& x2) else (if x1 = 5 then ((u 2 7) ^^^ x2) else ((u 2 7) ||| x2) : Int32) : Int32)) ok_MD_result okv_MD_result tw_343 0 9 rfl rfl rfl hl.1 rfl (Nat.le_of_ble_eq_true rfl) ⟨rfl, rfl, Nat.le_of_ble_eq_true rfl, Nat.le_of_ble_eq_true rfl⟩ ⟨Nat.zero_le _, Nat.zero_le _⟩ d_MD_operate_258 (fun H locs hX => ?_)
        refine ab_ast (pc := 261) (f := ((f_MD_result (stt (stt u 0 8 0) 0 6 (if x1 = 4 then (if (((u 2 7) ||| x2) &&& 8) = 0 then 0 else 1 : Int32) else 0 : Int32)) (if x1 = 4 then ((u 2 7) &&& x2) else (if x1 = 5 then ((u 2 7) ^^^ x2) else ((u 2 7) ||| x2) : Int32) : Int32)).2) 2) (j := 7) (ws' := (wM t q (stt ((f_MD_result (stt (stt u 0 8 0) 0 6 (if x1 = 4 then (if (((u 2 7) ||| x2) &&& 8) = 0 then 0 else 1 : Int32) else 0 : Int32)) (if x1 = 4 then ((u 2 7) &&& x2) else (if x1 = 5 then ((u 2 7) ^^^ x2) else ((u 2 7) ||| x2) : Int32) : Int32)).2) 2 7 ((f_MD_result (stt (stt u 0 8 0) 0 6 (if x1 = 4 then (if (((u 2 7) ||| x2) &&& 8) = 0 then 0 else 1 : Int32) else 0 : Int32)) (if x1 = 4 then ((u 2 7) &&& x2) else (if x1 = 5 then ((u 2 7) ^^^ x2) else ((u 2 7) ||| x2) : Int32) : Int32)).1)))) X hX 2 0 rfl rfl (ab_inc (by decide)) rfl (sa_wM_2 t q ((f_MD_result (stt (stt u 0 8 0) 0 6 (if x1 = 4 then (if (((u 2 7) ||| x2) &&& 8) = 0 then 0 else 1 : Int32) else 0 : Int32)) (if x1 = 4 then ((u 2 7) &&& x2) else (if x1 = 5 then ((u 2 7) ^^^ x2) else ((u 2 7) ||| x2) : Int32) : Int32)).2) 7 ((f_MD_result (stt (stt u 0 8 0) 0 6 (if x1 = 4 then (if (((u 2 7) ||| x2) &&& 8) = 0 then 0 else 1 : Int32) else 0 : Int32)) (if x1 = 4 then ((u 2 7) &&& x2) else (if x1 = 5 then ((u 2 7) ^^^ x2) else ((u 2 7) ||| x2) : Int32) : Int32)).1)) d_MD_operate_261 (fun H locs hX => ?_)
        exact ab_kv_ret (pc := 262) X hr hk hX (by rw [f_MD_operate, if_pos h4, if_neg h5, if_neg h9]) d_MD_operate_262
      ·
        refine lv_aload_n (pc := 115) X.1 X.2.1 d_MD_operate_115 rfl (lv_at hl 2 rfl) ?_
        refine lv_iload_n (pc := 116) X.1 X.2.1 d_MD_operate_116 rfl (lv_at hl 1 rfl) ?_
        refine lv_iload_n (pc := 117) X.1 X.2.1 d_MD_operate_117 rfl (lv_at hl 4 rfl) ?_
        refine lv_isub (pc := 118) X.1 X.2.1 d_MD_operate_118 ?_
        refine lv_iload (pc := 119) X.1 X.2.1 d_MD_operate_119 (lv_at hl 0 rfl) ?_
        refine lv_isub (pc := 121) X.1 X.2.1 d_MD_operate_121 ?_
        refine ab_jn (ls := ls) (rest := [.ref (q 0)]) 130 (if 0 ≤ (((u 2 7) - x2) - (if (u 0 8) = 0 then 0 else (if x1 = 1 then 1 else (if x1 = 3 then 1 else 0 : Int32) : Int32) : Int32)) then 0 else 1 : Int32) ?_ (fun J => ?_)
        rotate_left
        ·
          refine lv_if_ge (pc := 122) (tgt := 129) X.1 X.2.1 d_MD_operate_122 (by decide) (fun h14 => ?_) (fun h14 => ?_)
          ·
            refine lv_iconst (pc := 129) (v := 0) X.1 X.2.1 d_MD_operate_129 (by decide) ?_
            exact ab_jt (by rw [if_pos h14]) J
          ·
            refine lv_iconst (pc := 125) (v := 1) X.1 X.2.1 d_MD_operate_125 (by decide) ?_
            refine lv_goto (pc := 126) (tgt := 130) X.1 X.2.1 d_MD_operate_126 (by decide) ?_
            exact ab_jt (by rw [if_neg h14]) J
        refine ab_px (pc := 130) (ws' := (wM t q (stt u 0 8 (if 0 ≤ (((u 2 7) - x2) - (if (u 0 8) = 0 then 0 else (if x1 = 1 then 1 else (if x1 = 3 then 1 else 0 : Int32) : Int32) : Int32)) then 0 else 1 : Int32)))) X hX 0 9 10 ty_MD ty_MD_ok nm_MD rfl rfl (Nat.le_of_ble_eq_true rfl) in_MD rfl tw_330 rfl rfl (ab_nb (ab_bi ab_bo0 ab_bo1)) (ab_fb (ab_bi ab_bo0 ab_bo1)) (Nat.le_of_ble_eq_true rfl) (sf_wM_0_10 t q u (if 0 ≤ (((u 2 7) - x2) - (if (u 0 8) = 0 then 0 else (if x1 = 1 then 1 else (if x1 = 3 then 1 else 0 : Int32) : Int32) : Int32)) then 0 else 1 : Int32)) d_MD_operate_130 (fun H locs hX => ?_)
        refine lv_aload_n (pc := 133) X.1 X.2.1 d_MD_operate_133 rfl (lv_at hl 2 rfl) ?_
        refine lv_iload_n (pc := 134) X.1 X.2.1 d_MD_operate_134 rfl (lv_at hl 1 rfl) ?_
        refine lv_bipush (pc := 135) (v := 16) X.1 X.2.1 d_MD_operate_135 (by decide) ?_
        refine lv_irem (pc := 137) X.1 X.2.1 d_MD_operate_137 (by decide) ?_
        refine lv_bipush (pc := 138) (v := 15) X.1 X.2.1 d_MD_operate_138 (by decide) ?_
        refine lv_iload_n (pc := 140) X.1 X.2.1 d_MD_operate_140 rfl (lv_at hl 4 rfl) ?_
        refine lv_bipush (pc := 141) (v := 16) X.1 X.2.1 d_MD_operate_141 (by decide) ?_
        refine lv_irem (pc := 143) X.1 X.2.1 d_MD_operate_143 (by decide) ?_
        refine lv_isub (pc := 144) X.1 X.2.1 d_MD_operate_144 ?_
        refine lv_iadd (pc := 145) X.1 X.2.1 d_MD_operate_145 ?_
        refine lv_iconst (pc := 146) (v := 1) X.1 X.2.1 d_MD_operate_146 (by decide) ?_
        refine lv_iadd (pc := 147) X.1 X.2.1 d_MD_operate_147 ?_
        refine lv_iload (pc := 148) X.1 X.2.1 d_MD_operate_148 (lv_at hl 0 rfl) ?_
        refine lv_isub (pc := 150) X.1 X.2.1 d_MD_operate_150 ?_
        refine lv_bipush (pc := 151) (v := 15) X.1 X.2.1 d_MD_operate_151 (by decide) ?_
        refine ab_jn (ls := ls) (rest := [.ref (q 0)]) 161 (if (((((u 2 7) - (u 2 7) / 16 * 16) + (15 - (x2 - x2 / 16 * 16))) + 1) - (if (u 0 8) = 0 then 0 else (if x1 = 1 then 1 else (if x1 = 3 then 1 else 0 : Int32) : Int32) : Int32)) ≤ 15 then 0 else 1 : Int32) ?_ (fun J => ?_)
        rotate_left
        ·
          refine lv_icmp_le (pc := 153) (tgt := 160) X.1 X.2.1 d_MD_operate_153 (by decide) (fun h15 => ?_) (fun h15 => ?_)
          ·
            refine lv_iconst (pc := 160) (v := 0) X.1 X.2.1 d_MD_operate_160 (by decide) ?_
            exact ab_jt (by rw [if_pos h15]) J
          ·
            refine lv_iconst (pc := 156) (v := 1) X.1 X.2.1 d_MD_operate_156 (by decide) ?_
            refine lv_goto (pc := 157) (tgt := 161) X.1 X.2.1 d_MD_operate_157 (by decide) ?_
            exact ab_jt (by rw [if_neg h15]) J
        refine ab_px (pc := 161) (ws' := (wM t q (stt (stt u 0 8 (if 0 ≤ (((u 2 7) - x2) - (if (u 0 8) = 0 then 0 else (if x1 = 1 then 1 else (if x1 = 3 then 1 else 0 : Int32) : Int32) : Int32)) then 0 else 1 : Int32)) 0 6 (if (((((u 2 7) - (u 2 7) / 16 * 16) + (15 - (x2 - x2 / 16 * 16))) + 1) - (if (u 0 8) = 0 then 0 else (if x1 = 1 then 1 else (if x1 = 3 then 1 else 0 : Int32) : Int32) : Int32)) ≤ 15 then 0 else 1 : Int32)))) X hX 0 9 8 ty_MD ty_MD_ok nm_MD rfl rfl (Nat.le_of_ble_eq_true rfl) in_MD rfl tw_328 rfl rfl (ab_nb (ab_bi ab_bo0 ab_bo1)) (ab_fb (ab_bi ab_bo0 ab_bo1)) (Nat.le_of_ble_eq_true rfl) (sf_wM_0_8 t q (stt u 0 8 (if 0 ≤ (((u 2 7) - x2) - (if (u 0 8) = 0 then 0 else (if x1 = 1 then 1 else (if x1 = 3 then 1 else 0 : Int32) : Int32) : Int32)) then 0 else 1 : Int32)) (if (((((u 2 7) - (u 2 7) / 16 * 16) + (15 - (x2 - x2 / 16 * 16))) + 1) - (if (u 0 8) = 0 then 0 else (if x1 = 1 then 1 else (if x1 = 3 then 1 else 0 : Int32) : Int32) : Int32)) ≤ 15 then 0 else 1 : Int32)) d_MD_operate_161 (fun H locs hX => ?_)
        refine lv_aload_n (pc := 164) X.1 X.2.1 d_MD_operate_164 rfl (lv_at hl 2 rfl) ?_
        refine lv_iload_n (pc := 165) X.1 X.2.1 d_MD_operate_165 rfl (lv_at hl 1 rfl) ?_
        refine lv_iload_n (pc := 166) X.1 X.2.1 d_MD_operate_166 rfl (lv_at hl 4 rfl) ?_
        refine lv_isub (pc := 167) X.1 X.2.1 d_MD_operate_167 ?_
        refine lv_iload (pc := 168) X.1 X.2.1 d_MD_operate_168 (lv_at hl 0 rfl) ?_
        refine lv_isub (pc := 170) X.1 X.2.1 d_MD_operate_170 ?_
        refine ab_ki_callV (pc := 171) (wr := []) (w := (wM t q)) (u := (stt (stt u 0 8 (if 0 ≤ (((u 2 7) - x2) - (if (u 0 8) = 0 then 0 else (if x1 = 1 then 1 else (if x1 = 3 then 1 else 0 : Int32) : Int32) : Int32)) then 0 else 1 : Int32)) 0 6 (if (((((u 2 7) - (u 2 7) / 16 * 16) + (15 - (x2 - x2 / 16 * 16))) + 1) - (if (u 0 8) = 0 then 0 else (if x1 = 1 then 1 else (if x1 = 3 then 1 else 0 : Int32) : Int32) : Int32)) ≤ 15 then 0 else 1 : Int32))) (F := f_MD_result (stt (stt u 0 8 (if 0 ≤ (((u 2 7) - x2) - (if (u 0 8) = 0 then 0 else (if x1 = 1 then 1 else (if x1 = 3 then 1 else 0 : Int32) : Int32) : Int32)) then 0 else 1 : Int32)) 0 6 (if (((((u 2 7) - (u 2 7) / 16 * 16) + (15 - (x2 - x2 / 16 * 16))) + 1) - (if (u 0 8) = 0 then 0 else (if x1 = 1 then 1 else (if x1 = 3 then 1 else 0 : Int32) : Int32) : Int32)) ≤ 15 then 0 else 1 : Int32)) (((u 2 7) - x2) - (if (u 0 8) = 0 then 0 else (if x1 = 1 then 1 else (if x1 = 3 then 1 else 0 : Int32) : Int32) : Int32))) (as := [.int (((u 2 7) - x2) - (if (u 0 8) = 0 then 0 else (if x1 = 1 then 1 else (if x1 = 3 then 1 else 0 : Int32) : Int32) : Int32))]) (rest := []) X hX (c_MD_result l D t q (stt (stt u 0 8 (if 0 ≤ (((u 2 7) - x2) - (if (u 0 8) = 0 then 0 else (if x1 = 1 then 1 else (if x1 = 3 then 1 else 0 : Int32) : Int32) : Int32)) then 0 else 1 : Int32)) 0 6 (if (((((u 2 7) - (u 2 7) / 16 * 16) + (15 - (x2 - x2 / 16 * 16))) + 1) - (if (u 0 8) = 0 then 0 else (if x1 = 1 then 1 else (if x1 = 3 then 1 else 0 : Int32) : Int32) : Int32)) ≤ 15 then 0 else 1 : Int32)) (((u 2 7) - x2) - (if (u 0 8) = 0 then 0 else (if x1 = 1 then 1 else (if x1 = 3 then 1 else 0 : Int32) : Int32) : Int32))) ok_MD_result okv_MD_result tw_343 0 9 rfl rfl rfl hl.1 rfl (Nat.le_of_ble_eq_true rfl) ⟨rfl, rfl, Nat.le_of_ble_eq_true rfl, Nat.le_of_ble_eq_true rfl⟩ ⟨Nat.zero_le _, Nat.zero_le _⟩ d_MD_operate_171 (fun H locs hX => ?_)
        refine lv_istore (pc := 174) (lv' := [(5, .int ((f_MD_result (stt (stt u 0 8 (if 0 ≤ (((u 2 7) - x2) - (if (u 0 8) = 0 then 0 else (if x1 = 1 then 1 else (if x1 = 3 then 1 else 0 : Int32) : Int32) : Int32)) then 0 else 1 : Int32)) 0 6 (if (((((u 2 7) - (u 2 7) / 16 * 16) + (15 - (x2 - x2 / 16 * 16))) + 1) - (if (u 0 8) = 0 then 0 else (if x1 = 1 then 1 else (if x1 = 3 then 1 else 0 : Int32) : Int32) : Int32)) ≤ 15 then 0 else 1 : Int32)) (((u 2 7) - x2) - (if (u 0 8) = 0 then 0 else (if x1 = 1 then 1 else (if x1 = 3 then 1 else 0 : Int32) : Int32) : Int32))).1)), (4, .int (if (u 0 8) = 0 then 0 else (if x1 = 1 then 1 else (if x1 = 3 then 1 else 0 : Int32) : Int32) : Int32)), (3, .int (u 2 7)), (0, .ref (q 0)), (1, .int x1), (2, .int x2)]) X.1 X.2.1 d_MD_operate_174 hl (Nat.le_of_ble_eq_true rfl) rfl (fun ls hl => ?_)
        refine lv_aload_n (pc := 176) X.1 X.2.1 d_MD_operate_176 rfl (lv_at hl 3 rfl) ?_
        refine ab_gx (pc := 177) (v := .ref (q 2)) X hX 0 9 5 rfl rfl (Nat.le_of_ble_eq_true rfl) in_MD rfl tw_304 rfl d_MD_operate_177 ?_
        refine lv_bipush (pc := 180) (v := 7) X.1 X.2.1 d_MD_operate_180 (by decide) ?_
        refine lv_iload_n (pc := 182) X.1 X.2.1 d_MD_operate_182 rfl (lv_at hl 4 rfl) ?_
        refine lv_bipush (pc := 183) (v := 7) X.1 X.2.1 d_MD_operate_183 (by decide) ?_
        refine ab_jn (ls := ls) (rest := [.int 7, .ref (q 2)]) 194 (if x1 = 7 then (u 2 7) else ((f_MD_result (stt (stt u 0 8 (if 0 ≤ (((u 2 7) - x2) - (if (u 0 8) = 0 then 0 else (if x1 = 1 then 1 else (if x1 = 3 then 1 else 0 : Int32) : Int32) : Int32)) then 0 else 1 : Int32)) 0 6 (if (((((u 2 7) - (u 2 7) / 16 * 16) + (15 - (x2 - x2 / 16 * 16))) + 1) - (if (u 0 8) = 0 then 0 else (if x1 = 1 then 1 else (if x1 = 3 then 1 else 0 : Int32) : Int32) : Int32)) ≤ 15 then 0 else 1 : Int32)) (((u 2 7) - x2) - (if (u 0 8) = 0 then 0 else (if x1 = 1 then 1 else (if x1 = 3 then 1 else 0 : Int32) : Int32) : Int32))).1) : Int32) ?_ (fun J => ?_)
        rotate_left
        ·
          refine lv_icmp_ne (pc := 185) (tgt := 192) X.1 X.2.1 d_MD_operate_185 (by decide) (fun h16 => ?_) (fun h16 => ?_)
          ·
            refine lv_iload (pc := 192) X.1 X.2.1 d_MD_operate_192 (lv_at hl 0 rfl) ?_
            exact ab_jt (by rw [if_neg h16]) J
          ·
            refine lv_iload_n (pc := 188) X.1 X.2.1 d_MD_operate_188 rfl (lv_at hl 2 rfl) ?_
            refine lv_goto (pc := 189) (tgt := 194) X.1 X.2.1 d_MD_operate_189 (by decide) ?_
            exact ab_jt (by rw [if_pos h16]) J
        refine ab_ast (pc := 194) (f := ((f_MD_result (stt (stt u 0 8 (if 0 ≤ (((u 2 7) - x2) - (if (u 0 8) = 0 then 0 else (if x1 = 1 then 1 else (if x1 = 3 then 1 else 0 : Int32) : Int32) : Int32)) then 0 else 1 : Int32)) 0 6 (if (((((u 2 7) - (u 2 7) / 16 * 16) + (15 - (x2 - x2 / 16 * 16))) + 1) - (if (u 0 8) = 0 then 0 else (if x1 = 1 then 1 else (if x1 = 3 then 1 else 0 : Int32) : Int32) : Int32)) ≤ 15 then 0 else 1 : Int32)) (((u 2 7) - x2) - (if (u 0 8) = 0 then 0 else (if x1 = 1 then 1 else (if x1 = 3 then 1 else 0 : Int32) : Int32) : Int32))).2) 2) (j := 7) (ws' := (wM t q (stt ((f_MD_result (stt (stt u 0 8 (if 0 ≤ (((u 2 7) - x2) - (if (u 0 8) = 0 then 0 else (if x1 = 1 then 1 else (if x1 = 3 then 1 else 0 : Int32) : Int32) : Int32)) then 0 else 1 : Int32)) 0 6 (if (((((u 2 7) - (u 2 7) / 16 * 16) + (15 - (x2 - x2 / 16 * 16))) + 1) - (if (u 0 8) = 0 then 0 else (if x1 = 1 then 1 else (if x1 = 3 then 1 else 0 : Int32) : Int32) : Int32)) ≤ 15 then 0 else 1 : Int32)) (((u 2 7) - x2) - (if (u 0 8) = 0 then 0 else (if x1 = 1 then 1 else (if x1 = 3 then 1 else 0 : Int32) : Int32) : Int32))).2) 2 7 (if x1 = 7 then (u 2 7) else ((f_MD_result (stt (stt u 0 8 (if 0 ≤ (((u 2 7) - x2) - (if (u 0 8) = 0 then 0 else (if x1 = 1 then 1 else (if x1 = 3 then 1 else 0 : Int32) : Int32) : Int32)) then 0 else 1 : Int32)) 0 6 (if (((((u 2 7) - (u 2 7) / 16 * 16) + (15 - (x2 - x2 / 16 * 16))) + 1) - (if (u 0 8) = 0 then 0 else (if x1 = 1 then 1 else (if x1 = 3 then 1 else 0 : Int32) : Int32) : Int32)) ≤ 15 then 0 else 1 : Int32)) (((u 2 7) - x2) - (if (u 0 8) = 0 then 0 else (if x1 = 1 then 1 else (if x1 = 3 then 1 else 0 : Int32) : Int32) : Int32))).1) : Int32)))) X hX 2 0 rfl rfl (ab_inc (by decide)) rfl (sa_wM_2 t q ((f_MD_result (stt (stt u 0 8 (if 0 ≤ (((u 2 7) - x2) - (if (u 0 8) = 0 then 0 else (if x1 = 1 then 1 else (if x1 = 3 then 1 else 0 : Int32) : Int32) : Int32)) then 0 else 1 : Int32)) 0 6 (if (((((u 2 7) - (u 2 7) / 16 * 16) + (15 - (x2 - x2 / 16 * 16))) + 1) - (if (u 0 8) = 0 then 0 else (if x1 = 1 then 1 else (if x1 = 3 then 1 else 0 : Int32) : Int32) : Int32)) ≤ 15 then 0 else 1 : Int32)) (((u 2 7) - x2) - (if (u 0 8) = 0 then 0 else (if x1 = 1 then 1 else (if x1 = 3 then 1 else 0 : Int32) : Int32) : Int32))).2) 7 (if x1 = 7 then (u 2 7) else ((f_MD_result (stt (stt u 0 8 (if 0 ≤ (((u 2 7) - x2) - (if (u 0 8) = 0 then 0 else (if x1 = 1 then 1 else (if x1 = 3 then 1 else 0 : Int32) : Int32) : Int32)) then 0 else 1 : Int32)) 0 6 (if (((((u 2 7) - (u 2 7) / 16 * 16) + (15 - (x2 - x2 / 16 * 16))) + 1) - (if (u 0 8) = 0 then 0 else (if x1 = 1 then 1 else (if x1 = 3 then 1 else 0 : Int32) : Int32) : Int32)) ≤ 15 then 0 else 1 : Int32)) (((u 2 7) - x2) - (if (u 0 8) = 0 then 0 else (if x1 = 1 then 1 else (if x1 = 3 then 1 else 0 : Int32) : Int32) : Int32))).1) : Int32)) d_MD_operate_194 (fun H locs hX => ?_)
        refine lv_goto (pc := 195) (tgt := 262) X.1 X.2.1 d_MD_operate_195 (by decide) ?_
        exact ab_kv_ret (pc := 262) X hr hk hX (by rw [f_MD_operate, if_pos h4, if_neg h5, if_pos h9]) d_MD_operate_262
  ·
    refine lv_aload_n (pc := 37) X.1 X.2.1 d_MD_operate_37 rfl (lv_at hl 2 rfl) ?_
    refine lv_iload_n (pc := 38) X.1 X.2.1 d_MD_operate_38 rfl (lv_at hl 1 rfl) ?_
    refine lv_iload_n (pc := 39) X.1 X.2.1 d_MD_operate_39 rfl (lv_at hl 4 rfl) ?_
    refine lv_iadd (pc := 40) X.1 X.2.1 d_MD_operate_40 ?_
    refine lv_iload (pc := 41) X.1 X.2.1 d_MD_operate_41 (lv_at hl 0 rfl) ?_
    refine lv_iadd (pc := 43) X.1 X.2.1 d_MD_operate_43 ?_
    refine lv_sipush (pc := 44) (v := 255) X.1 X.2.1 d_MD_operate_44 (by decide) ?_
    refine ab_jn (ls := ls) (rest := [.ref (q 0)]) 55 (if (((u 2 7) + x2) + (if (u 0 8) = 0 then 0 else (if x1 = 1 then 1 else (if x1 = 3 then 1 else 0 : Int32) : Int32) : Int32)) ≤ 255 then 0 else 1 : Int32) ?_ (fun J => ?_)
    rotate_left
    ·
      refine lv_icmp_le (pc := 47) (tgt := 54) X.1 X.2.1 d_MD_operate_47 (by decide) (fun h17 => ?_) (fun h17 => ?_)
      ·
        refine lv_iconst (pc := 54) (v := 0) X.1 X.2.1 d_MD_operate_54 (by decide) ?_
        exact ab_jt (by rw [if_pos h17]) J
      ·
        refine lv_iconst (pc := 50) (v := 1) X.1 X.2.1 d_MD_operate_50 (by decide) ?_
        refine lv_goto (pc := 51) (tgt := 55) X.1 X.2.1 d_MD_operate_51 (by decide) ?_
        exact ab_jt (by rw [if_neg h17]) J
    refine ab_px (pc := 55) (ws' := (wM t q (stt u 0 8 (if (((u 2 7) + x2) + (if (u 0 8) = 0 then 0 else (if x1 = 1 then 1 else (if x1 = 3 then 1 else 0 : Int32) : Int32) : Int32)) ≤ 255 then 0 else 1 : Int32)))) X hX 0 9 10 ty_MD ty_MD_ok nm_MD rfl rfl (Nat.le_of_ble_eq_true rfl) in_MD rfl tw_330 rfl rfl (ab_nb (ab_bi ab_bo0 ab_bo1)) (ab_fb (ab_bi ab_bo0 ab_bo1)) (Nat.le_of_ble_eq_true rfl) (sf_wM_0_10 t q u (if (((u 2 7) + x2) + (if (u 0 8) = 0 then 0 else (if x1 = 1 then 1 else (if x1 = 3 then 1 else 0 : Int32) : Int32) : Int32)) ≤ 255 then 0 else 1 : Int32)) d_MD_operate_55 (fun H locs hX => ?_)
    refine lv_aload_n (pc := 58) X.1 X.2.1 d_MD_operate_58 rfl (lv_at hl 2 rfl) ?_
    refine lv_iload_n (pc := 59) X.1 X.2.1 d_MD_operate_59 rfl (lv_at hl 1 rfl) ?_
    refine lv_bipush (pc := 60) (v := 16) X.1 X.2.1 d_MD_operate_60 (by decide) ?_
    refine lv_irem (pc := 62) X.1 X.2.1 d_MD_operate_62 (by decide) ?_
    refine lv_iload_n (pc := 63) X.1 X.2.1 d_MD_operate_63 rfl (lv_at hl 4 rfl) ?_
    refine lv_bipush (pc := 64) (v := 16) X.1 X.2.1 d_MD_operate_64 (by decide) ?_
    refine lv_irem (pc := 66) X.1 X.2.1 d_MD_operate_66 (by decide) ?_
    refine lv_iadd (pc := 67) X.1 X.2.1 d_MD_operate_67 ?_
    refine lv_iload (pc := 68) X.1 X.2.1 d_MD_operate_68 (lv_at hl 0 rfl) ?_
    refine lv_iadd (pc := 70) X.1 X.2.1 d_MD_operate_70 ?_
    refine lv_bipush (pc := 71) (v := 15) X.1 X.2.1 d_MD_operate_71 (by decide) ?_
    refine ab_jn (ls := ls) (rest := [.ref (q 0)]) 81 (if ((((u 2 7) - (u 2 7) / 16 * 16) + (x2 - x2 / 16 * 16)) + (if (u 0 8) = 0 then 0 else (if x1 = 1 then 1 else (if x1 = 3 then 1 else 0 : Int32) : Int32) : Int32)) ≤ 15 then 0 else 1 : Int32) ?_ (fun J => ?_)
    rotate_left
    ·
      refine lv_icmp_le (pc := 73) (tgt := 80) X.1 X.2.1 d_MD_operate_73 (by decide) (fun h18 => ?_) (fun h18 => ?_)
      ·
        refine lv_iconst (pc := 80) (v := 0) X.1 X.2.1 d_MD_operate_80 (by decide) ?_
        exact ab_jt (by rw [if_pos h18]) J
      ·
        refine lv_iconst (pc := 76) (v := 1) X.1 X.2.1 d_MD_operate_76 (by decide) ?_
        refine lv_goto (pc := 77) (tgt := 81) X.1 X.2.1 d_MD_operate_77 (by decide) ?_
        exact ab_jt (by rw [if_neg h18]) J
    refine ab_px (pc := 81) (ws' := (wM t q (stt (stt u 0 8 (if (((u 2 7) + x2) + (if (u 0 8) = 0 then 0 else (if x1 = 1 then 1 else (if x1 = 3 then 1 else 0 : Int32) : Int32) : Int32)) ≤ 255 then 0 else 1 : Int32)) 0 6 (if ((((u 2 7) - (u 2 7) / 16 * 16) + (x2 - x2 / 16 * 16)) + (if (u 0 8) = 0 then 0 else (if x1 = 1 then 1 else (if x1 = 3 then 1 else 0 : Int32) : Int32) : Int32)) ≤ 15 then 0 else 1 : Int32)))) X hX 0 9 8 ty_MD ty_MD_ok nm_MD rfl rfl (Nat.le_of_ble_eq_true rfl) in_MD rfl tw_328 rfl rfl (ab_nb (ab_bi ab_bo0 ab_bo1)) (ab_fb (ab_bi ab_bo0 ab_bo1)) (Nat.le_of_ble_eq_true rfl) (sf_wM_0_8 t q (stt u 0 8 (if (((u 2 7) + x2) + (if (u 0 8) = 0 then 0 else (if x1 = 1 then 1 else (if x1 = 3 then 1 else 0 : Int32) : Int32) : Int32)) ≤ 255 then 0 else 1 : Int32)) (if ((((u 2 7) - (u 2 7) / 16 * 16) + (x2 - x2 / 16 * 16)) + (if (u 0 8) = 0 then 0 else (if x1 = 1 then 1 else (if x1 = 3 then 1 else 0 : Int32) : Int32) : Int32)) ≤ 15 then 0 else 1 : Int32)) d_MD_operate_81 (fun H locs hX => ?_)
    refine lv_aload_n (pc := 84) X.1 X.2.1 d_MD_operate_84 rfl (lv_at hl 2 rfl) ?_
    refine ab_gx (pc := 85) (v := .ref (q 2)) X hX 0 9 5 rfl rfl (Nat.le_of_ble_eq_true rfl) in_MD rfl tw_304 rfl d_MD_operate_85 ?_
    refine lv_bipush (pc := 88) (v := 7) X.1 X.2.1 d_MD_operate_88 (by decide) ?_
    refine lv_aload_n (pc := 90) X.1 X.2.1 d_MD_operate_90 rfl (lv_at hl 2 rfl) ?_
    refine lv_iload_n (pc := 91) X.1 X.2.1 d_MD_operate_91 rfl (lv_at hl 1 rfl) ?_
    refine lv_iload_n (pc := 92) X.1 X.2.1 d_MD_operate_92 rfl (lv_at hl 4 rfl) ?_
    refine lv_iadd (pc := 93) X.1 X.2.1 d_MD_operate_93 ?_
    refine lv_iload (pc := 94) X.1 X.2.1 d_MD_operate_94 (lv_at hl 0 rfl) ?_
    refine lv_iadd (pc := 96) X.1 X.2.1 d_MD_operate_96 ?_
    refine ab_ki_callV (pc := 97) (wr := []) (w := (wM t q)) (u := (stt (stt u 0 8 (if (((u 2 7) + x2) + (if (u 0 8) = 0 then 0 else (if x1 = 1 then 1 else (if x1 = 3 then 1 else 0 : Int32) : Int32) : Int32)) ≤ 255 then 0 else 1 : Int32)) 0 6 (if ((((u 2 7) - (u 2 7) / 16 * 16) + (x2 - x2 / 16 * 16)) + (if (u 0 8) = 0 then 0 else (if x1 = 1 then 1 else (if x1 = 3 then 1 else 0 : Int32) : Int32) : Int32)) ≤ 15 then 0 else 1 : Int32))) (F := f_MD_result (stt (stt u 0 8 (if (((u 2 7) + x2) + (if (u 0 8) = 0 then 0 else (if x1 = 1 then 1 else (if x1 = 3 then 1 else 0 : Int32) : Int32) : Int32)) ≤ 255 then 0 else 1 : Int32)) 0 6 (if ((((u 2 7) - (u 2 7) / 16 * 16) + (x2 - x2 / 16 * 16)) + (if (u 0 8) = 0 then 0 else (if x1 = 1 then 1 else (if x1 = 3 then 1 else 0 : Int32) : Int32) : Int32)) ≤ 15 then 0 else 1 : Int32)) (((u 2 7) + x2) + (if (u 0 8) = 0 then 0 else (if x1 = 1 then 1 else (if x1 = 3 then 1 else 0 : Int32) : Int32) : Int32))) (as := [.int (((u 2 7) + x2) + (if (u 0 8) = 0 then 0 else (if x1 = 1 then 1 else (if x1 = 3 then 1 else 0 : Int32) : Int32) : Int32))]) (rest := [.int 7, .ref (q 2)]) X hX (c_MD_result l D t q (stt (stt u 0 8 (if (((u 2 7) + x2) + (if (u 0 8) = 0 then 0 else (if x1 = 1 then 1 else (if x1 = 3 then 1 else 0 : Int32) : Int32) : Int32)) ≤ 255 then 0 else 1 : Int32)) 0 6 (if ((((u 2 7) - (u 2 7) / 16 * 16) + (x2 - x2 / 16 * 16)) + (if (u 0 8) = 0 then 0 else (if x1 = 1 then 1 else (if x1 = 3 then 1 else 0 : Int32) : Int32) : Int32)) ≤ 15 then 0 else 1 : Int32)) (((u 2 7) + x2) + (if (u 0 8) = 0 then 0 else (if x1 = 1 then 1 else (if x1 = 3 then 1 else 0 : Int32) : Int32) : Int32))) ok_MD_result okv_MD_result tw_343 0 9 rfl rfl rfl hl.1 rfl (Nat.le_of_ble_eq_true rfl) ⟨rfl, rfl, Nat.le_of_ble_eq_true rfl, Nat.le_of_ble_eq_true rfl⟩ ⟨Nat.zero_le _, Nat.zero_le _⟩ d_MD_operate_97 (fun H locs hX => ?_)
    refine ab_ast (pc := 100) (f := ((f_MD_result (stt (stt u 0 8 (if (((u 2 7) + x2) + (if (u 0 8) = 0 then 0 else (if x1 = 1 then 1 else (if x1 = 3 then 1 else 0 : Int32) : Int32) : Int32)) ≤ 255 then 0 else 1 : Int32)) 0 6 (if ((((u 2 7) - (u 2 7) / 16 * 16) + (x2 - x2 / 16 * 16)) + (if (u 0 8) = 0 then 0 else (if x1 = 1 then 1 else (if x1 = 3 then 1 else 0 : Int32) : Int32) : Int32)) ≤ 15 then 0 else 1 : Int32)) (((u 2 7) + x2) + (if (u 0 8) = 0 then 0 else (if x1 = 1 then 1 else (if x1 = 3 then 1 else 0 : Int32) : Int32) : Int32))).2) 2) (j := 7) (ws' := (wM t q (stt ((f_MD_result (stt (stt u 0 8 (if (((u 2 7) + x2) + (if (u 0 8) = 0 then 0 else (if x1 = 1 then 1 else (if x1 = 3 then 1 else 0 : Int32) : Int32) : Int32)) ≤ 255 then 0 else 1 : Int32)) 0 6 (if ((((u 2 7) - (u 2 7) / 16 * 16) + (x2 - x2 / 16 * 16)) + (if (u 0 8) = 0 then 0 else (if x1 = 1 then 1 else (if x1 = 3 then 1 else 0 : Int32) : Int32) : Int32)) ≤ 15 then 0 else 1 : Int32)) (((u 2 7) + x2) + (if (u 0 8) = 0 then 0 else (if x1 = 1 then 1 else (if x1 = 3 then 1 else 0 : Int32) : Int32) : Int32))).2) 2 7 ((f_MD_result (stt (stt u 0 8 (if (((u 2 7) + x2) + (if (u 0 8) = 0 then 0 else (if x1 = 1 then 1 else (if x1 = 3 then 1 else 0 : Int32) : Int32) : Int32)) ≤ 255 then 0 else 1 : Int32)) 0 6 (if ((((u 2 7) - (u 2 7) / 16 * 16) + (x2 - x2 / 16 * 16)) + (if (u 0 8) = 0 then 0 else (if x1 = 1 then 1 else (if x1 = 3 then 1 else 0 : Int32) : Int32) : Int32)) ≤ 15 then 0 else 1 : Int32)) (((u 2 7) + x2) + (if (u 0 8) = 0 then 0 else (if x1 = 1 then 1 else (if x1 = 3 then 1 else 0 : Int32) : Int32) : Int32))).1)))) X hX 2 0 rfl rfl (ab_inc (by decide)) rfl (sa_wM_2 t q ((f_MD_result (stt (stt u 0 8 (if (((u 2 7) + x2) + (if (u 0 8) = 0 then 0 else (if x1 = 1 then 1 else (if x1 = 3 then 1 else 0 : Int32) : Int32) : Int32)) ≤ 255 then 0 else 1 : Int32)) 0 6 (if ((((u 2 7) - (u 2 7) / 16 * 16) + (x2 - x2 / 16 * 16)) + (if (u 0 8) = 0 then 0 else (if x1 = 1 then 1 else (if x1 = 3 then 1 else 0 : Int32) : Int32) : Int32)) ≤ 15 then 0 else 1 : Int32)) (((u 2 7) + x2) + (if (u 0 8) = 0 then 0 else (if x1 = 1 then 1 else (if x1 = 3 then 1 else 0 : Int32) : Int32) : Int32))).2) 7 ((f_MD_result (stt (stt u 0 8 (if (((u 2 7) + x2) + (if (u 0 8) = 0 then 0 else (if x1 = 1 then 1 else (if x1 = 3 then 1 else 0 : Int32) : Int32) : Int32)) ≤ 255 then 0 else 1 : Int32)) 0 6 (if ((((u 2 7) - (u 2 7) / 16 * 16) + (x2 - x2 / 16 * 16)) + (if (u 0 8) = 0 then 0 else (if x1 = 1 then 1 else (if x1 = 3 then 1 else 0 : Int32) : Int32) : Int32)) ≤ 15 then 0 else 1 : Int32)) (((u 2 7) + x2) + (if (u 0 8) = 0 then 0 else (if x1 = 1 then 1 else (if x1 = 3 then 1 else 0 : Int32) : Int32) : Int32))).1)) d_MD_operate_100 (fun H locs hX => ?_)
    refine lv_goto (pc := 101) (tgt := 262) X.1 X.2.1 d_MD_operate_101 (by decide) ?_
    exact ab_kv_ret (pc := 262) X hr hk hX (by rw [f_MD_operate, if_neg h4]) d_MD_operate_262
