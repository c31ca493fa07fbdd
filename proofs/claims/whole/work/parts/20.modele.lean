abbrev b_MD_others : ByteArray := prog_11_method_23_code
def y_MD_others : MethodName := ⟨"ArcadeBoardModel", "others", "(I)V"⟩
theorem d_MD_others_0 : decode b_MD_others 0 = .ok (.aload_n 0, 1) := by decide +kernel
theorem d_MD_others_1 : decode b_MD_others 1 = .ok (.iload_n 1, 1) := by decide +kernel
theorem d_MD_others_2 : decode b_MD_others 2 = .ok (.iconst 4, 1) := by decide +kernel
theorem d_MD_others_3 : decode b_MD_others 3 = .ok (.if_icmp .ge 8, 3) := by decide +kernel
theorem d_MD_others_6 : decode b_MD_others 6 = .ok (.bipush 10, 2) := by decide +kernel
theorem d_MD_others_8 : decode b_MD_others 8 = .ok (.goto 23, 3) := by decide +kernel
theorem d_MD_others_11 : decode b_MD_others 11 = .ok (.iload_n 1, 1) := by decide +kernel
theorem d_MD_others_12 : decode b_MD_others 12 = .ok (.iconst 4, 1) := by decide +kernel
theorem d_MD_others_13 : decode b_MD_others 13 = .ok (.if_icmp .ne 8, 3) := by decide +kernel
theorem d_MD_others_16 : decode b_MD_others 16 = .ok (.bipush 18, 2) := by decide +kernel
theorem d_MD_others_18 : decode b_MD_others 18 = .ok (.goto 13, 3) := by decide +kernel
theorem d_MD_others_21 : decode b_MD_others 21 = .ok (.iload_n 1, 1) := by decide +kernel
theorem d_MD_others_22 : decode b_MD_others 22 = .ok (.iconst 5, 1) := by decide +kernel
theorem d_MD_others_23 : decode b_MD_others 23 = .ok (.if_icmp .ne 7, 3) := by decide +kernel
theorem d_MD_others_26 : decode b_MD_others 26 = .ok (.iconst 5, 1) := by decide +kernel
theorem d_MD_others_27 : decode b_MD_others 27 = .ok (.goto 4, 3) := by decide +kernel
theorem d_MD_others_30 : decode b_MD_others 30 = .ok (.iconst 4, 1) := by decide +kernel
theorem d_MD_others_31 : decode b_MD_others 31 = .ok (.putfield 71, 3) := by decide +kernel
theorem d_MD_others_34 : decode b_MD_others 34 = .ok (.iload_n 1, 1) := by decide +kernel
theorem d_MD_others_35 : decode b_MD_others 35 = .ok (.iconst 2, 1) := by decide +kernel
theorem d_MD_others_36 : decode b_MD_others 36 = .ok (.if_icmp .ge 14, 3) := by decide +kernel
theorem d_MD_others_39 : decode b_MD_others 39 = .ok (.aload_n 0, 1) := by decide +kernel
theorem d_MD_others_40 : decode b_MD_others 40 = .ok (.aload_n 0, 1) := by decide +kernel
theorem d_MD_others_41 : decode b_MD_others 41 = .ok (.invokevirtual 74, 3) := by decide +kernel
theorem d_MD_others_44 : decode b_MD_others 44 = .ok (.putfield 30, 3) := by decide +kernel
theorem d_MD_others_47 : decode b_MD_others 47 = .ok (.goto 184, 3) := by decide +kernel
theorem d_MD_others_50 : decode b_MD_others 50 = .ok (.iload_n 1, 1) := by decide +kernel
theorem d_MD_others_51 : decode b_MD_others 51 = .ok (.iconst 2, 1) := by decide +kernel
theorem d_MD_others_52 : decode b_MD_others 52 = .ok (.if_icmp .ne 21, 3) := by decide +kernel
theorem d_MD_others_55 : decode b_MD_others 55 = .ok (.aload_n 0, 1) := by decide +kernel
theorem d_MD_others_56 : decode b_MD_others 56 = .ok (.aload_n 0, 1) := by decide +kernel
theorem d_MD_others_57 : decode b_MD_others 57 = .ok (.invokevirtual 38, 3) := by decide +kernel
theorem d_MD_others_60 : decode b_MD_others 60 = .ok (.aload_n 0, 1) := by decide +kernel
theorem d_MD_others_61 : decode b_MD_others 61 = .ok (.getfield 13, 3) := by decide +kernel
theorem d_MD_others_64 : decode b_MD_others 64 = .ok (.bipush 7, 2) := by decide +kernel
theorem d_MD_others_66 : decode b_MD_others 66 = .ok (.iaload, 1) := by decide +kernel
theorem d_MD_others_67 : decode b_MD_others 67 = .ok (.invokevirtual 118, 3) := by decide +kernel
theorem d_MD_others_70 : decode b_MD_others 70 = .ok (.goto 161, 3) := by decide +kernel
theorem d_MD_others_73 : decode b_MD_others 73 = .ok (.iload_n 1, 1) := by decide +kernel
theorem d_MD_others_74 : decode b_MD_others 74 = .ok (.iconst 3, 1) := by decide +kernel
theorem d_MD_others_75 : decode b_MD_others 75 = .ok (.if_icmp .ne 21, 3) := by decide +kernel
theorem d_MD_others_78 : decode b_MD_others 78 = .ok (.aload_n 0, 1) := by decide +kernel
theorem d_MD_others_79 : decode b_MD_others 79 = .ok (.getfield 13, 3) := by decide +kernel
theorem d_MD_others_82 : decode b_MD_others 82 = .ok (.bipush 7, 2) := by decide +kernel
theorem d_MD_others_84 : decode b_MD_others 84 = .ok (.aload_n 0, 1) := by decide +kernel
theorem d_MD_others_85 : decode b_MD_others 85 = .ok (.aload_n 0, 1) := by decide +kernel
theorem d_MD_others_86 : decode b_MD_others 86 = .ok (.invokevirtual 38, 3) := by decide +kernel
theorem d_MD_others_89 : decode b_MD_others 89 = .ok (.invokevirtual 121, 3) := by decide +kernel
theorem d_MD_others_92 : decode b_MD_others 92 = .ok (.iastore, 1) := by decide +kernel
theorem d_MD_others_93 : decode b_MD_others 93 = .ok (.goto 138, 3) := by decide +kernel
theorem d_MD_others_96 : decode b_MD_others 96 = .ok (.iload_n 1, 1) := by decide +kernel
theorem d_MD_others_97 : decode b_MD_others 97 = .ok (.iconst 4, 1) := by decide +kernel
theorem d_MD_others_98 : decode b_MD_others 98 = .ok (.if_icmp .ne 66, 3) := by decide +kernel
theorem d_MD_others_101 : decode b_MD_others 101 = .ok (.aload_n 0, 1) := by decide +kernel
theorem d_MD_others_102 : decode b_MD_others 102 = .ok (.aload_n 0, 1) := by decide +kernel
theorem d_MD_others_103 : decode b_MD_others 103 = .ok (.getfield 42, 3) := by decide +kernel
theorem d_MD_others_106 : decode b_MD_others 106 = .ok (.invokevirtual 33, 3) := by decide +kernel
theorem d_MD_others_109 : decode b_MD_others 109 = .ok (.sipush 256, 3) := by decide +kernel
theorem d_MD_others_112 : decode b_MD_others 112 = .ok (.aload_n 0, 1) := by decide +kernel
theorem d_MD_others_113 : decode b_MD_others 113 = .ok (.aload_n 0, 1) := by decide +kernel
theorem d_MD_others_114 : decode b_MD_others 114 = .ok (.getfield 42, 3) := by decide +kernel
theorem d_MD_others_117 : decode b_MD_others 117 = .ok (.iconst 1, 1) := by decide +kernel
theorem d_MD_others_118 : decode b_MD_others 118 = .ok (.iadd, 1) := by decide +kernel
theorem d_MD_others_119 : decode b_MD_others 119 = .ok (.invokevirtual 33, 3) := by decide +kernel
theorem d_MD_others_122 : decode b_MD_others 122 = .ok (.imul, 1) := by decide +kernel
theorem d_MD_others_123 : decode b_MD_others 123 = .ok (.iadd, 1) := by decide +kernel
theorem d_MD_others_124 : decode b_MD_others 124 = .ok (.istore_n 2, 1) := by decide +kernel
theorem d_MD_others_125 : decode b_MD_others 125 = .ok (.aload_n 0, 1) := by decide +kernel
theorem d_MD_others_126 : decode b_MD_others 126 = .ok (.aload_n 0, 1) := by decide +kernel
theorem d_MD_others_127 : decode b_MD_others 127 = .ok (.getfield 42, 3) := by decide +kernel
theorem d_MD_others_130 : decode b_MD_others 130 = .ok (.aload_n 0, 1) := by decide +kernel
theorem d_MD_others_131 : decode b_MD_others 131 = .ok (.getfield 13, 3) := by decide +kernel
theorem d_MD_others_134 : decode b_MD_others 134 = .ok (.iconst 5, 1) := by decide +kernel
theorem d_MD_others_135 : decode b_MD_others 135 = .ok (.iaload, 1) := by decide +kernel
theorem d_MD_others_136 : decode b_MD_others 136 = .ok (.invokevirtual 48, 3) := by decide +kernel
theorem d_MD_others_139 : decode b_MD_others 139 = .ok (.aload_n 0, 1) := by decide +kernel
theorem d_MD_others_140 : decode b_MD_others 140 = .ok (.aload_n 0, 1) := by decide +kernel
theorem d_MD_others_141 : decode b_MD_others 141 = .ok (.getfield 42, 3) := by decide +kernel
theorem d_MD_others_144 : decode b_MD_others 144 = .ok (.iconst 1, 1) := by decide +kernel
theorem d_MD_others_145 : decode b_MD_others 145 = .ok (.iadd, 1) := by decide +kernel
theorem d_MD_others_146 : decode b_MD_others 146 = .ok (.aload_n 0, 1) := by decide +kernel
theorem d_MD_others_147 : decode b_MD_others 147 = .ok (.getfield 13, 3) := by decide +kernel
theorem d_MD_others_150 : decode b_MD_others 150 = .ok (.iconst 4, 1) := by decide +kernel
theorem d_MD_others_151 : decode b_MD_others 151 = .ok (.iaload, 1) := by decide +kernel
theorem d_MD_others_152 : decode b_MD_others 152 = .ok (.invokevirtual 48, 3) := by decide +kernel
theorem d_MD_others_155 : decode b_MD_others 155 = .ok (.aload_n 0, 1) := by decide +kernel
theorem d_MD_others_156 : decode b_MD_others 156 = .ok (.iconst 2, 1) := by decide +kernel
theorem d_MD_others_157 : decode b_MD_others 157 = .ok (.iload_n 2, 1) := by decide +kernel
theorem d_MD_others_158 : decode b_MD_others 158 = .ok (.invokevirtual 77, 3) := by decide +kernel
theorem d_MD_others_161 : decode b_MD_others 161 = .ok (.goto 70, 3) := by decide +kernel
theorem d_MD_others_164 : decode b_MD_others 164 = .ok (.iload_n 1, 1) := by decide +kernel
theorem d_MD_others_165 : decode b_MD_others 165 = .ok (.iconst 5, 1) := by decide +kernel
theorem d_MD_others_166 : decode b_MD_others 166 = .ok (.if_icmp .ne 28, 3) := by decide +kernel
theorem d_MD_others_169 : decode b_MD_others 169 = .ok (.aload_n 0, 1) := by decide +kernel
theorem d_MD_others_170 : decode b_MD_others 170 = .ok (.iconst 1, 1) := by decide +kernel
theorem d_MD_others_171 : decode b_MD_others 171 = .ok (.invokevirtual 45, 3) := by decide +kernel
theorem d_MD_others_174 : decode b_MD_others 174 = .ok (.istore_n 2, 1) := by decide +kernel
theorem d_MD_others_175 : decode b_MD_others 175 = .ok (.aload_n 0, 1) := by decide +kernel
theorem d_MD_others_176 : decode b_MD_others 176 = .ok (.iconst 1, 1) := by decide +kernel
theorem d_MD_others_177 : decode b_MD_others 177 = .ok (.aload_n 0, 1) := by decide +kernel
theorem d_MD_others_178 : decode b_MD_others 178 = .ok (.iconst 2, 1) := by decide +kernel
theorem d_MD_others_179 : decode b_MD_others 179 = .ok (.invokevirtual 45, 3) := by decide +kernel
theorem d_MD_others_182 : decode b_MD_others 182 = .ok (.invokevirtual 77, 3) := by decide +kernel
theorem d_MD_others_185 : decode b_MD_others 185 = .ok (.aload_n 0, 1) := by decide +kernel
theorem d_MD_others_186 : decode b_MD_others 186 = .ok (.iconst 2, 1) := by decide +kernel
theorem d_MD_others_187 : decode b_MD_others 187 = .ok (.iload_n 2, 1) := by decide +kernel
theorem d_MD_others_188 : decode b_MD_others 188 = .ok (.invokevirtual 77, 3) := by decide +kernel
theorem d_MD_others_191 : decode b_MD_others 191 = .ok (.goto 40, 3) := by decide +kernel
theorem d_MD_others_194 : decode b_MD_others 194 = .ok (.aload_n 0, 1) := by decide +kernel
theorem d_MD_others_195 : decode b_MD_others 195 = .ok (.iload_n 1, 1) := by decide +kernel
theorem d_MD_others_196 : decode b_MD_others 196 = .ok (.bipush 7, 2) := by decide +kernel
theorem d_MD_others_198 : decode b_MD_others 198 = .ok (.if_icmp .ne 14, 3) := by decide +kernel
theorem d_MD_others_201 : decode b_MD_others 201 = .ok (.aload_n 0, 1) := by decide +kernel
theorem d_MD_others_202 : decode b_MD_others 202 = .ok (.getfield 124, 3) := by decide +kernel
theorem d_MD_others_205 : decode b_MD_others 205 = .ok (.ifCond .ne 7, 3) := by decide +kernel
theorem d_MD_others_208 : decode b_MD_others 208 = .ok (.iconst 1, 1) := by decide +kernel
theorem d_MD_others_209 : decode b_MD_others 209 = .ok (.goto 4, 3) := by decide +kernel
theorem d_MD_others_212 : decode b_MD_others 212 = .ok (.iconst 0, 1) := by decide +kernel
theorem d_MD_others_213 : decode b_MD_others 213 = .ok (.putfield 127, 3) := by decide +kernel
theorem d_MD_others_216 : decode b_MD_others 216 = .ok (.aload_n 0, 1) := by decide +kernel
theorem d_MD_others_217 : decode b_MD_others 217 = .ok (.iload_n 1, 1) := by decide +kernel
theorem d_MD_others_218 : decode b_MD_others 218 = .ok (.bipush 7, 2) := by decide +kernel
theorem d_MD_others_220 : decode b_MD_others 220 = .ok (.if_icmp .ne 7, 3) := by decide +kernel
theorem d_MD_others_223 : decode b_MD_others 223 = .ok (.iconst 1, 1) := by decide +kernel
theorem d_MD_others_224 : decode b_MD_others 224 = .ok (.goto 4, 3) := by decide +kernel
theorem d_MD_others_227 : decode b_MD_others 227 = .ok (.iconst 0, 1) := by decide +kernel
theorem d_MD_others_228 : decode b_MD_others 228 = .ok (.putfield 124, 3) := by decide +kernel
theorem d_MD_others_231 : decode b_MD_others 231 = .ok (.return_, 1) := by decide +kernel
theorem tw_381 : Jvm.Cond.code ⟨"ArcadeBoardModel", "others", "(I)V"⟩ prog_11_method_23_code 3 (Option.none : Option Jvm.ClassFile.FieldType) ∈ AL := ab_in (ab_t4 (List.mem_of_getElem? (i := 146) (by decide +kernel))) rfl
theorem tw_382 : Jvm.Cond.instanceMethod ⟨"ArcadeBoardModel", "others", "(I)V"⟩ ∈ AL := ab_in (ab_t4 (List.mem_of_getElem? (i := 145) (by decide +kernel))) rfl
theorem tw_383 : Cond.selects "ArcadeBoardModel" ⟨"ArcadeBoardModel", "others", "(I)V"⟩ ⟨"ArcadeBoardModel", "others", "(I)V"⟩ ∈ AL := ab_in (ab_s3 (List.mem_of_getElem? (i := 14) (by decide +kernel))) rfl
theorem tw_384 : Jvm.Cond.fieldLink "ArcadeBoardModel" 124 "ArcadeBoardModel" "enabled" "Z" ∈ AL := ab_in (ab_t3 (List.mem_of_getElem? (i := 191) (by decide +kernel))) rfl
theorem tw_385 : Jvm.Cond.fieldLink "ArcadeBoardModel" 127 "ArcadeBoardModel" "justOn" "Z" ∈ AL := ab_in (ab_t3 (List.mem_of_getElem? (i := 192) (by decide +kernel))) rfl
theorem tw_386 : Jvm.Cond.methodLink "ArcadeBoardModel" 121 ⟨"ArcadeBoardModel", "in", "(I)I"⟩ ∈ AL := ab_in (ab_t4 (List.mem_of_getElem? (i := 151) (by decide +kernel))) rfl
theorem tw_387 : Jvm.Cond.methodLink "ArcadeBoardModel" 118 ⟨"ArcadeBoardModel", "out", "(II)V"⟩ ∈ AL := ab_in (ab_t4 (List.mem_of_getElem? (i := 147) (by decide +kernel))) rfl
theorem ok_MD_others : ab_yok y_MD_others b_MD_others 3 none 1 := ⟨tw_381, tw_280, by decide, by decide, by decide +kernel⟩
theorem okv_MD_others : ab_yok_V y_MD_others := ⟨tw_382, tw_383⟩
set_option maxHeartbeats 1000000 in
set_option maxRecDepth 100000 in
theorem c_MD_others (l : Launch) (D : va_G) (t : Nat → ClassId) (q : Nat → Nat) (u : SS) (x1 : Int32) (p1 : ab_lt8 x1) (ps : ab_snd (u 0 23)) : ab_kv l D (tyC t) (wM t q) y_MD_others b_MD_others 3 { frames := 3, cells := 0, slots := 0, locals := 63 } [.ref (q 0), .int x1] u (f_MD_others u x1) := by
  refine ab_kv_ofW (by decide) (Nat.le_of_ble_eq_true rfl) (fun p e s m below meth c ls A X hr hk hl hX => ?_)
  have hl : lv_has ls 3 [(0, .ref (q 0)), (1, .int x1)] := hl
  refine lv_aload_n (pc := 0) X.1 X.2.1 d_MD_others_0 rfl (lv_at hl 0 rfl) ?_
  refine lv_iload_n (pc := 1) X.1 X.2.1 d_MD_others_1 rfl (lv_at hl 1 rfl) ?_
  refine lv_iconst (pc := 2) (v := 4) X.1 X.2.1 d_MD_others_2 (by decide) ?_
  refine ab_jn (ls := ls) (rest := [.ref (q 0)]) 31 (if 4 ≤ x1 then (if x1 = 4 then 18 else (if x1 = 5 then 5 else 4 : Int32) : Int32) else 10 : Int32) ?_ (fun J => ?_)
  rotate_left
  ·
    refine lv_icmp_ge (pc := 3) (tgt := 11) X.1 X.2.1 d_MD_others_3 (by decide) (fun h1 => ?_) (fun h1 => ?_)
    ·
      refine lv_iload_n (pc := 11) X.1 X.2.1 d_MD_others_11 rfl (lv_at hl 1 rfl) ?_
      refine lv_iconst (pc := 12) (v := 4) X.1 X.2.1 d_MD_others_12 (by decide) ?_
      refine lv_icmp_ne (pc := 13) (tgt := 21) X.1 X.2.1 d_MD_others_13 (by decide) (fun h2 => ?_) (fun h2 => ?_)
      ·
        refine lv_iload_n (pc := 21) X.1 X.2.1 d_MD_others_21 rfl (lv_at hl 1 rfl) ?_
        refine lv_iconst (pc := 22) (v := 5) X.1 X.2.1 d_MD_others_22 (by decide) ?_
        refine lv_icmp_ne (pc := 23) (tgt := 30) X.1 X.2.1 d_MD_others_23 (by decide) (fun h3 => ?_) (fun h3 => ?_)
        ·
          refine lv_iconst (pc := 30) (v := 4) X.1 X.2.1 d_MD_others_30 (by decide) ?_
          exact ab_jt (by rw [if_pos h1, if_neg h2, if_neg h3]) J
        ·
          refine lv_iconst (pc := 26) (v := 5) X.1 X.2.1 d_MD_others_26 (by decide) ?_
          refine lv_goto (pc := 27) (tgt := 31) X.1 X.2.1 d_MD_others_27 (by decide) ?_
          exact ab_jt (by rw [if_pos h1, if_neg h2, if_pos h3]) J
      ·
        refine lv_bipush (pc := 16) (v := 18) X.1 X.2.1 d_MD_others_16 (by decide) ?_
        refine lv_goto (pc := 18) (tgt := 31) X.1 X.2.1 d_MD_others_18 (by decide) ?_
        exact ab_jt (by rw [if_pos h1, if_pos h2]) J
    ·
      refine lv_bipush (pc := 6) (v := 10) X.1 X.2.1 d_MD_others_6 (by decide) ?_
      refine lv_goto (pc := 8) (tgt := 31) X.1 X.2.1 d_MD_others_8 (by decide) ?_
      exact ab_jt (by rw [if_neg h1]) J
  refine ab_px (pc := 31) (ws' := (wM t q (stt u 0 24 (if 4 ≤ x1 then (if x1 = 4 then 18 else (if x1 = 5 then 5 else 4 : Int32) : Int32) else 10 : Int32)))) X hX 0 9 29 ty_MD ty_MD_ok nm_MD rfl rfl (Nat.le_of_ble_eq_true rfl) in_MD rfl tw_351 rfl rfl rfl rfl (Nat.le_of_ble_eq_true rfl) (sf_wM_0_29 t q u (if 4 ≤ x1 then (if x1 = 4 then 18 else (if x1 = 5 then 5 else 4 : Int32) : Int32) else 10 : Int32)) d_MD_others_31 (fun H locs hX => ?_)
  refine lv_iload_n (pc := 34) X.1 X.2.1 d_MD_others_34 rfl (lv_at hl 1 rfl) ?_
  refine lv_iconst (pc := 35) (v := 2) X.1 X.2.1 d_MD_others_35 (by decide) ?_
  refine lv_icmp_ge (pc := 36) (tgt := 50) X.1 X.2.1 d_MD_others_36 (by decide) (fun h4 => ?_) (fun h4 => ?_)
  ·
    refine lv_iload_n (pc := 50) X.1 X.2.1 d_MD_others_50 rfl (lv_at hl 1 rfl) ?_
    refine lv_iconst (pc := 51) (v := 2) X.1 X.2.1 d_MD_others_51 (by decide) ?_
    refine lv_icmp_ne (pc := 52) (tgt := 73) X.1 X.2.1 d_MD_others_52 (by decide) (fun h5 => ?_) (fun h5 => ?_)
    ·
      refine lv_iload_n (pc := 73) X.1 X.2.1 d_MD_others_73 rfl (lv_at hl 1 rfl) ?_
      refine lv_iconst (pc := 74) (v := 3) X.1 X.2.1 d_MD_others_74 (by decide) ?_
      refine lv_icmp_ne (pc := 75) (tgt := 96) X.1 X.2.1 d_MD_others_75 (by decide) (fun h6 => ?_) (fun h6 => ?_)
      ·
        refine lv_iload_n (pc := 96) X.1 X.2.1 d_MD_others_96 rfl (lv_at hl 1 rfl) ?_
        refine lv_iconst (pc := 97) (v := 4) X.1 X.2.1 d_MD_others_97 (by decide) ?_
        refine lv_icmp_ne (pc := 98) (tgt := 164) X.1 X.2.1 d_MD_others_98 (by decide) (fun h7 => ?_) (fun h7 => ?_)
        ·
          refine lv_iload_n (pc := 164) X.1 X.2.1 d_MD_others_164 rfl (lv_at hl 1 rfl) ?_
          refine lv_iconst (pc := 165) (v := 5) X.1 X.2.1 d_MD_others_165 (by decide) ?_
          refine lv_icmp_ne (pc := 166) (tgt := 194) X.1 X.2.1 d_MD_others_166 (by decide) (fun h8 => ?_) (fun h8 => ?_)
          ·
            refine lv_aload_n (pc := 194) X.1 X.2.1 d_MD_others_194 rfl (lv_at hl 0 rfl) ?_
            refine lv_iload_n (pc := 195) X.1 X.2.1 d_MD_others_195 rfl (lv_at hl 1 rfl) ?_
            refine lv_bipush (pc := 196) (v := 7) X.1 X.2.1 d_MD_others_196 (by decide) ?_
            refine ab_jn (ls := ls) (rest := [.ref (q 0)]) 213 (if x1 = 7 then (if (u 0 11) = 0 then 1 else 0 : Int32) else 0 : Int32) ?_ (fun J => ?_)
            rotate_left
            ·
              refine lv_icmp_ne (pc := 198) (tgt := 212) X.1 X.2.1 d_MD_others_198 (by decide) (fun h9 => ?_) (fun h9 => ?_)
              ·
                refine lv_iconst (pc := 212) (v := 0) X.1 X.2.1 d_MD_others_212 (by decide) ?_
                exact ab_jt (by rw [if_neg h9]) J
              ·
                refine lv_aload_n (pc := 201) X.1 X.2.1 d_MD_others_201 rfl (lv_at hl 0 rfl) ?_
                refine ab_gx (pc := 202) (v := .int (u 0 11)) X hX 0 9 13 rfl rfl (Nat.le_of_ble_eq_true rfl) in_MD rfl tw_384 rfl d_MD_others_202 ?_
                refine lv_if_ne (pc := 205) (tgt := 212) X.1 X.2.1 d_MD_others_205 (by decide) (fun h10 => ?_) (fun h10 => ?_)
                ·
                  refine lv_iconst (pc := 212) (v := 0) X.1 X.2.1 d_MD_others_212 (by decide) ?_
                  exact ab_jt (by rw [if_pos h9, if_neg h10]) J
                ·
                  refine lv_iconst (pc := 208) (v := 1) X.1 X.2.1 d_MD_others_208 (by decide) ?_
                  refine lv_goto (pc := 209) (tgt := 213) X.1 X.2.1 d_MD_others_209 (by decide) ?_
                  exact ab_jt (by rw [if_pos h9, if_pos h10]) J
            refine ab_px (pc := 213) (ws' := (wM t q (stt (stt u 0 24 (if 4 ≤ x1 then (if x1 = 4 then 18 else (if x1 = 5 then 5 else 4 : Int32) : Int32) else 10 : Int32)) 0 12 (if x1 = 7 then (if (u 0 11) = 0 then 1 else 0 : Int32) else 0 : Int32)))) X hX 0 9 14 ty_MD ty_MD_ok nm_MD rfl rfl (Nat.le_of_ble_eq_true rfl) in_MD rfl tw_385 rfl rfl (ab_nb (ab_bi (ab_bi ab_bo1 ab_bo0) ab_bo0)) (ab_fb (ab_bi (ab_bi ab_bo1 ab_bo0) ab_bo0)) (Nat.le_of_ble_eq_true rfl) (sf_wM_0_14 t q (stt u 0 24 (if 4 ≤ x1 then (if x1 = 4 then 18 else (if x1 = 5 then 5 else 4 : Int32) : Int32) else 10 : Int32)) (if x1 = 7 then (if (u 0 11) = 0 then 1 else 0 : Int32) else 0 : Int32)) d_MD_others_213 (fun H locs hX => ?_)
            refine lv_aload_n (pc := 216) X.1 X.2.1 d_MD_others_216 rfl (lv_at hl 0 rfl) ?_
            refine lv_iload_n (pc := 217) X.1 X.2.1 d_MD_others_217 rfl (lv_at hl 1 rfl) ?_
            refine lv_bipush (pc := 218) (v := 7) X.1 X.2.1 d_MD_others_218 (by decide) ?_
            refine ab_jn (ls := ls) (rest := [.ref (q 0)]) 228 (if x1 = 7 then 1 else 0 : Int32) ?_ (fun J => ?_)
            rotate_left
            ·
              refine lv_icmp_ne (pc := 220) (tgt := 227) X.1 X.2.1 d_MD_others_220 (by decide) (fun h11 => ?_) (fun h11 => ?_)
              ·
                refine lv_iconst (pc := 227) (v := 0) X.1 X.2.1 d_MD_others_227 (by decide) ?_
                exact ab_jt (by rw [if_neg h11]) J
              ·
                refine lv_iconst (pc := 223) (v := 1) X.1 X.2.1 d_MD_others_223 (by decide) ?_
                refine lv_goto (pc := 224) (tgt := 228) X.1 X.2.1 d_MD_others_224 (by decide) ?_
                exact ab_jt (by rw [if_pos h11]) J
            refine ab_px (pc := 228) (ws' := (wM t q (stt (stt (stt u 0 24 (if 4 ≤ x1 then (if x1 = 4 then 18 else (if x1 = 5 then 5 else 4 : Int32) : Int32) else 10 : Int32)) 0 12 (if x1 = 7 then (if (u 0 11) = 0 then 1 else 0 : Int32) else 0 : Int32)) 0 11 (if x1 = 7 then 1 else 0 : Int32)))) X hX 0 9 13 ty_MD ty_MD_ok nm_MD rfl rfl (Nat.le_of_ble_eq_true rfl) in_MD rfl tw_384 rfl rfl (ab_nb (ab_bi ab_bo1 ab_bo0)) (ab_fb (ab_bi ab_bo1 ab_bo0)) (Nat.le_of_ble_eq_true rfl) (sf_wM_0_13 t q (stt (stt u 0 24 (if 4 ≤ x1 then (if x1 = 4 then 18 else (if x1 = 5 then 5 else 4 : Int32) : Int32) else 10 : Int32)) 0 12 (if x1 = 7 then (if (u 0 11) = 0 then 1 else 0 : Int32) else 0 : Int32)) (if x1 = 7 then 1 else 0 : Int32)) d_MD_others_228 (fun H locs hX => ?_)
            exact ab_kv_ret (pc := 231) X hr hk hX (by rw [f_MD_others, if_pos h4, if_neg h5, if_neg h6, if_neg h7, if_neg h8]) d_MD_others_231
          ·
            refine lv_aload_n (pc := 169) X.1 X.2.1 d_MD_others_169 rfl (lv_at hl 0 rfl) ?_
            refine lv_iconst (pc := 170) (v := 1) X.1 X.2.1 d_MD_others_170 (by decide) ?_
            refine ab_kr_callV (pc := 171) (wr := []) (w := (wM t q)) (u := (stt u 0 24 (if 4 ≤ x1 then (if x1 = 4 then 18 else (if x1 = 5 then 5 else 4 : Int32) : Int32) else 10 : Int32))) (r := f_MD_pair (stt u 0 24 (if 4 ≤ x1 then (if x1 = 4 then 18 else (if x1 = 5 then 5 else 4 : Int32) : Int32) else 10 : Int32)) 1) (as := [.int 1]) (rest := []) X hX (c_MD_pair l D t q (stt u 0 24 (if 4 ≤ x1 then (if x1 = 4 then 18 else (if x1 = 5 then 5 else 4 : Int32) : Int32) else 10 : Int32)) 1 (ab_le3c (by decide : (1 : Nat) ≤ 3))) ok_MD_pair okv_MD_pair tw_312 0 9 rfl rfl rfl hl.1 rfl (Nat.le_of_ble_eq_true rfl) ⟨rfl, rfl, Nat.le_of_ble_eq_true rfl, Nat.le_of_ble_eq_true rfl⟩ ⟨Nat.zero_le _, Nat.zero_le _⟩ d_MD_others_171 (fun H locs hX => ?_)
            refine lv_istore_n (pc := 174) (lv' := [(2, .int (f_MD_pair (stt u 0 24 (if 4 ≤ x1 then (if x1 = 4 then 18 else (if x1 = 5 then 5 else 4 : Int32) : Int32) else 10 : Int32)) 1)), (0, .ref (q 0)), (1, .int x1)]) X.1 X.2.1 d_MD_others_174 rfl hl (Nat.le_of_ble_eq_true rfl) rfl (fun ls hl => ?_)
            refine lv_aload_n (pc := 175) X.1 X.2.1 d_MD_others_175 rfl (lv_at hl 1 rfl) ?_
            refine lv_iconst (pc := 176) (v := 1) X.1 X.2.1 d_MD_others_176 (by decide) ?_
            refine lv_aload_n (pc := 177) X.1 X.2.1 d_MD_others_177 rfl (lv_at hl 1 rfl) ?_
            refine lv_iconst (pc := 178) (v := 2) X.1 X.2.1 d_MD_others_178 (by decide) ?_
            refine ab_kr_callV (pc := 179) (wr := []) (w := (wM t q)) (u := (stt u 0 24 (if 4 ≤ x1 then (if x1 = 4 then 18 else (if x1 = 5 then 5 else 4 : Int32) : Int32) else 10 : Int32))) (r := f_MD_pair (stt u 0 24 (if 4 ≤ x1 then (if x1 = 4 then 18 else (if x1 = 5 then 5 else 4 : Int32) : Int32) else 10 : Int32)) 2) (as := [.int 2]) (rest := [.int 1, .ref (q 0)]) X hX (c_MD_pair l D t q (stt u 0 24 (if 4 ≤ x1 then (if x1 = 4 then 18 else (if x1 = 5 then 5 else 4 : Int32) : Int32) else 10 : Int32)) 2 (ab_le3c (by decide : (2 : Nat) ≤ 3))) ok_MD_pair okv_MD_pair tw_312 0 9 rfl rfl rfl hl.1 rfl (Nat.le_of_ble_eq_true rfl) ⟨rfl, rfl, Nat.le_of_ble_eq_true rfl, Nat.le_of_ble_eq_true rfl⟩ ⟨Nat.zero_le _, Nat.zero_le _⟩ d_MD_others_179 (fun H locs hX => ?_)
            refine ab_kv_callV (pc := 182) (wr := []) (w := (wM t q)) (u := (stt u 0 24 (if 4 ≤ x1 then (if x1 = 4 then 18 else (if x1 = 5 then 5 else 4 : Int32) : Int32) else 10 : Int32))) (F := f_MD_setPair (stt u 0 24 (if 4 ≤ x1 then (if x1 = 4 then 18 else (if x1 = 5 then 5 else 4 : Int32) : Int32) else 10 : Int32)) 1 (f_MD_pair (stt u 0 24 (if 4 ≤ x1 then (if x1 = 4 then 18 else (if x1 = 5 then 5 else 4 : Int32) : Int32) else 10 : Int32)) 2)) (as := [.int 1, .int (f_MD_pair (stt u 0 24 (if 4 ≤ x1 then (if x1 = 4 then 18 else (if x1 = 5 then 5 else 4 : Int32) : Int32) else 10 : Int32)) 2)]) (rest := []) X hX (c_MD_setPair l D t q (stt u 0 24 (if 4 ≤ x1 then (if x1 = 4 then 18 else (if x1 = 5 then 5 else 4 : Int32) : Int32) else 10 : Int32)) 1 (f_MD_pair (stt u 0 24 (if 4 ≤ x1 then (if x1 = 4 then 18 else (if x1 = 5 then 5 else 4 : Int32) : Int32) else 10 : Int32)) 2) (ab_le3c (by decide : (1 : Nat) ≤ 3))) ok_MD_setPair okv_MD_setPair tw_358 0 9 rfl rfl rfl hl.1 rfl (Nat.le_of_ble_eq_true rfl) ⟨rfl, rfl, Nat.le_of_ble_eq_true rfl, Nat.le_of_ble_eq_true rfl⟩ ⟨Nat.zero_le _, Nat.zero_le _⟩ d_MD_others_182 (fun H locs hX => ?_)
            refine lv_aload_n (pc := 185) X.1 X.2.1 d_MD_others_185 rfl (lv_at hl 1 rfl) ?_
            refine lv_iconst (pc := 186) (v := 2) X.1 X.2.1 d_MD_others_186 (by decide) ?_
            refine lv_iload_n (pc := 187) X.1 X.2.1 d_MD_others_187 rfl (lv_at hl 0 rfl) ?_
            refine ab_kv_callV (pc := 188) (wr := []) (w := (wM t q)) (u := (f_MD_setPair (stt u 0 24 (if 4 ≤ x1 then (if x1 = 4 then 18 else (if x1 = 5 then 5 else 4 : Int32) : Int32) else 10 : Int32)) 1 (f_MD_pair (stt u 0 24 (if 4 ≤ x1 then (if x1 = 4 then 18 else (if x1 = 5 then 5 else 4 : Int32) : Int32) else 10 : Int32)) 2))) (F := f_MD_setPair (f_MD_setPair (stt u 0 24 (if 4 ≤ x1 then (if x1 = 4 then 18 else (if x1 = 5 then 5 else 4 : Int32) : Int32) else 10 : Int32)) 1 (f_MD_pair (stt u 0 24 (if 4 ≤ x1 then (if x1 = 4 then 18 else (if x1 = 5 then 5 else 4 : Int32) : Int32) else 10 : Int32)) 2)) 2 (f_MD_pair (stt u 0 24 (if 4 ≤ x1 then (if x1 = 4 then 18 else (if x1 = 5 then 5 else 4 : Int32) : Int32) else 10 : Int32)) 1)) (as := [.int 2, .int (f_MD_pair (stt u 0 24 (if 4 ≤ x1 then (if x1 = 4 then 18 else (if x1 = 5 then 5 else 4 : Int32) : Int32) else 10 : Int32)) 1)]) (rest := []) X hX (c_MD_setPair l D t q (f_MD_setPair (stt u 0 24 (if 4 ≤ x1 then (if x1 = 4 then 18 else (if x1 = 5 then 5 else 4 : Int32) : Int32) else 10 : Int32)) 1 (f_MD_pair (stt u 0 24 (if 4 ≤ x1 then (if x1 = 4 then 18 else (if x1 = 5 then 5 else 4 : Int32) : Int32) else 10 : Int32)) 2)) 2 (f_MD_pair (stt u 0 24 (if 4 ≤ x1 then (if x1 = 4 then 18 else (if x1 = 5 then 5 else 4 : Int32) : Int32) else 10 : Int32)) 1) (ab_le3c (by decide : (2 : Nat) ≤ 3))) ok_MD_setPair okv_MD_setPair tw_358 0 9 rfl rfl rfl hl.1 rfl (Nat.le_of_ble_eq_true rfl) ⟨rfl, rfl, Nat.le_of_ble_eq_true rfl, Nat.le_of_ble_eq_true rfl⟩ ⟨Nat.zero_le _, Nat.zero_le _⟩ d_MD_others_188 (fun H locs hX => ?_)
            refine lv_goto (pc := 191) (tgt := 231) X.1 X.2.1 d_MD_others_191 (by decide) ?_
            exact ab_kv_ret (pc := 231) X hr hk hX (by rw [f_MD_others, if_pos h4, if_neg h5, if_neg h6, if_neg h7, if_pos h8]) d_MD_others_231
        ·
          refine lv_aload_n (pc := 101) X.1 X.2.1 d_MD_others_101 rfl (lv_at hl 0 rfl) ?_
          refine lv_aload_n (pc := 102) X.1 X.2.1 d_MD_others_102 rfl (lv_at hl 0 rfl) ?_
          refine ab_gx (pc := 103) (v := .int (u 0 9)) X hX 0 9 11 rfl rfl (Nat.le_of_ble_eq_true rfl) in_MD rfl tw_305 rfl d_MD_others_103 ?_
          refine ab_kr_callV (pc := 106) (wr := []) (w := (wM t q)) (u := (stt u 0 24 (if 4 ≤ x1 then (if x1 = 4 then 18 else (if x1 = 5 then 5 else 4 : Int32) : Int32) else 10 : Int32))) (r := f_MD_read (stt u 0 24 (if 4 ≤ x1 then (if x1 = 4 then 18 else (if x1 = 5 then 5 else 4 : Int32) : Int32) else 10 : Int32)) (u 0 9)) (as := [.int (u 0 9)]) (rest := []) X hX (c_MD_read l D t q (stt u 0 24 (if 4 ≤ x1 then (if x1 = 4 then 18 else (if x1 = 5 then 5 else 4 : Int32) : Int32) else 10 : Int32)) (u 0 9)) ok_MD_read okv_MD_read tw_295 0 9 rfl rfl rfl hl.1 rfl (Nat.le_of_ble_eq_true rfl) ⟨rfl, rfl, Nat.le_of_ble_eq_true rfl, Nat.le_of_ble_eq_true rfl⟩ ⟨Nat.zero_le _, Nat.zero_le _⟩ d_MD_others_106 (fun H locs hX => ?_)
          refine lv_sipush (pc := 109) (v := 256) X.1 X.2.1 d_MD_others_109 (by decide) ?_
          refine lv_aload_n (pc := 112) X.1 X.2.1 d_MD_others_112 rfl (lv_at hl 0 rfl) ?_
          refine lv_aload_n (pc := 113) X.1 X.2.1 d_MD_others_113 rfl (lv_at hl 0 rfl) ?_
          refine ab_gx (pc := 114) (v := .int (u 0 9)) X hX 0 9 11 rfl rfl (Nat.le_of_ble_eq_true rfl) in_MD rfl tw_305 rfl d_MD_others_114 ?_
          refine lv_iconst (pc := 117) (v := 1) X.1 X.2.1 d_MD_others_117 (by decide) ?_
          refine lv_iadd (pc := 118) X.1 X.2.1 d_MD_others_118 ?_
          refine ab_kr_callV (pc := 119) (wr := []) (w := (wM t q)) (u := (stt u 0 24 (if 4 ≤ x1 then (if x1 = 4 then 18 else (if x1 = 5 then 5 else 4 : Int32) : Int32) else 10 : Int32))) (r := f_MD_read (stt u 0 24 (if 4 ≤ x1 then (if x1 = 4 then 18 else (if x1 = 5 then 5 else 4 : Int32) : Int32) else 10 : Int32)) ((u 0 9) + 1)) (as := [.int ((u 0 9) + 1)]) (rest := [.int 256, .int (f_MD_read (stt u 0 24 (if 4 ≤ x1 then (if x1 = 4 then 18 else (if x1 = 5 then 5 else 4 : Int32) : Int32) else 10 : Int32)) (u 0 9))]) X hX (c_MD_read l D t q (stt u 0 24 (if 4 ≤ x1 then (if x1 = 4 then 18 else (if x1 = 5 then 5 else 4 : Int32) : Int32) else 10 : Int32)) ((u 0 9) + 1)) ok_MD_read okv_MD_read tw_295 0 9 rfl rfl rfl hl.1 rfl (Nat.le_of_ble_eq_true rfl) ⟨rfl, rfl, Nat.le_of_ble_eq_true rfl, Nat.le_of_ble_eq_true rfl⟩ ⟨Nat.zero_le _, Nat.zero_le _⟩ d_MD_others_119 (fun H locs hX => ?_)
          refine lv_imul (pc := 122) X.1 X.2.1 d_MD_others_122 ?_
          refine lv_iadd (pc := 123) X.1 X.2.1 d_MD_others_123 ?_
          refine lv_istore_n (pc := 124) (lv' := [(2, .int ((f_MD_read (stt u 0 24 (if 4 ≤ x1 then (if x1 = 4 then 18 else (if x1 = 5 then 5 else 4 : Int32) : Int32) else 10 : Int32)) (u 0 9)) + (256 * (f_MD_read (stt u 0 24 (if 4 ≤ x1 then (if x1 = 4 then 18 else (if x1 = 5 then 5 else 4 : Int32) : Int32) else 10 : Int32)) ((u 0 9) + 1))))), (0, .ref (q 0)), (1, .int x1)]) X.1 X.2.1 d_MD_others_124 rfl hl (Nat.le_of_ble_eq_true rfl) rfl (fun ls hl => ?_)
          refine lv_aload_n (pc := 125) X.1 X.2.1 d_MD_others_125 rfl (lv_at hl 1 rfl) ?_
          refine lv_aload_n (pc := 126) X.1 X.2.1 d_MD_others_126 rfl (lv_at hl 1 rfl) ?_
          refine ab_gx (pc := 127) (v := .int (u 0 9)) X hX 0 9 11 rfl rfl (Nat.le_of_ble_eq_true rfl) in_MD rfl tw_305 rfl d_MD_others_127 ?_
          refine lv_aload_n (pc := 130) X.1 X.2.1 d_MD_others_130 rfl (lv_at hl 1 rfl) ?_
          refine ab_gx (pc := 131) (v := .ref (q 2)) X hX 0 9 5 rfl rfl (Nat.le_of_ble_eq_true rfl) in_MD rfl tw_304 rfl d_MD_others_131 ?_
          refine lv_iconst (pc := 134) (v := 5) X.1 X.2.1 d_MD_others_134 (by decide) ?_
          refine ab_ald (pc := 135) (f := u 2) (j := 5) X hX 2 0 rfl rfl (ab_inc (by decide)) rfl d_MD_others_135 ?_
          refine ab_kv_callV (pc := 136) (wr := []) (w := (wM t q)) (u := (stt u 0 24 (if 4 ≤ x1 then (if x1 = 4 then 18 else (if x1 = 5 then 5 else 4 : Int32) : Int32) else 10 : Int32))) (F := f_MD_write (stt u 0 24 (if 4 ≤ x1 then (if x1 = 4 then 18 else (if x1 = 5 then 5 else 4 : Int32) : Int32) else 10 : Int32)) (u 0 9) (u 2 5)) (as := [.int (u 0 9), .int (u 2 5)]) (rest := []) X hX (c_MD_write l D t q (stt u 0 24 (if 4 ≤ x1 then (if x1 = 4 then 18 else (if x1 = 5 then 5 else 4 : Int32) : Int32) else 10 : Int32)) (u 0 9) (u 2 5)) ok_MD_write okv_MD_write tw_316 0 9 rfl rfl rfl hl.1 rfl (Nat.le_of_ble_eq_true rfl) ⟨rfl, rfl, Nat.le_of_ble_eq_true rfl, Nat.le_of_ble_eq_true rfl⟩ ⟨Nat.zero_le _, Nat.zero_le _⟩ d_MD_others_136 (fun H locs hX => ?_)
          refine lv_aload_n (pc := 139) X.1 X.2.1 d_MD_others_139 rfl (lv_at hl 1 rfl) ?_
          refine lv_aload_n (pc := 140) X.1 X.2.1 d_MD_others_140 rfl (lv_at hl 1 rfl) ?_
          refine ab_gx (pc := 141) (v := .int ((f_MD_write (stt u 0 24 (if 4 ≤ x1 then (if x1 = 4 then 18 else (if x1 = 5 then 5 else 4 : Int32) : Int32) else 10 : Int32)) (u 0 9) (u 2 5)) 0 9)) X hX 0 9 11 rfl rfl (Nat.le_of_ble_eq_true rfl) in_MD rfl tw_305 rfl d_MD_others_141 ?_
          refine lv_iconst (pc := 144) (v := 1) X.1 X.2.1 d_MD_others_144 (by decide) ?_
          refine lv_iadd (pc := 145) X.1 X.2.1 d_MD_others_145 ?_
          refine lv_aload_n (pc := 146) X.1 X.2.1 d_MD_others_146 rfl (lv_at hl 1 rfl) ?_
          refine ab_gx (pc := 147) (v := .ref (q 2)) X hX 0 9 5 rfl rfl (Nat.le_of_ble_eq_true rfl) in_MD rfl tw_304 rfl d_MD_others_147 ?_
          refine lv_iconst (pc := 150) (v := 4) X.1 X.2.1 d_MD_others_150 (by decide) ?_
          refine ab_ald (pc := 151) (f := (f_MD_write (stt u 0 24 (if 4 ≤ x1 then (if x1 = 4 then 18 else (if x1 = 5 then 5 else 4 : Int32) : Int32) else 10 : Int32)) (u 0 9) (u 2 5)) 2) (j := 4) X hX 2 0 rfl rfl (ab_inc (by decide)) rfl d_MD_others_151 ?_
          refine ab_kv_callV (pc := 152) (wr := []) (w := (wM t q)) (u := (f_MD_write (stt u 0 24 (if 4 ≤ x1 then (if x1 = 4 then 18 else (if x1 = 5 then 5 else 4 : Int32) : Int32) else 10 : Int32)) (u 0 9) (u 2 5))) (F := f_MD_write (f_MD_write (stt u 0 24 (if 4 ≤ x1 then (if x1 = 4 then 18 else (if x1 = 5 then 5 else 4 : Int32) : Int32) else 10 : Int32)) (u 0 9) (u 2 5)) (((f_MD_write (stt u 0 24 (if 4 ≤ x1 then (if x1 = 4 then 18 else (if x1 = 5 then 5 else 4 : Int32) : Int32) else 10 : Int32)) (u 0 9) (u 2 5)) 0 9) + 1) ((f_MD_write (stt u 0 24 (if 4 ≤ x1 then (if x1 = 4 then 18 else (if x1 = 5 then 5 else 4 : Int32) : Int32) else 10 : Int32)) (u 0 9) (u 2 5)) 2 4)) (as := [.int (((f_MD_write (stt u 0 24 (if 4 ≤ x1 then (if x1 = 4 then 18 else (if x1 = 5 then 5 else 4 : Int32) : Int32) else 10 : Int32)) (u 0 9) (u 2 5)) 0 9) + 1), .int ((f_MD_write (stt u 0 24 (if 4 ≤ x1 then (if x1 = 4 then 18 else (if x1 = 5 then 5 else 4 : Int32) : Int32) else 10 : Int32)) (u 0 9) (u 2 5)) 2 4)]) (rest := []) X hX (c_MD_write l D t q (f_MD_write (stt u 0 24 (if 4 ≤ x1 then (if x1 = 4 then 18 else (if x1 = 5 then 5 else 4 : Int32) : Int32) else 10 : Int32)) (u 0 9) (u 2 5)) (((f_MD_write (stt u 0 24 (if 4 ≤ x1 then (if x1 = 4 then 18 else (if x1 = 5 then 5 else 4 : Int32) : Int32) else 10 : Int32)) (u 0 9) (u 2 5)) 0 9) + 1) ((f_MD_write (stt u 0 24 (if 4 ≤ x1 then (if x1 = 4 then 18 else (if x1 = 5 then 5 else 4 : Int32) : Int32) else 10 : Int32)) (u 0 9) (u 2 5)) 2 4)) ok_MD_write okv_MD_write tw_316 0 9 rfl rfl rfl hl.1 rfl (Nat.le_of_ble_eq_true rfl) ⟨rfl, rfl, Nat.le_of_ble_eq_true rfl, Nat.le_of_ble_eq_true rfl⟩ ⟨Nat.zero_le _, Nat.zero_le _⟩ d_MD_others_152 (fun H locs hX => ?_)
          refine lv_aload_n (pc := 155) X.1 X.2.1 d_MD_others_155 rfl (lv_at hl 1 rfl) ?_
          refine lv_iconst (pc := 156) (v := 2) X.1 X.2.1 d_MD_others_156 (by decide) ?_
          refine lv_iload_n (pc := 157) X.1 X.2.1 d_MD_others_157 rfl (lv_at hl 0 rfl) ?_
          refine ab_kv_callV (pc := 158) (wr := []) (w := (wM t q)) (u := (f_MD_write (f_MD_write (stt u 0 24 (if 4 ≤ x1 then (if x1 = 4 then 18 else (if x1 = 5 then 5 else 4 : Int32) : Int32) else 10 : Int32)) (u 0 9) (u 2 5)) (((f_MD_write (stt u 0 24 (if 4 ≤ x1 then (if x1 = 4 then 18 else (if x1 = 5 then 5 else 4 : Int32) : Int32) else 10 : Int32)) (u 0 9) (u 2 5)) 0 9) + 1) ((f_MD_write (stt u 0 24 (if 4 ≤ x1 then (if x1 = 4 then 18 else (if x1 = 5 then 5 else 4 : Int32) : Int32) else 10 : Int32)) (u 0 9) (u 2 5)) 2 4))) (F := f_MD_setPair (f_MD_write (f_MD_write (stt u 0 24 (if 4 ≤ x1 then (if x1 = 4 then 18 else (if x1 = 5 then 5 else 4 : Int32) : Int32) else 10 : Int32)) (u 0 9) (u 2 5)) (((f_MD_write (stt u 0 24 (if 4 ≤ x1 then (if x1 = 4 then 18 else (if x1 = 5 then 5 else 4 : Int32) : Int32) else 10 : Int32)) (u 0 9) (u 2 5)) 0 9) + 1) ((f_MD_write (stt u 0 24 (if 4 ≤ x1 then (if x1 = 4 then 18 else (if x1 = 5 then 5 else 4 : Int32) : Int32) else 10 : Int32)) (u 0 9) (u 2 5)) 2 4)) 2 ((f_MD_read (stt u 0 24 (if 4 ≤ x1 then (if x1 = 4 then 18 else (if x1 = 5 then 5 else 4 : Int32) : Int32) else 10 : Int32)) (u 0 9)) + (256 * (f_MD_read (stt u 0 24 (if 4 ≤ x1 then (if x1 = 4 then 18 else (if x1 = 5 then 5 else 4 : Int32) : Int32) else 10 : Int32)) ((u 0 9) + 1))))) (as := [.int 2, .int ((f_MD_read (stt u 0 24 (if 4 ≤ x1 then (if x1 = 4 then 18 else (if x1 = 5 then 5 else 4 : Int32) : Int32) else 10 : Int32)) (u 0 9)) + (256 * (f_MD_read (stt u 0 24 (if 4 ≤ x1 then (if x1 = 4 then 18 else (if x1 = 5 then 5 else 4 : Int32) : Int32) else 10 : Int32)) ((u 0 9) + 1))))]) (rest := []) X hX (c_MD_setPair l D t q (f_MD_write (f_MD_write (stt u 0 24 (if 4 ≤ x1 then (if x1 = 4 then 18 else (if x1 = 5 then 5 else 4 : Int32) : Int32) else 10 : Int32)) (u 0 9) (u 2 5)) (((f_MD_write (stt u 0 24 (if 4 ≤ x1 then (if x1 = 4 then 18 else (if x1 = 5 then 5 else 4 : Int32) : Int32) else 10 : Int32)) (u 0 9) (u 2 5)) 0 9) + 1) ((f_MD_write (stt u 0 24 (if 4 ≤ x1 then (if x1 = 4 then 18 else (if x1 = 5 then 5 else 4 : Int32) : Int32) else 10 : Int32)) (u 0 9) (u 2 5)) 2 4)) 2 ((f_MD_read (stt u 0 24 (if 4 ≤ x1 then (if x1 = 4 then 18 else (if x1 = 5 then 5 else 4 : Int32) : Int32) else 10 : Int32)) (u 0 9)) + (256 * (f_MD_read (stt u 0 24 (if 4 ≤ x1 then (if x1 = 4 then 18 else (if x1 = 5 then 5 else 4 : Int32) : Int32) else 10 : Int32)) ((u 0 9) + 1)))) (ab_le3c (by decide : (2 : Nat) ≤ 3))) ok_MD_setPair okv_MD_setPair tw_358 0 9 rfl rfl rfl hl.1 rfl (Nat.le_of_ble_eq_true rfl) ⟨rfl, rfl, Nat.le_of_ble_eq_true rfl, Nat.le_of_ble_eq_true rfl⟩ ⟨Nat.zero_le _, Nat.zero_le _⟩ d_MD_others_158 (fun H locs hX => ?_)
          refine lv_goto (pc := 161) (tgt := 231) X.1 X.2.1 d_MD_others_161 (by decide) ?_
          exact ab_kv_ret (pc := 231) X hr hk hX (by rw [f_MD_others, if_pos h4, if_neg h5, if_neg h6, if_pos h7]) d_MD_others_231
      ·
        refine lv_aload_n (pc := 78) X.1 X.2.1 d_MD_others_78 rfl (lv_at hl 0 rfl) ?_
        refine ab_gx (pc := 79) (v := .ref (q 2)) X hX 0 9 5 rfl rfl (Nat.le_of_ble_eq_true rfl) in_MD rfl tw_304 rfl d_MD_others_79 ?_
        refine lv_bipush (pc := 82) (v := 7) X.1 X.2.1 d_MD_others_82 (by decide) ?_
        refine lv_aload_n (pc := 84) X.1 X.2.1 d_MD_others_84 rfl (lv_at hl 0 rfl) ?_
        refine lv_aload_n (pc := 85) X.1 X.2.1 d_MD_others_85 rfl (lv_at hl 0 rfl) ?_
        refine ab_ki_callV (pc := 86) (wr := []) (w := (wM t q)) (u := (stt u 0 24 (if 4 ≤ x1 then (if x1 = 4 then 18 else (if x1 = 5 then 5 else 4 : Int32) : Int32) else 10 : Int32))) (F := f_MD_next (stt u 0 24 (if 4 ≤ x1 then (if x1 = 4 then 18 else (if x1 = 5 then 5 else 4 : Int32) : Int32) else 10 : Int32))) (as := []) (rest := [.ref (q 0), .int 7, .ref (q 2)]) X hX (c_MD_next l D t q (stt u 0 24 (if 4 ≤ x1 then (if x1 = 4 then 18 else (if x1 = 5 then 5 else 4 : Int32) : Int32) else 10 : Int32))) ok_MD_next okv_MD_next tw_300 0 9 rfl rfl rfl hl.1 rfl (Nat.le_of_ble_eq_true rfl) ⟨rfl, rfl, Nat.le_of_ble_eq_true rfl, Nat.le_of_ble_eq_true rfl⟩ ⟨Nat.zero_le _, Nat.zero_le _⟩ d_MD_others_86 (fun H locs hX => ?_)
        refine ab_kr_callV (pc := 89) (wr := []) (w := (wM t q)) (u := ((f_MD_next (stt u 0 24 (if 4 ≤ x1 then (if x1 = 4 then 18 else (if x1 = 5 then 5 else 4 : Int32) : Int32) else 10 : Int32))).2)) (r := f_MD_in ((f_MD_next (stt u 0 24 (if 4 ≤ x1 then (if x1 = 4 then 18 else (if x1 = 5 then 5 else 4 : Int32) : Int32) else 10 : Int32))).2) ((f_MD_next (stt u 0 24 (if 4 ≤ x1 then (if x1 = 4 then 18 else (if x1 = 5 then 5 else 4 : Int32) : Int32) else 10 : Int32))).1)) (as := [.int ((f_MD_next (stt u 0 24 (if 4 ≤ x1 then (if x1 = 4 then 18 else (if x1 = 5 then 5 else 4 : Int32) : Int32) else 10 : Int32))).1)]) (rest := [.int 7, .ref (q 2)]) X hX (c_MD_in l D t q ((f_MD_next (stt u 0 24 (if 4 ≤ x1 then (if x1 = 4 then 18 else (if x1 = 5 then 5 else 4 : Int32) : Int32) else 10 : Int32))).2) ((f_MD_next (stt u 0 24 (if 4 ≤ x1 then (if x1 = 4 then 18 else (if x1 = 5 then 5 else 4 : Int32) : Int32) else 10 : Int32))).1)) ok_MD_in okv_MD_in tw_386 0 9 rfl rfl rfl hl.1 rfl (Nat.le_of_ble_eq_true rfl) ⟨rfl, rfl, Nat.le_of_ble_eq_true rfl, Nat.le_of_ble_eq_true rfl⟩ ⟨Nat.zero_le _, Nat.zero_le _⟩ d_MD_others_89 (fun H locs hX => ?_)
        refine ab_ast (pc := 92) (f := ((f_MD_next (stt u 0 24 (if 4 ≤ x1 then (if x1 = 4 then 18 else (if x1 = 5 then 5 else 4 : Int32) : Int32) else 10 : Int32))).2) 2) (j := 7) (ws' := (wM t q (stt ((f_MD_next (stt u 0 24 (if 4 ≤ x1 then (if x1 = 4 then 18 else (if x1 = 5 then 5 else 4 : Int32) : Int32) else 10 : Int32))).2) 2 7 (f_MD_in ((f_MD_next (stt u 0 24 (if 4 ≤ x1 then (if x1 = 4 then 18 else (if x1 = 5 then 5 else 4 : Int32) : Int32) else 10 : Int32))).2) ((f_MD_next (stt u 0 24 (if 4 ≤ x1 then (if x1 = 4 then 18 else (if x1 = 5 then 5 else 4 : Int32) : Int32) else 10 : Int32))).1))))) X hX 2 0 rfl rfl (ab_inc (by decide)) rfl (sa_wM_2 t q ((f_MD_next (stt u 0 24 (if 4 ≤ x1 then (if x1 = 4 then 18 else (if x1 = 5 then 5 else 4 : Int32) : Int32) else 10 : Int32))).2) 7 (f_MD_in ((f_MD_next (stt u 0 24 (if 4 ≤ x1 then (if x1 = 4 then 18 else (if x1 = 5 then 5 else 4 : Int32) : Int32) else 10 : Int32))).2) ((f_MD_next (stt u 0 24 (if 4 ≤ x1 then (if x1 = 4 then 18 else (if x1 = 5 then 5 else 4 : Int32) : Int32) else 10 : Int32))).1))) d_MD_others_92 (fun H locs hX => ?_)
        refine lv_goto (pc := 93) (tgt := 231) X.1 X.2.1 d_MD_others_93 (by decide) ?_
        exact ab_kv_ret (pc := 231) X hr hk hX (by rw [f_MD_others, if_pos h4, if_neg h5, if_pos h6]) d_MD_others_231
    ·
      refine lv_aload_n (pc := 55) X.1 X.2.1 d_MD_others_55 rfl (lv_at hl 0 rfl) ?_
      refine lv_aload_n (pc := 56) X.1 X.2.1 d_MD_others_56 rfl (lv_at hl 0 rfl) ?_
      refine ab_ki_callV (pc := 57) (wr := []) (w := (wM t q)) (u := (stt u 0 24 (if 4 ≤ x1 then (if x1 = 4 then 18 else (if x1 = 5 then 5 else 4 : Int32) : Int32) else 10 : Int32))) (F := f_MD_next (stt u 0 24 (if 4 ≤ x1 then (if x1 = 4 then 18 else (if x1 = 5 then 5 else 4 : Int32) : Int32) else 10 : Int32))) (as := []) (rest := [.ref (q 0)]) X hX (c_MD_next l D t q (stt u 0 24 (if 4 ≤ x1 then (if x1 = 4 then 18 else (if x1 = 5 then 5 else 4 : Int32) : Int32) else 10 : Int32))) ok_MD_next okv_MD_next tw_300 0 9 rfl rfl rfl hl.1 rfl (Nat.le_of_ble_eq_true rfl) ⟨rfl, rfl, Nat.le_of_ble_eq_true rfl, Nat.le_of_ble_eq_true rfl⟩ ⟨Nat.zero_le _, Nat.zero_le _⟩ d_MD_others_57 (fun H locs hX => ?_)
      refine lv_aload_n (pc := 60) X.1 X.2.1 d_MD_others_60 rfl (lv_at hl 0 rfl) ?_
      refine ab_gx (pc := 61) (v := .ref (q 2)) X hX 0 9 5 rfl rfl (Nat.le_of_ble_eq_true rfl) in_MD rfl tw_304 rfl d_MD_others_61 ?_
      refine lv_bipush (pc := 64) (v := 7) X.1 X.2.1 d_MD_others_64 (by decide) ?_
      refine ab_ald (pc := 66) (f := ((f_MD_next (stt u 0 24 (if 4 ≤ x1 then (if x1 = 4 then 18 else (if x1 = 5 then 5 else 4 : Int32) : Int32) else 10 : Int32))).2) 2) (j := 7) X hX 2 0 rfl rfl (ab_inc (by decide)) rfl d_MD_others_66 ?_
      refine ab_kv_callV (pc := 67) (wr := []) (w := (wM t q)) (u := ((f_MD_next (stt u 0 24 (if 4 ≤ x1 then (if x1 = 4 then 18 else (if x1 = 5 then 5 else 4 : Int32) : Int32) else 10 : Int32))).2)) (F := f_MD_out ((f_MD_next (stt u 0 24 (if 4 ≤ x1 then (if x1 = 4 then 18 else (if x1 = 5 then 5 else 4 : Int32) : Int32) else 10 : Int32))).2) ((f_MD_next (stt u 0 24 (if 4 ≤ x1 then (if x1 = 4 then 18 else (if x1 = 5 then 5 else 4 : Int32) : Int32) else 10 : Int32))).1) (((f_MD_next (stt u 0 24 (if 4 ≤ x1 then (if x1 = 4 then 18 else (if x1 = 5 then 5 else 4 : Int32) : Int32) else 10 : Int32))).2) 2 7)) (as := [.int ((f_MD_next (stt u 0 24 (if 4 ≤ x1 then (if x1 = 4 then 18 else (if x1 = 5 then 5 else 4 : Int32) : Int32) else 10 : Int32))).1), .int (((f_MD_next (stt u 0 24 (if 4 ≤ x1 then (if x1 = 4 then 18 else (if x1 = 5 then 5 else 4 : Int32) : Int32) else 10 : Int32))).2) 2 7)]) (rest := []) X hX (c_MD_out l D t q ((f_MD_next (stt u 0 24 (if 4 ≤ x1 then (if x1 = 4 then 18 else (if x1 = 5 then 5 else 4 : Int32) : Int32) else 10 : Int32))).2) ((f_MD_next (stt u 0 24 (if 4 ≤ x1 then (if x1 = 4 then 18 else (if x1 = 5 then 5 else 4 : Int32) : Int32) else 10 : Int32))).1) (((f_MD_next (stt u 0 24 (if 4 ≤ x1 then (if x1 = 4 then 18 else (if x1 = 5 then 5 else 4 : Int32) : Int32) else 10 : Int32))).2) 2 7) ps) ok_MD_out okv_MD_out tw_387 0 9 rfl rfl rfl hl.1 rfl (Nat.le_of_ble_eq_true rfl) ⟨rfl, rfl, Nat.le_of_ble_eq_true rfl, Nat.le_of_ble_eq_true rfl⟩ ⟨Nat.zero_le _, Nat.zero_le _⟩ d_MD_others_67 (fun H locs hX => ?_)
      refine lv_goto (pc := 70) (tgt := 231) X.1 X.2.1 d_MD_others_70 (by decide) ?_
      exact ab_kv_ret (pc := 231) X hr hk hX (by rw [f_MD_others, if_pos h4, if_pos h5]) d_MD_others_231
  ·
    refine lv_aload_n (pc := 39) X.1 X.2.1 d_MD_others_39 rfl (lv_at hl 0 rfl) ?_
    refine lv_aload_n (pc := 40) X.1 X.2.1 d_MD_others_40 rfl (lv_at hl 0 rfl) ?_
    refine ab_ki_callV (pc := 41) (wr := []) (w := (wM t q)) (u := (stt u 0 24 (if 4 ≤ x1 then (if x1 = 4 then 18 else (if x1 = 5 then 5 else 4 : Int32) : Int32) else 10 : Int32))) (F := f_MD_nextWord (stt u 0 24 (if 4 ≤ x1 then (if x1 = 4 then 18 else (if x1 = 5 then 5 else 4 : Int32) : Int32) else 10 : Int32))) (as := []) (rest := [.ref (q 0)]) X hX (c_MD_nextWord l D t q (stt u 0 24 (if 4 ≤ x1 then (if x1 = 4 then 18 else (if x1 = 5 then 5 else 4 : Int32) : Int32) else 10 : Int32))) ok_MD_nextWord okv_MD_nextWord tw_350 0 9 rfl rfl rfl hl.1 rfl (Nat.le_of_ble_eq_true rfl) ⟨rfl, rfl, Nat.le_of_ble_eq_true rfl, Nat.le_of_ble_eq_true rfl⟩ ⟨Nat.zero_le _, Nat.zero_le _⟩ d_MD_others_41 (fun H locs hX => ?_)
    refine ab_px (pc := 44) (ws' := (wM t q (stt ((f_MD_nextWord (stt u 0 24 (if 4 ≤ x1 then (if x1 = 4 then 18 else (if x1 = 5 then 5 else 4 : Int32) : Int32) else 10 : Int32))).2) 0 10 ((f_MD_nextWord (stt u 0 24 (if 4 ≤ x1 then (if x1 = 4 then 18 else (if x1 = 5 then 5 else 4 : Int32) : Int32) else 10 : Int32))).1)))) X hX 0 9 12 ty_MD ty_MD_ok nm_MD rfl rfl (Nat.le_of_ble_eq_true rfl) in_MD rfl tw_294 rfl rfl rfl rfl (Nat.le_of_ble_eq_true rfl) (sf_wM_0_12 t q ((f_MD_nextWord (stt u 0 24 (if 4 ≤ x1 then (if x1 = 4 then 18 else (if x1 = 5 then 5 else 4 : Int32) : Int32) else 10 : Int32))).2) ((f_MD_nextWord (stt u 0 24 (if 4 ≤ x1 then (if x1 = 4 then 18 else (if x1 = 5 then 5 else 4 : Int32) : Int32) else 10 : Int32))).1)) d_MD_others_44 (fun H locs hX => ?_)
    refine lv_goto (pc := 47) (tgt := 231) X.1 X.2.1 d_MD_others_47 (by decide) ?_
    exact ab_kv_ret (pc := 231) X hr hk hX (by rw [f_MD_others, if_neg h4]) d_MD_others_231
abbrev b_MD_highOperation : ByteArray := prog_11_method_21_code
def y_MD_highOperation : MethodName := ⟨"ArcadeBoardModel", "highOperation", "(II)V"⟩
theorem d_MD_highOperation_0 : decode b_MD_highOperation 0 = .ok (.iload_n 2, 1) := by decide +kernel
theorem d_MD_highOperation_1 : decode b_MD_highOperation 1 = .ok (.ifCond .ne 47, 3) := by decide +kernel
theorem d_MD_highOperation_4 : decode b_MD_highOperation 4 = .ok (.aload_n 0, 1) := by decide +kernel
theorem d_MD_highOperation_5 : decode b_MD_highOperation 5 = .ok (.aload_n 0, 1) := by decide +kernel
theorem d_MD_highOperation_6 : decode b_MD_highOperation 6 = .ok (.iload_n 1, 1) := by decide +kernel
theorem d_MD_highOperation_7 : decode b_MD_highOperation 7 = .ok (.invokevirtual 93, 3) := by decide +kernel
theorem d_MD_highOperation_10 : decode b_MD_highOperation 10 = .ok (.ifCond .eq 8, 3) := by decide +kernel
theorem d_MD_highOperation_13 : decode b_MD_highOperation 13 = .ok (.bipush 11, 2) := by decide +kernel
theorem d_MD_highOperation_15 : decode b_MD_highOperation 15 = .ok (.goto 4, 3) := by decide +kernel
theorem d_MD_highOperation_18 : decode b_MD_highOperation 18 = .ok (.iconst 5, 1) := by decide +kernel
theorem d_MD_highOperation_19 : decode b_MD_highOperation 19 = .ok (.putfield 71, 3) := by decide +kernel
theorem d_MD_highOperation_22 : decode b_MD_highOperation 22 = .ok (.aload_n 0, 1) := by decide +kernel
theorem d_MD_highOperation_23 : decode b_MD_highOperation 23 = .ok (.aload_n 0, 1) := by decide +kernel
theorem d_MD_highOperation_24 : decode b_MD_highOperation 24 = .ok (.iload_n 1, 1) := by decide +kernel
theorem d_MD_highOperation_25 : decode b_MD_highOperation 25 = .ok (.invokevirtual 93, 3) := by decide +kernel
theorem d_MD_highOperation_28 : decode b_MD_highOperation 28 = .ok (.ifCond .eq 10, 3) := by decide +kernel
theorem d_MD_highOperation_31 : decode b_MD_highOperation 31 = .ok (.aload_n 0, 1) := by decide +kernel
theorem d_MD_highOperation_32 : decode b_MD_highOperation 32 = .ok (.invokevirtual 97, 3) := by decide +kernel
theorem d_MD_highOperation_35 : decode b_MD_highOperation 35 = .ok (.goto 7, 3) := by decide +kernel
theorem d_MD_highOperation_38 : decode b_MD_highOperation 38 = .ok (.aload_n 0, 1) := by decide +kernel
theorem d_MD_highOperation_39 : decode b_MD_highOperation 39 = .ok (.getfield 30, 3) := by decide +kernel
theorem d_MD_highOperation_42 : decode b_MD_highOperation 42 = .ok (.putfield 30, 3) := by decide +kernel
theorem d_MD_highOperation_45 : decode b_MD_highOperation 45 = .ok (.goto 250, 3) := by decide +kernel
theorem d_MD_highOperation_48 : decode b_MD_highOperation 48 = .ok (.iload_n 2, 1) := by decide +kernel
theorem d_MD_highOperation_49 : decode b_MD_highOperation 49 = .ok (.iconst 1, 1) := by decide +kernel
theorem d_MD_highOperation_50 : decode b_MD_highOperation 50 = .ok (.if_icmp .ne 11, 3) := by decide +kernel
theorem d_MD_highOperation_53 : decode b_MD_highOperation 53 = .ok (.aload_n 0, 1) := by decide +kernel
theorem d_MD_highOperation_54 : decode b_MD_highOperation 54 = .ok (.iload_n 1, 1) := by decide +kernel
theorem d_MD_highOperation_55 : decode b_MD_highOperation 55 = .ok (.invokevirtual 100, 3) := by decide +kernel
theorem d_MD_highOperation_58 : decode b_MD_highOperation 58 = .ok (.goto 237, 3) := by decide +kernel
theorem d_MD_highOperation_61 : decode b_MD_highOperation 61 = .ok (.iload_n 2, 1) := by decide +kernel
theorem d_MD_highOperation_62 : decode b_MD_highOperation 62 = .ok (.iconst 2, 1) := by decide +kernel
theorem d_MD_highOperation_63 : decode b_MD_highOperation 63 = .ok (.if_icmp .ne 37, 3) := by decide +kernel
theorem d_MD_highOperation_66 : decode b_MD_highOperation 66 = .ok (.aload_n 0, 1) := by decide +kernel
theorem d_MD_highOperation_67 : decode b_MD_highOperation 67 = .ok (.bipush 10, 2) := by decide +kernel
theorem d_MD_highOperation_69 : decode b_MD_highOperation 69 = .ok (.putfield 71, 3) := by decide +kernel
theorem d_MD_highOperation_72 : decode b_MD_highOperation 72 = .ok (.aload_n 0, 1) := by decide +kernel
theorem d_MD_highOperation_73 : decode b_MD_highOperation 73 = .ok (.invokevirtual 74, 3) := by decide +kernel
theorem d_MD_highOperation_76 : decode b_MD_highOperation 76 = .ok (.istore_n 3, 1) := by decide +kernel
theorem d_MD_highOperation_77 : decode b_MD_highOperation 77 = .ok (.aload_n 0, 1) := by decide +kernel
theorem d_MD_highOperation_78 : decode b_MD_highOperation 78 = .ok (.aload_n 0, 1) := by decide +kernel
theorem d_MD_highOperation_79 : decode b_MD_highOperation 79 = .ok (.iload_n 1, 1) := by decide +kernel
theorem d_MD_highOperation_80 : decode b_MD_highOperation 80 = .ok (.invokevirtual 93, 3) := by decide +kernel
theorem d_MD_highOperation_83 : decode b_MD_highOperation 83 = .ok (.ifCond .eq 7, 3) := by decide +kernel
theorem d_MD_highOperation_86 : decode b_MD_highOperation 86 = .ok (.iload_n 3, 1) := by decide +kernel
theorem d_MD_highOperation_87 : decode b_MD_highOperation 87 = .ok (.goto 7, 3) := by decide +kernel
theorem d_MD_highOperation_90 : decode b_MD_highOperation 90 = .ok (.aload_n 0, 1) := by decide +kernel
theorem d_MD_highOperation_91 : decode b_MD_highOperation 91 = .ok (.getfield 30, 3) := by decide +kernel
theorem d_MD_highOperation_94 : decode b_MD_highOperation 94 = .ok (.putfield 30, 3) := by decide +kernel
theorem d_MD_highOperation_97 : decode b_MD_highOperation 97 = .ok (.goto 198, 3) := by decide +kernel
theorem d_MD_highOperation_100 : decode b_MD_highOperation 100 = .ok (.iload_n 2, 1) := by decide +kernel
theorem d_MD_highOperation_101 : decode b_MD_highOperation 101 = .ok (.iconst 3, 1) := by decide +kernel
theorem d_MD_highOperation_102 : decode b_MD_highOperation 102 = .ok (.if_icmp .ne 11, 3) := by decide +kernel
theorem d_MD_highOperation_105 : decode b_MD_highOperation 105 = .ok (.aload_n 0, 1) := by decide +kernel
theorem d_MD_highOperation_106 : decode b_MD_highOperation 106 = .ok (.iload_n 1, 1) := by decide +kernel
theorem d_MD_highOperation_107 : decode b_MD_highOperation 107 = .ok (.invokevirtual 103, 3) := by decide +kernel
theorem d_MD_highOperation_110 : decode b_MD_highOperation 110 = .ok (.goto 185, 3) := by decide +kernel
theorem d_MD_highOperation_113 : decode b_MD_highOperation 113 = .ok (.iload_n 2, 1) := by decide +kernel
theorem d_MD_highOperation_114 : decode b_MD_highOperation 114 = .ok (.iconst 4, 1) := by decide +kernel
theorem d_MD_highOperation_115 : decode b_MD_highOperation 115 = .ok (.if_icmp .ne 51, 3) := by decide +kernel
theorem d_MD_highOperation_118 : decode b_MD_highOperation 118 = .ok (.aload_n 0, 1) := by decide +kernel
theorem d_MD_highOperation_119 : decode b_MD_highOperation 119 = .ok (.invokevirtual 74, 3) := by decide +kernel
theorem d_MD_highOperation_122 : decode b_MD_highOperation 122 = .ok (.istore_n 3, 1) := by decide +kernel
theorem d_MD_highOperation_123 : decode b_MD_highOperation 123 = .ok (.aload_n 0, 1) := by decide +kernel
theorem d_MD_highOperation_124 : decode b_MD_highOperation 124 = .ok (.aload_n 0, 1) := by decide +kernel
theorem d_MD_highOperation_125 : decode b_MD_highOperation 125 = .ok (.iload_n 1, 1) := by decide +kernel
theorem d_MD_highOperation_126 : decode b_MD_highOperation 126 = .ok (.invokevirtual 93, 3) := by decide +kernel
theorem d_MD_highOperation_129 : decode b_MD_highOperation 129 = .ok (.ifCond .eq 8, 3) := by decide +kernel
theorem d_MD_highOperation_132 : decode b_MD_highOperation 132 = .ok (.bipush 17, 2) := by decide +kernel
theorem d_MD_highOperation_134 : decode b_MD_highOperation 134 = .ok (.goto 5, 3) := by decide +kernel
theorem d_MD_highOperation_137 : decode b_MD_highOperation 137 = .ok (.bipush 11, 2) := by decide +kernel
theorem d_MD_highOperation_139 : decode b_MD_highOperation 139 = .ok (.putfield 71, 3) := by decide +kernel
theorem d_MD_highOperation_142 : decode b_MD_highOperation 142 = .ok (.aload_n 0, 1) := by decide +kernel
theorem d_MD_highOperation_143 : decode b_MD_highOperation 143 = .ok (.iload_n 1, 1) := by decide +kernel
theorem d_MD_highOperation_144 : decode b_MD_highOperation 144 = .ok (.invokevirtual 93, 3) := by decide +kernel
theorem d_MD_highOperation_147 : decode b_MD_highOperation 147 = .ok (.ifCond .eq 16, 3) := by decide +kernel
theorem d_MD_highOperation_150 : decode b_MD_highOperation 150 = .ok (.aload_n 0, 1) := by decide +kernel
theorem d_MD_highOperation_151 : decode b_MD_highOperation 151 = .ok (.aload_n 0, 1) := by decide +kernel
theorem d_MD_highOperation_152 : decode b_MD_highOperation 152 = .ok (.getfield 30, 3) := by decide +kernel
theorem d_MD_highOperation_155 : decode b_MD_highOperation 155 = .ok (.invokevirtual 106, 3) := by decide +kernel
theorem d_MD_highOperation_158 : decode b_MD_highOperation 158 = .ok (.aload_n 0, 1) := by decide +kernel
theorem d_MD_highOperation_159 : decode b_MD_highOperation 159 = .ok (.iload_n 3, 1) := by decide +kernel
theorem d_MD_highOperation_160 : decode b_MD_highOperation 160 = .ok (.putfield 30, 3) := by decide +kernel
theorem d_MD_highOperation_163 : decode b_MD_highOperation 163 = .ok (.goto 132, 3) := by decide +kernel
theorem d_MD_highOperation_166 : decode b_MD_highOperation 166 = .ok (.iload_n 2, 1) := by decide +kernel
theorem d_MD_highOperation_167 : decode b_MD_highOperation 167 = .ok (.iconst 5, 1) := by decide +kernel
theorem d_MD_highOperation_168 : decode b_MD_highOperation 168 = .ok (.if_icmp .ne 81, 3) := by decide +kernel
theorem d_MD_highOperation_171 : decode b_MD_highOperation 171 = .ok (.iload_n 1, 1) := by decide +kernel
theorem d_MD_highOperation_172 : decode b_MD_highOperation 172 = .ok (.iconst 2, 1) := by decide +kernel
theorem d_MD_highOperation_173 : decode b_MD_highOperation 173 = .ok (.irem, 1) := by decide +kernel
theorem d_MD_highOperation_174 : decode b_MD_highOperation 174 = .ok (.ifCond .ne 48, 3) := by decide +kernel
theorem d_MD_highOperation_177 : decode b_MD_highOperation 177 = .ok (.aload_n 0, 1) := by decide +kernel
theorem d_MD_highOperation_178 : decode b_MD_highOperation 178 = .ok (.bipush 11, 2) := by decide +kernel
theorem d_MD_highOperation_180 : decode b_MD_highOperation 180 = .ok (.putfield 71, 3) := by decide +kernel
theorem d_MD_highOperation_183 : decode b_MD_highOperation 183 = .ok (.aload_n 0, 1) := by decide +kernel
theorem d_MD_highOperation_184 : decode b_MD_highOperation 184 = .ok (.iload_n 1, 1) := by decide +kernel
theorem d_MD_highOperation_185 : decode b_MD_highOperation 185 = .ok (.bipush 6, 2) := by decide +kernel
theorem d_MD_highOperation_187 : decode b_MD_highOperation 187 = .ok (.if_icmp .ne 22, 3) := by decide +kernel
theorem d_MD_highOperation_190 : decode b_MD_highOperation 190 = .ok (.sipush 256, 3) := by decide +kernel
theorem d_MD_highOperation_193 : decode b_MD_highOperation 193 = .ok (.aload_n 0, 1) := by decide +kernel
theorem d_MD_highOperation_194 : decode b_MD_highOperation 194 = .ok (.getfield 13, 3) := by decide +kernel
theorem d_MD_highOperation_197 : decode b_MD_highOperation 197 = .ok (.bipush 7, 2) := by decide +kernel
theorem d_MD_highOperation_199 : decode b_MD_highOperation 199 = .ok (.iaload, 1) := by decide +kernel
theorem d_MD_highOperation_200 : decode b_MD_highOperation 200 = .ok (.imul, 1) := by decide +kernel
theorem d_MD_highOperation_201 : decode b_MD_highOperation 201 = .ok (.aload_n 0, 1) := by decide +kernel
theorem d_MD_highOperation_202 : decode b_MD_highOperation 202 = .ok (.invokevirtual 109, 3) := by decide +kernel
theorem d_MD_highOperation_205 : decode b_MD_highOperation 205 = .ok (.iadd, 1) := by decide +kernel
theorem d_MD_highOperation_206 : decode b_MD_highOperation 206 = .ok (.goto 10, 3) := by decide +kernel
theorem d_MD_highOperation_209 : decode b_MD_highOperation 209 = .ok (.aload_n 0, 1) := by decide +kernel
theorem d_MD_highOperation_210 : decode b_MD_highOperation 210 = .ok (.iload_n 1, 1) := by decide +kernel
theorem d_MD_highOperation_211 : decode b_MD_highOperation 211 = .ok (.iconst 2, 1) := by decide +kernel
theorem d_MD_highOperation_212 : decode b_MD_highOperation 212 = .ok (.idiv, 1) := by decide +kernel
theorem d_MD_highOperation_213 : decode b_MD_highOperation 213 = .ok (.invokevirtual 45, 3) := by decide +kernel
theorem d_MD_highOperation_216 : decode b_MD_highOperation 216 = .ok (.invokevirtual 106, 3) := by decide +kernel
theorem d_MD_highOperation_219 : decode b_MD_highOperation 219 = .ok (.goto 76, 3) := by decide +kernel
theorem d_MD_highOperation_222 : decode b_MD_highOperation 222 = .ok (.aload_n 0, 1) := by decide +kernel
theorem d_MD_highOperation_223 : decode b_MD_highOperation 223 = .ok (.bipush 17, 2) := by decide +kernel
theorem d_MD_highOperation_225 : decode b_MD_highOperation 225 = .ok (.putfield 71, 3) := by decide +kernel
theorem d_MD_highOperation_228 : decode b_MD_highOperation 228 = .ok (.aload_n 0, 1) := by decide +kernel
theorem d_MD_highOperation_229 : decode b_MD_highOperation 229 = .ok (.invokevirtual 74, 3) := by decide +kernel
theorem d_MD_highOperation_232 : decode b_MD_highOperation 232 = .ok (.istore_n 3, 1) := by decide +kernel
theorem d_MD_highOperation_233 : decode b_MD_highOperation 233 = .ok (.aload_n 0, 1) := by decide +kernel
theorem d_MD_highOperation_234 : decode b_MD_highOperation 234 = .ok (.aload_n 0, 1) := by decide +kernel
theorem d_MD_highOperation_235 : decode b_MD_highOperation 235 = .ok (.getfield 30, 3) := by decide +kernel
theorem d_MD_highOperation_238 : decode b_MD_highOperation 238 = .ok (.invokevirtual 106, 3) := by decide +kernel
theorem d_MD_highOperation_241 : decode b_MD_highOperation 241 = .ok (.aload_n 0, 1) := by decide +kernel
theorem d_MD_highOperation_242 : decode b_MD_highOperation 242 = .ok (.iload_n 3, 1) := by decide +kernel
theorem d_MD_highOperation_243 : decode b_MD_highOperation 243 = .ok (.putfield 30, 3) := by decide +kernel
theorem d_MD_highOperation_246 : decode b_MD_highOperation 246 = .ok (.goto 49, 3) := by decide +kernel
theorem d_MD_highOperation_249 : decode b_MD_highOperation 249 = .ok (.iload_n 2, 1) := by decide +kernel
theorem d_MD_highOperation_250 : decode b_MD_highOperation 250 = .ok (.bipush 6, 2) := by decide +kernel
theorem d_MD_highOperation_252 : decode b_MD_highOperation 252 = .ok (.if_icmp .ne 21, 3) := by decide +kernel
theorem d_MD_highOperation_255 : decode b_MD_highOperation 255 = .ok (.aload_n 0, 1) := by decide +kernel
theorem d_MD_highOperation_256 : decode b_MD_highOperation 256 = .ok (.bipush 7, 2) := by decide +kernel
theorem d_MD_highOperation_258 : decode b_MD_highOperation 258 = .ok (.putfield 71, 3) := by decide +kernel
theorem d_MD_highOperation_261 : decode b_MD_highOperation 261 = .ok (.aload_n 0, 1) := by decide +kernel
theorem d_MD_highOperation_262 : decode b_MD_highOperation 262 = .ok (.iload_n 1, 1) := by decide +kernel
theorem d_MD_highOperation_263 : decode b_MD_highOperation 263 = .ok (.aload_n 0, 1) := by decide +kernel
theorem d_MD_highOperation_264 : decode b_MD_highOperation 264 = .ok (.invokevirtual 38, 3) := by decide +kernel
theorem d_MD_highOperation_267 : decode b_MD_highOperation 267 = .ok (.invokevirtual 112, 3) := by decide +kernel
theorem d_MD_highOperation_270 : decode b_MD_highOperation 270 = .ok (.goto 25, 3) := by decide +kernel
theorem d_MD_highOperation_273 : decode b_MD_highOperation 273 = .ok (.aload_n 0, 1) := by decide +kernel
theorem d_MD_highOperation_274 : decode b_MD_highOperation 274 = .ok (.bipush 11, 2) := by decide +kernel
theorem d_MD_highOperation_276 : decode b_MD_highOperation 276 = .ok (.putfield 71, 3) := by decide +kernel
theorem d_MD_highOperation_279 : decode b_MD_highOperation 279 = .ok (.aload_n 0, 1) := by decide +kernel
theorem d_MD_highOperation_280 : decode b_MD_highOperation 280 = .ok (.aload_n 0, 1) := by decide +kernel
theorem d_MD_highOperation_281 : decode b_MD_highOperation 281 = .ok (.getfield 30, 3) := by decide +kernel
theorem d_MD_highOperation_284 : decode b_MD_highOperation 284 = .ok (.invokevirtual 106, 3) := by decide +kernel
theorem d_MD_highOperation_287 : decode b_MD_highOperation 287 = .ok (.aload_n 0, 1) := by decide +kernel
theorem d_MD_highOperation_288 : decode b_MD_highOperation 288 = .ok (.bipush 8, 2) := by decide +kernel
theorem d_MD_highOperation_290 : decode b_MD_highOperation 290 = .ok (.iload_n 1, 1) := by decide +kernel
theorem d_MD_highOperation_291 : decode b_MD_highOperation 291 = .ok (.imul, 1) := by decide +kernel
theorem d_MD_highOperation_292 : decode b_MD_highOperation 292 = .ok (.putfield 30, 3) := by decide +kernel
theorem d_MD_highOperation_295 : decode b_MD_highOperation 295 = .ok (.return_, 1) := by decide +kernel
theorem tw_388 : Jvm.Cond.code ⟨"ArcadeBoardModel", "highOperation", "(II)V"⟩ prog_11_method_21_code 4 (Option.none : Option Jvm.ClassFile.FieldType) ∈ AL := ab_in (ab_t4 (List.mem_of_getElem? (i := 126) (by decide +kernel))) rfl
theorem tw_389 : Jvm.Cond.instanceMethod ⟨"ArcadeBoardModel", "highOperation", "(II)V"⟩ ∈ AL := ab_in (ab_t4 (List.mem_of_getElem? (i := 125) (by decide +kernel))) rfl
theorem tw_390 : Cond.selects "ArcadeBoardModel" ⟨"ArcadeBoardModel", "highOperation", "(II)V"⟩ ⟨"ArcadeBoardModel", "highOperation", "(II)V"⟩ ∈ AL := ab_in (ab_s3 (List.mem_of_getElem? (i := 9) (by decide +kernel))) rfl
theorem tw_391 : Jvm.Cond.methodLink "ArcadeBoardModel" 106 ⟨"ArcadeBoardModel", "push", "(I)V"⟩ ∈ AL := ab_in (ab_t4 (List.mem_of_getElem? (i := 63) (by decide +kernel))) rfl
theorem tw_392 : Jvm.Cond.methodLink "ArcadeBoardModel" 112 ⟨"ArcadeBoardModel", "operate", "(II)V"⟩ ∈ AL := ab_in (ab_t4 (List.mem_of_getElem? (i := 119) (by decide +kernel))) rfl
theorem tw_393 : Jvm.Cond.methodLink "ArcadeBoardModel" 109 ⟨"ArcadeBoardModel", "flags", "()I"⟩ ∈ AL := ab_in (ab_t4 (List.mem_of_getElem? (i := 155) (by decide +kernel))) rfl
theorem tw_394 : Jvm.Cond.methodLink "ArcadeBoardModel" 93 ⟨"ArcadeBoardModel", "holds", "(I)Z"⟩ ∈ AL := ab_in (ab_t4 (List.mem_of_getElem? (i := 127) (by decide +kernel))) rfl
theorem tw_395 : Jvm.Cond.methodLink "ArcadeBoardModel" 103 ⟨"ArcadeBoardModel", "others", "(I)V"⟩ ∈ AL := ab_in (ab_t4 (List.mem_of_getElem? (i := 143) (by decide +kernel))) rfl
theorem tw_396 : Jvm.Cond.methodLink "ArcadeBoardModel" 100 ⟨"ArcadeBoardModel", "popOrSo", "(I)V"⟩ ∈ AL := ab_in (ab_t4 (List.mem_of_getElem? (i := 135) (by decide +kernel))) rfl
theorem ok_MD_highOperation : ab_yok y_MD_highOperation b_MD_highOperation 4 none 2 := ⟨tw_388, tw_280, by decide, by decide, by decide +kernel⟩
theorem okv_MD_highOperation : ab_yok_V y_MD_highOperation := ⟨tw_389, tw_390⟩
set_option maxHeartbeats 1000000 in
set_option maxRecDepth 100000 in
theorem c_MD_highOperation (l : Launch) (D : va_G) (t : Nat → ClassId) (q : Nat → Nat) (u : SS) (x1 : Int32) (x2 : Int32) (p1 : ab_lt8 x1) (ps : ab_snd (u 0 23)) : ab_kv l D (tyC t) (wM t q) y_MD_highOperation b_MD_highOperation 4 { frames := 4, cells := 0, slots := 0, locals := 85 } [.ref (q 0), .int x1, .int x2] u (f_MD_highOperation u x1 x2) := by
  refine ab_kv_ofW (by decide) (Nat.le_of_ble_eq_true rfl) (fun p e s m below meth c ls A X hr hk hl hX => ?_)
  have hl : lv_has ls 4 [(0, .ref (q 0)), (1, .int x1), (2, .int x2)] := hl
  refine lv_iload_n (pc := 0) X.1 X.2.1 d_MD_highOperation_0 rfl (lv_at hl 2 rfl) ?_
  refine lv_if_ne (pc := 1) (tgt := 48) X.1 X.2.1 d_MD_highOperation_1 (by decide) (fun h1 => ?_) (fun h1 => ?_)
  ·
    refine lv_iload_n (pc := 48) X.1 X.2.1 d_MD_highOperation_48 rfl (lv_at hl 2 rfl) ?_
    refine lv_iconst (pc := 49) (v := 1) X.1 X.2.1 d_MD_highOperation_49 (by decide) ?_
    refine lv_icmp_ne (pc := 50) (tgt := 61) X.1 X.2.1 d_MD_highOperation_50 (by decide) (fun h2 => ?_) (fun h2 => ?_)
    ·
      refine lv_iload_n (pc := 61) X.1 X.2.1 d_MD_highOperation_61 rfl (lv_at hl 2 rfl) ?_
      refine lv_iconst (pc := 62) (v := 2) X.1 X.2.1 d_MD_highOperation_62 (by decide) ?_
      refine lv_icmp_ne (pc := 63) (tgt := 100) X.1 X.2.1 d_MD_highOperation_63 (by decide) (fun h3 => ?_) (fun h3 => ?_)
      ·
        refine lv_iload_n (pc := 100) X.1 X.2.1 d_MD_highOperation_100 rfl (lv_at hl 2 rfl) ?_
        refine lv_iconst (pc := 101) (v := 3) X.1 X.2.1 d_MD_highOperation_101 (by decide) ?_
        refine lv_icmp_ne (pc := 102) (tgt := 113) X.1 X.2.1 d_MD_highOperation_102 (by decide) (fun h4 => ?_) (fun h4 => ?_)
        ·
          refine lv_iload_n (pc := 113) X.1 X.2.1 d_MD_highOperation_113 rfl (lv_at hl 2 rfl) ?_
          refine lv_iconst (pc := 114) (v := 4) X.1 X.2.1 d_MD_highOperation_114 (by decide) ?_
          refine lv_icmp_ne (pc := 115) (tgt := 166) X.1 X.2.1 d_MD_highOperation_115 (by decide) (fun h5 => ?_) (fun h5 => ?_)
          ·
            refine lv_iload_n (pc := 166) X.1 X.2.1 d_MD_highOperation_166 rfl (lv_at hl 2 rfl) ?_
            refine lv_iconst (pc := 167) (v := 5) X.1 X.2.1 d_MD_highOperation_167 (by decide) ?_
            refine lv_icmp_ne (pc := 168) (tgt := 249) X.1 X.2.1 d_MD_highOperation_168 (by decide) (fun h6 => ?_) (fun h6 => ?_)
            ·
              refine lv_iload_n (pc := 249) X.1 X.2.1 d_MD_highOperation_249 rfl (lv_at hl 2 rfl) ?_
              refine lv_bipush (pc := 250) (v := 6) X.1 X.2.1 d_MD_highOperation_250 (by decide) ?_
              refine lv_icmp_ne (pc := 252) (tgt := 273) X.1 X.2.1 d_MD_highOperation_252 (by decide) (fun h7 => ?_) (fun h7 => ?_)
              ·
                refine lv_aload_n (pc := 273) X.1 X.2.1 d_MD_highOperation_273 rfl (lv_at hl 0 rfl) ?_
                refine lv_bipush (pc := 274) (v := 11) X.1 X.2.1 d_MD_highOperation_274 (by decide) ?_
                refine ab_px (pc := 276) (ws' := (wM t q (stt u 0 24 11))) X hX 0 9 29 ty_MD ty_MD_ok nm_MD rfl rfl (Nat.le_of_ble_eq_true rfl) in_MD rfl tw_351 rfl rfl rfl rfl (Nat.le_of_ble_eq_true rfl) (sf_wM_0_29 t q u 11) d_MD_highOperation_276 (fun H locs hX => ?_)
                refine lv_aload_n (pc := 279) X.1 X.2.1 d_MD_highOperation_279 rfl (lv_at hl 0 rfl) ?_
                refine lv_aload_n (pc := 280) X.1 X.2.1 d_MD_highOperation_280 rfl (lv_at hl 0 rfl) ?_
                refine ab_gx (pc := 281) (v := .int (u 0 10)) X hX 0 9 12 rfl rfl (Nat.le_of_ble_eq_true rfl) in_MD rfl tw_294 rfl d_MD_highOperation_281 ?_
                refine ab_kv_callV (pc := 284) (wr := []) (w := (wM t q)) (u := (stt u 0 24 11)) (F := f_MD_push (stt u 0 24 11) (u 0 10)) (as := [.int (u 0 10)]) (rest := []) X hX (c_MD_push l D t q (stt u 0 24 11) (u 0 10)) ok_MD_push okv_MD_push tw_391 0 9 rfl rfl rfl hl.1 rfl (Nat.le_of_ble_eq_true rfl) ⟨rfl, rfl, Nat.le_of_ble_eq_true rfl, Nat.le_of_ble_eq_true rfl⟩ ⟨Nat.zero_le _, Nat.zero_le _⟩ d_MD_highOperation_284 (fun H locs hX => ?_)
                refine lv_aload_n (pc := 287) X.1 X.2.1 d_MD_highOperation_287 rfl (lv_at hl 0 rfl) ?_
                refine lv_bipush (pc := 288) (v := 8) X.1 X.2.1 d_MD_highOperation_288 (by decide) ?_
                refine lv_iload_n (pc := 290) X.1 X.2.1 d_MD_highOperation_290 rfl (lv_at hl 1 rfl) ?_
                refine lv_imul (pc := 291) X.1 X.2.1 d_MD_highOperation_291 ?_
                refine ab_px (pc := 292) (ws' := (wM t q (stt (f_MD_push (stt u 0 24 11) (u 0 10)) 0 10 (8 * x1)))) X hX 0 9 12 ty_MD ty_MD_ok nm_MD rfl rfl (Nat.le_of_ble_eq_true rfl) in_MD rfl tw_294 rfl rfl rfl rfl (Nat.le_of_ble_eq_true rfl) (sf_wM_0_12 t q (f_MD_push (stt u 0 24 11) (u 0 10)) (8 * x1)) d_MD_highOperation_292 (fun H locs hX => ?_)
                exact ab_kv_ret (pc := 295) X hr hk hX (by rw [f_MD_highOperation, if_neg h1, if_neg h2, if_neg h3, if_neg h4, if_neg h5, if_neg h6, if_neg h7]) d_MD_highOperation_295
              ·
                refine lv_aload_n (pc := 255) X.1 X.2.1 d_MD_highOperation_255 rfl (lv_at hl 0 rfl) ?_
                refine lv_bipush (pc := 256) (v := 7) X.1 X.2.1 d_MD_highOperation_256 (by decide) ?_
                refine ab_px (pc := 258) (ws' := (wM t q (stt u 0 24 7))) X hX 0 9 29 ty_MD ty_MD_ok nm_MD rfl rfl (Nat.le_of_ble_eq_true rfl) in_MD rfl tw_351 rfl rfl rfl rfl (Nat.le_of_ble_eq_true rfl) (sf_wM_0_29 t q u 7) d_MD_highOperation_258 (fun H locs hX => ?_)
                refine lv_aload_n (pc := 261) X.1 X.2.1 d_MD_highOperation_261 rfl (lv_at hl 0 rfl) ?_
                refine lv_iload_n (pc := 262) X.1 X.2.1 d_MD_highOperation_262 rfl (lv_at hl 1 rfl) ?_
                refine lv_aload_n (pc := 263) X.1 X.2.1 d_MD_highOperation_263 rfl (lv_at hl 0 rfl) ?_
                refine ab_ki_callV (pc := 264) (wr := []) (w := (wM t q)) (u := (stt u 0 24 7)) (F := f_MD_next (stt u 0 24 7)) (as := []) (rest := [.int x1, .ref (q 0)]) X hX (c_MD_next l D t q (stt u 0 24 7)) ok_MD_next okv_MD_next tw_300 0 9 rfl rfl rfl hl.1 rfl (Nat.le_of_ble_eq_true rfl) ⟨rfl, rfl, Nat.le_of_ble_eq_true rfl, Nat.le_of_ble_eq_true rfl⟩ ⟨Nat.zero_le _, Nat.zero_le _⟩ d_MD_highOperation_264 (fun H locs hX => ?_)
                refine ab_kv_callV (pc := 267) (wr := []) (w := (wM t q)) (u := ((f_MD_next (stt u 0 24 7)).2)) (F := f_MD_operate ((f_MD_next (stt u 0 24 7)).2) x1 ((f_MD_next (stt u 0 24 7)).1)) (as := [.int x1, .int ((f_MD_next (stt u 0 24 7)).1)]) (rest := []) X hX (c_MD_operate l D t q ((f_MD_next (stt u 0 24 7)).2) x1 ((f_MD_next (stt u 0 24 7)).1)) ok_MD_operate okv_MD_operate tw_392 0 9 rfl rfl rfl hl.1 rfl (Nat.le_of_ble_eq_true rfl) ⟨rfl, rfl, Nat.le_of_ble_eq_true rfl, Nat.le_of_ble_eq_true rfl⟩ ⟨Nat.zero_le _, Nat.zero_le _⟩ d_MD_highOperation_267 (fun H locs hX => ?_)
                refine lv_goto (pc := 270) (tgt := 295) X.1 X.2.1 d_MD_highOperation_270 (by decide) ?_
                exact ab_kv_ret (pc := 295) X hr hk hX (by rw [f_MD_highOperation, if_neg h1, if_neg h2, if_neg h3, if_neg h4, if_neg h5, if_neg h6, if_pos h7]) d_MD_highOperation_295
            ·
              refine lv_iload_n (pc := 171) X.1 X.2.1 d_MD_highOperation_171 rfl (lv_at hl 1 rfl) ?_
              refine lv_iconst (pc := 172) (v := 2) X.1 X.2.1 d_MD_highOperation_172 (by decide) ?_
              refine lv_irem (pc := 173) X.1 X.2.1 d_MD_highOperation_173 (by decide) ?_
              refine lv_if_ne (pc := 174) (tgt := 222) X.1 X.2.1 d_MD_highOperation_174 (by decide) (fun h8 => ?_) (fun h8 => ?_)
              ·
                refine lv_aload_n (pc := 222) X.1 X.2.1 d_MD_highOperation_222 rfl (lv_at hl 0 rfl) ?_
                refine lv_bipush (pc := 223) (v := 17) X.1 X.2.1 d_MD_highOperation_223 (by decide) ?_
                refine ab_px (pc := 225) (ws' := (wM t q (stt u 0 24 17))) X hX 0 9 29 ty_MD ty_MD_ok nm_MD rfl rfl (Nat.le_of_ble_eq_true rfl) in_MD rfl tw_351 rfl rfl rfl rfl (Nat.le_of_ble_eq_true rfl) (sf_wM_0_29 t q u 17) d_MD_highOperation_225 (fun H locs hX => ?_)
                refine lv_aload_n (pc := 228) X.1 X.2.1 d_MD_highOperation_228 rfl (lv_at hl 0 rfl) ?_
                refine ab_ki_callV (pc := 229) (wr := []) (w := (wM t q)) (u := (stt u 0 24 17)) (F := f_MD_nextWord (stt u 0 24 17)) (as := []) (rest := []) X hX (c_MD_nextWord l D t q (stt u 0 24 17)) ok_MD_nextWord okv_MD_nextWord tw_350 0 9 rfl rfl rfl hl.1 rfl (Nat.le_of_ble_eq_true rfl) ⟨rfl, rfl, Nat.le_of_ble_eq_true rfl, Nat.le_of_ble_eq_true rfl⟩ ⟨Nat.zero_le _, Nat.zero_le _⟩ d_MD_highOperation_229 (fun H locs hX => ?_)
                refine lv_istore_n (pc := 232) (lv' := [(3, .int ((f_MD_nextWord (stt u 0 24 17)).1)), (0, .ref (q 0)), (1, .int x1), (2, .int x2)]) X.1 X.2.1 d_MD_highOperation_232 rfl hl (Nat.le_of_ble_eq_true rfl) rfl (fun ls hl => ?_)
                refine lv_aload_n (pc := 233) X.1 X.2.1 d_MD_highOperation_233 rfl (lv_at hl 1 rfl) ?_
                refine lv_aload_n (pc := 234) X.1 X.2.1 d_MD_highOperation_234 rfl (lv_at hl 1 rfl) ?_
                refine ab_gx (pc := 235) (v := .int (((f_MD_nextWord (stt u 0 24 17)).2) 0 10)) X hX 0 9 12 rfl rfl (Nat.le_of_ble_eq_true rfl) in_MD rfl tw_294 rfl d_MD_highOperation_235 ?_
                refine ab_kv_callV (pc := 238) (wr := []) (w := (wM t q)) (u := ((f_MD_nextWord (stt u 0 24 17)).2)) (F := f_MD_push ((f_MD_nextWord (stt u 0 24 17)).2) (((f_MD_nextWord (stt u 0 24 17)).2) 0 10)) (as := [.int (((f_MD_nextWord (stt u 0 24 17)).2) 0 10)]) (rest := []) X hX (c_MD_push l D t q ((f_MD_nextWord (stt u 0 24 17)).2) (((f_MD_nextWord (stt u 0 24 17)).2) 0 10)) ok_MD_push okv_MD_push tw_391 0 9 rfl rfl rfl hl.1 rfl (Nat.le_of_ble_eq_true rfl) ⟨rfl, rfl, Nat.le_of_ble_eq_true rfl, Nat.le_of_ble_eq_true rfl⟩ ⟨Nat.zero_le _, Nat.zero_le _⟩ d_MD_highOperation_238 (fun H locs hX => ?_)
                refine lv_aload_n (pc := 241) X.1 X.2.1 d_MD_highOperation_241 rfl (lv_at hl 1 rfl) ?_
                refine lv_iload_n (pc := 242) X.1 X.2.1 d_MD_highOperation_242 rfl (lv_at hl 0 rfl) ?_
                refine ab_px (pc := 243) (ws' := (wM t q (stt (f_MD_push ((f_MD_nextWord (stt u 0 24 17)).2) (((f_MD_nextWord (stt u 0 24 17)).2) 0 10)) 0 10 ((f_MD_nextWord (stt u 0 24 17)).1)))) X hX 0 9 12 ty_MD ty_MD_ok nm_MD rfl rfl (Nat.le_of_ble_eq_true rfl) in_MD rfl tw_294 rfl rfl rfl rfl (Nat.le_of_ble_eq_true rfl) (sf_wM_0_12 t q (f_MD_push ((f_MD_nextWord (stt u 0 24 17)).2) (((f_MD_nextWord (stt u 0 24 17)).2) 0 10)) ((f_MD_nextWord (stt u 0 24 17)).1)) d_MD_highOperation_243 (fun H locs hX => ?_)
                refine lv_goto (pc := 246) (tgt := 295) X.1 X.2.1 d_MD_highOperation_246 (by decide) ?_
                exact ab_kv_ret (pc := 295) X hr hk hX (by rw [f_MD_highOperation, if_neg h1, if_neg h2, if_neg h3, if_neg h4, if_neg h5, if_pos h6, if_neg h8]) d_MD_highOperation_295
              ·
                refine lv_aload_n (pc := 177) X.1 X.2.1 d_MD_highOperation_177 rfl (lv_at hl 0 rfl) ?_
                refine lv_bipush (pc := 178) (v := 11) X.1 X.2.1 d_MD_highOperation_178 (by decide) ?_
                refine ab_px (pc := 180) (ws' := (wM t q (stt u 0 24 11))) X hX 0 9 29 ty_MD ty_MD_ok nm_MD rfl rfl (Nat.le_of_ble_eq_true rfl) in_MD rfl tw_351 rfl rfl rfl rfl (Nat.le_of_ble_eq_true rfl) (sf_wM_0_29 t q u 11) d_MD_highOperation_180 (fun H locs hX => ?_)
                refine lv_aload_n (pc := 183) X.1 X.2.1 d_MD_highOperation_183 rfl (lv_at hl 0 rfl) ?_
                refine lv_iload_n (pc := 184) X.1 X.2.1 d_MD_highOperation_184 rfl (lv_at hl 1 rfl) ?_
                refine lv_bipush (pc := 185) (v := 6) X.1 X.2.1 d_MD_highOperation_185 (by decide) ?_
                refine lv_icmp_ne (pc := 187) (tgt := 209) X.1 X.2.1 d_MD_highOperation_187 (by decide) (fun h9 => ?_) (fun h9 => ?_)
                ·
                  refine lv_aload_n (pc := 209) X.1 X.2.1 d_MD_highOperation_209 rfl (lv_at hl 0 rfl) ?_
                  refine lv_iload_n (pc := 210) X.1 X.2.1 d_MD_highOperation_210 rfl (lv_at hl 1 rfl) ?_
                  refine lv_iconst (pc := 211) (v := 2) X.1 X.2.1 d_MD_highOperation_211 (by decide) ?_
                  refine lv_idiv (pc := 212) X.1 X.2.1 d_MD_highOperation_212 (by decide) ?_
                  refine ab_kr_callV (pc := 213) (wr := []) (w := (wM t q)) (u := (stt u 0 24 11)) (r := f_MD_pair (stt u 0 24 11) (x1 / 2)) (as := [.int (x1 / 2)]) (rest := [.ref (q 0)]) X hX (c_MD_pair l D t q (stt u 0 24 11) (x1 / 2) (ab_half p1)) ok_MD_pair okv_MD_pair tw_312 0 9 rfl rfl rfl hl.1 rfl (Nat.le_of_ble_eq_true rfl) ⟨rfl, rfl, Nat.le_of_ble_eq_true rfl, Nat.le_of_ble_eq_true rfl⟩ ⟨Nat.zero_le _, Nat.zero_le _⟩ d_MD_highOperation_213 (fun H locs hX => ?_)
                  refine ab_kv_callV (pc := 216) (wr := []) (w := (wM t q)) (u := (stt u 0 24 11)) (F := f_MD_push (stt u 0 24 11) (f_MD_pair (stt u 0 24 11) (x1 / 2))) (as := [.int (f_MD_pair (stt u 0 24 11) (x1 / 2))]) (rest := []) X hX (c_MD_push l D t q (stt u 0 24 11) (f_MD_pair (stt u 0 24 11) (x1 / 2))) ok_MD_push okv_MD_push tw_391 0 9 rfl rfl rfl hl.1 rfl (Nat.le_of_ble_eq_true rfl) ⟨rfl, rfl, Nat.le_of_ble_eq_true rfl, Nat.le_of_ble_eq_true rfl⟩ ⟨Nat.zero_le _, Nat.zero_le _⟩ d_MD_highOperation_216 (fun H locs hX => ?_)
                  refine lv_goto (pc := 219) (tgt := 295) X.1 X.2.1 d_MD_highOperation_219 (by decide) ?_
                  exact ab_kv_ret (pc := 295) X hr hk hX (by rw [f_MD_highOperation, if_neg h1, if_neg h2, if_neg h3, if_neg h4, if_neg h5, if_pos h6, if_pos h8, if_neg h9]) d_MD_highOperation_295
                ·
                  refine lv_sipush (pc := 190) (v := 256) X.1 X.2.1 d_MD_highOperation_190 (by decide) ?_
                  refine lv_aload_n (pc := 193) X.1 X.2.1 d_MD_highOperation_193 rfl (lv_at hl 0 rfl) ?_
                  refine ab_gx (pc := 194) (v := .ref (q 2)) X hX 0 9 5 rfl rfl (Nat.le_of_ble_eq_true rfl) in_MD rfl tw_304 rfl d_MD_highOperation_194 ?_
                  refine lv_bipush (pc := 197) (v := 7) X.1 X.2.1 d_MD_highOperation_197 (by decide) ?_
                  refine ab_ald (pc := 199) (f := u 2) (j := 7) X hX 2 0 rfl rfl (ab_inc (by decide)) rfl d_MD_highOperation_199 ?_
                  refine lv_imul (pc := 200) X.1 X.2.1 d_MD_highOperation_200 ?_
                  refine lv_aload_n (pc := 201) X.1 X.2.1 d_MD_highOperation_201 rfl (lv_at hl 0 rfl) ?_
                  refine ab_kr_callV (pc := 202) (wr := []) (w := (wM t q)) (u := (stt u 0 24 11)) (r := f_MD_flags (stt u 0 24 11)) (as := []) (rest := [.int (256 * (u 2 7)), .ref (q 0)]) X hX (c_MD_flags l D t q (stt u 0 24 11)) ok_MD_flags okv_MD_flags tw_393 0 9 rfl rfl rfl hl.1 rfl (Nat.le_of_ble_eq_true rfl) ⟨rfl, rfl, Nat.le_of_ble_eq_true rfl, Nat.le_of_ble_eq_true rfl⟩ ⟨Nat.zero_le _, Nat.zero_le _⟩ d_MD_highOperation_202 (fun H locs hX => ?_)
                  refine lv_iadd (pc := 205) X.1 X.2.1 d_MD_highOperation_205 ?_
                  refine lv_goto (pc := 206) (tgt := 216) X.1 X.2.1 d_MD_highOperation_206 (by decide) ?_
                  refine ab_kv_callV (pc := 216) (wr := []) (w := (wM t q)) (u := (stt u 0 24 11)) (F := f_MD_push (stt u 0 24 11) ((256 * (u 2 7)) + (f_MD_flags (stt u 0 24 11)))) (as := [.int ((256 * (u 2 7)) + (f_MD_flags (stt u 0 24 11)))]) (rest := []) X hX (c_MD_push l D t q (stt u 0 24 11) ((256 * (u 2 7)) + (f_MD_flags (stt u 0 24 11)))) ok_MD_push okv_MD_push tw_391 0 9 rfl rfl rfl hl.1 rfl (Nat.le_of_ble_eq_true rfl) ⟨rfl, rfl, Nat.le_of_ble_eq_true rfl, Nat.le_of_ble_eq_true rfl⟩ ⟨Nat.zero_le _, Nat.zero_le _⟩ d_MD_highOperation_216 (fun H locs hX => ?_)
                  refine lv_goto (pc := 219) (tgt := 295) X.1 X.2.1 d_MD_highOperation_219 (by decide) ?_
                  exact ab_kv_ret (pc := 295) X hr hk hX (by rw [f_MD_highOperation, if_neg h1, if_neg h2, if_neg h3, if_neg h4, if_neg h5, if_pos h6, if_pos h8, if_pos h9]) d_MD_highOperation_295
          ·
            refine lv_aload_n (pc := 118) X.1 X.2.1 d_MD_highOperation_118 rfl (lv_at hl 0 rfl) ?_
            refine ab_ki_callV (pc := 119) (wr := []) (w := (wM t q)) (u := u) (F := f_MD_nextWord u) (as := []) (rest := []) X hX (c_MD_nextWord l D t q u) ok_MD_nextWord okv_MD_nextWord tw_350 0 9 rfl rfl rfl hl.1 rfl (Nat.le_of_ble_eq_true rfl) ⟨rfl, rfl, Nat.le_of_ble_eq_true rfl, Nat.le_of_ble_eq_true rfl⟩ ⟨Nat.zero_le _, Nat.zero_le _⟩ d_MD_highOperation_119 (fun H locs hX => ?_)
            refine lv_istore_n (pc := 122) (lv' := [(3, .int ((f_MD_nextWord u).1)), (0, .ref (q 0)), (1, .int x1), (2, .int x2)]) X.1 X.2.1 d_MD_highOperation_122 rfl hl (Nat.le_of_ble_eq_true rfl) rfl (fun ls hl => ?_)
            refine lv_aload_n (pc := 123) X.1 X.2.1 d_MD_highOperation_123 rfl (lv_at hl 1 rfl) ?_
            refine lv_aload_n (pc := 124) X.1 X.2.1 d_MD_highOperation_124 rfl (lv_at hl 1 rfl) ?_
            refine lv_iload_n (pc := 125) X.1 X.2.1 d_MD_highOperation_125 rfl (lv_at hl 2 rfl) ?_
            refine ab_kr_callV (pc := 126) (wr := []) (w := (wM t q)) (u := ((f_MD_nextWord u).2)) (r := f_MD_holds ((f_MD_nextWord u).2) x1) (as := [.int x1]) (rest := [.ref (q 0)]) X hX (c_MD_holds l D t q ((f_MD_nextWord u).2) x1) ok_MD_holds okv_MD_holds tw_394 0 9 rfl rfl rfl hl.1 rfl (Nat.le_of_ble_eq_true rfl) ⟨rfl, rfl, Nat.le_of_ble_eq_true rfl, Nat.le_of_ble_eq_true rfl⟩ ⟨Nat.zero_le _, Nat.zero_le _⟩ d_MD_highOperation_126 (fun H locs hX => ?_)
            refine ab_jn (ls := ls) (rest := [.ref (q 0)]) 139 (if (f_MD_holds ((f_MD_nextWord u).2) x1) = 0 then 11 else 17 : Int32) ?_ (fun J => ?_)
            rotate_left
            ·
              refine lv_if_eq (pc := 129) (tgt := 137) X.1 X.2.1 d_MD_highOperation_129 (by decide) (fun h10 => ?_) (fun h10 => ?_)
              ·
                refine lv_bipush (pc := 137) (v := 11) X.1 X.2.1 d_MD_highOperation_137 (by decide) ?_
                exact ab_jt (by rw [if_pos h10]) J
              ·
                refine lv_bipush (pc := 132) (v := 17) X.1 X.2.1 d_MD_highOperation_132 (by decide) ?_
                refine lv_goto (pc := 134) (tgt := 139) X.1 X.2.1 d_MD_highOperation_134 (by decide) ?_
                exact ab_jt (by rw [if_neg h10]) J
            refine ab_px (pc := 139) (ws' := (wM t q (stt ((f_MD_nextWord u).2) 0 24 (if (f_MD_holds ((f_MD_nextWord u).2) x1) = 0 then 11 else 17 : Int32)))) X hX 0 9 29 ty_MD ty_MD_ok nm_MD rfl rfl (Nat.le_of_ble_eq_true rfl) in_MD rfl tw_351 rfl rfl rfl rfl (Nat.le_of_ble_eq_true rfl) (sf_wM_0_29 t q ((f_MD_nextWord u).2) (if (f_MD_holds ((f_MD_nextWord u).2) x1) = 0 then 11 else 17 : Int32)) d_MD_highOperation_139 (fun H locs hX => ?_)
            refine lv_aload_n (pc := 142) X.1 X.2.1 d_MD_highOperation_142 rfl (lv_at hl 1 rfl) ?_
            refine lv_iload_n (pc := 143) X.1 X.2.1 d_MD_highOperation_143 rfl (lv_at hl 2 rfl) ?_
            refine ab_kr_callV (pc := 144) (wr := []) (w := (wM t q)) (u := (stt ((f_MD_nextWord u).2) 0 24 (if (f_MD_holds ((f_MD_nextWord u).2) x1) = 0 then 11 else 17 : Int32))) (r := f_MD_holds (stt ((f_MD_nextWord u).2) 0 24 (if (f_MD_holds ((f_MD_nextWord u).2) x1) = 0 then 11 else 17 : Int32)) x1) (as := [.int x1]) (rest := []) X hX (c_MD_holds l D t q (stt ((f_MD_nextWord u).2) 0 24 (if (f_MD_holds ((f_MD_nextWord u).2) x1) = 0 then 11 else 17 : Int32)) x1) ok_MD_holds okv_MD_holds tw_394 0 9 rfl rfl rfl hl.1 rfl (Nat.le_of_ble_eq_true rfl) ⟨rfl, rfl, Nat.le_of_ble_eq_true rfl, Nat.le_of_ble_eq_true rfl⟩ ⟨Nat.zero_le _, Nat.zero_le _⟩ d_MD_highOperation_144 (fun H locs hX => ?_)
            refine lv_if_eq (pc := 147) (tgt := 163) X.1 X.2.1 d_MD_highOperation_147 (by decide) (fun h11 => ?_) (fun h11 => ?_)
            ·
              refine lv_goto (pc := 163) (tgt := 295) X.1 X.2.1 d_MD_highOperation_163 (by decide) ?_
              exact ab_kv_ret (pc := 295) X hr hk hX (by rw [f_MD_highOperation, if_neg h1, if_neg h2, if_neg h3, if_neg h4, if_pos h5, if_pos h11]) d_MD_highOperation_295
            ·
              refine lv_aload_n (pc := 150) X.1 X.2.1 d_MD_highOperation_150 rfl (lv_at hl 1 rfl) ?_
              refine lv_aload_n (pc := 151) X.1 X.2.1 d_MD_highOperation_151 rfl (lv_at hl 1 rfl) ?_
              refine ab_gx (pc := 152) (v := .int (((f_MD_nextWord u).2) 0 10)) X hX 0 9 12 rfl rfl (Nat.le_of_ble_eq_true rfl) in_MD rfl tw_294 rfl d_MD_highOperation_152 ?_
              refine ab_kv_callV (pc := 155) (wr := []) (w := (wM t q)) (u := (stt ((f_MD_nextWord u).2) 0 24 (if (f_MD_holds ((f_MD_nextWord u).2) x1) = 0 then 11 else 17 : Int32))) (F := f_MD_push (stt ((f_MD_nextWord u).2) 0 24 (if (f_MD_holds ((f_MD_nextWord u).2) x1) = 0 then 11 else 17 : Int32)) (((f_MD_nextWord u).2) 0 10)) (as := [.int (((f_MD_nextWord u).2) 0 10)]) (rest := []) X hX (c_MD_push l D t q (stt ((f_MD_nextWord u).2) 0 24 (if (f_MD_holds ((f_MD_nextWord u).2) x1) = 0 then 11 else 17 : Int32)) (((f_MD_nextWord u).2) 0 10)) ok_MD_push okv_MD_push tw_391 0 9 rfl rfl rfl hl.1 rfl (Nat.le_of_ble_eq_true rfl) ⟨rfl, rfl, Nat.le_of_ble_eq_true rfl, Nat.le_of_ble_eq_true rfl⟩ ⟨Nat.zero_le _, Nat.zero_le _⟩ d_MD_highOperation_155 (fun H locs hX => ?_)
              refine lv_aload_n (pc := 158) X.1 X.2.1 d_MD_highOperation_158 rfl (lv_at hl 1 rfl) ?_
              refine lv_iload_n (pc := 159) X.1 X.2.1 d_MD_highOperation_159 rfl (lv_at hl 0 rfl) ?_
              refine ab_px (pc := 160) (ws' := (wM t q (stt (f_MD_push (stt ((f_MD_nextWord u).2) 0 24 (if (f_MD_holds ((f_MD_nextWord u).2) x1) = 0 then 11 else 17 : Int32)) (((f_MD_nextWord u).2) 0 10)) 0 10 ((f_MD_nextWord u).1)))) X hX 0 9 12 ty_MD ty_MD_ok nm_MD rfl rfl (Nat.le_of_ble_eq_true rfl) in_MD rfl tw_294 rfl rfl rfl rfl (Nat.le_of_ble_eq_true rfl) (sf_wM_0_12 t q (f_MD_push (stt ((f_MD_nextWord u).2) 0 24 (if (f_MD_holds ((f_MD_nextWord u).2) x1) = 0 then 11 else 17 : Int32)) (((f_MD_nextWord u).2) 0 10)) ((f_MD_nextWord u).1)) d_MD_highOperation_160 (fun H locs hX => ?_)
              refine lv_goto (pc := 163) (tgt := 295) X.1 X.2.1 d_MD_highOperation_163 (by decide) ?_
              exact ab_kv_ret (pc := 295) X hr hk hX (by rw [f_MD_highOperation, if_neg h1, if_neg h2, if_neg h3, if_neg h4, if_pos h5, if_neg h11]) d_MD_highOperation_295
        ·
          refine lv_aload_n (pc := 105) X.1 X.2.1 d_MD_highOperation_105 rfl (lv_at hl 0 rfl) ?_
          refine lv_iload_n (pc := 106) X.1 X.2.1 d_MD_highOperation_106 rfl (lv_at hl 1 rfl) ?_
          refine ab_kv_callV (pc := 107) (wr := []) (w := (wM t q)) (u := u) (F := f_MD_others u x1) (as := [.int x1]) (rest := []) X hX (c_MD_others l D t q u x1 p1 ps) ok_MD_others okv_MD_others tw_395 0 9 rfl rfl rfl hl.1 rfl (Nat.le_of_ble_eq_true rfl) ⟨rfl, rfl, Nat.le_of_ble_eq_true rfl, Nat.le_of_ble_eq_true rfl⟩ ⟨Nat.zero_le _, Nat.zero_le _⟩ d_MD_highOperation_107 (fun H locs hX => ?_)
          refine lv_goto (pc := 110) (tgt := 295) X.1 X.2.1 d_MD_highOperation_110 (by decide) ?_
          exact ab_kv_ret (pc := 295) X hr hk hX (by rw [f_MD_highOperation, if_neg h1, if_neg h2, if_neg h3, if_pos h4]) d_MD_highOperation_295
      ·
        refine lv_aload_n (pc := 66) X.1 X.2.1 d_MD_highOperation_66 rfl (lv_at hl 0 rfl) ?_
        refine lv_bipush (pc := 67) (v := 10) X.1 X.2.1 d_MD_highOperation_67 (by decide) ?_
        refine ab_px (pc := 69) (ws' := (wM t q (stt u 0 24 10))) X hX 0 9 29 ty_MD ty_MD_ok nm_MD rfl rfl (Nat.le_of_ble_eq_true rfl) in_MD rfl tw_351 rfl rfl rfl rfl (Nat.le_of_ble_eq_true rfl) (sf_wM_0_29 t q u 10) d_MD_highOperation_69 (fun H locs hX => ?_)
        refine lv_aload_n (pc := 72) X.1 X.2.1 d_MD_highOperation_72 rfl (lv_at hl 0 rfl) ?_
        refine ab_ki_callV (pc := 73) (wr := []) (w := (wM t q)) (u := (stt u 0 24 10)) (F := f_MD_nextWord (stt u 0 24 10)) (as := []) (rest := []) X hX (c_MD_nextWord l D t q (stt u 0 24 10)) ok_MD_nextWord okv_MD_nextWord tw_350 0 9 rfl rfl rfl hl.1 rfl (Nat.le_of_ble_eq_true rfl) ⟨rfl, rfl, Nat.le_of_ble_eq_true rfl, Nat.le_of_ble_eq_true rfl⟩ ⟨Nat.zero_le _, Nat.zero_le _⟩ d_MD_highOperation_73 (fun H locs hX => ?_)
        refine lv_istore_n (pc := 76) (lv' := [(3, .int ((f_MD_nextWord (stt u 0 24 10)).1)), (0, .ref (q 0)), (1, .int x1), (2, .int x2)]) X.1 X.2.1 d_MD_highOperation_76 rfl hl (Nat.le_of_ble_eq_true rfl) rfl (fun ls hl => ?_)
        refine lv_aload_n (pc := 77) X.1 X.2.1 d_MD_highOperation_77 rfl (lv_at hl 1 rfl) ?_
        refine lv_aload_n (pc := 78) X.1 X.2.1 d_MD_highOperation_78 rfl (lv_at hl 1 rfl) ?_
        refine lv_iload_n (pc := 79) X.1 X.2.1 d_MD_highOperation_79 rfl (lv_at hl 2 rfl) ?_
        refine ab_kr_callV (pc := 80) (wr := []) (w := (wM t q)) (u := ((f_MD_nextWord (stt u 0 24 10)).2)) (r := f_MD_holds ((f_MD_nextWord (stt u 0 24 10)).2) x1) (as := [.int x1]) (rest := [.ref (q 0)]) X hX (c_MD_holds l D t q ((f_MD_nextWord (stt u 0 24 10)).2) x1) ok_MD_holds okv_MD_holds tw_394 0 9 rfl rfl rfl hl.1 rfl (Nat.le_of_ble_eq_true rfl) ⟨rfl, rfl, Nat.le_of_ble_eq_true rfl, Nat.le_of_ble_eq_true rfl⟩ ⟨Nat.zero_le _, Nat.zero_le _⟩ d_MD_highOperation_80 (fun H locs hX => ?_)
        refine ab_jn (ls := ls) (rest := [.ref (q 0)]) 94 (if (f_MD_holds ((f_MD_nextWord (stt u 0 24 10)).2) x1) = 0 then (((f_MD_nextWord (stt u 0 24 10)).2) 0 10) else ((f_MD_nextWord (stt u 0 24 10)).1) : Int32) ?_ (fun J => ?_)
        rotate_left
        ·
          refine lv_if_eq (pc := 83) (tgt := 90) X.1 X.2.1 d_MD_highOperation_83 (by decide) (fun h12 => ?_) (fun h12 => ?_)
          ·
            refine lv_aload_n (pc := 90) X.1 X.2.1 d_MD_highOperation_90 rfl (lv_at hl 1 rfl) ?_
            refine ab_gx (pc := 91) (v := .int (((f_MD_nextWord (stt u 0 24 10)).2) 0 10)) X hX 0 9 12 rfl rfl (Nat.le_of_ble_eq_true rfl) in_MD rfl tw_294 rfl d_MD_highOperation_91 ?_
            exact ab_jt (by rw [if_pos h12]) J
          ·
            refine lv_iload_n (pc := 86) X.1 X.2.1 d_MD_highOperation_86 rfl (lv_at hl 0 rfl) ?_
            refine lv_goto (pc := 87) (tgt := 94) X.1 X.2.1 d_MD_highOperation_87 (by decide) ?_
            exact ab_jt (by rw [if_neg h12]) J
        refine ab_px (pc := 94) (ws' := (wM t q (stt ((f_MD_nextWord (stt u 0 24 10)).2) 0 10 (if (f_MD_holds ((f_MD_nextWord (stt u 0 24 10)).2) x1) = 0 then (((f_MD_nextWord (stt u 0 24 10)).2) 0 10) else ((f_MD_nextWord (stt u 0 24 10)).1) : Int32)))) X hX 0 9 12 ty_MD ty_MD_ok nm_MD rfl rfl (Nat.le_of_ble_eq_true rfl) in_MD rfl tw_294 rfl rfl rfl rfl (Nat.le_of_ble_eq_true rfl) (sf_wM_0_12 t q ((f_MD_nextWord (stt u 0 24 10)).2) (if (f_MD_holds ((f_MD_nextWord (stt u 0 24 10)).2) x1) = 0 then (((f_MD_nextWord (stt u 0 24 10)).2) 0 10) else ((f_MD_nextWord (stt u 0 24 10)).1) : Int32)) d_MD_highOperation_94 (fun H locs hX => ?_)
        refine lv_goto (pc := 97) (tgt := 295) X.1 X.2.1 d_MD_highOperation_97 (by decide) ?_
        exact ab_kv_ret (pc := 295) X hr hk hX (by rw [f_MD_highOperation, if_neg h1, if_neg h2, if_pos h3]) d_MD_highOperation_295
    ·
      refine lv_aload_n (pc := 53) X.1 X.2.1 d_MD_highOperation_53 rfl (lv_at hl 0 rfl) ?_
      refine lv_iload_n (pc := 54) X.1 X.2.1 d_MD_highOperation_54 rfl (lv_at hl 1 rfl) ?_
      refine ab_kv_callV (pc := 55) (wr := []) (w := (wM t q)) (u := u) (F := f_MD_popOrSo u x1) (as := [.int x1]) (rest := []) X hX (c_MD_popOrSo l D t q u x1 p1) ok_MD_popOrSo okv_MD_popOrSo tw_396 0 9 rfl rfl rfl hl.1 rfl (Nat.le_of_ble_eq_true rfl) ⟨rfl, rfl, Nat.le_of_ble_eq_true rfl, Nat.le_of_ble_eq_true rfl⟩ ⟨Nat.zero_le _, Nat.zero_le _⟩ d_MD_highOperation_55 (fun H locs hX => ?_)
      refine lv_goto (pc := 58) (tgt := 295) X.1 X.2.1 d_MD_highOperation_58 (by decide) ?_
      exact ab_kv_ret (pc := 295) X hr hk hX (by rw [f_MD_highOperation, if_neg h1, if_pos h2]) d_MD_highOperation_295
  ·
    refine lv_aload_n (pc := 4) X.1 X.2.1 d_MD_highOperation_4 rfl (lv_at hl 0 rfl) ?_
    refine lv_aload_n (pc := 5) X.1 X.2.1 d_MD_highOperation_5 rfl (lv_at hl 0 rfl) ?_
    refine lv_iload_n (pc := 6) X.1 X.2.1 d_MD_highOperation_6 rfl (lv_at hl 1 rfl) ?_
    refine ab_kr_callV (pc := 7) (wr := []) (w := (wM t q)) (u := u) (r := f_MD_holds u x1) (as := [.int x1]) (rest := [.ref (q 0)]) X hX (c_MD_holds l D t q u x1) ok_MD_holds okv_MD_holds tw_394 0 9 rfl rfl rfl hl.1 rfl (Nat.le_of_ble_eq_true rfl) ⟨rfl, rfl, Nat.le_of_ble_eq_true rfl, Nat.le_of_ble_eq_true rfl⟩ ⟨Nat.zero_le _, Nat.zero_le _⟩ d_MD_highOperation_7 (fun H locs hX => ?_)
    refine ab_jn (ls := ls) (rest := [.ref (q 0)]) 19 (if (f_MD_holds u x1) = 0 then 5 else 11 : Int32) ?_ (fun J => ?_)
    rotate_left
    ·
      refine lv_if_eq (pc := 10) (tgt := 18) X.1 X.2.1 d_MD_highOperation_10 (by decide) (fun h13 => ?_) (fun h13 => ?_)
      ·
        refine lv_iconst (pc := 18) (v := 5) X.1 X.2.1 d_MD_highOperation_18 (by decide) ?_
        exact ab_jt (by rw [if_pos h13]) J
      ·
        refine lv_bipush (pc := 13) (v := 11) X.1 X.2.1 d_MD_highOperation_13 (by decide) ?_
        refine lv_goto (pc := 15) (tgt := 19) X.1 X.2.1 d_MD_highOperation_15 (by decide) ?_
        exact ab_jt (by rw [if_neg h13]) J
    refine ab_px (pc := 19) (ws' := (wM t q (stt u 0 24 (if (f_MD_holds u x1) = 0 then 5 else 11 : Int32)))) X hX 0 9 29 ty_MD ty_MD_ok nm_MD rfl rfl (Nat.le_of_ble_eq_true rfl) in_MD rfl tw_351 rfl rfl rfl rfl (Nat.le_of_ble_eq_true rfl) (sf_wM_0_29 t q u (if (f_MD_holds u x1) = 0 then 5 else 11 : Int32)) d_MD_highOperation_19 (fun H locs hX => ?_)
    refine lv_aload_n (pc := 22) X.1 X.2.1 d_MD_highOperation_22 rfl (lv_at hl 0 rfl) ?_
    refine lv_aload_n (pc := 23) X.1 X.2.1 d_MD_highOperation_23 rfl (lv_at hl 0 rfl) ?_
    refine lv_iload_n (pc := 24) X.1 X.2.1 d_MD_highOperation_24 rfl (lv_at hl 1 rfl) ?_
    refine ab_kr_callV (pc := 25) (wr := []) (w := (wM t q)) (u := (stt u 0 24 (if (f_MD_holds u x1) = 0 then 5 else 11 : Int32))) (r := f_MD_holds (stt u 0 24 (if (f_MD_holds u x1) = 0 then 5 else 11 : Int32)) x1) (as := [.int x1]) (rest := [.ref (q 0)]) X hX (c_MD_holds l D t q (stt u 0 24 (if (f_MD_holds u x1) = 0 then 5 else 11 : Int32)) x1) ok_MD_holds okv_MD_holds tw_394 0 9 rfl rfl rfl hl.1 rfl (Nat.le_of_ble_eq_true rfl) ⟨rfl, rfl, Nat.le_of_ble_eq_true rfl, Nat.le_of_ble_eq_true rfl⟩ ⟨Nat.zero_le _, Nat.zero_le _⟩ d_MD_highOperation_25 (fun H locs hX => ?_)
    refine lv_if_eq (pc := 28) (tgt := 38) X.1 X.2.1 d_MD_highOperation_28 (by decide) (fun h14 => ?_) (fun h14 => ?_)
    ·
      refine lv_aload_n (pc := 38) X.1 X.2.1 d_MD_highOperation_38 rfl (lv_at hl 0 rfl) ?_
      refine ab_gx (pc := 39) (v := .int (u 0 10)) X hX 0 9 12 rfl rfl (Nat.le_of_ble_eq_true rfl) in_MD rfl tw_294 rfl d_MD_highOperation_39 ?_
      refine ab_px (pc := 42) (ws' := (wM t q (stt (stt u 0 24 (if (f_MD_holds u x1) = 0 then 5 else 11 : Int32)) 0 10 (u 0 10)))) X hX 0 9 12 ty_MD ty_MD_ok nm_MD rfl rfl (Nat.le_of_ble_eq_true rfl) in_MD rfl tw_294 rfl rfl rfl rfl (Nat.le_of_ble_eq_true rfl) (sf_wM_0_12 t q (stt u 0 24 (if (f_MD_holds u x1) = 0 then 5 else 11 : Int32)) (u 0 10)) d_MD_highOperation_42 (fun H locs hX => ?_)
      refine lv_goto (pc := 45) (tgt := 295) X.1 X.2.1 d_MD_highOperation_45 (by decide) ?_
      exact ab_kv_ret (pc := 295) X hr hk hX (by rw [f_MD_highOperation, if_pos h1, if_pos h14]) d_MD_highOperation_295
    ·
      refine lv_aload_n (pc := 31) X.1 X.2.1 d_MD_highOperation_31 rfl (lv_at hl 0 rfl) ?_
      refine ab_ki_callV (pc := 32) (wr := []) (w := (wM t q)) (u := (stt u 0 24 (if (f_MD_holds u x1) = 0 then 5 else 11 : Int32))) (F := f_MD_pop (stt u 0 24 (if (f_MD_holds u x1) = 0 then 5 else 11 : Int32))) (as := []) (rest := [.ref (q 0)]) X hX (c_MD_pop l D t q (stt u 0 24 (if (f_MD_holds u x1) = 0 then 5 else 11 : Int32))) ok_MD_pop okv_MD_pop tw_363 0 9 rfl rfl rfl hl.1 rfl (Nat.le_of_ble_eq_true rfl) ⟨rfl, rfl, Nat.le_of_ble_eq_true rfl, Nat.le_of_ble_eq_true rfl⟩ ⟨Nat.zero_le _, Nat.zero_le _⟩ d_MD_highOperation_32 (fun H locs hX => ?_)
      refine lv_goto (pc := 35) (tgt := 42) X.1 X.2.1 d_MD_highOperation_35 (by decide) ?_
      refine ab_px (pc := 42) (ws' := (wM t q (stt ((f_MD_pop (stt u 0 24 (if (f_MD_holds u x1) = 0 then 5 else 11 : Int32))).2) 0 10 ((f_MD_pop (stt u 0 24 (if (f_MD_holds u x1) = 0 then 5 else 11 : Int32))).1)))) X hX 0 9 12 ty_MD ty_MD_ok nm_MD rfl rfl (Nat.le_of_ble_eq_true rfl) in_MD rfl tw_294 rfl rfl rfl rfl (Nat.le_of_ble_eq_true rfl) (sf_wM_0_12 t q ((f_MD_pop (stt u 0 24 (if (f_MD_holds u x1) = 0 then 5 else 11 : Int32))).2) ((f_MD_pop (stt u 0 24 (if (f_MD_holds u x1) = 0 then 5 else 11 : Int32))).1)) d_MD_highOperation_42 (fun H locs hX => ?_)
      refine lv_goto (pc := 45) (tgt := 295) X.1 X.2.1 d_MD_highOperation_45 (by decide) ?_
      exact ab_kv_ret (pc := 295) X hr hk hX (by rw [f_MD_highOperation, if_pos h1, if_neg h14]) d_MD_highOperation_295
abbrev b_MD_reset : ByteArray := prog_11_method_26_code
def y_MD_reset : MethodName := ⟨"ArcadeBoardModel", "reset", "()V"⟩
theorem d_MD_reset_0 : decode b_MD_reset 0 = .ok (.aload_n 0, 1) := by decide +kernel
theorem d_MD_reset_1 : decode b_MD_reset 1 = .ok (.iconst 0, 1) := by decide +kernel
theorem d_MD_reset_2 : decode b_MD_reset 2 = .ok (.putfield 30, 3) := by decide +kernel
theorem d_MD_reset_5 : decode b_MD_reset 5 = .ok (.aload_n 0, 1) := by decide +kernel
theorem d_MD_reset_6 : decode b_MD_reset 6 = .ok (.iconst 0, 1) := by decide +kernel
theorem d_MD_reset_7 : decode b_MD_reset 7 = .ok (.putfield 139, 3) := by decide +kernel
theorem d_MD_reset_10 : decode b_MD_reset 10 = .ok (.aload_n 0, 1) := by decide +kernel
theorem d_MD_reset_11 : decode b_MD_reset 11 = .ok (.iconst 0, 1) := by decide +kernel
theorem d_MD_reset_12 : decode b_MD_reset 12 = .ok (.putfield 142, 3) := by decide +kernel
theorem d_MD_reset_15 : decode b_MD_reset 15 = .ok (.aload_n 0, 1) := by decide +kernel
theorem d_MD_reset_16 : decode b_MD_reset 16 = .ok (.iconst 0, 1) := by decide +kernel
theorem d_MD_reset_17 : decode b_MD_reset 17 = .ok (.putfield 145, 3) := by decide +kernel
theorem d_MD_reset_20 : decode b_MD_reset 20 = .ok (.aload_n 0, 1) := by decide +kernel
theorem d_MD_reset_21 : decode b_MD_reset 21 = .ok (.iconst 0, 1) := by decide +kernel
theorem d_MD_reset_22 : decode b_MD_reset 22 = .ok (.putfield 124, 3) := by decide +kernel
theorem d_MD_reset_25 : decode b_MD_reset 25 = .ok (.aload_n 0, 1) := by decide +kernel
theorem d_MD_reset_26 : decode b_MD_reset 26 = .ok (.iconst 0, 1) := by decide +kernel
theorem d_MD_reset_27 : decode b_MD_reset 27 = .ok (.putfield 127, 3) := by decide +kernel
theorem d_MD_reset_30 : decode b_MD_reset 30 = .ok (.aload_n 0, 1) := by decide +kernel
theorem d_MD_reset_31 : decode b_MD_reset 31 = .ok (.iconst 0, 1) := by decide +kernel
theorem d_MD_reset_32 : decode b_MD_reset 32 = .ok (.putfield 157, 3) := by decide +kernel
theorem d_MD_reset_35 : decode b_MD_reset 35 = .ok (.aload_n 0, 1) := by decide +kernel
theorem d_MD_reset_36 : decode b_MD_reset 36 = .ok (.iconst 0, 1) := by decide +kernel
theorem d_MD_reset_37 : decode b_MD_reset 37 = .ok (.putfield 160, 3) := by decide +kernel
theorem d_MD_reset_40 : decode b_MD_reset 40 = .ok (.return_, 1) := by decide +kernel
theorem tw_397 : Jvm.Cond.code ⟨"ArcadeBoardModel", "reset", "()V"⟩ prog_11_method_26_code 1 (Option.none : Option Jvm.ClassFile.FieldType) ∈ AL := ab_in (ab_t4 (List.mem_of_getElem? (i := 50) (by decide +kernel))) rfl
theorem tw_398 : Jvm.Cond.instanceMethod ⟨"ArcadeBoardModel", "reset", "()V"⟩ ∈ AL := ab_in (ab_t4 (List.mem_of_getElem? (i := 49) (by decide +kernel))) rfl
theorem tw_399 : Cond.selects "ArcadeBoardModel" ⟨"ArcadeBoardModel", "reset", "()V"⟩ ⟨"ArcadeBoardModel", "reset", "()V"⟩ ∈ AL := ab_in (ab_s2 (List.mem_of_getElem? (i := 8) (by decide +kernel))) rfl
theorem tw_400 : Jvm.Cond.fieldLink "ArcadeBoardModel" 157 "ArcadeBoardModel" "halted" "Z" ∈ AL := ab_in (ab_t3 (List.mem_of_getElem? (i := 193) (by decide +kernel))) rfl
theorem tw_401 : Jvm.Cond.fieldLink "ArcadeBoardModel" 160 "ArcadeBoardModel" "call" "I" ∈ AL := ab_in (ab_t3 (List.mem_of_getElem? (i := 194) (by decide +kernel))) rfl
theorem ok_MD_reset : ab_yok y_MD_reset b_MD_reset 1 none 0 := ⟨tw_397, tw_280, by decide, by decide, by decide +kernel⟩
theorem okv_MD_reset : ab_yok_V y_MD_reset := ⟨tw_398, tw_399⟩
set_option maxHeartbeats 1000000 in
set_option maxRecDepth 100000 in
theorem c_MD_reset (l : Launch) (D : va_G) (t : Nat → ClassId) (q : Nat → Nat) (u : SS) : ab_kv l D (tyC t) (wM t q) y_MD_reset b_MD_reset 1 { frames := 0, cells := 0, slots := 0, locals := 0 } [.ref (q 0)] u (f_MD_reset u) := by
  refine ab_kv_ofW (by decide) (Nat.le_of_ble_eq_true rfl) (fun p e s m below meth c ls A X hr hk hl hX => ?_)
  have hl : lv_has ls 1 [(0, .ref (q 0))] := hl
  refine lv_aload_n (pc := 0) X.1 X.2.1 d_MD_reset_0 rfl (lv_at hl 0 rfl) ?_
  refine lv_iconst (pc := 1) (v := 0) X.1 X.2.1 d_MD_reset_1 (by decide) ?_
  refine ab_px (pc := 2) (ws' := (wM t q (stt u 0 10 0))) X hX 0 9 12 ty_MD ty_MD_ok nm_MD rfl rfl (Nat.le_of_ble_eq_true rfl) in_MD rfl tw_294 rfl rfl rfl rfl (Nat.le_of_ble_eq_true rfl) (sf_wM_0_12 t q u 0) d_MD_reset_2 (fun H locs hX => ?_)
  refine lv_aload_n (pc := 5) X.1 X.2.1 d_MD_reset_5 rfl (lv_at hl 0 rfl) ?_
  refine lv_iconst (pc := 6) (v := 0) X.1 X.2.1 d_MD_reset_6 (by decide) ?_
  refine ab_px (pc := 7) (ws' := (wM t q (stt (stt u 0 10 0) 0 15 0))) X hX 0 9 17 ty_MD ty_MD_ok nm_MD rfl rfl (Nat.le_of_ble_eq_true rfl) in_MD rfl tw_371 rfl rfl rfl rfl (Nat.le_of_ble_eq_true rfl) (sf_wM_0_17 t q (stt u 0 10 0) 0) d_MD_reset_7 (fun H locs hX => ?_)
  refine lv_aload_n (pc := 10) X.1 X.2.1 d_MD_reset_10 rfl (lv_at hl 0 rfl) ?_
  refine lv_iconst (pc := 11) (v := 0) X.1 X.2.1 d_MD_reset_11 (by decide) ?_
  refine ab_px (pc := 12) (ws' := (wM t q (stt (stt (stt u 0 10 0) 0 15 0) 0 16 0))) X hX 0 9 18 ty_MD ty_MD_ok nm_MD rfl rfl (Nat.le_of_ble_eq_true rfl) in_MD rfl tw_372 rfl rfl rfl rfl (Nat.le_of_ble_eq_true rfl) (sf_wM_0_18 t q (stt (stt u 0 10 0) 0 15 0) 0) d_MD_reset_12 (fun H locs hX => ?_)
  refine lv_aload_n (pc := 15) X.1 X.2.1 d_MD_reset_15 rfl (lv_at hl 0 rfl) ?_
  refine lv_iconst (pc := 16) (v := 0) X.1 X.2.1 d_MD_reset_16 (by decide) ?_
  refine ab_px (pc := 17) (ws' := (wM t q (stt (stt (stt (stt u 0 10 0) 0 15 0) 0 16 0) 0 17 0))) X hX 0 9 19 ty_MD ty_MD_ok nm_MD rfl rfl (Nat.le_of_ble_eq_true rfl) in_MD rfl tw_370 rfl rfl rfl rfl (Nat.le_of_ble_eq_true rfl) (sf_wM_0_19 t q (stt (stt (stt u 0 10 0) 0 15 0) 0 16 0) 0) d_MD_reset_17 (fun H locs hX => ?_)
  refine lv_aload_n (pc := 20) X.1 X.2.1 d_MD_reset_20 rfl (lv_at hl 0 rfl) ?_
  refine lv_iconst (pc := 21) (v := 0) X.1 X.2.1 d_MD_reset_21 (by decide) ?_
  refine ab_px (pc := 22) (ws' := (wM t q (stt (stt (stt (stt (stt u 0 10 0) 0 15 0) 0 16 0) 0 17 0) 0 11 0))) X hX 0 9 13 ty_MD ty_MD_ok nm_MD rfl rfl (Nat.le_of_ble_eq_true rfl) in_MD rfl tw_384 rfl rfl rfl rfl (Nat.le_of_ble_eq_true rfl) (sf_wM_0_13 t q (stt (stt (stt (stt u 0 10 0) 0 15 0) 0 16 0) 0 17 0) 0) d_MD_reset_22 (fun H locs hX => ?_)
  refine lv_aload_n (pc := 25) X.1 X.2.1 d_MD_reset_25 rfl (lv_at hl 0 rfl) ?_
  refine lv_iconst (pc := 26) (v := 0) X.1 X.2.1 d_MD_reset_26 (by decide) ?_
  refine ab_px (pc := 27) (ws' := (wM t q (stt (stt (stt (stt (stt (stt u 0 10 0) 0 15 0) 0 16 0) 0 17 0) 0 11 0) 0 12 0))) X hX 0 9 14 ty_MD ty_MD_ok nm_MD rfl rfl (Nat.le_of_ble_eq_true rfl) in_MD rfl tw_385 rfl rfl rfl rfl (Nat.le_of_ble_eq_true rfl) (sf_wM_0_14 t q (stt (stt (stt (stt (stt u 0 10 0) 0 15 0) 0 16 0) 0 17 0) 0 11 0) 0) d_MD_reset_27 (fun H locs hX => ?_)
  refine lv_aload_n (pc := 30) X.1 X.2.1 d_MD_reset_30 rfl (lv_at hl 0 rfl) ?_
  refine lv_iconst (pc := 31) (v := 0) X.1 X.2.1 d_MD_reset_31 (by decide) ?_
  refine ab_px (pc := 32) (ws' := (wM t q (stt (stt (stt (stt (stt (stt (stt u 0 10 0) 0 15 0) 0 16 0) 0 17 0) 0 11 0) 0 12 0) 0 13 0))) X hX 0 9 15 ty_MD ty_MD_ok nm_MD rfl rfl (Nat.le_of_ble_eq_true rfl) in_MD rfl tw_400 rfl rfl rfl rfl (Nat.le_of_ble_eq_true rfl) (sf_wM_0_15 t q (stt (stt (stt (stt (stt (stt u 0 10 0) 0 15 0) 0 16 0) 0 17 0) 0 11 0) 0 12 0) 0) d_MD_reset_32 (fun H locs hX => ?_)
  refine lv_aload_n (pc := 35) X.1 X.2.1 d_MD_reset_35 rfl (lv_at hl 0 rfl) ?_
  refine lv_iconst (pc := 36) (v := 0) X.1 X.2.1 d_MD_reset_36 (by decide) ?_
  refine ab_px (pc := 37) (ws' := (wM t q (stt (stt (stt (stt (stt (stt (stt (stt u 0 10 0) 0 15 0) 0 16 0) 0 17 0) 0 11 0) 0 12 0) 0 13 0) 0 14 0))) X hX 0 9 16 ty_MD ty_MD_ok nm_MD rfl rfl (Nat.le_of_ble_eq_true rfl) in_MD rfl tw_401 rfl rfl rfl rfl (Nat.le_of_ble_eq_true rfl) (sf_wM_0_16 t q (stt (stt (stt (stt (stt (stt (stt u 0 10 0) 0 15 0) 0 16 0) 0 17 0) 0 11 0) 0 12 0) 0 13 0) 0) d_MD_reset_37 (fun H locs hX => ?_)
  exact ab_kv_ret (pc := 40) X hr hk hX (by rw [f_MD_reset]) d_MD_reset_40
