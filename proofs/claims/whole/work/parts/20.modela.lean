abbrev b_MD_thrown : ByteArray := prog_11_method_2_code
def y_MD_thrown : MethodName := ⟨"ArcadeBoardModel", "thrown", "()I"⟩
theorem d_MD_thrown_0 : decode b_MD_thrown 0 = .ok (.aload_n 0, 1) := by decide +kernel
theorem d_MD_thrown_1 : decode b_MD_thrown 1 = .ok (.getfield 26, 3) := by decide +kernel
theorem d_MD_thrown_4 : decode b_MD_thrown 4 = .ok (.ireturn, 1) := by decide +kernel
theorem tw_279 : Jvm.Cond.code ⟨"ArcadeBoardModel", "thrown", "()I"⟩ prog_11_method_2_code 1 (Option.some Jvm.ClassFile.FieldType.int) ∈ AL := ab_in (ab_t4 (List.mem_of_getElem? (i := 32) (by decide +kernel))) rfl
theorem tw_280 : Jvm.Cond.initialized "ArcadeBoardModel" ∈ AL := ab_in (ab_t1 (List.mem_of_getElem? (i := 10) (by decide +kernel))) rfl
theorem tw_281 : Jvm.Cond.instanceMethod ⟨"ArcadeBoardModel", "thrown", "()I"⟩ ∈ AL := ab_in (ab_t4 (List.mem_of_getElem? (i := 30) (by decide +kernel))) rfl
theorem tw_282 : Jvm.Cond.selects "ArcadeBoardModel" ⟨"ArcadeBoardModel", "thrown", "()I"⟩ ⟨"ArcadeBoardModel", "thrown", "()I"⟩ ∈ AL := ab_in (ab_t4 (List.mem_of_getElem? (i := 31) (by decide +kernel))) rfl
theorem tw_283 : Jvm.Cond.fieldLink "ArcadeBoardModel" 26 "ArcadeBoardModel" "thrown" "I" ∈ AL := ab_in (ab_t3 (List.mem_of_getElem? (i := 178) (by decide +kernel))) rfl
theorem ok_MD_thrown : ab_yok y_MD_thrown b_MD_thrown 1 (some .int) 0 := ⟨tw_279, tw_280, by decide, by decide, by decide +kernel⟩
theorem okv_MD_thrown : ab_yok_V y_MD_thrown := ⟨tw_281, tw_282⟩
set_option maxHeartbeats 1000000 in
set_option maxRecDepth 100000 in
theorem c_MD_thrown (l : Launch) (D : va_G) (t : Nat → ClassId) (q : Nat → Nat) (u : SS) : ab_ki l D (tyC t) (wM t q) y_MD_thrown b_MD_thrown 1 .int { frames := 0, cells := 0, slots := 0, locals := 0 } [.ref (q 0)] u ((f_MD_thrown u, u)) := by
  refine ab_ki_ofW (by decide) (Nat.le_of_ble_eq_true rfl) (fun p e s m below meth c ls A X hr hk hl hX => ?_)
  have hl : lv_has ls 1 [(0, .ref (q 0))] := hl
  refine lv_aload_n (pc := 0) X.1 X.2.1 d_MD_thrown_0 rfl (lv_at hl 0 rfl) ?_
  refine ab_gx (pc := 1) (v := .int (u 0 0)) X hX 0 9 0 rfl rfl (Nat.le_of_ble_eq_true rfl) in_MD rfl tw_283 rfl d_MD_thrown_1 ?_
  exact ab_ki_ret (pc := 4) X hr hk hX rfl (by rw [f_MD_thrown]) d_MD_thrown_4
abbrev b_MD_read : ByteArray := prog_11_method_3_code
def y_MD_read : MethodName := ⟨"ArcadeBoardModel", "read", "(I)I"⟩
theorem d_MD_read_0 : decode b_MD_read 0 = .ok (.aload_n 0, 1) := by decide +kernel
theorem d_MD_read_1 : decode b_MD_read 1 = .ok (.getfield 7, 3) := by decide +kernel
theorem d_MD_read_4 : decode b_MD_read 4 = .ok (.iload_n 1, 1) := by decide +kernel
theorem d_MD_read_5 : decode b_MD_read 5 = .ok (.sipush 1023, 3) := by decide +kernel
theorem d_MD_read_8 : decode b_MD_read 8 = .ok (.iand, 1) := by decide +kernel
theorem d_MD_read_9 : decode b_MD_read 9 = .ok (.iaload, 1) := by decide +kernel
theorem d_MD_read_10 : decode b_MD_read 10 = .ok (.ireturn, 1) := by decide +kernel
theorem tw_284 : Jvm.Cond.code ⟨"ArcadeBoardModel", "read", "(I)I"⟩ prog_11_method_3_code 2 (Option.some Jvm.ClassFile.FieldType.int) ∈ AL := ab_in (ab_t4 (List.mem_of_getElem? (i := 82) (by decide +kernel))) rfl
theorem tw_285 : Jvm.Cond.instanceMethod ⟨"ArcadeBoardModel", "read", "(I)I"⟩ ∈ AL := ab_in (ab_t4 (List.mem_of_getElem? (i := 81) (by decide +kernel))) rfl
theorem tw_286 : Cond.selects "ArcadeBoardModel" ⟨"ArcadeBoardModel", "read", "(I)I"⟩ ⟨"ArcadeBoardModel", "read", "(I)I"⟩ ∈ AL := ab_in (ab_s2 (List.mem_of_getElem? (i := 14) (by decide +kernel))) rfl
theorem tw_287 : Jvm.Cond.fieldLink "ArcadeBoardModel" 7 "ArcadeBoardModel" "memory" "[I" ∈ AL := ab_in (ab_t3 (List.mem_of_getElem? (i := 179) (by decide +kernel))) rfl
theorem ok_MD_read : ab_yok y_MD_read b_MD_read 2 (some .int) 1 := ⟨tw_284, tw_280, by decide, by decide, by decide +kernel⟩
theorem okv_MD_read : ab_yok_V y_MD_read := ⟨tw_285, tw_286⟩
set_option maxHeartbeats 1000000 in
set_option maxRecDepth 100000 in
theorem c_MD_read (l : Launch) (D : va_G) (t : Nat → ClassId) (q : Nat → Nat) (u : SS) (x1 : Int32) : ab_ki l D (tyC t) (wM t q) y_MD_read b_MD_read 2 .int { frames := 0, cells := 0, slots := 0, locals := 0 } [.ref (q 0), .int x1] u ((f_MD_read u x1, u)) := by
  refine ab_ki_ofW (by decide) (Nat.le_of_ble_eq_true rfl) (fun p e s m below meth c ls A X hr hk hl hX => ?_)
  have hl : lv_has ls 2 [(0, .ref (q 0)), (1, .int x1)] := hl
  refine lv_aload_n (pc := 0) X.1 X.2.1 d_MD_read_0 rfl (lv_at hl 0 rfl) ?_
  refine ab_gx (pc := 1) (v := .ref (q 1)) X hX 0 9 1 rfl rfl (Nat.le_of_ble_eq_true rfl) in_MD rfl tw_287 rfl d_MD_read_1 ?_
  refine lv_iload_n (pc := 4) X.1 X.2.1 d_MD_read_4 rfl (lv_at hl 1 rfl) ?_
  refine lv_sipush (pc := 5) (v := 1023) X.1 X.2.1 d_MD_read_5 (by decide) ?_
  refine lv_iand (pc := 8) X.1 X.2.1 d_MD_read_8 ?_
  refine ab_ald (pc := 9) (f := u 1) (j := (x1 &&& 1023).toNatClampNeg) X hX 1 0 rfl rfl (ab_inm _ 10 rfl (by decide)) rfl d_MD_read_9 ?_
  exact ab_ki_ret (pc := 10) X hr hk hX rfl (by rw [f_MD_read]) d_MD_read_10
abbrev b_MD_write : ByteArray := prog_11_method_4_code
def y_MD_write : MethodName := ⟨"ArcadeBoardModel", "write", "(II)V"⟩
theorem d_MD_write_0 : decode b_MD_write 0 = .ok (.iload_n 1, 1) := by decide +kernel
theorem d_MD_write_1 : decode b_MD_write 1 = .ok (.sipush 1023, 3) := by decide +kernel
theorem d_MD_write_4 : decode b_MD_write 4 = .ok (.iand, 1) := by decide +kernel
theorem d_MD_write_5 : decode b_MD_write 5 = .ok (.istore_n 3, 1) := by decide +kernel
theorem d_MD_write_6 : decode b_MD_write 6 = .ok (.aload_n 0, 1) := by decide +kernel
theorem d_MD_write_7 : decode b_MD_write 7 = .ok (.getfield 7, 3) := by decide +kernel
theorem d_MD_write_10 : decode b_MD_write 10 = .ok (.iload_n 3, 1) := by decide +kernel
theorem d_MD_write_11 : decode b_MD_write 11 = .ok (.iload_n 3, 1) := by decide +kernel
theorem d_MD_write_12 : decode b_MD_write 12 = .ok (.sipush 512, 3) := by decide +kernel
theorem d_MD_write_15 : decode b_MD_write 15 = .ok (.if_icmp .ge 12, 3) := by decide +kernel
theorem d_MD_write_18 : decode b_MD_write 18 = .ok (.aload_n 0, 1) := by decide +kernel
theorem d_MD_write_19 : decode b_MD_write 19 = .ok (.getfield 7, 3) := by decide +kernel
theorem d_MD_write_22 : decode b_MD_write 22 = .ok (.iload_n 3, 1) := by decide +kernel
theorem d_MD_write_23 : decode b_MD_write 23 = .ok (.iaload, 1) := by decide +kernel
theorem d_MD_write_24 : decode b_MD_write 24 = .ok (.goto 8, 3) := by decide +kernel
theorem d_MD_write_27 : decode b_MD_write 27 = .ok (.iload_n 2, 1) := by decide +kernel
theorem d_MD_write_28 : decode b_MD_write 28 = .ok (.sipush 255, 3) := by decide +kernel
theorem d_MD_write_31 : decode b_MD_write 31 = .ok (.iand, 1) := by decide +kernel
theorem d_MD_write_32 : decode b_MD_write 32 = .ok (.iastore, 1) := by decide +kernel
theorem d_MD_write_33 : decode b_MD_write 33 = .ok (.return_, 1) := by decide +kernel
theorem tw_288 : Jvm.Cond.code ⟨"ArcadeBoardModel", "write", "(II)V"⟩ prog_11_method_4_code 4 (Option.none : Option Jvm.ClassFile.FieldType) ∈ AL := ab_in (ab_t4 (List.mem_of_getElem? (i := 70) (by decide +kernel))) rfl
theorem tw_289 : Jvm.Cond.instanceMethod ⟨"ArcadeBoardModel", "write", "(II)V"⟩ ∈ AL := ab_in (ab_t4 (List.mem_of_getElem? (i := 69) (by decide +kernel))) rfl
theorem tw_290 : Cond.selects "ArcadeBoardModel" ⟨"ArcadeBoardModel", "write", "(II)V"⟩ ⟨"ArcadeBoardModel", "write", "(II)V"⟩ ∈ AL := ab_in (ab_s2 (List.mem_of_getElem? (i := 11) (by decide +kernel))) rfl
theorem ok_MD_write : ab_yok y_MD_write b_MD_write 4 none 2 := ⟨tw_288, tw_280, by decide, by decide, by decide +kernel⟩
theorem okv_MD_write : ab_yok_V y_MD_write := ⟨tw_289, tw_290⟩
set_option maxHeartbeats 1000000 in
set_option maxRecDepth 100000 in
theorem c_MD_write (l : Launch) (D : va_G) (t : Nat → ClassId) (q : Nat → Nat) (u : SS) (x1 : Int32) (x2 : Int32) : ab_kv l D (tyC t) (wM t q) y_MD_write b_MD_write 4 { frames := 0, cells := 0, slots := 0, locals := 0 } [.ref (q 0), .int x1, .int x2] u (f_MD_write u x1 x2) := by
  refine ab_kv_ofW (by decide) (Nat.le_of_ble_eq_true rfl) (fun p e s m below meth c ls A X hr hk hl hX => ?_)
  have hl : lv_has ls 4 [(0, .ref (q 0)), (1, .int x1), (2, .int x2)] := hl
  refine lv_iload_n (pc := 0) X.1 X.2.1 d_MD_write_0 rfl (lv_at hl 1 rfl) ?_
  refine lv_sipush (pc := 1) (v := 1023) X.1 X.2.1 d_MD_write_1 (by decide) ?_
  refine lv_iand (pc := 4) X.1 X.2.1 d_MD_write_4 ?_
  refine lv_istore_n (pc := 5) (lv' := [(3, .int (x1 &&& 1023)), (0, .ref (q 0)), (1, .int x1), (2, .int x2)]) X.1 X.2.1 d_MD_write_5 rfl hl (Nat.le_of_ble_eq_true rfl) rfl (fun ls hl => ?_)
  refine lv_aload_n (pc := 6) X.1 X.2.1 d_MD_write_6 rfl (lv_at hl 1 rfl) ?_
  refine ab_gx (pc := 7) (v := .ref (q 1)) X hX 0 9 1 rfl rfl (Nat.le_of_ble_eq_true rfl) in_MD rfl tw_287 rfl d_MD_write_7 ?_
  refine lv_iload_n (pc := 10) X.1 X.2.1 d_MD_write_10 rfl (lv_at hl 0 rfl) ?_
  refine lv_iload_n (pc := 11) X.1 X.2.1 d_MD_write_11 rfl (lv_at hl 0 rfl) ?_
  refine lv_sipush (pc := 12) (v := 512) X.1 X.2.1 d_MD_write_12 (by decide) ?_
  refine ab_jn (ls := ls) (rest := [.int (x1 &&& 1023), .ref (q 1)]) 32 (if 512 ≤ (x1 &&& 1023) then (x2 &&& 255) else (u 1 ((x1 &&& 1023).toNatClampNeg)) : Int32) ?_ (fun J => ?_)
  rotate_left
  ·
    refine lv_icmp_ge (pc := 15) (tgt := 27) X.1 X.2.1 d_MD_write_15 (by decide) (fun h1 => ?_) (fun h1 => ?_)
    ·
      refine lv_iload_n (pc := 27) X.1 X.2.1 d_MD_write_27 rfl (lv_at hl 3 rfl) ?_
      refine lv_sipush (pc := 28) (v := 255) X.1 X.2.1 d_MD_write_28 (by decide) ?_
      refine lv_iand (pc := 31) X.1 X.2.1 d_MD_write_31 ?_
      exact ab_jt (by rw [if_pos h1]) J
    ·
      refine lv_aload_n (pc := 18) X.1 X.2.1 d_MD_write_18 rfl (lv_at hl 1 rfl) ?_
      refine ab_gx (pc := 19) (v := .ref (q 1)) X hX 0 9 1 rfl rfl (Nat.le_of_ble_eq_true rfl) in_MD rfl tw_287 rfl d_MD_write_19 ?_
      refine lv_iload_n (pc := 22) X.1 X.2.1 d_MD_write_22 rfl (lv_at hl 0 rfl) ?_
      refine ab_ald (pc := 23) (f := u 1) (j := (x1 &&& 1023).toNatClampNeg) X hX 1 0 rfl rfl (ab_inm _ 10 rfl (by decide)) rfl d_MD_write_23 ?_
      refine lv_goto (pc := 24) (tgt := 32) X.1 X.2.1 d_MD_write_24 (by decide) ?_
      exact ab_jt (by rw [if_neg h1]) J
  refine ab_ast (pc := 32) (f := u 1) (j := (x1 &&& 1023).toNatClampNeg) (ws' := (wM t q (stt u 1 ((x1 &&& 1023).toNatClampNeg) (if 512 ≤ (x1 &&& 1023) then (x2 &&& 255) else (u 1 ((x1 &&& 1023).toNatClampNeg)) : Int32)))) X hX 1 0 rfl rfl (ab_inm _ 10 rfl (by decide)) rfl (sa_wM_1 t q u ((x1 &&& 1023).toNatClampNeg) (if 512 ≤ (x1 &&& 1023) then (x2 &&& 255) else (u 1 ((x1 &&& 1023).toNatClampNeg)) : Int32)) d_MD_write_32 (fun H locs hX => ?_)
  exact ab_kv_ret (pc := 33) X hr hk hX (by rw [f_MD_write]) d_MD_write_33
abbrev b_MD_next : ByteArray := prog_11_method_5_code
def y_MD_next : MethodName := ⟨"ArcadeBoardModel", "next", "()I"⟩
theorem d_MD_next_0 : decode b_MD_next 0 = .ok (.aload_n 0, 1) := by decide +kernel
theorem d_MD_next_1 : decode b_MD_next 1 = .ok (.aload_n 0, 1) := by decide +kernel
theorem d_MD_next_2 : decode b_MD_next 2 = .ok (.getfield 30, 3) := by decide +kernel
theorem d_MD_next_5 : decode b_MD_next 5 = .ok (.invokevirtual 33, 3) := by decide +kernel
theorem d_MD_next_8 : decode b_MD_next 8 = .ok (.istore_n 1, 1) := by decide +kernel
theorem d_MD_next_9 : decode b_MD_next 9 = .ok (.aload_n 0, 1) := by decide +kernel
theorem d_MD_next_10 : decode b_MD_next 10 = .ok (.aload_n 0, 1) := by decide +kernel
theorem d_MD_next_11 : decode b_MD_next 11 = .ok (.getfield 30, 3) := by decide +kernel
theorem d_MD_next_14 : decode b_MD_next 14 = .ok (.iconst 1, 1) := by decide +kernel
theorem d_MD_next_15 : decode b_MD_next 15 = .ok (.iadd, 1) := by decide +kernel
theorem d_MD_next_16 : decode b_MD_next 16 = .ok (.ldc 37, 2) := by decide +kernel
theorem d_MD_next_18 : decode b_MD_next 18 = .ok (.iand, 1) := by decide +kernel
theorem d_MD_next_19 : decode b_MD_next 19 = .ok (.putfield 30, 3) := by decide +kernel
theorem d_MD_next_22 : decode b_MD_next 22 = .ok (.iload_n 1, 1) := by decide +kernel
theorem d_MD_next_23 : decode b_MD_next 23 = .ok (.ireturn, 1) := by decide +kernel
theorem tw_291 : Jvm.Cond.code ⟨"ArcadeBoardModel", "next", "()I"⟩ prog_11_method_5_code 2 (Option.some Jvm.ClassFile.FieldType.int) ∈ AL := ab_in (ab_t4 (List.mem_of_getElem? (i := 78) (by decide +kernel))) rfl
theorem tw_292 : Jvm.Cond.instanceMethod ⟨"ArcadeBoardModel", "next", "()I"⟩ ∈ AL := ab_in (ab_t4 (List.mem_of_getElem? (i := 77) (by decide +kernel))) rfl
theorem tw_293 : Cond.selects "ArcadeBoardModel" ⟨"ArcadeBoardModel", "next", "()I"⟩ ⟨"ArcadeBoardModel", "next", "()I"⟩ ∈ AL := ab_in (ab_s2 (List.mem_of_getElem? (i := 13) (by decide +kernel))) rfl
theorem tw_294 : Jvm.Cond.fieldLink "ArcadeBoardModel" 30 "ArcadeBoardModel" "pc" "I" ∈ AL := ab_in (ab_t3 (List.mem_of_getElem? (i := 190) (by decide +kernel))) rfl
theorem tw_295 : Jvm.Cond.methodLink "ArcadeBoardModel" 33 ⟨"ArcadeBoardModel", "read", "(I)I"⟩ ∈ AL := ab_in (ab_t4 (List.mem_of_getElem? (i := 79) (by decide +kernel))) rfl
theorem tw_296 : Jvm.Cond.constant "ArcadeBoardModel" 37 (65535 : Int32) ∈ AL := ab_in (ab_t4 (List.mem_of_getElem? (i := 41) (by decide +kernel))) rfl
theorem ok_MD_next : ab_yok y_MD_next b_MD_next 2 (some .int) 0 := ⟨tw_291, tw_280, by decide, by decide, by decide +kernel⟩
theorem okv_MD_next : ab_yok_V y_MD_next := ⟨tw_292, tw_293⟩
set_option maxHeartbeats 1000000 in
set_option maxRecDepth 100000 in
theorem c_MD_next (l : Launch) (D : va_G) (t : Nat → ClassId) (q : Nat → Nat) (u : SS) : ab_ki l D (tyC t) (wM t q) y_MD_next b_MD_next 2 .int { frames := 1, cells := 0, slots := 0, locals := 21 } [.ref (q 0)] u (f_MD_next u) := by
  refine ab_ki_ofW (by decide) (Nat.le_of_ble_eq_true rfl) (fun p e s m below meth c ls A X hr hk hl hX => ?_)
  have hl : lv_has ls 2 [(0, .ref (q 0))] := hl
  refine lv_aload_n (pc := 0) X.1 X.2.1 d_MD_next_0 rfl (lv_at hl 0 rfl) ?_
  refine lv_aload_n (pc := 1) X.1 X.2.1 d_MD_next_1 rfl (lv_at hl 0 rfl) ?_
  refine ab_gx (pc := 2) (v := .int (u 0 10)) X hX 0 9 12 rfl rfl (Nat.le_of_ble_eq_true rfl) in_MD rfl tw_294 rfl d_MD_next_2 ?_
  refine ab_kr_callV (pc := 5) (wr := []) (w := (wM t q)) (u := u) (r := f_MD_read u (u 0 10)) (as := [.int (u 0 10)]) (rest := []) X hX (c_MD_read l D t q u (u 0 10)) ok_MD_read okv_MD_read tw_295 0 9 rfl rfl rfl hl.1 rfl (Nat.le_of_ble_eq_true rfl) ⟨rfl, rfl, Nat.le_of_ble_eq_true rfl, Nat.le_of_ble_eq_true rfl⟩ ⟨Nat.zero_le _, Nat.zero_le _⟩ d_MD_next_5 (fun H locs hX => ?_)
  refine lv_istore_n (pc := 8) (lv' := [(1, .int (f_MD_read u (u 0 10))), (0, .ref (q 0))]) X.1 X.2.1 d_MD_next_8 rfl hl (Nat.le_of_ble_eq_true rfl) rfl (fun ls hl => ?_)
  refine lv_aload_n (pc := 9) X.1 X.2.1 d_MD_next_9 rfl (lv_at hl 1 rfl) ?_
  refine lv_aload_n (pc := 10) X.1 X.2.1 d_MD_next_10 rfl (lv_at hl 1 rfl) ?_
  refine ab_gx (pc := 11) (v := .int (u 0 10)) X hX 0 9 12 rfl rfl (Nat.le_of_ble_eq_true rfl) in_MD rfl tw_294 rfl d_MD_next_11 ?_
  refine lv_iconst (pc := 14) (v := 1) X.1 X.2.1 d_MD_next_14 (by decide) ?_
  refine lv_iadd (pc := 15) X.1 X.2.1 d_MD_next_15 ?_
  refine lv_ldc (pc := 16) (v := 65535) X.1 X.2.1 X.2.2.2.1 (X.2.2.2.2.1 _ tw_296) d_MD_next_16 ?_
  refine lv_iand (pc := 18) X.1 X.2.1 d_MD_next_18 ?_
  refine ab_px (pc := 19) (ws' := (wM t q (stt u 0 10 (((u 0 10) + 1) &&& 65535)))) X hX 0 9 12 ty_MD ty_MD_ok nm_MD rfl rfl (Nat.le_of_ble_eq_true rfl) in_MD rfl tw_294 rfl rfl rfl rfl (Nat.le_of_ble_eq_true rfl) (sf_wM_0_12 t q u (((u 0 10) + 1) &&& 65535)) d_MD_next_19 (fun H locs hX => ?_)
  refine lv_iload_n (pc := 22) X.1 X.2.1 d_MD_next_22 rfl (lv_at hl 0 rfl) ?_
  exact ab_ki_ret (pc := 23) X hr hk hX rfl (by rw [f_MD_next]) d_MD_next_23
abbrev b_MD_nextWord : ByteArray := prog_11_method_6_code
def y_MD_nextWord : MethodName := ⟨"ArcadeBoardModel", "nextWord", "()I"⟩
theorem d_MD_nextWord_0 : decode b_MD_nextWord 0 = .ok (.aload_n 0, 1) := by decide +kernel
theorem d_MD_nextWord_1 : decode b_MD_nextWord 1 = .ok (.invokevirtual 38, 3) := by decide +kernel
theorem d_MD_nextWord_4 : decode b_MD_nextWord 4 = .ok (.istore_n 1, 1) := by decide +kernel
theorem d_MD_nextWord_5 : decode b_MD_nextWord 5 = .ok (.iload_n 1, 1) := by decide +kernel
theorem d_MD_nextWord_6 : decode b_MD_nextWord 6 = .ok (.sipush 256, 3) := by decide +kernel
theorem d_MD_nextWord_9 : decode b_MD_nextWord 9 = .ok (.aload_n 0, 1) := by decide +kernel
theorem d_MD_nextWord_10 : decode b_MD_nextWord 10 = .ok (.invokevirtual 38, 3) := by decide +kernel
theorem d_MD_nextWord_13 : decode b_MD_nextWord 13 = .ok (.imul, 1) := by decide +kernel
theorem d_MD_nextWord_14 : decode b_MD_nextWord 14 = .ok (.iadd, 1) := by decide +kernel
theorem d_MD_nextWord_15 : decode b_MD_nextWord 15 = .ok (.ireturn, 1) := by decide +kernel
theorem tw_297 : Jvm.Cond.code ⟨"ArcadeBoardModel", "nextWord", "()I"⟩ prog_11_method_6_code 2 (Option.some Jvm.ClassFile.FieldType.int) ∈ AL := ab_in (ab_t4 (List.mem_of_getElem? (i := 90) (by decide +kernel))) rfl
theorem tw_298 : Jvm.Cond.instanceMethod ⟨"ArcadeBoardModel", "nextWord", "()I"⟩ ∈ AL := ab_in (ab_t4 (List.mem_of_getElem? (i := 89) (by decide +kernel))) rfl
theorem tw_299 : Cond.selects "ArcadeBoardModel" ⟨"ArcadeBoardModel", "nextWord", "()I"⟩ ⟨"ArcadeBoardModel", "nextWord", "()I"⟩ ∈ AL := ab_in (ab_s3 (List.mem_of_getElem? (i := 0) (by decide +kernel))) rfl
theorem tw_300 : Jvm.Cond.methodLink "ArcadeBoardModel" 38 ⟨"ArcadeBoardModel", "next", "()I"⟩ ∈ AL := ab_in (ab_t4 (List.mem_of_getElem? (i := 75) (by decide +kernel))) rfl
theorem ok_MD_nextWord : ab_yok y_MD_nextWord b_MD_nextWord 2 (some .int) 0 := ⟨tw_297, tw_280, by decide, by decide, by decide +kernel⟩
theorem okv_MD_nextWord : ab_yok_V y_MD_nextWord := ⟨tw_298, tw_299⟩
set_option maxHeartbeats 1000000 in
set_option maxRecDepth 100000 in
theorem c_MD_nextWord (l : Launch) (D : va_G) (t : Nat → ClassId) (q : Nat → Nat) (u : SS) : ab_ki l D (tyC t) (wM t q) y_MD_nextWord b_MD_nextWord 2 .int { frames := 2, cells := 0, slots := 0, locals := 42 } [.ref (q 0)] u (f_MD_nextWord u) := by
  refine ab_ki_ofW (by decide) (Nat.le_of_ble_eq_true rfl) (fun p e s m below meth c ls A X hr hk hl hX => ?_)
  have hl : lv_has ls 2 [(0, .ref (q 0))] := hl
  refine lv_aload_n (pc := 0) X.1 X.2.1 d_MD_nextWord_0 rfl (lv_at hl 0 rfl) ?_
  refine ab_ki_callV (pc := 1) (wr := []) (w := (wM t q)) (u := u) (F := f_MD_next u) (as := []) (rest := []) X hX (c_MD_next l D t q u) ok_MD_next okv_MD_next tw_300 0 9 rfl rfl rfl hl.1 rfl (Nat.le_of_ble_eq_true rfl) ⟨rfl, rfl, Nat.le_of_ble_eq_true rfl, Nat.le_of_ble_eq_true rfl⟩ ⟨Nat.zero_le _, Nat.zero_le _⟩ d_MD_nextWord_1 (fun H locs hX => ?_)
  refine lv_istore_n (pc := 4) (lv' := [(1, .int ((f_MD_next u).1)), (0, .ref (q 0))]) X.1 X.2.1 d_MD_nextWord_4 rfl hl (Nat.le_of_ble_eq_true rfl) rfl (fun ls hl => ?_)
  refine lv_iload_n (pc := 5) X.1 X.2.1 d_MD_nextWord_5 rfl (lv_at hl 0 rfl) ?_
  refine lv_sipush (pc := 6) (v := 256) X.1 X.2.1 d_MD_nextWord_6 (by decide) ?_
  refine lv_aload_n (pc := 9) X.1 X.2.1 d_MD_nextWord_9 rfl (lv_at hl 1 rfl) ?_
  refine ab_ki_callV (pc := 10) (wr := []) (w := (wM t q)) (u := ((f_MD_next u).2)) (F := f_MD_next ((f_MD_next u).2)) (as := []) (rest := [.int 256, .int ((f_MD_next u).1)]) X hX (c_MD_next l D t q ((f_MD_next u).2)) ok_MD_next okv_MD_next tw_300 0 9 rfl rfl rfl hl.1 rfl (Nat.le_of_ble_eq_true rfl) ⟨rfl, rfl, Nat.le_of_ble_eq_true rfl, Nat.le_of_ble_eq_true rfl⟩ ⟨Nat.zero_le _, Nat.zero_le _⟩ d_MD_nextWord_10 (fun H locs hX => ?_)
  refine lv_imul (pc := 13) X.1 X.2.1 d_MD_nextWord_13 ?_
  refine lv_iadd (pc := 14) X.1 X.2.1 d_MD_nextWord_14 ?_
  exact ab_ki_ret (pc := 15) X hr hk hX rfl (by rw [f_MD_nextWord]) d_MD_nextWord_15
abbrev b_MD_pair : ByteArray := prog_11_method_7_code
def y_MD_pair : MethodName := ⟨"ArcadeBoardModel", "pair", "(I)I"⟩
theorem d_MD_pair_0 : decode b_MD_pair 0 = .ok (.iload_n 1, 1) := by decide +kernel
theorem d_MD_pair_1 : decode b_MD_pair 1 = .ok (.iconst 3, 1) := by decide +kernel
theorem d_MD_pair_2 : decode b_MD_pair 2 = .ok (.if_icmp .ne 10, 3) := by decide +kernel
theorem d_MD_pair_5 : decode b_MD_pair 5 = .ok (.aload_n 0, 1) := by decide +kernel
theorem d_MD_pair_6 : decode b_MD_pair 6 = .ok (.getfield 42, 3) := by decide +kernel
theorem d_MD_pair_9 : decode b_MD_pair 9 = .ok (.goto 26, 3) := by decide +kernel
theorem d_MD_pair_12 : decode b_MD_pair 12 = .ok (.sipush 256, 3) := by decide +kernel
theorem d_MD_pair_15 : decode b_MD_pair 15 = .ok (.aload_n 0, 1) := by decide +kernel
theorem d_MD_pair_16 : decode b_MD_pair 16 = .ok (.getfield 13, 3) := by decide +kernel
theorem d_MD_pair_19 : decode b_MD_pair 19 = .ok (.iconst 2, 1) := by decide +kernel
theorem d_MD_pair_20 : decode b_MD_pair 20 = .ok (.iload_n 1, 1) := by decide +kernel
theorem d_MD_pair_21 : decode b_MD_pair 21 = .ok (.imul, 1) := by decide +kernel
theorem d_MD_pair_22 : decode b_MD_pair 22 = .ok (.iaload, 1) := by decide +kernel
theorem d_MD_pair_23 : decode b_MD_pair 23 = .ok (.imul, 1) := by decide +kernel
theorem d_MD_pair_24 : decode b_MD_pair 24 = .ok (.aload_n 0, 1) := by decide +kernel
theorem d_MD_pair_25 : decode b_MD_pair 25 = .ok (.getfield 13, 3) := by decide +kernel
theorem d_MD_pair_28 : decode b_MD_pair 28 = .ok (.iconst 2, 1) := by decide +kernel
theorem d_MD_pair_29 : decode b_MD_pair 29 = .ok (.iload_n 1, 1) := by decide +kernel
theorem d_MD_pair_30 : decode b_MD_pair 30 = .ok (.imul, 1) := by decide +kernel
theorem d_MD_pair_31 : decode b_MD_pair 31 = .ok (.iconst 1, 1) := by decide +kernel
theorem d_MD_pair_32 : decode b_MD_pair 32 = .ok (.iadd, 1) := by decide +kernel
theorem d_MD_pair_33 : decode b_MD_pair 33 = .ok (.iaload, 1) := by decide +kernel
theorem d_MD_pair_34 : decode b_MD_pair 34 = .ok (.iadd, 1) := by decide +kernel
theorem d_MD_pair_35 : decode b_MD_pair 35 = .ok (.ireturn, 1) := by decide +kernel
theorem tw_301 : Jvm.Cond.code ⟨"ArcadeBoardModel", "pair", "(I)I"⟩ prog_11_method_7_code 2 (Option.some Jvm.ClassFile.FieldType.int) ∈ AL := ab_in (ab_t4 (List.mem_of_getElem? (i := 98) (by decide +kernel))) rfl
theorem tw_302 : Jvm.Cond.instanceMethod ⟨"ArcadeBoardModel", "pair", "(I)I"⟩ ∈ AL := ab_in (ab_t4 (List.mem_of_getElem? (i := 97) (by decide +kernel))) rfl
theorem tw_303 : Cond.selects "ArcadeBoardModel" ⟨"ArcadeBoardModel", "pair", "(I)I"⟩ ⟨"ArcadeBoardModel", "pair", "(I)I"⟩ ∈ AL := ab_in (ab_s3 (List.mem_of_getElem? (i := 2) (by decide +kernel))) rfl
theorem tw_304 : Jvm.Cond.fieldLink "ArcadeBoardModel" 13 "ArcadeBoardModel" "reg" "[I" ∈ AL := ab_in (ab_t3 (List.mem_of_getElem? (i := 183) (by decide +kernel))) rfl
theorem tw_305 : Jvm.Cond.fieldLink "ArcadeBoardModel" 42 "ArcadeBoardModel" "sp" "I" ∈ AL := ab_in (ab_t3 (List.mem_of_getElem? (i := 189) (by decide +kernel))) rfl
theorem ok_MD_pair : ab_yok y_MD_pair b_MD_pair 2 (some .int) 1 := ⟨tw_301, tw_280, by decide, by decide, by decide +kernel⟩
theorem okv_MD_pair : ab_yok_V y_MD_pair := ⟨tw_302, tw_303⟩
set_option maxHeartbeats 1000000 in
set_option maxRecDepth 100000 in
theorem c_MD_pair (l : Launch) (D : va_G) (t : Nat → ClassId) (q : Nat → Nat) (u : SS) (x1 : Int32) (p1 : ab_le3 x1) : ab_ki l D (tyC t) (wM t q) y_MD_pair b_MD_pair 2 .int { frames := 0, cells := 0, slots := 0, locals := 0 } [.ref (q 0), .int x1] u ((f_MD_pair u x1, u)) := by
  refine ab_ki_ofW (by decide) (Nat.le_of_ble_eq_true rfl) (fun p e s m below meth c ls A X hr hk hl hX => ?_)
  have hl : lv_has ls 2 [(0, .ref (q 0)), (1, .int x1)] := hl
  refine lv_iload_n (pc := 0) X.1 X.2.1 d_MD_pair_0 rfl (lv_at hl 1 rfl) ?_
  refine lv_iconst (pc := 1) (v := 3) X.1 X.2.1 d_MD_pair_1 (by decide) ?_
  refine ab_jn (ls := ls) (rest := []) 35 (if x1 = 3 then (u 0 9) else ((256 * (u 2 ((2 * x1).toNatClampNeg))) + (u 2 (((2 * x1) + 1).toNatClampNeg))) : Int32) ?_ (fun J => ?_)
  rotate_left
  ·
    refine lv_icmp_ne (pc := 2) (tgt := 12) X.1 X.2.1 d_MD_pair_2 (by decide) (fun h1 => ?_) (fun h1 => ?_)
    ·
      refine lv_sipush (pc := 12) (v := 256) X.1 X.2.1 d_MD_pair_12 (by decide) ?_
      refine lv_aload_n (pc := 15) X.1 X.2.1 d_MD_pair_15 rfl (lv_at hl 0 rfl) ?_
      refine ab_gx (pc := 16) (v := .ref (q 2)) X hX 0 9 5 rfl rfl (Nat.le_of_ble_eq_true rfl) in_MD rfl tw_304 rfl d_MD_pair_16 ?_
      refine lv_iconst (pc := 19) (v := 2) X.1 X.2.1 d_MD_pair_19 (by decide) ?_
      refine lv_iload_n (pc := 20) X.1 X.2.1 d_MD_pair_20 rfl (lv_at hl 1 rfl) ?_
      refine lv_imul (pc := 21) X.1 X.2.1 d_MD_pair_21 ?_
      refine ab_ald (pc := 22) (f := u 2) (j := (2 * x1).toNatClampNeg) X hX 2 0 rfl rfl (ab_k2 p1 h1) rfl d_MD_pair_22 ?_
      refine lv_imul (pc := 23) X.1 X.2.1 d_MD_pair_23 ?_
      refine lv_aload_n (pc := 24) X.1 X.2.1 d_MD_pair_24 rfl (lv_at hl 0 rfl) ?_
      refine ab_gx (pc := 25) (v := .ref (q 2)) X hX 0 9 5 rfl rfl (Nat.le_of_ble_eq_true rfl) in_MD rfl tw_304 rfl d_MD_pair_25 ?_
      refine lv_iconst (pc := 28) (v := 2) X.1 X.2.1 d_MD_pair_28 (by decide) ?_
      refine lv_iload_n (pc := 29) X.1 X.2.1 d_MD_pair_29 rfl (lv_at hl 1 rfl) ?_
      refine lv_imul (pc := 30) X.1 X.2.1 d_MD_pair_30 ?_
      refine lv_iconst (pc := 31) (v := 1) X.1 X.2.1 d_MD_pair_31 (by decide) ?_
      refine lv_iadd (pc := 32) X.1 X.2.1 d_MD_pair_32 ?_
      refine ab_ald (pc := 33) (f := u 2) (j := ((2 * x1) + 1).toNatClampNeg) X hX 2 0 rfl rfl (ab_k21 p1 h1) rfl d_MD_pair_33 ?_
      refine lv_iadd (pc := 34) X.1 X.2.1 d_MD_pair_34 ?_
      exact ab_jt (by rw [if_neg h1]) J
    ·
      refine lv_aload_n (pc := 5) X.1 X.2.1 d_MD_pair_5 rfl (lv_at hl 0 rfl) ?_
      refine ab_gx (pc := 6) (v := .int (u 0 9)) X hX 0 9 11 rfl rfl (Nat.le_of_ble_eq_true rfl) in_MD rfl tw_305 rfl d_MD_pair_6 ?_
      refine lv_goto (pc := 9) (tgt := 35) X.1 X.2.1 d_MD_pair_9 (by decide) ?_
      exact ab_jt (by rw [if_pos h1]) J
  exact ab_ki_ret (pc := 35) X hr hk hX rfl (by rw [f_MD_pair]) d_MD_pair_35
abbrev b_MD_setPair : ByteArray := prog_11_method_8_code
def y_MD_setPair : MethodName := ⟨"ArcadeBoardModel", "setPair", "(II)V"⟩
theorem d_MD_setPair_0 : decode b_MD_setPair 0 = .ok (.iload_n 2, 1) := by decide +kernel
theorem d_MD_setPair_1 : decode b_MD_setPair 1 = .ok (.ldc 37, 2) := by decide +kernel
theorem d_MD_setPair_3 : decode b_MD_setPair 3 = .ok (.iand, 1) := by decide +kernel
theorem d_MD_setPair_4 : decode b_MD_setPair 4 = .ok (.istore_n 3, 1) := by decide +kernel
theorem d_MD_setPair_5 : decode b_MD_setPair 5 = .ok (.iload_n 1, 1) := by decide +kernel
theorem d_MD_setPair_6 : decode b_MD_setPair 6 = .ok (.iconst 3, 1) := by decide +kernel
theorem d_MD_setPair_7 : decode b_MD_setPair 7 = .ok (.if_icmp .ne 11, 3) := by decide +kernel
theorem d_MD_setPair_10 : decode b_MD_setPair 10 = .ok (.aload_n 0, 1) := by decide +kernel
theorem d_MD_setPair_11 : decode b_MD_setPair 11 = .ok (.iload_n 3, 1) := by decide +kernel
theorem d_MD_setPair_12 : decode b_MD_setPair 12 = .ok (.putfield 42, 3) := by decide +kernel
theorem d_MD_setPair_15 : decode b_MD_setPair 15 = .ok (.goto 31, 3) := by decide +kernel
theorem d_MD_setPair_18 : decode b_MD_setPair 18 = .ok (.aload_n 0, 1) := by decide +kernel
theorem d_MD_setPair_19 : decode b_MD_setPair 19 = .ok (.getfield 13, 3) := by decide +kernel
theorem d_MD_setPair_22 : decode b_MD_setPair 22 = .ok (.iconst 2, 1) := by decide +kernel
theorem d_MD_setPair_23 : decode b_MD_setPair 23 = .ok (.iload_n 1, 1) := by decide +kernel
theorem d_MD_setPair_24 : decode b_MD_setPair 24 = .ok (.imul, 1) := by decide +kernel
theorem d_MD_setPair_25 : decode b_MD_setPair 25 = .ok (.iload_n 3, 1) := by decide +kernel
theorem d_MD_setPair_26 : decode b_MD_setPair 26 = .ok (.sipush 256, 3) := by decide +kernel
theorem d_MD_setPair_29 : decode b_MD_setPair 29 = .ok (.idiv, 1) := by decide +kernel
theorem d_MD_setPair_30 : decode b_MD_setPair 30 = .ok (.iastore, 1) := by decide +kernel
theorem d_MD_setPair_31 : decode b_MD_setPair 31 = .ok (.aload_n 0, 1) := by decide +kernel
theorem d_MD_setPair_32 : decode b_MD_setPair 32 = .ok (.getfield 13, 3) := by decide +kernel
theorem d_MD_setPair_35 : decode b_MD_setPair 35 = .ok (.iconst 2, 1) := by decide +kernel
theorem d_MD_setPair_36 : decode b_MD_setPair 36 = .ok (.iload_n 1, 1) := by decide +kernel
theorem d_MD_setPair_37 : decode b_MD_setPair 37 = .ok (.imul, 1) := by decide +kernel
theorem d_MD_setPair_38 : decode b_MD_setPair 38 = .ok (.iconst 1, 1) := by decide +kernel
theorem d_MD_setPair_39 : decode b_MD_setPair 39 = .ok (.iadd, 1) := by decide +kernel
theorem d_MD_setPair_40 : decode b_MD_setPair 40 = .ok (.iload_n 3, 1) := by decide +kernel
theorem d_MD_setPair_41 : decode b_MD_setPair 41 = .ok (.sipush 256, 3) := by decide +kernel
theorem d_MD_setPair_44 : decode b_MD_setPair 44 = .ok (.irem, 1) := by decide +kernel
theorem d_MD_setPair_45 : decode b_MD_setPair 45 = .ok (.iastore, 1) := by decide +kernel
theorem d_MD_setPair_46 : decode b_MD_setPair 46 = .ok (.return_, 1) := by decide +kernel
theorem tw_306 : Jvm.Cond.code ⟨"ArcadeBoardModel", "setPair", "(II)V"⟩ prog_11_method_8_code 4 (Option.none : Option Jvm.ClassFile.FieldType) ∈ AL := ab_in (ab_t4 (List.mem_of_getElem? (i := 94) (by decide +kernel))) rfl
theorem tw_307 : Jvm.Cond.instanceMethod ⟨"ArcadeBoardModel", "setPair", "(II)V"⟩ ∈ AL := ab_in (ab_t4 (List.mem_of_getElem? (i := 93) (by decide +kernel))) rfl
theorem tw_308 : Cond.selects "ArcadeBoardModel" ⟨"ArcadeBoardModel", "setPair", "(II)V"⟩ ⟨"ArcadeBoardModel", "setPair", "(II)V"⟩ ∈ AL := ab_in (ab_s3 (List.mem_of_getElem? (i := 1) (by decide +kernel))) rfl
theorem ok_MD_setPair : ab_yok y_MD_setPair b_MD_setPair 4 none 2 := ⟨tw_306, tw_280, by decide, by decide, by decide +kernel⟩
theorem okv_MD_setPair : ab_yok_V y_MD_setPair := ⟨tw_307, tw_308⟩
set_option maxHeartbeats 1000000 in
set_option maxRecDepth 100000 in
theorem c_MD_setPair (l : Launch) (D : va_G) (t : Nat → ClassId) (q : Nat → Nat) (u : SS) (x1 : Int32) (x2 : Int32) (p1 : ab_le3 x1) : ab_kv l D (tyC t) (wM t q) y_MD_setPair b_MD_setPair 4 { frames := 0, cells := 0, slots := 0, locals := 0 } [.ref (q 0), .int x1, .int x2] u (f_MD_setPair u x1 x2) := by
  refine ab_kv_ofW (by decide) (Nat.le_of_ble_eq_true rfl) (fun p e s m below meth c ls A X hr hk hl hX => ?_)
  have hl : lv_has ls 4 [(0, .ref (q 0)), (1, .int x1), (2, .int x2)] := hl
  refine lv_iload_n (pc := 0) X.1 X.2.1 d_MD_setPair_0 rfl (lv_at hl 2 rfl) ?_
  refine lv_ldc (pc := 1) (v := 65535) X.1 X.2.1 X.2.2.2.1 (X.2.2.2.2.1 _ tw_296) d_MD_setPair_1 ?_
  refine lv_iand (pc := 3) X.1 X.2.1 d_MD_setPair_3 ?_
  refine lv_istore_n (pc := 4) (lv' := [(3, .int (x2 &&& 65535)), (0, .ref (q 0)), (1, .int x1), (2, .int x2)]) X.1 X.2.1 d_MD_setPair_4 rfl hl (Nat.le_of_ble_eq_true rfl) rfl (fun ls hl => ?_)
  refine lv_iload_n (pc := 5) X.1 X.2.1 d_MD_setPair_5 rfl (lv_at hl 2 rfl) ?_
  refine lv_iconst (pc := 6) (v := 3) X.1 X.2.1 d_MD_setPair_6 (by decide) ?_
  refine lv_icmp_ne (pc := 7) (tgt := 18) X.1 X.2.1 d_MD_setPair_7 (by decide) (fun h1 => ?_) (fun h1 => ?_)
  ·
    refine lv_aload_n (pc := 18) X.1 X.2.1 d_MD_setPair_18 rfl (lv_at hl 1 rfl) ?_
    refine ab_gx (pc := 19) (v := .ref (q 2)) X hX 0 9 5 rfl rfl (Nat.le_of_ble_eq_true rfl) in_MD rfl tw_304 rfl d_MD_setPair_19 ?_
    refine lv_iconst (pc := 22) (v := 2) X.1 X.2.1 d_MD_setPair_22 (by decide) ?_
    refine lv_iload_n (pc := 23) X.1 X.2.1 d_MD_setPair_23 rfl (lv_at hl 2 rfl) ?_
    refine lv_imul (pc := 24) X.1 X.2.1 d_MD_setPair_24 ?_
    refine lv_iload_n (pc := 25) X.1 X.2.1 d_MD_setPair_25 rfl (lv_at hl 0 rfl) ?_
    refine lv_sipush (pc := 26) (v := 256) X.1 X.2.1 d_MD_setPair_26 (by decide) ?_
    refine lv_idiv (pc := 29) X.1 X.2.1 d_MD_setPair_29 (by decide) ?_
    refine ab_ast (pc := 30) (f := u 2) (j := (2 * x1).toNatClampNeg) (ws' := (wM t q (stt u 2 ((2 * x1).toNatClampNeg) ((x2 &&& 65535) / 256)))) X hX 2 0 rfl rfl (ab_k2 p1 h1) rfl (sa_wM_2 t q u ((2 * x1).toNatClampNeg) ((x2 &&& 65535) / 256)) d_MD_setPair_30 (fun H locs hX => ?_)
    refine lv_aload_n (pc := 31) X.1 X.2.1 d_MD_setPair_31 rfl (lv_at hl 1 rfl) ?_
    refine ab_gx (pc := 32) (v := .ref (q 2)) X hX 0 9 5 rfl rfl (Nat.le_of_ble_eq_true rfl) in_MD rfl tw_304 rfl d_MD_setPair_32 ?_
    refine lv_iconst (pc := 35) (v := 2) X.1 X.2.1 d_MD_setPair_35 (by decide) ?_
    refine lv_iload_n (pc := 36) X.1 X.2.1 d_MD_setPair_36 rfl (lv_at hl 2 rfl) ?_
    refine lv_imul (pc := 37) X.1 X.2.1 d_MD_setPair_37 ?_
    refine lv_iconst (pc := 38) (v := 1) X.1 X.2.1 d_MD_setPair_38 (by decide) ?_
    refine lv_iadd (pc := 39) X.1 X.2.1 d_MD_setPair_39 ?_
    refine lv_iload_n (pc := 40) X.1 X.2.1 d_MD_setPair_40 rfl (lv_at hl 0 rfl) ?_
    refine lv_sipush (pc := 41) (v := 256) X.1 X.2.1 d_MD_setPair_41 (by decide) ?_
    refine lv_irem (pc := 44) X.1 X.2.1 d_MD_setPair_44 (by decide) ?_
    refine ab_ast (pc := 45) (f := (stt u 2 ((2 * x1).toNatClampNeg) ((x2 &&& 65535) / 256)) 2) (j := ((2 * x1) + 1).toNatClampNeg) (ws' := (wM t q (stt (stt u 2 ((2 * x1).toNatClampNeg) ((x2 &&& 65535) / 256)) 2 (((2 * x1) + 1).toNatClampNeg) ((x2 &&& 65535) - (x2 &&& 65535) / 256 * 256)))) X hX 2 0 rfl rfl (ab_k21 p1 h1) rfl (sa_wM_2 t q (stt u 2 ((2 * x1).toNatClampNeg) ((x2 &&& 65535) / 256)) (((2 * x1) + 1).toNatClampNeg) ((x2 &&& 65535) - (x2 &&& 65535) / 256 * 256)) d_MD_setPair_45 (fun H locs hX => ?_)
    exact ab_kv_ret (pc := 46) X hr hk hX (by rw [f_MD_setPair, if_neg h1]) d_MD_setPair_46
  ·
    refine lv_aload_n (pc := 10) X.1 X.2.1 d_MD_setPair_10 rfl (lv_at hl 1 rfl) ?_
    refine lv_iload_n (pc := 11) X.1 X.2.1 d_MD_setPair_11 rfl (lv_at hl 0 rfl) ?_
    refine ab_px (pc := 12) (ws' := (wM t q (stt u 0 9 (x2 &&& 65535)))) X hX 0 9 11 ty_MD ty_MD_ok nm_MD rfl rfl (Nat.le_of_ble_eq_true rfl) in_MD rfl tw_305 rfl rfl rfl rfl (Nat.le_of_ble_eq_true rfl) (sf_wM_0_11 t q u (x2 &&& 65535)) d_MD_setPair_12 (fun H locs hX => ?_)
    refine lv_goto (pc := 15) (tgt := 46) X.1 X.2.1 d_MD_setPair_15 (by decide) ?_
    exact ab_kv_ret (pc := 46) X hr hk hX (by rw [f_MD_setPair, if_pos h1]) d_MD_setPair_46
abbrev b_MD_get : ByteArray := prog_11_method_9_code
def y_MD_get : MethodName := ⟨"ArcadeBoardModel", "get", "(I)I"⟩
theorem d_MD_get_0 : decode b_MD_get 0 = .ok (.iload_n 1, 1) := by decide +kernel
theorem d_MD_get_1 : decode b_MD_get 1 = .ok (.bipush 6, 2) := by decide +kernel
theorem d_MD_get_3 : decode b_MD_get 3 = .ok (.if_icmp .ne 15, 3) := by decide +kernel
theorem d_MD_get_6 : decode b_MD_get 6 = .ok (.aload_n 0, 1) := by decide +kernel
theorem d_MD_get_7 : decode b_MD_get 7 = .ok (.aload_n 0, 1) := by decide +kernel
theorem d_MD_get_8 : decode b_MD_get 8 = .ok (.iconst 2, 1) := by decide +kernel
theorem d_MD_get_9 : decode b_MD_get 9 = .ok (.invokevirtual 45, 3) := by decide +kernel
theorem d_MD_get_12 : decode b_MD_get 12 = .ok (.invokevirtual 33, 3) := by decide +kernel
theorem d_MD_get_15 : decode b_MD_get 15 = .ok (.goto 9, 3) := by decide +kernel
theorem d_MD_get_18 : decode b_MD_get 18 = .ok (.aload_n 0, 1) := by decide +kernel
theorem d_MD_get_19 : decode b_MD_get 19 = .ok (.getfield 13, 3) := by decide +kernel
theorem d_MD_get_22 : decode b_MD_get 22 = .ok (.iload_n 1, 1) := by decide +kernel
theorem d_MD_get_23 : decode b_MD_get 23 = .ok (.iaload, 1) := by decide +kernel
theorem d_MD_get_24 : decode b_MD_get 24 = .ok (.ireturn, 1) := by decide +kernel
theorem tw_309 : Jvm.Cond.code ⟨"ArcadeBoardModel", "get", "(I)I"⟩ prog_11_method_9_code 2 (Option.some Jvm.ClassFile.FieldType.int) ∈ AL := ab_in (ab_t4 (List.mem_of_getElem? (i := 106) (by decide +kernel))) rfl
theorem tw_310 : Jvm.Cond.instanceMethod ⟨"ArcadeBoardModel", "get", "(I)I"⟩ ∈ AL := ab_in (ab_t4 (List.mem_of_getElem? (i := 105) (by decide +kernel))) rfl
theorem tw_311 : Cond.selects "ArcadeBoardModel" ⟨"ArcadeBoardModel", "get", "(I)I"⟩ ⟨"ArcadeBoardModel", "get", "(I)I"⟩ ∈ AL := ab_in (ab_s3 (List.mem_of_getElem? (i := 4) (by decide +kernel))) rfl
theorem tw_312 : Jvm.Cond.methodLink "ArcadeBoardModel" 45 ⟨"ArcadeBoardModel", "pair", "(I)I"⟩ ∈ AL := ab_in (ab_t4 (List.mem_of_getElem? (i := 95) (by decide +kernel))) rfl
theorem ok_MD_get : ab_yok y_MD_get b_MD_get 2 (some .int) 1 := ⟨tw_309, tw_280, by decide, by decide, by decide +kernel⟩
theorem okv_MD_get : ab_yok_V y_MD_get := ⟨tw_310, tw_311⟩
set_option maxHeartbeats 1000000 in
set_option maxRecDepth 100000 in
theorem c_MD_get (l : Launch) (D : va_G) (t : Nat → ClassId) (q : Nat → Nat) (u : SS) (x1 : Int32) (p1 : ab_lt8 x1) : ab_ki l D (tyC t) (wM t q) y_MD_get b_MD_get 2 .int { frames := 1, cells := 0, slots := 0, locals := 21 } [.ref (q 0), .int x1] u ((f_MD_get u x1, u)) := by
  refine ab_ki_ofW (by decide) (Nat.le_of_ble_eq_true rfl) (fun p e s m below meth c ls A X hr hk hl hX => ?_)
  have hl : lv_has ls 2 [(0, .ref (q 0)), (1, .int x1)] := hl
  refine lv_iload_n (pc := 0) X.1 X.2.1 d_MD_get_0 rfl (lv_at hl 1 rfl) ?_
  refine lv_bipush (pc := 1) (v := 6) X.1 X.2.1 d_MD_get_1 (by decide) ?_
  refine lv_icmp_ne (pc := 3) (tgt := 18) X.1 X.2.1 d_MD_get_3 (by decide) (fun h1 => ?_) (fun h1 => ?_)
  ·
    refine lv_aload_n (pc := 18) X.1 X.2.1 d_MD_get_18 rfl (lv_at hl 0 rfl) ?_
    refine ab_gx (pc := 19) (v := .ref (q 2)) X hX 0 9 5 rfl rfl (Nat.le_of_ble_eq_true rfl) in_MD rfl tw_304 rfl d_MD_get_19 ?_
    refine lv_iload_n (pc := 22) X.1 X.2.1 d_MD_get_22 rfl (lv_at hl 1 rfl) ?_
    refine ab_ald (pc := 23) (f := u 2) (j := (x1).toNatClampNeg) X hX 2 0 rfl rfl (ab_r8 p1) rfl d_MD_get_23 ?_
    exact ab_ki_ret (pc := 24) X hr hk hX rfl (by rw [f_MD_get, if_neg h1]) d_MD_get_24
  ·
    refine lv_aload_n (pc := 6) X.1 X.2.1 d_MD_get_6 rfl (lv_at hl 0 rfl) ?_
    refine lv_aload_n (pc := 7) X.1 X.2.1 d_MD_get_7 rfl (lv_at hl 0 rfl) ?_
    refine lv_iconst (pc := 8) (v := 2) X.1 X.2.1 d_MD_get_8 (by decide) ?_
    refine ab_kr_callV (pc := 9) (wr := []) (w := (wM t q)) (u := u) (r := f_MD_pair u 2) (as := [.int 2]) (rest := [.ref (q 0)]) X hX (c_MD_pair l D t q u 2 (ab_le3c (by decide : (2 : Nat) ≤ 3))) ok_MD_pair okv_MD_pair tw_312 0 9 rfl rfl rfl hl.1 rfl (Nat.le_of_ble_eq_true rfl) ⟨rfl, rfl, Nat.le_of_ble_eq_true rfl, Nat.le_of_ble_eq_true rfl⟩ ⟨Nat.zero_le _, Nat.zero_le _⟩ d_MD_get_9 (fun H locs hX => ?_)
    refine ab_kr_callV (pc := 12) (wr := []) (w := (wM t q)) (u := u) (r := f_MD_read u (f_MD_pair u 2)) (as := [.int (f_MD_pair u 2)]) (rest := []) X hX (c_MD_read l D t q u (f_MD_pair u 2)) ok_MD_read okv_MD_read tw_295 0 9 rfl rfl rfl hl.1 rfl (Nat.le_of_ble_eq_true rfl) ⟨rfl, rfl, Nat.le_of_ble_eq_true rfl, Nat.le_of_ble_eq_true rfl⟩ ⟨Nat.zero_le _, Nat.zero_le _⟩ d_MD_get_12 (fun H locs hX => ?_)
    refine lv_goto (pc := 15) (tgt := 24) X.1 X.2.1 d_MD_get_15 (by decide) ?_
    exact ab_ki_ret (pc := 24) X hr hk hX rfl (by rw [f_MD_get, if_pos h1]) d_MD_get_24
abbrev b_MD_set : ByteArray := prog_11_method_10_code
def y_MD_set : MethodName := ⟨"ArcadeBoardModel", "set", "(II)V"⟩
theorem d_MD_set_0 : decode b_MD_set 0 = .ok (.iload_n 1, 1) := by decide +kernel
theorem d_MD_set_1 : decode b_MD_set 1 = .ok (.bipush 6, 2) := by decide +kernel
theorem d_MD_set_3 : decode b_MD_set 3 = .ok (.if_icmp .ne 16, 3) := by decide +kernel
theorem d_MD_set_6 : decode b_MD_set 6 = .ok (.aload_n 0, 1) := by decide +kernel
theorem d_MD_set_7 : decode b_MD_set 7 = .ok (.aload_n 0, 1) := by decide +kernel
theorem d_MD_set_8 : decode b_MD_set 8 = .ok (.iconst 2, 1) := by decide +kernel
theorem d_MD_set_9 : decode b_MD_set 9 = .ok (.invokevirtual 45, 3) := by decide +kernel
theorem d_MD_set_12 : decode b_MD_set 12 = .ok (.iload_n 2, 1) := by decide +kernel
theorem d_MD_set_13 : decode b_MD_set 13 = .ok (.invokevirtual 48, 3) := by decide +kernel
theorem d_MD_set_16 : decode b_MD_set 16 = .ok (.goto 14, 3) := by decide +kernel
theorem d_MD_set_19 : decode b_MD_set 19 = .ok (.aload_n 0, 1) := by decide +kernel
theorem d_MD_set_20 : decode b_MD_set 20 = .ok (.getfield 13, 3) := by decide +kernel
theorem d_MD_set_23 : decode b_MD_set 23 = .ok (.iload_n 1, 1) := by decide +kernel
theorem d_MD_set_24 : decode b_MD_set 24 = .ok (.iload_n 2, 1) := by decide +kernel
theorem d_MD_set_25 : decode b_MD_set 25 = .ok (.sipush 255, 3) := by decide +kernel
theorem d_MD_set_28 : decode b_MD_set 28 = .ok (.iand, 1) := by decide +kernel
theorem d_MD_set_29 : decode b_MD_set 29 = .ok (.iastore, 1) := by decide +kernel
theorem d_MD_set_30 : decode b_MD_set 30 = .ok (.return_, 1) := by decide +kernel
theorem tw_313 : Jvm.Cond.code ⟨"ArcadeBoardModel", "set", "(II)V"⟩ prog_11_method_10_code 3 (Option.none : Option Jvm.ClassFile.FieldType) ∈ AL := ab_in (ab_t4 (List.mem_of_getElem? (i := 114) (by decide +kernel))) rfl
theorem tw_314 : Jvm.Cond.instanceMethod ⟨"ArcadeBoardModel", "set", "(II)V"⟩ ∈ AL := ab_in (ab_t4 (List.mem_of_getElem? (i := 113) (by decide +kernel))) rfl
theorem tw_315 : Cond.selects "ArcadeBoardModel" ⟨"ArcadeBoardModel", "set", "(II)V"⟩ ⟨"ArcadeBoardModel", "set", "(II)V"⟩ ∈ AL := ab_in (ab_s3 (List.mem_of_getElem? (i := 6) (by decide +kernel))) rfl
theorem tw_316 : Jvm.Cond.methodLink "ArcadeBoardModel" 48 ⟨"ArcadeBoardModel", "write", "(II)V"⟩ ∈ AL := ab_in (ab_t4 (List.mem_of_getElem? (i := 67) (by decide +kernel))) rfl
theorem ok_MD_set : ab_yok y_MD_set b_MD_set 3 none 2 := ⟨tw_313, tw_280, by decide, by decide, by decide +kernel⟩
theorem okv_MD_set : ab_yok_V y_MD_set := ⟨tw_314, tw_315⟩
set_option maxHeartbeats 1000000 in
set_option maxRecDepth 100000 in
theorem c_MD_set (l : Launch) (D : va_G) (t : Nat → ClassId) (q : Nat → Nat) (u : SS) (x1 : Int32) (x2 : Int32) (p1 : ab_lt8 x1) : ab_kv l D (tyC t) (wM t q) y_MD_set b_MD_set 3 { frames := 1, cells := 0, slots := 0, locals := 23 } [.ref (q 0), .int x1, .int x2] u (f_MD_set u x1 x2) := by
  refine ab_kv_ofW (by decide) (Nat.le_of_ble_eq_true rfl) (fun p e s m below meth c ls A X hr hk hl hX => ?_)
  have hl : lv_has ls 3 [(0, .ref (q 0)), (1, .int x1), (2, .int x2)] := hl
  refine lv_iload_n (pc := 0) X.1 X.2.1 d_MD_set_0 rfl (lv_at hl 1 rfl) ?_
  refine lv_bipush (pc := 1) (v := 6) X.1 X.2.1 d_MD_set_1 (by decide) ?_
  refine lv_icmp_ne (pc := 3) (tgt := 19) X.1 X.2.1 d_MD_set_3 (by decide) (fun h1 => ?_) (fun h1 => ?_)
  ·
    refine lv_aload_n (pc := 19) X.1 X.2.1 d_MD_set_19 rfl (lv_at hl 0 rfl) ?_
    refine ab_gx (pc := 20) (v := .ref (q 2)) X hX 0 9 5 rfl rfl (Nat.le_of_ble_eq_true rfl) in_MD rfl tw_304 rfl d_MD_set_20 ?_
    refine lv_iload_n (pc := 23) X.1 X.2.1 d_MD_set_23 rfl (lv_at hl 1 rfl) ?_
    refine lv_iload_n (pc := 24) X.1 X.2.1 d_MD_set_24 rfl (lv_at hl 2 rfl) ?_
    refine lv_sipush (pc := 25) (v := 255) X.1 X.2.1 d_MD_set_25 (by decide) ?_
    refine lv_iand (pc := 28) X.1 X.2.1 d_MD_set_28 ?_
    refine ab_ast (pc := 29) (f := u 2) (j := (x1).toNatClampNeg) (ws' := (wM t q (stt u 2 ((x1).toNatClampNeg) (x2 &&& 255)))) X hX 2 0 rfl rfl (ab_r8 p1) rfl (sa_wM_2 t q u ((x1).toNatClampNeg) (x2 &&& 255)) d_MD_set_29 (fun H locs hX => ?_)
    exact ab_kv_ret (pc := 30) X hr hk hX (by rw [f_MD_set, if_neg h1]) d_MD_set_30
  ·
    refine lv_aload_n (pc := 6) X.1 X.2.1 d_MD_set_6 rfl (lv_at hl 0 rfl) ?_
    refine lv_aload_n (pc := 7) X.1 X.2.1 d_MD_set_7 rfl (lv_at hl 0 rfl) ?_
    refine lv_iconst (pc := 8) (v := 2) X.1 X.2.1 d_MD_set_8 (by decide) ?_
    refine ab_kr_callV (pc := 9) (wr := []) (w := (wM t q)) (u := u) (r := f_MD_pair u 2) (as := [.int 2]) (rest := [.ref (q 0)]) X hX (c_MD_pair l D t q u 2 (ab_le3c (by decide : (2 : Nat) ≤ 3))) ok_MD_pair okv_MD_pair tw_312 0 9 rfl rfl rfl hl.1 rfl (Nat.le_of_ble_eq_true rfl) ⟨rfl, rfl, Nat.le_of_ble_eq_true rfl, Nat.le_of_ble_eq_true rfl⟩ ⟨Nat.zero_le _, Nat.zero_le _⟩ d_MD_set_9 (fun H locs hX => ?_)
    refine lv_iload_n (pc := 12) X.1 X.2.1 d_MD_set_12 rfl (lv_at hl 2 rfl) ?_
    refine ab_kv_callV (pc := 13) (wr := []) (w := (wM t q)) (u := u) (F := f_MD_write u (f_MD_pair u 2) x2) (as := [.int (f_MD_pair u 2), .int x2]) (rest := []) X hX (c_MD_write l D t q u (f_MD_pair u 2) x2) ok_MD_write okv_MD_write tw_316 0 9 rfl rfl rfl hl.1 rfl (Nat.le_of_ble_eq_true rfl) ⟨rfl, rfl, Nat.le_of_ble_eq_true rfl, Nat.le_of_ble_eq_true rfl⟩ ⟨Nat.zero_le _, Nat.zero_le _⟩ d_MD_set_13 (fun H locs hX => ?_)
    refine lv_goto (pc := 16) (tgt := 30) X.1 X.2.1 d_MD_set_16 (by decide) ?_
    exact ab_kv_ret (pc := 30) X hr hk hX (by rw [f_MD_set, if_pos h1]) d_MD_set_30
abbrev b_MD_push : ByteArray := prog_11_method_11_code
def y_MD_push : MethodName := ⟨"ArcadeBoardModel", "push", "(I)V"⟩
theorem d_MD_push_0 : decode b_MD_push 0 = .ok (.aload_n 0, 1) := by decide +kernel
theorem d_MD_push_1 : decode b_MD_push 1 = .ok (.aload_n 0, 1) := by decide +kernel
theorem d_MD_push_2 : decode b_MD_push 2 = .ok (.getfield 42, 3) := by decide +kernel
theorem d_MD_push_5 : decode b_MD_push 5 = .ok (.iconst 1, 1) := by decide +kernel
theorem d_MD_push_6 : decode b_MD_push 6 = .ok (.isub, 1) := by decide +kernel
theorem d_MD_push_7 : decode b_MD_push 7 = .ok (.iload_n 1, 1) := by decide +kernel
theorem d_MD_push_8 : decode b_MD_push 8 = .ok (.sipush 256, 3) := by decide +kernel
theorem d_MD_push_11 : decode b_MD_push 11 = .ok (.idiv, 1) := by decide +kernel
theorem d_MD_push_12 : decode b_MD_push 12 = .ok (.invokevirtual 48, 3) := by decide +kernel
theorem d_MD_push_15 : decode b_MD_push 15 = .ok (.aload_n 0, 1) := by decide +kernel
theorem d_MD_push_16 : decode b_MD_push 16 = .ok (.aload_n 0, 1) := by decide +kernel
theorem d_MD_push_17 : decode b_MD_push 17 = .ok (.getfield 42, 3) := by decide +kernel
theorem d_MD_push_20 : decode b_MD_push 20 = .ok (.iconst 2, 1) := by decide +kernel
theorem d_MD_push_21 : decode b_MD_push 21 = .ok (.isub, 1) := by decide +kernel
theorem d_MD_push_22 : decode b_MD_push 22 = .ok (.iload_n 1, 1) := by decide +kernel
theorem d_MD_push_23 : decode b_MD_push 23 = .ok (.sipush 256, 3) := by decide +kernel
theorem d_MD_push_26 : decode b_MD_push 26 = .ok (.irem, 1) := by decide +kernel
theorem d_MD_push_27 : decode b_MD_push 27 = .ok (.invokevirtual 48, 3) := by decide +kernel
theorem d_MD_push_30 : decode b_MD_push 30 = .ok (.aload_n 0, 1) := by decide +kernel
theorem d_MD_push_31 : decode b_MD_push 31 = .ok (.aload_n 0, 1) := by decide +kernel
theorem d_MD_push_32 : decode b_MD_push 32 = .ok (.getfield 42, 3) := by decide +kernel
theorem d_MD_push_35 : decode b_MD_push 35 = .ok (.iconst 2, 1) := by decide +kernel
theorem d_MD_push_36 : decode b_MD_push 36 = .ok (.isub, 1) := by decide +kernel
theorem d_MD_push_37 : decode b_MD_push 37 = .ok (.ldc 37, 2) := by decide +kernel
theorem d_MD_push_39 : decode b_MD_push 39 = .ok (.iand, 1) := by decide +kernel
theorem d_MD_push_40 : decode b_MD_push 40 = .ok (.putfield 42, 3) := by decide +kernel
theorem d_MD_push_43 : decode b_MD_push 43 = .ok (.return_, 1) := by decide +kernel
theorem tw_317 : Jvm.Cond.code ⟨"ArcadeBoardModel", "push", "(I)V"⟩ prog_11_method_11_code 2 (Option.none : Option Jvm.ClassFile.FieldType) ∈ AL := ab_in (ab_t4 (List.mem_of_getElem? (i := 66) (by decide +kernel))) rfl
theorem tw_318 : Jvm.Cond.instanceMethod ⟨"ArcadeBoardModel", "push", "(I)V"⟩ ∈ AL := ab_in (ab_t4 (List.mem_of_getElem? (i := 65) (by decide +kernel))) rfl
theorem tw_319 : Cond.selects "ArcadeBoardModel" ⟨"ArcadeBoardModel", "push", "(I)V"⟩ ⟨"ArcadeBoardModel", "push", "(I)V"⟩ ∈ AL := ab_in (ab_s2 (List.mem_of_getElem? (i := 10) (by decide +kernel))) rfl
theorem ok_MD_push : ab_yok y_MD_push b_MD_push 2 none 1 := ⟨tw_317, tw_280, by decide, by decide, by decide +kernel⟩
theorem okv_MD_push : ab_yok_V y_MD_push := ⟨tw_318, tw_319⟩
set_option maxHeartbeats 1000000 in
set_option maxRecDepth 100000 in
theorem c_MD_push (l : Launch) (D : va_G) (t : Nat → ClassId) (q : Nat → Nat) (u : SS) (x1 : Int32) : ab_kv l D (tyC t) (wM t q) y_MD_push b_MD_push 2 { frames := 1, cells := 0, slots := 0, locals := 23 } [.ref (q 0), .int x1] u (f_MD_push u x1) := by
  refine ab_kv_ofW (by decide) (Nat.le_of_ble_eq_true rfl) (fun p e s m below meth c ls A X hr hk hl hX => ?_)
  have hl : lv_has ls 2 [(0, .ref (q 0)), (1, .int x1)] := hl
  refine lv_aload_n (pc := 0) X.1 X.2.1 d_MD_push_0 rfl (lv_at hl 0 rfl) ?_
  refine lv_aload_n (pc := 1) X.1 X.2.1 d_MD_push_1 rfl (lv_at hl 0 rfl) ?_
  refine ab_gx (pc := 2) (v := .int (u 0 9)) X hX 0 9 11 rfl rfl (Nat.le_of_ble_eq_true rfl) in_MD rfl tw_305 rfl d_MD_push_2 ?_
  refine lv_iconst (pc := 5) (v := 1) X.1 X.2.1 d_MD_push_5 (by decide) ?_
  refine lv_isub (pc := 6) X.1 X.2.1 d_MD_push_6 ?_
  refine lv_iload_n (pc := 7) X.1 X.2.1 d_MD_push_7 rfl (lv_at hl 1 rfl) ?_
  refine lv_sipush (pc := 8) (v := 256) X.1 X.2.1 d_MD_push_8 (by decide) ?_
  refine lv_idiv (pc := 11) X.1 X.2.1 d_MD_push_11 (by decide) ?_
  refine ab_kv_callV (pc := 12) (wr := []) (w := (wM t q)) (u := u) (F := f_MD_write u ((u 0 9) - 1) (x1 / 256)) (as := [.int ((u 0 9) - 1), .int (x1 / 256)]) (rest := []) X hX (c_MD_write l D t q u ((u 0 9) - 1) (x1 / 256)) ok_MD_write okv_MD_write tw_316 0 9 rfl rfl rfl hl.1 rfl (Nat.le_of_ble_eq_true rfl) ⟨rfl, rfl, Nat.le_of_ble_eq_true rfl, Nat.le_of_ble_eq_true rfl⟩ ⟨Nat.zero_le _, Nat.zero_le _⟩ d_MD_push_12 (fun H locs hX => ?_)
  refine lv_aload_n (pc := 15) X.1 X.2.1 d_MD_push_15 rfl (lv_at hl 0 rfl) ?_
  refine lv_aload_n (pc := 16) X.1 X.2.1 d_MD_push_16 rfl (lv_at hl 0 rfl) ?_
  refine ab_gx (pc := 17) (v := .int ((f_MD_write u ((u 0 9) - 1) (x1 / 256)) 0 9)) X hX 0 9 11 rfl rfl (Nat.le_of_ble_eq_true rfl) in_MD rfl tw_305 rfl d_MD_push_17 ?_
  refine lv_iconst (pc := 20) (v := 2) X.1 X.2.1 d_MD_push_20 (by decide) ?_
  refine lv_isub (pc := 21) X.1 X.2.1 d_MD_push_21 ?_
  refine lv_iload_n (pc := 22) X.1 X.2.1 d_MD_push_22 rfl (lv_at hl 1 rfl) ?_
  refine lv_sipush (pc := 23) (v := 256) X.1 X.2.1 d_MD_push_23 (by decide) ?_
  refine lv_irem (pc := 26) X.1 X.2.1 d_MD_push_26 (by decide) ?_
  refine ab_kv_callV (pc := 27) (wr := []) (w := (wM t q)) (u := (f_MD_write u ((u 0 9) - 1) (x1 / 256))) (F := f_MD_write (f_MD_write u ((u 0 9) - 1) (x1 / 256)) (((f_MD_write u ((u 0 9) - 1) (x1 / 256)) 0 9) - 2) (x1 - x1 / 256 * 256)) (as := [.int (((f_MD_write u ((u 0 9) - 1) (x1 / 256)) 0 9) - 2), .int (x1 - x1 / 256 * 256)]) (rest := []) X hX (c_MD_write l D t q (f_MD_write u ((u 0 9) - 1) (x1 / 256)) (((f_MD_write u ((u 0 9) - 1) (x1 / 256)) 0 9) - 2) (x1 - x1 / 256 * 256)) ok_MD_write okv_MD_write tw_316 0 9 rfl rfl rfl hl.1 rfl (Nat.le_of_ble_eq_true rfl) ⟨rfl, rfl, Nat.le_of_ble_eq_true rfl, Nat.le_of_ble_eq_true rfl⟩ ⟨Nat.zero_le _, Nat.zero_le _⟩ d_MD_push_27 (fun H locs hX => ?_)
  refine lv_aload_n (pc := 30) X.1 X.2.1 d_MD_push_30 rfl (lv_at hl 0 rfl) ?_
  refine lv_aload_n (pc := 31) X.1 X.2.1 d_MD_push_31 rfl (lv_at hl 0 rfl) ?_
  refine ab_gx (pc := 32) (v := .int ((f_MD_write (f_MD_write u ((u 0 9) - 1) (x1 / 256)) (((f_MD_write u ((u 0 9) - 1) (x1 / 256)) 0 9) - 2) (x1 - x1 / 256 * 256)) 0 9)) X hX 0 9 11 rfl rfl (Nat.le_of_ble_eq_true rfl) in_MD rfl tw_305 rfl d_MD_push_32 ?_
  refine lv_iconst (pc := 35) (v := 2) X.1 X.2.1 d_MD_push_35 (by decide) ?_
  refine lv_isub (pc := 36) X.1 X.2.1 d_MD_push_36 ?_
  refine lv_ldc (pc := 37) (v := 65535) X.1 X.2.1 X.2.2.2.1 (X.2.2.2.2.1 _ tw_296) d_MD_push_37 ?_
  refine lv_iand (pc := 39) X.1 X.2.1 d_MD_push_39 ?_
  refine ab_px (pc := 40) (ws' := (wM t q (stt (f_MD_write (f_MD_write u ((u 0 9) - 1) (x1 / 256)) (((f_MD_write u ((u 0 9) - 1) (x1 / 256)) 0 9) - 2) (x1 - x1 / 256 * 256)) 0 9 ((((f_MD_write (f_MD_write u ((u 0 9) - 1) (x1 / 256)) (((f_MD_write u ((u 0 9) - 1) (x1 / 256)) 0 9) - 2) (x1 - x1 / 256 * 256)) 0 9) - 2) &&& 65535)))) X hX 0 9 11 ty_MD ty_MD_ok nm_MD rfl rfl (Nat.le_of_ble_eq_true rfl) in_MD rfl tw_305 rfl rfl rfl rfl (Nat.le_of_ble_eq_true rfl) (sf_wM_0_11 t q (f_MD_write (f_MD_write u ((u 0 9) - 1) (x1 / 256)) (((f_MD_write u ((u 0 9) - 1) (x1 / 256)) 0 9) - 2) (x1 - x1 / 256 * 256)) ((((f_MD_write (f_MD_write u ((u 0 9) - 1) (x1 / 256)) (((f_MD_write u ((u 0 9) - 1) (x1 / 256)) 0 9) - 2) (x1 - x1 / 256 * 256)) 0 9) - 2) &&& 65535)) d_MD_push_40 (fun H locs hX => ?_)
  exact ab_kv_ret (pc := 43) X hr hk hX (by rw [f_MD_push]) d_MD_push_43
abbrev b_MD_pop : ByteArray := prog_11_method_12_code
def y_MD_pop : MethodName := ⟨"ArcadeBoardModel", "pop", "()I"⟩
theorem d_MD_pop_0 : decode b_MD_pop 0 = .ok (.aload_n 0, 1) := by decide +kernel
theorem d_MD_pop_1 : decode b_MD_pop 1 = .ok (.aload_n 0, 1) := by decide +kernel
theorem d_MD_pop_2 : decode b_MD_pop 2 = .ok (.getfield 42, 3) := by decide +kernel
theorem d_MD_pop_5 : decode b_MD_pop 5 = .ok (.invokevirtual 33, 3) := by decide +kernel
theorem d_MD_pop_8 : decode b_MD_pop 8 = .ok (.sipush 256, 3) := by decide +kernel
theorem d_MD_pop_11 : decode b_MD_pop 11 = .ok (.aload_n 0, 1) := by decide +kernel
theorem d_MD_pop_12 : decode b_MD_pop 12 = .ok (.aload_n 0, 1) := by decide +kernel
theorem d_MD_pop_13 : decode b_MD_pop 13 = .ok (.getfield 42, 3) := by decide +kernel
theorem d_MD_pop_16 : decode b_MD_pop 16 = .ok (.iconst 1, 1) := by decide +kernel
theorem d_MD_pop_17 : decode b_MD_pop 17 = .ok (.iadd, 1) := by decide +kernel
theorem d_MD_pop_18 : decode b_MD_pop 18 = .ok (.invokevirtual 33, 3) := by decide +kernel
theorem d_MD_pop_21 : decode b_MD_pop 21 = .ok (.imul, 1) := by decide +kernel
theorem d_MD_pop_22 : decode b_MD_pop 22 = .ok (.iadd, 1) := by decide +kernel
theorem d_MD_pop_23 : decode b_MD_pop 23 = .ok (.istore_n 1, 1) := by decide +kernel
theorem d_MD_pop_24 : decode b_MD_pop 24 = .ok (.aload_n 0, 1) := by decide +kernel
theorem d_MD_pop_25 : decode b_MD_pop 25 = .ok (.aload_n 0, 1) := by decide +kernel
theorem d_MD_pop_26 : decode b_MD_pop 26 = .ok (.getfield 42, 3) := by decide +kernel
theorem d_MD_pop_29 : decode b_MD_pop 29 = .ok (.iconst 2, 1) := by decide +kernel
theorem d_MD_pop_30 : decode b_MD_pop 30 = .ok (.iadd, 1) := by decide +kernel
theorem d_MD_pop_31 : decode b_MD_pop 31 = .ok (.ldc 37, 2) := by decide +kernel
theorem d_MD_pop_33 : decode b_MD_pop 33 = .ok (.iand, 1) := by decide +kernel
theorem d_MD_pop_34 : decode b_MD_pop 34 = .ok (.putfield 42, 3) := by decide +kernel
theorem d_MD_pop_37 : decode b_MD_pop 37 = .ok (.iload_n 1, 1) := by decide +kernel
theorem d_MD_pop_38 : decode b_MD_pop 38 = .ok (.ireturn, 1) := by decide +kernel
theorem tw_320 : Jvm.Cond.code ⟨"ArcadeBoardModel", "pop", "()I"⟩ prog_11_method_12_code 2 (Option.some Jvm.ClassFile.FieldType.int) ∈ AL := ab_in (ab_t4 (List.mem_of_getElem? (i := 134) (by decide +kernel))) rfl
theorem tw_321 : Jvm.Cond.instanceMethod ⟨"ArcadeBoardModel", "pop", "()I"⟩ ∈ AL := ab_in (ab_t4 (List.mem_of_getElem? (i := 133) (by decide +kernel))) rfl
theorem tw_322 : Cond.selects "ArcadeBoardModel" ⟨"ArcadeBoardModel", "pop", "()I"⟩ ⟨"ArcadeBoardModel", "pop", "()I"⟩ ∈ AL := ab_in (ab_s3 (List.mem_of_getElem? (i := 11) (by decide +kernel))) rfl
theorem ok_MD_pop : ab_yok y_MD_pop b_MD_pop 2 (some .int) 0 := ⟨tw_320, tw_280, by decide, by decide, by decide +kernel⟩
theorem okv_MD_pop : ab_yok_V y_MD_pop := ⟨tw_321, tw_322⟩
set_option maxHeartbeats 1000000 in
set_option maxRecDepth 100000 in
theorem c_MD_pop (l : Launch) (D : va_G) (t : Nat → ClassId) (q : Nat → Nat) (u : SS) : ab_ki l D (tyC t) (wM t q) y_MD_pop b_MD_pop 2 .int { frames := 1, cells := 0, slots := 0, locals := 21 } [.ref (q 0)] u (f_MD_pop u) := by
  refine ab_ki_ofW (by decide) (Nat.le_of_ble_eq_true rfl) (fun p e s m below meth c ls A X hr hk hl hX => ?_)
  have hl : lv_has ls 2 [(0, .ref (q 0))] := hl
  refine lv_aload_n (pc := 0) X.1 X.2.1 d_MD_pop_0 rfl (lv_at hl 0 rfl) ?_
  refine lv_aload_n (pc := 1) X.1 X.2.1 d_MD_pop_1 rfl (lv_at hl 0 rfl) ?_
  refine ab_gx (pc := 2) (v := .int (u 0 9)) X hX 0 9 11 rfl rfl (Nat.le_of_ble_eq_true rfl) in_MD rfl tw_305 rfl d_MD_pop_2 ?_
  refine ab_kr_callV (pc := 5) (wr := []) (w := (wM t q)) (u := u) (r := f_MD_read u (u 0 9)) (as := [.int (u 0 9)]) (rest := []) X hX (c_MD_read l D t q u (u 0 9)) ok_MD_read okv_MD_read tw_295 0 9 rfl rfl rfl hl.1 rfl (Nat.le_of_ble_eq_true rfl) ⟨rfl, rfl, Nat.le_of_ble_eq_true rfl, Nat.le_of_ble_eq_true rfl⟩ ⟨Nat.zero_le _, Nat.zero_le _⟩ d_MD_pop_5 (fun H locs hX => ?_)
  refine lv_sipush (pc := 8) (v := 256) X.1 X.2.1 d_MD_pop_8 (by decide) ?_
  refine lv_aload_n (pc := 11) X.1 X.2.1 d_MD_pop_11 rfl (lv_at hl 0 rfl) ?_
  refine lv_aload_n (pc := 12) X.1 X.2.1 d_MD_pop_12 rfl (lv_at hl 0 rfl) ?_
  refine ab_gx (pc := 13) (v := .int (u 0 9)) X hX 0 9 11 rfl rfl (Nat.le_of_ble_eq_true rfl) in_MD rfl tw_305 rfl d_MD_pop_13 ?_
  refine lv_iconst (pc := 16) (v := 1) X.1 X.2.1 d_MD_pop_16 (by decide) ?_
  refine lv_iadd (pc := 17) X.1 X.2.1 d_MD_pop_17 ?_
  refine ab_kr_callV (pc := 18) (wr := []) (w := (wM t q)) (u := u) (r := f_MD_read u ((u 0 9) + 1)) (as := [.int ((u 0 9) + 1)]) (rest := [.int 256, .int (f_MD_read u (u 0 9))]) X hX (c_MD_read l D t q u ((u 0 9) + 1)) ok_MD_read okv_MD_read tw_295 0 9 rfl rfl rfl hl.1 rfl (Nat.le_of_ble_eq_true rfl) ⟨rfl, rfl, Nat.le_of_ble_eq_true rfl, Nat.le_of_ble_eq_true rfl⟩ ⟨Nat.zero_le _, Nat.zero_le _⟩ d_MD_pop_18 (fun H locs hX => ?_)
  refine lv_imul (pc := 21) X.1 X.2.1 d_MD_pop_21 ?_
  refine lv_iadd (pc := 22) X.1 X.2.1 d_MD_pop_22 ?_
  refine lv_istore_n (pc := 23) (lv' := [(1, .int ((f_MD_read u (u 0 9)) + (256 * (f_MD_read u ((u 0 9) + 1))))), (0, .ref (q 0))]) X.1 X.2.1 d_MD_pop_23 rfl hl (Nat.le_of_ble_eq_true rfl) rfl (fun ls hl => ?_)
  refine lv_aload_n (pc := 24) X.1 X.2.1 d_MD_pop_24 rfl (lv_at hl 1 rfl) ?_
  refine lv_aload_n (pc := 25) X.1 X.2.1 d_MD_pop_25 rfl (lv_at hl 1 rfl) ?_
  refine ab_gx (pc := 26) (v := .int (u 0 9)) X hX 0 9 11 rfl rfl (Nat.le_of_ble_eq_true rfl) in_MD rfl tw_305 rfl d_MD_pop_26 ?_
  refine lv_iconst (pc := 29) (v := 2) X.1 X.2.1 d_MD_pop_29 (by decide) ?_
  refine lv_iadd (pc := 30) X.1 X.2.1 d_MD_pop_30 ?_
  refine lv_ldc (pc := 31) (v := 65535) X.1 X.2.1 X.2.2.2.1 (X.2.2.2.2.1 _ tw_296) d_MD_pop_31 ?_
  refine lv_iand (pc := 33) X.1 X.2.1 d_MD_pop_33 ?_
  refine ab_px (pc := 34) (ws' := (wM t q (stt u 0 9 (((u 0 9) + 2) &&& 65535)))) X hX 0 9 11 ty_MD ty_MD_ok nm_MD rfl rfl (Nat.le_of_ble_eq_true rfl) in_MD rfl tw_305 rfl rfl rfl rfl (Nat.le_of_ble_eq_true rfl) (sf_wM_0_11 t q u (((u 0 9) + 2) &&& 65535)) d_MD_pop_34 (fun H locs hX => ?_)
  refine lv_iload_n (pc := 37) X.1 X.2.1 d_MD_pop_37 rfl (lv_at hl 0 rfl) ?_
  exact ab_ki_ret (pc := 38) X hr hk hX rfl (by rw [f_MD_pop]) d_MD_pop_38
abbrev b_MD_flags : ByteArray := prog_11_method_13_code
def y_MD_flags : MethodName := ⟨"ArcadeBoardModel", "flags", "()I"⟩
theorem d_MD_flags_0 : decode b_MD_flags 0 = .ok (.aload_n 0, 1) := by decide +kernel
theorem d_MD_flags_1 : decode b_MD_flags 1 = .ok (.getfield 52, 3) := by decide +kernel
theorem d_MD_flags_4 : decode b_MD_flags 4 = .ok (.ifCond .eq 9, 3) := by decide +kernel
theorem d_MD_flags_7 : decode b_MD_flags 7 = .ok (.sipush 128, 3) := by decide +kernel
theorem d_MD_flags_10 : decode b_MD_flags 10 = .ok (.goto 4, 3) := by decide +kernel
theorem d_MD_flags_13 : decode b_MD_flags 13 = .ok (.iconst 0, 1) := by decide +kernel
theorem d_MD_flags_14 : decode b_MD_flags 14 = .ok (.aload_n 0, 1) := by decide +kernel
theorem d_MD_flags_15 : decode b_MD_flags 15 = .ok (.getfield 56, 3) := by decide +kernel
theorem d_MD_flags_18 : decode b_MD_flags 18 = .ok (.ifCond .eq 8, 3) := by decide +kernel
theorem d_MD_flags_21 : decode b_MD_flags 21 = .ok (.bipush 64, 2) := by decide +kernel
theorem d_MD_flags_23 : decode b_MD_flags 23 = .ok (.goto 4, 3) := by decide +kernel
theorem d_MD_flags_26 : decode b_MD_flags 26 = .ok (.iconst 0, 1) := by decide +kernel
theorem d_MD_flags_27 : decode b_MD_flags 27 = .ok (.iadd, 1) := by decide +kernel
theorem d_MD_flags_28 : decode b_MD_flags 28 = .ok (.aload_n 0, 1) := by decide +kernel
theorem d_MD_flags_29 : decode b_MD_flags 29 = .ok (.getfield 59, 3) := by decide +kernel
theorem d_MD_flags_32 : decode b_MD_flags 32 = .ok (.ifCond .eq 8, 3) := by decide +kernel
theorem d_MD_flags_35 : decode b_MD_flags 35 = .ok (.bipush 16, 2) := by decide +kernel
theorem d_MD_flags_37 : decode b_MD_flags 37 = .ok (.goto 4, 3) := by decide +kernel
theorem d_MD_flags_40 : decode b_MD_flags 40 = .ok (.iconst 0, 1) := by decide +kernel
theorem d_MD_flags_41 : decode b_MD_flags 41 = .ok (.iadd, 1) := by decide +kernel
theorem d_MD_flags_42 : decode b_MD_flags 42 = .ok (.aload_n 0, 1) := by decide +kernel
theorem d_MD_flags_43 : decode b_MD_flags 43 = .ok (.getfield 62, 3) := by decide +kernel
theorem d_MD_flags_46 : decode b_MD_flags 46 = .ok (.ifCond .eq 7, 3) := by decide +kernel
theorem d_MD_flags_49 : decode b_MD_flags 49 = .ok (.iconst 4, 1) := by decide +kernel
theorem d_MD_flags_50 : decode b_MD_flags 50 = .ok (.goto 4, 3) := by decide +kernel
theorem d_MD_flags_53 : decode b_MD_flags 53 = .ok (.iconst 0, 1) := by decide +kernel
theorem d_MD_flags_54 : decode b_MD_flags 54 = .ok (.iadd, 1) := by decide +kernel
theorem d_MD_flags_55 : decode b_MD_flags 55 = .ok (.iconst 2, 1) := by decide +kernel
theorem d_MD_flags_56 : decode b_MD_flags 56 = .ok (.iadd, 1) := by decide +kernel
theorem d_MD_flags_57 : decode b_MD_flags 57 = .ok (.aload_n 0, 1) := by decide +kernel
theorem d_MD_flags_58 : decode b_MD_flags 58 = .ok (.getfield 65, 3) := by decide +kernel
theorem d_MD_flags_61 : decode b_MD_flags 61 = .ok (.ifCond .eq 7, 3) := by decide +kernel
theorem d_MD_flags_64 : decode b_MD_flags 64 = .ok (.iconst 1, 1) := by decide +kernel
theorem d_MD_flags_65 : decode b_MD_flags 65 = .ok (.goto 4, 3) := by decide +kernel
theorem d_MD_flags_68 : decode b_MD_flags 68 = .ok (.iconst 0, 1) := by decide +kernel
theorem d_MD_flags_69 : decode b_MD_flags 69 = .ok (.iadd, 1) := by decide +kernel
theorem d_MD_flags_70 : decode b_MD_flags 70 = .ok (.ireturn, 1) := by decide +kernel
theorem tw_323 : Jvm.Cond.code ⟨"ArcadeBoardModel", "flags", "()I"⟩ prog_11_method_13_code 1 (Option.some Jvm.ClassFile.FieldType.int) ∈ AL := ab_in (ab_t4 (List.mem_of_getElem? (i := 158) (by decide +kernel))) rfl
theorem tw_324 : Jvm.Cond.instanceMethod ⟨"ArcadeBoardModel", "flags", "()I"⟩ ∈ AL := ab_in (ab_t4 (List.mem_of_getElem? (i := 157) (by decide +kernel))) rfl
theorem tw_325 : Cond.selects "ArcadeBoardModel" ⟨"ArcadeBoardModel", "flags", "()I"⟩ ⟨"ArcadeBoardModel", "flags", "()I"⟩ ∈ AL := ab_in (ab_s4 (List.mem_of_getElem? (i := 1) (by decide +kernel))) rfl
theorem tw_326 : Jvm.Cond.fieldLink "ArcadeBoardModel" 52 "ArcadeBoardModel" "fs" "Z" ∈ AL := ab_in (ab_t3 (List.mem_of_getElem? (i := 184) (by decide +kernel))) rfl
theorem tw_327 : Jvm.Cond.fieldLink "ArcadeBoardModel" 56 "ArcadeBoardModel" "fz" "Z" ∈ AL := ab_in (ab_t3 (List.mem_of_getElem? (i := 185) (by decide +kernel))) rfl
theorem tw_328 : Jvm.Cond.fieldLink "ArcadeBoardModel" 59 "ArcadeBoardModel" "fh" "Z" ∈ AL := ab_in (ab_t3 (List.mem_of_getElem? (i := 186) (by decide +kernel))) rfl
theorem tw_329 : Jvm.Cond.fieldLink "ArcadeBoardModel" 62 "ArcadeBoardModel" "fp" "Z" ∈ AL := ab_in (ab_t3 (List.mem_of_getElem? (i := 187) (by decide +kernel))) rfl
theorem tw_330 : Jvm.Cond.fieldLink "ArcadeBoardModel" 65 "ArcadeBoardModel" "fk" "Z" ∈ AL := ab_in (ab_t3 (List.mem_of_getElem? (i := 188) (by decide +kernel))) rfl
theorem ok_MD_flags : ab_yok y_MD_flags b_MD_flags 1 (some .int) 0 := ⟨tw_323, tw_280, by decide, by decide, by decide +kernel⟩
theorem okv_MD_flags : ab_yok_V y_MD_flags := ⟨tw_324, tw_325⟩
set_option maxHeartbeats 1000000 in
set_option maxRecDepth 100000 in
theorem c_MD_flags (l : Launch) (D : va_G) (t : Nat → ClassId) (q : Nat → Nat) (u : SS) : ab_ki l D (tyC t) (wM t q) y_MD_flags b_MD_flags 1 .int { frames := 0, cells := 0, slots := 0, locals := 0 } [.ref (q 0)] u ((f_MD_flags u, u)) := by
  refine ab_ki_ofW (by decide) (Nat.le_of_ble_eq_true rfl) (fun p e s m below meth c ls A X hr hk hl hX => ?_)
  have hl : lv_has ls 1 [(0, .ref (q 0))] := hl
  refine lv_aload_n (pc := 0) X.1 X.2.1 d_MD_flags_0 rfl (lv_at hl 0 rfl) ?_
  refine ab_gx (pc := 1) (v := .int (u 0 4)) X hX 0 9 6 rfl rfl (Nat.le_of_ble_eq_true rfl) in_MD rfl tw_326 rfl d_MD_flags_1 ?_
  refine ab_jn (ls := ls) (rest := []) 14 (if (u 0 4) = 0 then 0 else 128 : Int32) ?_ (fun J => ?_)
  rotate_left
  ·
    refine lv_if_eq (pc := 4) (tgt := 13) X.1 X.2.1 d_MD_flags_4 (by decide) (fun h1 => ?_) (fun h1 => ?_)
    ·
      refine lv_iconst (pc := 13) (v := 0) X.1 X.2.1 d_MD_flags_13 (by decide) ?_
      exact ab_jt (by rw [if_pos h1]) J
    ·
      refine lv_sipush (pc := 7) (v := 128) X.1 X.2.1 d_MD_flags_7 (by decide) ?_
      refine lv_goto (pc := 10) (tgt := 14) X.1 X.2.1 d_MD_flags_10 (by decide) ?_
      exact ab_jt (by rw [if_neg h1]) J
  refine lv_aload_n (pc := 14) X.1 X.2.1 d_MD_flags_14 rfl (lv_at hl 0 rfl) ?_
  refine ab_gx (pc := 15) (v := .int (u 0 5)) X hX 0 9 7 rfl rfl (Nat.le_of_ble_eq_true rfl) in_MD rfl tw_327 rfl d_MD_flags_15 ?_
  refine ab_jn (ls := ls) (rest := [.int (if (u 0 4) = 0 then 0 else 128 : Int32)]) 27 (if (u 0 5) = 0 then 0 else 64 : Int32) ?_ (fun J => ?_)
  rotate_left
  ·
    refine lv_if_eq (pc := 18) (tgt := 26) X.1 X.2.1 d_MD_flags_18 (by decide) (fun h2 => ?_) (fun h2 => ?_)
    ·
      refine lv_iconst (pc := 26) (v := 0) X.1 X.2.1 d_MD_flags_26 (by decide) ?_
      exact ab_jt (by rw [if_pos h2]) J
    ·
      refine lv_bipush (pc := 21) (v := 64) X.1 X.2.1 d_MD_flags_21 (by decide) ?_
      refine lv_goto (pc := 23) (tgt := 27) X.1 X.2.1 d_MD_flags_23 (by decide) ?_
      exact ab_jt (by rw [if_neg h2]) J
  refine lv_iadd (pc := 27) X.1 X.2.1 d_MD_flags_27 ?_
  refine lv_aload_n (pc := 28) X.1 X.2.1 d_MD_flags_28 rfl (lv_at hl 0 rfl) ?_
  refine ab_gx (pc := 29) (v := .int (u 0 6)) X hX 0 9 8 rfl rfl (Nat.le_of_ble_eq_true rfl) in_MD rfl tw_328 rfl d_MD_flags_29 ?_
  refine ab_jn (ls := ls) (rest := [.int ((if (u 0 4) = 0 then 0 else 128 : Int32) + (if (u 0 5) = 0 then 0 else 64 : Int32))]) 41 (if (u 0 6) = 0 then 0 else 16 : Int32) ?_ (fun J => ?_)
  rotate_left
  ·
    refine lv_if_eq (pc := 32) (tgt := 40) X.1 X.2.1 d_MD_flags_32 (by decide) (fun h3 => ?_) (fun h3 => ?_)
    ·
      refine lv_iconst (pc := 40) (v := 0) X.1 X.2.1 d_MD_flags_40 (by decide) ?_
      exact ab_jt (by rw [if_pos h3]) J
    ·
      refine lv_bipush (pc := 35) (v := 16) X.1 X.2.1 d_MD_flags_35 (by decide) ?_
      refine lv_goto (pc := 37) (tgt := 41) X.1 X.2.1 d_MD_flags_37 (by decide) ?_
      exact ab_jt (by rw [if_neg h3]) J
  refine lv_iadd (pc := 41) X.1 X.2.1 d_MD_flags_41 ?_
  refine lv_aload_n (pc := 42) X.1 X.2.1 d_MD_flags_42 rfl (lv_at hl 0 rfl) ?_
  refine ab_gx (pc := 43) (v := .int (u 0 7)) X hX 0 9 9 rfl rfl (Nat.le_of_ble_eq_true rfl) in_MD rfl tw_329 rfl d_MD_flags_43 ?_
  refine ab_jn (ls := ls) (rest := [.int (((if (u 0 4) = 0 then 0 else 128 : Int32) + (if (u 0 5) = 0 then 0 else 64 : Int32)) + (if (u 0 6) = 0 then 0 else 16 : Int32))]) 54 (if (u 0 7) = 0 then 0 else 4 : Int32) ?_ (fun J => ?_)
  rotate_left
  ·
    refine lv_if_eq (pc := 46) (tgt := 53) X.1 X.2.1 d_MD_flags_46 (by decide) (fun h4 => ?_) (fun h4 => ?_)
    ·
      refine lv_iconst (pc := 53) (v := 0) X.1 X.2.1 d_MD_flags_53 (by decide) ?_
      exact ab_jt (by rw [if_pos h4]) J
    ·
      refine lv_iconst (pc := 49) (v := 4) X.1 X.2.1 d_MD_flags_49 (by decide) ?_
      refine lv_goto (pc := 50) (tgt := 54) X.1 X.2.1 d_MD_flags_50 (by decide) ?_
      exact ab_jt (by rw [if_neg h4]) J
  refine lv_iadd (pc := 54) X.1 X.2.1 d_MD_flags_54 ?_
  refine lv_iconst (pc := 55) (v := 2) X.1 X.2.1 d_MD_flags_55 (by decide) ?_
  refine lv_iadd (pc := 56) X.1 X.2.1 d_MD_flags_56 ?_
  refine lv_aload_n (pc := 57) X.1 X.2.1 d_MD_flags_57 rfl (lv_at hl 0 rfl) ?_
  refine ab_gx (pc := 58) (v := .int (u 0 8)) X hX 0 9 10 rfl rfl (Nat.le_of_ble_eq_true rfl) in_MD rfl tw_330 rfl d_MD_flags_58 ?_
  refine ab_jn (ls := ls) (rest := [.int (((((if (u 0 4) = 0 then 0 else 128 : Int32) + (if (u 0 5) = 0 then 0 else 64 : Int32)) + (if (u 0 6) = 0 then 0 else 16 : Int32)) + (if (u 0 7) = 0 then 0 else 4 : Int32)) + 2)]) 69 (if (u 0 8) = 0 then 0 else 1 : Int32) ?_ (fun J => ?_)
  rotate_left
  ·
    refine lv_if_eq (pc := 61) (tgt := 68) X.1 X.2.1 d_MD_flags_61 (by decide) (fun h5 => ?_) (fun h5 => ?_)
    ·
      refine lv_iconst (pc := 68) (v := 0) X.1 X.2.1 d_MD_flags_68 (by decide) ?_
      exact ab_jt (by rw [if_pos h5]) J
    ·
      refine lv_iconst (pc := 64) (v := 1) X.1 X.2.1 d_MD_flags_64 (by decide) ?_
      refine lv_goto (pc := 65) (tgt := 69) X.1 X.2.1 d_MD_flags_65 (by decide) ?_
      exact ab_jt (by rw [if_neg h5]) J
  refine lv_iadd (pc := 69) X.1 X.2.1 d_MD_flags_69 ?_
  exact ab_ki_ret (pc := 70) X hr hk hX rfl (by rw [f_MD_flags]) d_MD_flags_70
abbrev b_MD_setFlags : ByteArray := prog_11_method_14_code
def y_MD_setFlags : MethodName := ⟨"ArcadeBoardModel", "setFlags", "(I)V"⟩
theorem d_MD_setFlags_0 : decode b_MD_setFlags 0 = .ok (.aload_n 0, 1) := by decide +kernel
theorem d_MD_setFlags_1 : decode b_MD_setFlags 1 = .ok (.iload_n 1, 1) := by decide +kernel
theorem d_MD_setFlags_2 : decode b_MD_setFlags 2 = .ok (.sipush 128, 3) := by decide +kernel
theorem d_MD_setFlags_5 : decode b_MD_setFlags 5 = .ok (.iand, 1) := by decide +kernel
theorem d_MD_setFlags_6 : decode b_MD_setFlags 6 = .ok (.ifCond .eq 7, 3) := by decide +kernel
theorem d_MD_setFlags_9 : decode b_MD_setFlags 9 = .ok (.iconst 1, 1) := by decide +kernel
theorem d_MD_setFlags_10 : decode b_MD_setFlags 10 = .ok (.goto 4, 3) := by decide +kernel
theorem d_MD_setFlags_13 : decode b_MD_setFlags 13 = .ok (.iconst 0, 1) := by decide +kernel
theorem d_MD_setFlags_14 : decode b_MD_setFlags 14 = .ok (.putfield 52, 3) := by decide +kernel
theorem d_MD_setFlags_17 : decode b_MD_setFlags 17 = .ok (.aload_n 0, 1) := by decide +kernel
theorem d_MD_setFlags_18 : decode b_MD_setFlags 18 = .ok (.iload_n 1, 1) := by decide +kernel
theorem d_MD_setFlags_19 : decode b_MD_setFlags 19 = .ok (.bipush 64, 2) := by decide +kernel
theorem d_MD_setFlags_21 : decode b_MD_setFlags 21 = .ok (.iand, 1) := by decide +kernel
theorem d_MD_setFlags_22 : decode b_MD_setFlags 22 = .ok (.ifCond .eq 7, 3) := by decide +kernel
theorem d_MD_setFlags_25 : decode b_MD_setFlags 25 = .ok (.iconst 1, 1) := by decide +kernel
theorem d_MD_setFlags_26 : decode b_MD_setFlags 26 = .ok (.goto 4, 3) := by decide +kernel
theorem d_MD_setFlags_29 : decode b_MD_setFlags 29 = .ok (.iconst 0, 1) := by decide +kernel
theorem d_MD_setFlags_30 : decode b_MD_setFlags 30 = .ok (.putfield 56, 3) := by decide +kernel
theorem d_MD_setFlags_33 : decode b_MD_setFlags 33 = .ok (.aload_n 0, 1) := by decide +kernel
theorem d_MD_setFlags_34 : decode b_MD_setFlags 34 = .ok (.iload_n 1, 1) := by decide +kernel
theorem d_MD_setFlags_35 : decode b_MD_setFlags 35 = .ok (.bipush 16, 2) := by decide +kernel
theorem d_MD_setFlags_37 : decode b_MD_setFlags 37 = .ok (.iand, 1) := by decide +kernel
theorem d_MD_setFlags_38 : decode b_MD_setFlags 38 = .ok (.ifCond .eq 7, 3) := by decide +kernel
theorem d_MD_setFlags_41 : decode b_MD_setFlags 41 = .ok (.iconst 1, 1) := by decide +kernel
theorem d_MD_setFlags_42 : decode b_MD_setFlags 42 = .ok (.goto 4, 3) := by decide +kernel
theorem d_MD_setFlags_45 : decode b_MD_setFlags 45 = .ok (.iconst 0, 1) := by decide +kernel
theorem d_MD_setFlags_46 : decode b_MD_setFlags 46 = .ok (.putfield 59, 3) := by decide +kernel
theorem d_MD_setFlags_49 : decode b_MD_setFlags 49 = .ok (.aload_n 0, 1) := by decide +kernel
theorem d_MD_setFlags_50 : decode b_MD_setFlags 50 = .ok (.iload_n 1, 1) := by decide +kernel
theorem d_MD_setFlags_51 : decode b_MD_setFlags 51 = .ok (.iconst 4, 1) := by decide +kernel
theorem d_MD_setFlags_52 : decode b_MD_setFlags 52 = .ok (.iand, 1) := by decide +kernel
theorem d_MD_setFlags_53 : decode b_MD_setFlags 53 = .ok (.ifCond .eq 7, 3) := by decide +kernel
theorem d_MD_setFlags_56 : decode b_MD_setFlags 56 = .ok (.iconst 1, 1) := by decide +kernel
theorem d_MD_setFlags_57 : decode b_MD_setFlags 57 = .ok (.goto 4, 3) := by decide +kernel
theorem d_MD_setFlags_60 : decode b_MD_setFlags 60 = .ok (.iconst 0, 1) := by decide +kernel
theorem d_MD_setFlags_61 : decode b_MD_setFlags 61 = .ok (.putfield 62, 3) := by decide +kernel
theorem d_MD_setFlags_64 : decode b_MD_setFlags 64 = .ok (.aload_n 0, 1) := by decide +kernel
theorem d_MD_setFlags_65 : decode b_MD_setFlags 65 = .ok (.iload_n 1, 1) := by decide +kernel
theorem d_MD_setFlags_66 : decode b_MD_setFlags 66 = .ok (.iconst 1, 1) := by decide +kernel
theorem d_MD_setFlags_67 : decode b_MD_setFlags 67 = .ok (.iand, 1) := by decide +kernel
theorem d_MD_setFlags_68 : decode b_MD_setFlags 68 = .ok (.ifCond .eq 7, 3) := by decide +kernel
theorem d_MD_setFlags_71 : decode b_MD_setFlags 71 = .ok (.iconst 1, 1) := by decide +kernel
theorem d_MD_setFlags_72 : decode b_MD_setFlags 72 = .ok (.goto 4, 3) := by decide +kernel
theorem d_MD_setFlags_75 : decode b_MD_setFlags 75 = .ok (.iconst 0, 1) := by decide +kernel
theorem d_MD_setFlags_76 : decode b_MD_setFlags 76 = .ok (.putfield 65, 3) := by decide +kernel
theorem d_MD_setFlags_79 : decode b_MD_setFlags 79 = .ok (.return_, 1) := by decide +kernel
theorem tw_331 : Jvm.Cond.code ⟨"ArcadeBoardModel", "setFlags", "(I)V"⟩ prog_11_method_14_code 2 (Option.none : Option Jvm.ClassFile.FieldType) ∈ AL := ab_in (ab_t4 (List.mem_of_getElem? (i := 142) (by decide +kernel))) rfl
theorem tw_332 : Jvm.Cond.instanceMethod ⟨"ArcadeBoardModel", "setFlags", "(I)V"⟩ ∈ AL := ab_in (ab_t4 (List.mem_of_getElem? (i := 141) (by decide +kernel))) rfl
theorem tw_333 : Cond.selects "ArcadeBoardModel" ⟨"ArcadeBoardModel", "setFlags", "(I)V"⟩ ⟨"ArcadeBoardModel", "setFlags", "(I)V"⟩ ∈ AL := ab_in (ab_s3 (List.mem_of_getElem? (i := 13) (by decide +kernel))) rfl
theorem ok_MD_setFlags : ab_yok y_MD_setFlags b_MD_setFlags 2 none 1 := ⟨tw_331, tw_280, by decide, by decide, by decide +kernel⟩
theorem okv_MD_setFlags : ab_yok_V y_MD_setFlags := ⟨tw_332, tw_333⟩
set_option maxHeartbeats 1000000 in
set_option maxRecDepth 100000 in
theorem c_MD_setFlags (l : Launch) (D : va_G) (t : Nat → ClassId) (q : Nat → Nat) (u : SS) (x1 : Int32) : ab_kv l D (tyC t) (wM t q) y_MD_setFlags b_MD_setFlags 2 { frames := 0, cells := 0, slots := 0, locals := 0 } [.ref (q 0), .int x1] u (f_MD_setFlags u x1) := by
  refine ab_kv_ofW (by decide) (Nat.le_of_ble_eq_true rfl) (fun p e s m below meth c ls A X hr hk hl hX => ?_)
  have hl : lv_has ls 2 [(0, .ref (q 0)), (1, .int x1)] := hl
  refine lv_aload_n (pc := 0) X.1 X.2.1 d_MD_setFlags_0 rfl (lv_at hl 0 rfl) ?_
  refine lv_iload_n (pc := 1) X.1 X.2.1 d_MD_setFlags_1 rfl (lv_at hl 1 rfl) ?_
  refine lv_sipush (pc := 2) (v := 128) X.1 X.2.1 d_MD_setFlags_2 (by decide) ?_
  refine lv_iand (pc := 5) X.1 X.2.1 d_MD_setFlags_5 ?_
  refine ab_jn (ls := ls) (rest := [.ref (q 0)]) 14 (if (x1 &&& 128) = 0 then 0 else 1 : Int32) ?_ (fun J => ?_)
  rotate_left
  ·
    refine lv_if_eq (pc := 6) (tgt := 13) X.1 X.2.1 d_MD_setFlags_6 (by decide) (fun h1 => ?_) (fun h1 => ?_)
    ·
      refine lv_iconst (pc := 13) (v := 0) X.1 X.2.1 d_MD_setFlags_13 (by decide) ?_
      exact ab_jt (by rw [if_pos h1]) J
    ·
      refine lv_iconst (pc := 9) (v := 1) X.1 X.2.1 d_MD_setFlags_9 (by decide) ?_
      refine lv_goto (pc := 10) (tgt := 14) X.1 X.2.1 d_MD_setFlags_10 (by decide) ?_
      exact ab_jt (by rw [if_neg h1]) J
  refine ab_px (pc := 14) (ws' := (wM t q (stt u 0 4 (if (x1 &&& 128) = 0 then 0 else 1 : Int32)))) X hX 0 9 6 ty_MD ty_MD_ok nm_MD rfl rfl (Nat.le_of_ble_eq_true rfl) in_MD rfl tw_326 rfl rfl (ab_nb (ab_bi ab_bo0 ab_bo1)) (ab_fb (ab_bi ab_bo0 ab_bo1)) (Nat.le_of_ble_eq_true rfl) (sf_wM_0_6 t q u (if (x1 &&& 128) = 0 then 0 else 1 : Int32)) d_MD_setFlags_14 (fun H locs hX => ?_)
  refine lv_aload_n (pc := 17) X.1 X.2.1 d_MD_setFlags_17 rfl (lv_at hl 0 rfl) ?_
  refine lv_iload_n (pc := 18) X.1 X.2.1 d_MD_setFlags_18 rfl (lv_at hl 1 rfl) ?_
  refine lv_bipush (pc := 19) (v := 64) X.1 X.2.1 d_MD_setFlags_19 (by decide) ?_
  refine lv_iand (pc := 21) X.1 X.2.1 d_MD_setFlags_21 ?_
  refine ab_jn (ls := ls) (rest := [.ref (q 0)]) 30 (if (x1 &&& 64) = 0 then 0 else 1 : Int32) ?_ (fun J => ?_)
  rotate_left
  ·
    refine lv_if_eq (pc := 22) (tgt := 29) X.1 X.2.1 d_MD_setFlags_22 (by decide) (fun h2 => ?_) (fun h2 => ?_)
    ·
      refine lv_iconst (pc := 29) (v := 0) X.1 X.2.1 d_MD_setFlags_29 (by decide) ?_
      exact ab_jt (by rw [if_pos h2]) J
    ·
      refine lv_iconst (pc := 25) (v := 1) X.1 X.2.1 d_MD_setFlags_25 (by decide) ?_
      refine lv_goto (pc := 26) (tgt := 30) X.1 X.2.1 d_MD_setFlags_26 (by decide) ?_
      exact ab_jt (by rw [if_neg h2]) J
  refine ab_px (pc := 30) (ws' := (wM t q (stt (stt u 0 4 (if (x1 &&& 128) = 0 then 0 else 1 : Int32)) 0 5 (if (x1 &&& 64) = 0 then 0 else 1 : Int32)))) X hX 0 9 7 ty_MD ty_MD_ok nm_MD rfl rfl (Nat.le_of_ble_eq_true rfl) in_MD rfl tw_327 rfl rfl (ab_nb (ab_bi ab_bo0 ab_bo1)) (ab_fb (ab_bi ab_bo0 ab_bo1)) (Nat.le_of_ble_eq_true rfl) (sf_wM_0_7 t q (stt u 0 4 (if (x1 &&& 128) = 0 then 0 else 1 : Int32)) (if (x1 &&& 64) = 0 then 0 else 1 : Int32)) d_MD_setFlags_30 (fun H locs hX => ?_)
  refine lv_aload_n (pc := 33) X.1 X.2.1 d_MD_setFlags_33 rfl (lv_at hl 0 rfl) ?_
  refine lv_iload_n (pc := 34) X.1 X.2.1 d_MD_setFlags_34 rfl (lv_at hl 1 rfl) ?_
  refine lv_bipush (pc := 35) (v := 16) X.1 X.2.1 d_MD_setFlags_35 (by decide) ?_
  refine lv_iand (pc := 37) X.1 X.2.1 d_MD_setFlags_37 ?_
  refine ab_jn (ls := ls) (rest := [.ref (q 0)]) 46 (if (x1 &&& 16) = 0 then 0 else 1 : Int32) ?_ (fun J => ?_)
  rotate_left
  ·
    refine lv_if_eq (pc := 38) (tgt := 45) X.1 X.2.1 d_MD_setFlags_38 (by decide) (fun h3 => ?_) (fun h3 => ?_)
    ·
      refine lv_iconst (pc := 45) (v := 0) X.1 X.2.1 d_MD_setFlags_45 (by decide) ?_
      exact ab_jt (by rw [if_pos h3]) J
    ·
      refine lv_iconst (pc := 41) (v := 1) X.1 X.2.1 d_MD_setFlags_41 (by decide) ?_
      refine lv_goto (pc := 42) (tgt := 46) X.1 X.2.1 d_MD_setFlags_42 (by decide) ?_
      exact ab_jt (by rw [if_neg h3]) J
  refine ab_px (pc := 46) (ws' := (wM t q (stt (stt (stt u 0 4 (if (x1 &&& 128) = 0 then 0 else 1 : Int32)) 0 5 (if (x1 &&& 64) = 0 then 0 else 1 : Int32)) 0 6 (if (x1 &&& 16) = 0 then 0 else 1 : Int32)))) X hX 0 9 8 ty_MD ty_MD_ok nm_MD rfl rfl (Nat.le_of_ble_eq_true rfl) in_MD rfl tw_328 rfl rfl (ab_nb (ab_bi ab_bo0 ab_bo1)) (ab_fb (ab_bi ab_bo0 ab_bo1)) (Nat.le_of_ble_eq_true rfl) (sf_wM_0_8 t q (stt (stt u 0 4 (if (x1 &&& 128) = 0 then 0 else 1 : Int32)) 0 5 (if (x1 &&& 64) = 0 then 0 else 1 : Int32)) (if (x1 &&& 16) = 0 then 0 else 1 : Int32)) d_MD_setFlags_46 (fun H locs hX => ?_)
  refine lv_aload_n (pc := 49) X.1 X.2.1 d_MD_setFlags_49 rfl (lv_at hl 0 rfl) ?_
  refine lv_iload_n (pc := 50) X.1 X.2.1 d_MD_setFlags_50 rfl (lv_at hl 1 rfl) ?_
  refine lv_iconst (pc := 51) (v := 4) X.1 X.2.1 d_MD_setFlags_51 (by decide) ?_
  refine lv_iand (pc := 52) X.1 X.2.1 d_MD_setFlags_52 ?_
  refine ab_jn (ls := ls) (rest := [.ref (q 0)]) 61 (if (x1 &&& 4) = 0 then 0 else 1 : Int32) ?_ (fun J => ?_)
  rotate_left
  ·
    refine lv_if_eq (pc := 53) (tgt := 60) X.1 X.2.1 d_MD_setFlags_53 (by decide) (fun h4 => ?_) (fun h4 => ?_)
    ·
      refine lv_iconst (pc := 60) (v := 0) X.1 X.2.1 d_MD_setFlags_60 (by decide) ?_
      exact ab_jt (by rw [if_pos h4]) J
    ·
      refine lv_iconst (pc := 56) (v := 1) X.1 X.2.1 d_MD_setFlags_56 (by decide) ?_
      refine lv_goto (pc := 57) (tgt := 61) X.1 X.2.1 d_MD_setFlags_57 (by decide) ?_
      exact ab_jt (by rw [if_neg h4]) J
  refine ab_px (pc := 61) (ws' := (wM t q (stt (stt (stt (stt u 0 4 (if (x1 &&& 128) = 0 then 0 else 1 : Int32)) 0 5 (if (x1 &&& 64) = 0 then 0 else 1 : Int32)) 0 6 (if (x1 &&& 16) = 0 then 0 else 1 : Int32)) 0 7 (if (x1 &&& 4) = 0 then 0 else 1 : Int32)))) X hX 0 9 9 ty_MD ty_MD_ok nm_MD rfl rfl (Nat.le_of_ble_eq_true rfl) in_MD rfl tw_329 rfl rfl (ab_nb (ab_bi ab_bo0 ab_bo1)) (ab_fb (ab_bi ab_bo0 ab_bo1)) (Nat.le_of_ble_eq_true rfl) (sf_wM_0_9 t q (stt (stt (stt u 0 4 (if (x1 &&& 128) = 0 then 0 else 1 : Int32)) 0 5 (if (x1 &&& 64) = 0 then 0 else 1 : Int32)) 0 6 (if (x1 &&& 16) = 0 then 0 else 1 : Int32)) (if (x1 &&& 4) = 0 then 0 else 1 : Int32)) d_MD_setFlags_61 (fun H locs hX => ?_)
  refine lv_aload_n (pc := 64) X.1 X.2.1 d_MD_setFlags_64 rfl (lv_at hl 0 rfl) ?_
  refine lv_iload_n (pc := 65) X.1 X.2.1 d_MD_setFlags_65 rfl (lv_at hl 1 rfl) ?_
  refine lv_iconst (pc := 66) (v := 1) X.1 X.2.1 d_MD_setFlags_66 (by decide) ?_
  refine lv_iand (pc := 67) X.1 X.2.1 d_MD_setFlags_67 ?_
  refine ab_jn (ls := ls) (rest := [.ref (q 0)]) 76 (if (x1 &&& 1) = 0 then 0 else 1 : Int32) ?_ (fun J => ?_)
  rotate_left
  ·
    refine lv_if_eq (pc := 68) (tgt := 75) X.1 X.2.1 d_MD_setFlags_68 (by decide) (fun h5 => ?_) (fun h5 => ?_)
    ·
      refine lv_iconst (pc := 75) (v := 0) X.1 X.2.1 d_MD_setFlags_75 (by decide) ?_
      exact ab_jt (by rw [if_pos h5]) J
    ·
      refine lv_iconst (pc := 71) (v := 1) X.1 X.2.1 d_MD_setFlags_71 (by decide) ?_
      refine lv_goto (pc := 72) (tgt := 76) X.1 X.2.1 d_MD_setFlags_72 (by decide) ?_
      exact ab_jt (by rw [if_neg h5]) J
  refine ab_px (pc := 76) (ws' := (wM t q (stt (stt (stt (stt (stt u 0 4 (if (x1 &&& 128) = 0 then 0 else 1 : Int32)) 0 5 (if (x1 &&& 64) = 0 then 0 else 1 : Int32)) 0 6 (if (x1 &&& 16) = 0 then 0 else 1 : Int32)) 0 7 (if (x1 &&& 4) = 0 then 0 else 1 : Int32)) 0 8 (if (x1 &&& 1) = 0 then 0 else 1 : Int32)))) X hX 0 9 10 ty_MD ty_MD_ok nm_MD rfl rfl (Nat.le_of_ble_eq_true rfl) in_MD rfl tw_330 rfl rfl (ab_nb (ab_bi ab_bo0 ab_bo1)) (ab_fb (ab_bi ab_bo0 ab_bo1)) (Nat.le_of_ble_eq_true rfl) (sf_wM_0_10 t q (stt (stt (stt (stt u 0 4 (if (x1 &&& 128) = 0 then 0 else 1 : Int32)) 0 5 (if (x1 &&& 64) = 0 then 0 else 1 : Int32)) 0 6 (if (x1 &&& 16) = 0 then 0 else 1 : Int32)) 0 7 (if (x1 &&& 4) = 0 then 0 else 1 : Int32)) (if (x1 &&& 1) = 0 then 0 else 1 : Int32)) d_MD_setFlags_76 (fun H locs hX => ?_)
  exact ab_kv_ret (pc := 79) X hr hk hX (by rw [f_MD_setFlags]) d_MD_setFlags_79
abbrev b_MD_result : ByteArray := prog_11_method_15_code
def y_MD_result : MethodName := ⟨"ArcadeBoardModel", "result", "(I)I"⟩
theorem d_MD_result_0 : decode b_MD_result 0 = .ok (.iload_n 1, 1) := by decide +kernel
theorem d_MD_result_1 : decode b_MD_result 1 = .ok (.sipush 255, 3) := by decide +kernel
theorem d_MD_result_4 : decode b_MD_result 4 = .ok (.iand, 1) := by decide +kernel
theorem d_MD_result_5 : decode b_MD_result 5 = .ok (.istore_n 2, 1) := by decide +kernel
theorem d_MD_result_6 : decode b_MD_result 6 = .ok (.aload_n 0, 1) := by decide +kernel
theorem d_MD_result_7 : decode b_MD_result 7 = .ok (.iload_n 2, 1) := by decide +kernel
theorem d_MD_result_8 : decode b_MD_result 8 = .ok (.bipush 127, 2) := by decide +kernel
theorem d_MD_result_10 : decode b_MD_result 10 = .ok (.if_icmp .le 7, 3) := by decide +kernel
theorem d_MD_result_13 : decode b_MD_result 13 = .ok (.iconst 1, 1) := by decide +kernel
theorem d_MD_result_14 : decode b_MD_result 14 = .ok (.goto 4, 3) := by decide +kernel
theorem d_MD_result_17 : decode b_MD_result 17 = .ok (.iconst 0, 1) := by decide +kernel
theorem d_MD_result_18 : decode b_MD_result 18 = .ok (.putfield 52, 3) := by decide +kernel
theorem d_MD_result_21 : decode b_MD_result 21 = .ok (.aload_n 0, 1) := by decide +kernel
theorem d_MD_result_22 : decode b_MD_result 22 = .ok (.iload_n 2, 1) := by decide +kernel
theorem d_MD_result_23 : decode b_MD_result 23 = .ok (.ifCond .ne 7, 3) := by decide +kernel
theorem d_MD_result_26 : decode b_MD_result 26 = .ok (.iconst 1, 1) := by decide +kernel
theorem d_MD_result_27 : decode b_MD_result 27 = .ok (.goto 4, 3) := by decide +kernel
theorem d_MD_result_30 : decode b_MD_result 30 = .ok (.iconst 0, 1) := by decide +kernel
theorem d_MD_result_31 : decode b_MD_result 31 = .ok (.putfield 56, 3) := by decide +kernel
theorem d_MD_result_34 : decode b_MD_result 34 = .ok (.iconst 0, 1) := by decide +kernel
theorem d_MD_result_35 : decode b_MD_result 35 = .ok (.istore_n 3, 1) := by decide +kernel
theorem d_MD_result_36 : decode b_MD_result 36 = .ok (.iconst 0, 1) := by decide +kernel
theorem d_MD_result_37 : decode b_MD_result 37 = .ok (.istore 4, 2) := by decide +kernel
theorem d_MD_result_39 : decode b_MD_result 39 = .ok (.iload 4, 2) := by decide +kernel
theorem d_MD_result_41 : decode b_MD_result 41 = .ok (.bipush 8, 2) := by decide +kernel
theorem d_MD_result_43 : decode b_MD_result 43 = .ok (.if_icmp .ge 18, 3) := by decide +kernel
theorem d_MD_result_46 : decode b_MD_result 46 = .ok (.iload_n 3, 1) := by decide +kernel
theorem d_MD_result_47 : decode b_MD_result 47 = .ok (.iload_n 2, 1) := by decide +kernel
theorem d_MD_result_48 : decode b_MD_result 48 = .ok (.iload 4, 2) := by decide +kernel
theorem d_MD_result_50 : decode b_MD_result 50 = .ok (.ishr, 1) := by decide +kernel
theorem d_MD_result_51 : decode b_MD_result 51 = .ok (.iconst 1, 1) := by decide +kernel
theorem d_MD_result_52 : decode b_MD_result 52 = .ok (.iand, 1) := by decide +kernel
theorem d_MD_result_53 : decode b_MD_result 53 = .ok (.iadd, 1) := by decide +kernel
theorem d_MD_result_54 : decode b_MD_result 54 = .ok (.istore_n 3, 1) := by decide +kernel
theorem d_MD_result_55 : decode b_MD_result 55 = .ok (.iinc 4 1, 3) := by decide +kernel
theorem d_MD_result_58 : decode b_MD_result 58 = .ok (.goto (-19), 3) := by decide +kernel
theorem d_MD_result_61 : decode b_MD_result 61 = .ok (.aload_n 0, 1) := by decide +kernel
theorem d_MD_result_62 : decode b_MD_result 62 = .ok (.iload_n 3, 1) := by decide +kernel
theorem d_MD_result_63 : decode b_MD_result 63 = .ok (.iconst 2, 1) := by decide +kernel
theorem d_MD_result_64 : decode b_MD_result 64 = .ok (.irem, 1) := by decide +kernel
theorem d_MD_result_65 : decode b_MD_result 65 = .ok (.ifCond .ne 7, 3) := by decide +kernel
theorem d_MD_result_68 : decode b_MD_result 68 = .ok (.iconst 1, 1) := by decide +kernel
theorem d_MD_result_69 : decode b_MD_result 69 = .ok (.goto 4, 3) := by decide +kernel
theorem d_MD_result_72 : decode b_MD_result 72 = .ok (.iconst 0, 1) := by decide +kernel
theorem d_MD_result_73 : decode b_MD_result 73 = .ok (.putfield 62, 3) := by decide +kernel
theorem d_MD_result_76 : decode b_MD_result 76 = .ok (.iload_n 2, 1) := by decide +kernel
theorem d_MD_result_77 : decode b_MD_result 77 = .ok (.ireturn, 1) := by decide +kernel
theorem tw_334 : Jvm.Cond.code ⟨"ArcadeBoardModel", "result", "(I)I"⟩ prog_11_method_15_code 5 (Option.some Jvm.ClassFile.FieldType.int) ∈ AL := ab_in (ab_t4 (List.mem_of_getElem? (i := 110) (by decide +kernel))) rfl
theorem tw_335 : Jvm.Cond.instanceMethod ⟨"ArcadeBoardModel", "result", "(I)I"⟩ ∈ AL := ab_in (ab_t4 (List.mem_of_getElem? (i := 109) (by decide +kernel))) rfl
theorem tw_336 : Cond.selects "ArcadeBoardModel" ⟨"ArcadeBoardModel", "result", "(I)I"⟩ ⟨"ArcadeBoardModel", "result", "(I)I"⟩ ∈ AL := ab_in (ab_s3 (List.mem_of_getElem? (i := 5) (by decide +kernel))) rfl
theorem ok_MD_result : ab_yok y_MD_result b_MD_result 5 (some .int) 1 := ⟨tw_334, tw_280, by decide, by decide, by decide +kernel⟩
theorem okv_MD_result : ab_yok_V y_MD_result := ⟨tw_335, tw_336⟩
set_option maxHeartbeats 1000000 in
set_option maxRecDepth 100000 in
theorem k_MD_result_39 {p : Program} {l : Launch} {e : Env} {s : State} {m : MethodId} {args : Array Value} {below : List Frame} {meth : Method} {c : Code} {A : Nat → Prop} {D : va_G} {t : Nat → ClassId} {q : Nat → Nat} (X : ab_cx p s m args c b_MD_result 5 y_MD_result.cls D (tyC t)) (hr : meth.sig.returnType = some .int) (hk : meth.locks = false) (k : Nat) (u : SS) (v2 : Int32) (v3 : Int32) (v4 : Int32) (j : Nat) (hi : v4 = nI j) (hj : j ≤ 8) (hf : 8 < j + k) {H : Heap} {locs : List Loc} {ls : Array Slot} (hX : ab_hx D (wM t q u) A s.heap H locs) (hl : lv_has ls 5 [(0, .ref (q 0)), (2, .int v2), (3, .int v3), (4, .int v4)]) :
    W p l e { frames := 0, cells := 0, slots := 0, locals := 0 } s m args below meth c H locs 0 0 (ab_ki_E below args s D (tyC t) (wM t q) A (g_MD_result_39 k u v2 v3 v4)) (F0 m 39 ls []) := by
  induction k generalizing u v2 v3 v4 j H locs ls with
  | zero => exact absurd hf (by omega)
  | succ k ih =>
    refine lv_iload (pc := 39) X.1 X.2.1 d_MD_result_39 (lv_at hl 3 rfl) ?_
    refine lv_bipush (pc := 41) (v := 8) X.1 X.2.1 d_MD_result_41 (by decide) ?_
    refine lv_icmp_ge (pc := 43) (tgt := 61) X.1 X.2.1 d_MD_result_43 (by decide) (fun h3 => ?_) (fun h3 => ?_)
    ·
      refine lv_aload_n (pc := 61) X.1 X.2.1 d_MD_result_61 rfl (lv_at hl 0 rfl) ?_
      refine lv_iload_n (pc := 62) X.1 X.2.1 d_MD_result_62 rfl (lv_at hl 2 rfl) ?_
      refine lv_iconst (pc := 63) (v := 2) X.1 X.2.1 d_MD_result_63 (by decide) ?_
      refine lv_irem (pc := 64) X.1 X.2.1 d_MD_result_64 (by decide) ?_
      refine ab_jn (ls := ls) (rest := [.ref (q 0)]) 73 (if (v3 - v3 / 2 * 2) = 0 then 1 else 0 : Int32) ?_ (fun J => ?_)
      rotate_left
      ·
        refine lv_if_ne (pc := 65) (tgt := 72) X.1 X.2.1 d_MD_result_65 (by decide) (fun h4 => ?_) (fun h4 => ?_)
        ·
          refine lv_iconst (pc := 72) (v := 0) X.1 X.2.1 d_MD_result_72 (by decide) ?_
          exact ab_jt (by rw [if_neg h4]) J
        ·
          refine lv_iconst (pc := 68) (v := 1) X.1 X.2.1 d_MD_result_68 (by decide) ?_
          refine lv_goto (pc := 69) (tgt := 73) X.1 X.2.1 d_MD_result_69 (by decide) ?_
          exact ab_jt (by rw [if_pos h4]) J
      refine ab_px (pc := 73) (ws' := (wM t q (stt u 0 7 (if (v3 - v3 / 2 * 2) = 0 then 1 else 0 : Int32)))) X hX 0 9 9 ty_MD ty_MD_ok nm_MD rfl rfl (Nat.le_of_ble_eq_true rfl) in_MD rfl tw_329 rfl rfl (ab_nb (ab_bi ab_bo1 ab_bo0)) (ab_fb (ab_bi ab_bo1 ab_bo0)) (Nat.le_of_ble_eq_true rfl) (sf_wM_0_9 t q u (if (v3 - v3 / 2 * 2) = 0 then 1 else 0 : Int32)) d_MD_result_73 (fun H locs hX => ?_)
      refine lv_iload_n (pc := 76) X.1 X.2.1 d_MD_result_76 rfl (lv_at hl 1 rfl) ?_
      exact ab_ki_ret (pc := 77) X hr hk hX rfl (by rw [g_MD_result_39, if_pos h3]) d_MD_result_77
    ·
      refine lv_iload_n (pc := 46) X.1 X.2.1 d_MD_result_46 rfl (lv_at hl 2 rfl) ?_
      refine lv_iload_n (pc := 47) X.1 X.2.1 d_MD_result_47 rfl (lv_at hl 1 rfl) ?_
      refine lv_iload (pc := 48) X.1 X.2.1 d_MD_result_48 (lv_at hl 3 rfl) ?_
      refine lv_ishr (pc := 50) X.1 X.2.1 d_MD_result_50 ?_
      refine lv_iconst (pc := 51) (v := 1) X.1 X.2.1 d_MD_result_51 (by decide) ?_
      refine lv_iand (pc := 52) X.1 X.2.1 d_MD_result_52 ?_
      refine lv_iadd (pc := 53) X.1 X.2.1 d_MD_result_53 ?_
      refine lv_istore_n (pc := 54) (lv' := [(3, .int (v3 + ((v2 >>> (v4 &&& 31)) &&& 1))), (0, .ref (q 0)), (2, .int v2), (4, .int v4)]) X.1 X.2.1 d_MD_result_54 rfl hl (Nat.le_of_ble_eq_true rfl) rfl (fun ls hl => ?_)
      refine lv_iinc (pc := 55) (k := 3) (v := v4 + 1) (lv' := [(4, .int (v4 + 1)), (3, .int (v3 + ((v2 >>> (v4 &&& 31)) &&& 1))), (0, .ref (q 0)), (2, .int v2)]) X.1 X.2.1 d_MD_result_55 hl rfl rfl (Nat.le_of_ble_eq_true rfl) rfl (fun ls hl => ?_)
      refine lv_goto (pc := 58) (tgt := 39) X.1 X.2.1 d_MD_result_58 (by decide) ?_
      rw [show g_MD_result_39 (k + 1) u v2 v3 v4 = g_MD_result_39 k u v2 (v3 + ((v2 >>> (v4 &&& 31)) &&& 1)) (v4 + 1) from by rw [g_MD_result_39, if_neg h3]]
      exact ih u v2 (v3 + ((v2 >>> (v4 &&& 31)) &&& 1)) (v4 + 1) (j + 1) (by rw [hi]; exact nI_1 j) (ab_ltN h3 hi hj rfl (by decide)) (by have := ab_ltN h3 hi hj (N := 8) rfl (by decide); omega) hX (lv_sub hl [2, 3, 1, 0] rfl)
set_option maxHeartbeats 1000000 in
set_option maxRecDepth 100000 in
theorem c_MD_result (l : Launch) (D : va_G) (t : Nat → ClassId) (q : Nat → Nat) (u : SS) (x1 : Int32) : ab_ki l D (tyC t) (wM t q) y_MD_result b_MD_result 5 .int { frames := 0, cells := 0, slots := 0, locals := 0 } [.ref (q 0), .int x1] u (f_MD_result u x1) := by
  refine ab_ki_ofW (by decide) (Nat.le_of_ble_eq_true rfl) (fun p e s m below meth c ls A X hr hk hl hX => ?_)
  have hl : lv_has ls 5 [(0, .ref (q 0)), (1, .int x1)] := hl
  refine lv_iload_n (pc := 0) X.1 X.2.1 d_MD_result_0 rfl (lv_at hl 1 rfl) ?_
  refine lv_sipush (pc := 1) (v := 255) X.1 X.2.1 d_MD_result_1 (by decide) ?_
  refine lv_iand (pc := 4) X.1 X.2.1 d_MD_result_4 ?_
  refine lv_istore_n (pc := 5) (lv' := [(2, .int (x1 &&& 255)), (0, .ref (q 0)), (1, .int x1)]) X.1 X.2.1 d_MD_result_5 rfl hl (Nat.le_of_ble_eq_true rfl) rfl (fun ls hl => ?_)
  refine lv_aload_n (pc := 6) X.1 X.2.1 d_MD_result_6 rfl (lv_at hl 1 rfl) ?_
  refine lv_iload_n (pc := 7) X.1 X.2.1 d_MD_result_7 rfl (lv_at hl 0 rfl) ?_
  refine lv_bipush (pc := 8) (v := 127) X.1 X.2.1 d_MD_result_8 (by decide) ?_
  refine ab_jn (ls := ls) (rest := [.ref (q 0)]) 18 (if (x1 &&& 255) ≤ 127 then 0 else 1 : Int32) ?_ (fun J => ?_)
  rotate_left
  ·
    refine lv_icmp_le (pc := 10) (tgt := 17) X.1 X.2.1 d_MD_result_10 (by decide) (fun h1 => ?_) (fun h1 => ?_)
    ·
      refine lv_iconst (pc := 17) (v := 0) X.1 X.2.1 d_MD_result_17 (by decide) ?_
      exact ab_jt (by rw [if_pos h1]) J
    ·
      refine lv_iconst (pc := 13) (v := 1) X.1 X.2.1 d_MD_result_13 (by decide) ?_
      refine lv_goto (pc := 14) (tgt := 18) X.1 X.2.1 d_MD_result_14 (by decide) ?_
      exact ab_jt (by rw [if_neg h1]) J
  refine ab_px (pc := 18) (ws' := (wM t q (stt u 0 4 (if (x1 &&& 255) ≤ 127 then 0 else 1 : Int32)))) X hX 0 9 6 ty_MD ty_MD_ok nm_MD rfl rfl (Nat.le_of_ble_eq_true rfl) in_MD rfl tw_326 rfl rfl (ab_nb (ab_bi ab_bo0 ab_bo1)) (ab_fb (ab_bi ab_bo0 ab_bo1)) (Nat.le_of_ble_eq_true rfl) (sf_wM_0_6 t q u (if (x1 &&& 255) ≤ 127 then 0 else 1 : Int32)) d_MD_result_18 (fun H locs hX => ?_)
  refine lv_aload_n (pc := 21) X.1 X.2.1 d_MD_result_21 rfl (lv_at hl 1 rfl) ?_
  refine lv_iload_n (pc := 22) X.1 X.2.1 d_MD_result_22 rfl (lv_at hl 0 rfl) ?_
  refine ab_jn (ls := ls) (rest := [.ref (q 0)]) 31 (if (x1 &&& 255) = 0 then 1 else 0 : Int32) ?_ (fun J => ?_)
  rotate_left
  ·
    refine lv_if_ne (pc := 23) (tgt := 30) X.1 X.2.1 d_MD_result_23 (by decide) (fun h2 => ?_) (fun h2 => ?_)
    ·
      refine lv_iconst (pc := 30) (v := 0) X.1 X.2.1 d_MD_result_30 (by decide) ?_
      exact ab_jt (by rw [if_neg h2]) J
    ·
      refine lv_iconst (pc := 26) (v := 1) X.1 X.2.1 d_MD_result_26 (by decide) ?_
      refine lv_goto (pc := 27) (tgt := 31) X.1 X.2.1 d_MD_result_27 (by decide) ?_
      exact ab_jt (by rw [if_pos h2]) J
  refine ab_px (pc := 31) (ws' := (wM t q (stt (stt u 0 4 (if (x1 &&& 255) ≤ 127 then 0 else 1 : Int32)) 0 5 (if (x1 &&& 255) = 0 then 1 else 0 : Int32)))) X hX 0 9 7 ty_MD ty_MD_ok nm_MD rfl rfl (Nat.le_of_ble_eq_true rfl) in_MD rfl tw_327 rfl rfl (ab_nb (ab_bi ab_bo1 ab_bo0)) (ab_fb (ab_bi ab_bo1 ab_bo0)) (Nat.le_of_ble_eq_true rfl) (sf_wM_0_7 t q (stt u 0 4 (if (x1 &&& 255) ≤ 127 then 0 else 1 : Int32)) (if (x1 &&& 255) = 0 then 1 else 0 : Int32)) d_MD_result_31 (fun H locs hX => ?_)
  refine lv_iconst (pc := 34) (v := 0) X.1 X.2.1 d_MD_result_34 (by decide) ?_
  refine lv_istore_n (pc := 35) (lv' := [(3, .int 0), (2, .int (x1 &&& 255)), (0, .ref (q 0)), (1, .int x1)]) X.1 X.2.1 d_MD_result_35 rfl hl (Nat.le_of_ble_eq_true rfl) rfl (fun ls hl => ?_)
  refine lv_iconst (pc := 36) (v := 0) X.1 X.2.1 d_MD_result_36 (by decide) ?_
  refine lv_istore (pc := 37) (lv' := [(4, .int 0), (3, .int 0), (2, .int (x1 &&& 255)), (0, .ref (q 0)), (1, .int x1)]) X.1 X.2.1 d_MD_result_37 hl (Nat.le_of_ble_eq_true rfl) rfl (fun ls hl => ?_)
  rw [show f_MD_result u x1 = g_MD_result_39 9 (stt (stt u 0 4 (if (x1 &&& 255) ≤ 127 then 0 else 1 : Int32)) 0 5 (if (x1 &&& 255) = 0 then 1 else 0 : Int32)) (x1 &&& 255) 0 0 from by rw [f_MD_result]]
  exact k_MD_result_39 X hr hk 9 (stt (stt u 0 4 (if (x1 &&& 255) ≤ 127 then 0 else 1 : Int32)) 0 5 (if (x1 &&& 255) = 0 then 1 else 0 : Int32)) (x1 &&& 255) 0 0 0 rfl (Nat.zero_le _) (by decide) hX (lv_sub hl [3, 2, 1, 0] rfl)
abbrev b_MD_holds : ByteArray := prog_11_method_16_code
def y_MD_holds : MethodName := ⟨"ArcadeBoardModel", "holds", "(I)Z"⟩
theorem d_MD_holds_0 : decode b_MD_holds 0 = .ok (.iload_n 1, 1) := by decide +kernel
theorem d_MD_holds_1 : decode b_MD_holds 1 = .ok (.iconst 2, 1) := by decide +kernel
theorem d_MD_holds_2 : decode b_MD_holds 2 = .ok (.if_icmp .ge 10, 3) := by decide +kernel
theorem d_MD_holds_5 : decode b_MD_holds 5 = .ok (.aload_n 0, 1) := by decide +kernel
theorem d_MD_holds_6 : decode b_MD_holds 6 = .ok (.getfield 56, 3) := by decide +kernel
theorem d_MD_holds_9 : decode b_MD_holds 9 = .ok (.goto 32, 3) := by decide +kernel
theorem d_MD_holds_12 : decode b_MD_holds 12 = .ok (.iload_n 1, 1) := by decide +kernel
theorem d_MD_holds_13 : decode b_MD_holds 13 = .ok (.iconst 4, 1) := by decide +kernel
theorem d_MD_holds_14 : decode b_MD_holds 14 = .ok (.if_icmp .ge 10, 3) := by decide +kernel
theorem d_MD_holds_17 : decode b_MD_holds 17 = .ok (.aload_n 0, 1) := by decide +kernel
theorem d_MD_holds_18 : decode b_MD_holds 18 = .ok (.getfield 65, 3) := by decide +kernel
theorem d_MD_holds_21 : decode b_MD_holds 21 = .ok (.goto 20, 3) := by decide +kernel
theorem d_MD_holds_24 : decode b_MD_holds 24 = .ok (.iload_n 1, 1) := by decide +kernel
theorem d_MD_holds_25 : decode b_MD_holds 25 = .ok (.bipush 6, 2) := by decide +kernel
theorem d_MD_holds_27 : decode b_MD_holds 27 = .ok (.if_icmp .ge 10, 3) := by decide +kernel
theorem d_MD_holds_30 : decode b_MD_holds 30 = .ok (.aload_n 0, 1) := by decide +kernel
theorem d_MD_holds_31 : decode b_MD_holds 31 = .ok (.getfield 62, 3) := by decide +kernel
theorem d_MD_holds_34 : decode b_MD_holds 34 = .ok (.goto 7, 3) := by decide +kernel
theorem d_MD_holds_37 : decode b_MD_holds 37 = .ok (.aload_n 0, 1) := by decide +kernel
theorem d_MD_holds_38 : decode b_MD_holds 38 = .ok (.getfield 52, 3) := by decide +kernel
theorem d_MD_holds_41 : decode b_MD_holds 41 = .ok (.istore_n 2, 1) := by decide +kernel
theorem d_MD_holds_42 : decode b_MD_holds 42 = .ok (.iload_n 2, 1) := by decide +kernel
theorem d_MD_holds_43 : decode b_MD_holds 43 = .ok (.iload_n 1, 1) := by decide +kernel
theorem d_MD_holds_44 : decode b_MD_holds 44 = .ok (.iconst 2, 1) := by decide +kernel
theorem d_MD_holds_45 : decode b_MD_holds 45 = .ok (.irem, 1) := by decide +kernel
theorem d_MD_holds_46 : decode b_MD_holds 46 = .ok (.iconst 1, 1) := by decide +kernel
theorem d_MD_holds_47 : decode b_MD_holds 47 = .ok (.if_icmp .ne 7, 3) := by decide +kernel
theorem d_MD_holds_50 : decode b_MD_holds 50 = .ok (.iconst 1, 1) := by decide +kernel
theorem d_MD_holds_51 : decode b_MD_holds 51 = .ok (.goto 4, 3) := by decide +kernel
theorem d_MD_holds_54 : decode b_MD_holds 54 = .ok (.iconst 0, 1) := by decide +kernel
theorem d_MD_holds_55 : decode b_MD_holds 55 = .ok (.if_icmp .ne 7, 3) := by decide +kernel
theorem d_MD_holds_58 : decode b_MD_holds 58 = .ok (.iconst 1, 1) := by decide +kernel
theorem d_MD_holds_59 : decode b_MD_holds 59 = .ok (.goto 4, 3) := by decide +kernel
theorem d_MD_holds_62 : decode b_MD_holds 62 = .ok (.iconst 0, 1) := by decide +kernel
theorem d_MD_holds_63 : decode b_MD_holds 63 = .ok (.ireturn, 1) := by decide +kernel
theorem tw_337 : Jvm.Cond.code ⟨"ArcadeBoardModel", "holds", "(I)Z"⟩ prog_11_method_16_code 3 (Option.some Jvm.ClassFile.FieldType.boolean) ∈ AL := ab_in (ab_t4 (List.mem_of_getElem? (i := 130) (by decide +kernel))) rfl
theorem tw_338 : Jvm.Cond.instanceMethod ⟨"ArcadeBoardModel", "holds", "(I)Z"⟩ ∈ AL := ab_in (ab_t4 (List.mem_of_getElem? (i := 129) (by decide +kernel))) rfl
theorem tw_339 : Cond.selects "ArcadeBoardModel" ⟨"ArcadeBoardModel", "holds", "(I)Z"⟩ ⟨"ArcadeBoardModel", "holds", "(I)Z"⟩ ∈ AL := ab_in (ab_s3 (List.mem_of_getElem? (i := 10) (by decide +kernel))) rfl
theorem ok_MD_holds : ab_yok y_MD_holds b_MD_holds 3 (some .boolean) 1 := ⟨tw_337, tw_280, by decide, by decide, by decide +kernel⟩
theorem okv_MD_holds : ab_yok_V y_MD_holds := ⟨tw_338, tw_339⟩
set_option maxHeartbeats 1000000 in
set_option maxRecDepth 100000 in
theorem c_MD_holds (l : Launch) (D : va_G) (t : Nat → ClassId) (q : Nat → Nat) (u : SS) (x1 : Int32) : ab_ki l D (tyC t) (wM t q) y_MD_holds b_MD_holds 3 .boolean { frames := 0, cells := 0, slots := 0, locals := 0 } [.ref (q 0), .int x1] u ((f_MD_holds u x1, u)) := by
  refine ab_ki_ofW (by decide) (Nat.le_of_ble_eq_true rfl) (fun p e s m below meth c ls A X hr hk hl hX => ?_)
  have hl : lv_has ls 3 [(0, .ref (q 0)), (1, .int x1)] := hl
  refine lv_iload_n (pc := 0) X.1 X.2.1 d_MD_holds_0 rfl (lv_at hl 1 rfl) ?_
  refine lv_iconst (pc := 1) (v := 2) X.1 X.2.1 d_MD_holds_1 (by decide) ?_
  refine ab_jn (ls := ls) (rest := []) 41 (if 2 ≤ x1 then (if 4 ≤ x1 then (if 6 ≤ x1 then (u 0 4) else (u 0 7) : Int32) else (u 0 8) : Int32) else (u 0 5) : Int32) ?_ (fun J => ?_)
  rotate_left
  ·
    refine lv_icmp_ge (pc := 2) (tgt := 12) X.1 X.2.1 d_MD_holds_2 (by decide) (fun h1 => ?_) (fun h1 => ?_)
    ·
      refine lv_iload_n (pc := 12) X.1 X.2.1 d_MD_holds_12 rfl (lv_at hl 1 rfl) ?_
      refine lv_iconst (pc := 13) (v := 4) X.1 X.2.1 d_MD_holds_13 (by decide) ?_
      refine lv_icmp_ge (pc := 14) (tgt := 24) X.1 X.2.1 d_MD_holds_14 (by decide) (fun h2 => ?_) (fun h2 => ?_)
      ·
        refine lv_iload_n (pc := 24) X.1 X.2.1 d_MD_holds_24 rfl (lv_at hl 1 rfl) ?_
        refine lv_bipush (pc := 25) (v := 6) X.1 X.2.1 d_MD_holds_25 (by decide) ?_
        refine lv_icmp_ge (pc := 27) (tgt := 37) X.1 X.2.1 d_MD_holds_27 (by decide) (fun h3 => ?_) (fun h3 => ?_)
        ·
          refine lv_aload_n (pc := 37) X.1 X.2.1 d_MD_holds_37 rfl (lv_at hl 0 rfl) ?_
          refine ab_gx (pc := 38) (v := .int (u 0 4)) X hX 0 9 6 rfl rfl (Nat.le_of_ble_eq_true rfl) in_MD rfl tw_326 rfl d_MD_holds_38 ?_
          exact ab_jt (by rw [if_pos h1, if_pos h2, if_pos h3]) J
        ·
          refine lv_aload_n (pc := 30) X.1 X.2.1 d_MD_holds_30 rfl (lv_at hl 0 rfl) ?_
          refine ab_gx (pc := 31) (v := .int (u 0 7)) X hX 0 9 9 rfl rfl (Nat.le_of_ble_eq_true rfl) in_MD rfl tw_329 rfl d_MD_holds_31 ?_
          refine lv_goto (pc := 34) (tgt := 41) X.1 X.2.1 d_MD_holds_34 (by decide) ?_
          exact ab_jt (by rw [if_pos h1, if_pos h2, if_neg h3]) J
      ·
        refine lv_aload_n (pc := 17) X.1 X.2.1 d_MD_holds_17 rfl (lv_at hl 0 rfl) ?_
        refine ab_gx (pc := 18) (v := .int (u 0 8)) X hX 0 9 10 rfl rfl (Nat.le_of_ble_eq_true rfl) in_MD rfl tw_330 rfl d_MD_holds_18 ?_
        refine lv_goto (pc := 21) (tgt := 41) X.1 X.2.1 d_MD_holds_21 (by decide) ?_
        exact ab_jt (by rw [if_pos h1, if_neg h2]) J
    ·
      refine lv_aload_n (pc := 5) X.1 X.2.1 d_MD_holds_5 rfl (lv_at hl 0 rfl) ?_
      refine ab_gx (pc := 6) (v := .int (u 0 5)) X hX 0 9 7 rfl rfl (Nat.le_of_ble_eq_true rfl) in_MD rfl tw_327 rfl d_MD_holds_6 ?_
      refine lv_goto (pc := 9) (tgt := 41) X.1 X.2.1 d_MD_holds_9 (by decide) ?_
      exact ab_jt (by rw [if_neg h1]) J
  refine lv_istore_n (pc := 41) (lv' := [(2, .int (if 2 ≤ x1 then (if 4 ≤ x1 then (if 6 ≤ x1 then (u 0 4) else (u 0 7) : Int32) else (u 0 8) : Int32) else (u 0 5) : Int32)), (0, .ref (q 0)), (1, .int x1)]) X.1 X.2.1 d_MD_holds_41 rfl hl (Nat.le_of_ble_eq_true rfl) rfl (fun ls hl => ?_)
  refine lv_iload_n (pc := 42) X.1 X.2.1 d_MD_holds_42 rfl (lv_at hl 0 rfl) ?_
  refine lv_iload_n (pc := 43) X.1 X.2.1 d_MD_holds_43 rfl (lv_at hl 2 rfl) ?_
  refine lv_iconst (pc := 44) (v := 2) X.1 X.2.1 d_MD_holds_44 (by decide) ?_
  refine lv_irem (pc := 45) X.1 X.2.1 d_MD_holds_45 (by decide) ?_
  refine lv_iconst (pc := 46) (v := 1) X.1 X.2.1 d_MD_holds_46 (by decide) ?_
  refine ab_jn (ls := ls) (rest := [.int (if 2 ≤ x1 then (if 4 ≤ x1 then (if 6 ≤ x1 then (u 0 4) else (u 0 7) : Int32) else (u 0 8) : Int32) else (u 0 5) : Int32)]) 55 (if (x1 - x1 / 2 * 2) = 1 then 1 else 0 : Int32) ?_ (fun J => ?_)
  rotate_left
  ·
    refine lv_icmp_ne (pc := 47) (tgt := 54) X.1 X.2.1 d_MD_holds_47 (by decide) (fun h4 => ?_) (fun h4 => ?_)
    ·
      refine lv_iconst (pc := 54) (v := 0) X.1 X.2.1 d_MD_holds_54 (by decide) ?_
      exact ab_jt (by rw [if_neg h4]) J
    ·
      refine lv_iconst (pc := 50) (v := 1) X.1 X.2.1 d_MD_holds_50 (by decide) ?_
      refine lv_goto (pc := 51) (tgt := 55) X.1 X.2.1 d_MD_holds_51 (by decide) ?_
      exact ab_jt (by rw [if_pos h4]) J
  refine ab_jn (ls := ls) (rest := []) 63 (if (if 2 ≤ x1 then (if 4 ≤ x1 then (if 6 ≤ x1 then (u 0 4) else (u 0 7) : Int32) else (u 0 8) : Int32) else (u 0 5) : Int32) = (if (x1 - x1 / 2 * 2) = 1 then 1 else 0 : Int32) then 1 else 0 : Int32) ?_ (fun J => ?_)
  rotate_left
  ·
    refine lv_icmp_ne (pc := 55) (tgt := 62) X.1 X.2.1 d_MD_holds_55 (by decide) (fun h5 => ?_) (fun h5 => ?_)
    ·
      refine lv_iconst (pc := 62) (v := 0) X.1 X.2.1 d_MD_holds_62 (by decide) ?_
      exact ab_jt (by rw [if_neg h5]) J
    ·
      refine lv_iconst (pc := 58) (v := 1) X.1 X.2.1 d_MD_holds_58 (by decide) ?_
      refine lv_goto (pc := 59) (tgt := 63) X.1 X.2.1 d_MD_holds_59 (by decide) ?_
      exact ab_jt (by rw [if_pos h5]) J
  exact ab_ki_ret (pc := 63) X hr hk hX (ab_nb (ab_bi ab_bo1 ab_bo0)) (by rw [f_MD_holds]) d_MD_holds_63
