abbrev b_Memory_at : ByteArray := prog_4_method_2_code
def y_Memory_at : MethodName := ⟨"ArcadeBoard$Memory", "at", "(I)I"⟩
theorem d_Memory_at_0 : decode b_Memory_at 0 = .ok (.iload_n 1, 1) := by decide +kernel
theorem d_Memory_at_1 : decode b_Memory_at 1 = .ok (.sipush 1023, 3) := by decide +kernel
theorem d_Memory_at_4 : decode b_Memory_at 4 = .ok (.iand, 1) := by decide +kernel
theorem d_Memory_at_5 : decode b_Memory_at 5 = .ok (.istore_n 2, 1) := by decide +kernel
theorem d_Memory_at_6 : decode b_Memory_at 6 = .ok (.iload_n 2, 1) := by decide +kernel
theorem d_Memory_at_7 : decode b_Memory_at 7 = .ok (.sipush 512, 3) := by decide +kernel
theorem d_Memory_at_10 : decode b_Memory_at 10 = .ok (.if_icmp .ge 12, 3) := by decide +kernel
theorem d_Memory_at_13 : decode b_Memory_at 13 = .ok (.aload_n 0, 1) := by decide +kernel
theorem d_Memory_at_14 : decode b_Memory_at 14 = .ok (.getfield 9, 3) := by decide +kernel
theorem d_Memory_at_17 : decode b_Memory_at 17 = .ok (.iload_n 2, 1) := by decide +kernel
theorem d_Memory_at_18 : decode b_Memory_at 18 = .ok (.iaload, 1) := by decide +kernel
theorem d_Memory_at_19 : decode b_Memory_at 19 = .ok (.goto 16, 3) := by decide +kernel
theorem d_Memory_at_22 : decode b_Memory_at 22 = .ok (.aload_n 0, 1) := by decide +kernel
theorem d_Memory_at_23 : decode b_Memory_at 23 = .ok (.getfield 15, 3) := by decide +kernel
theorem d_Memory_at_26 : decode b_Memory_at 26 = .ok (.getfield 19, 3) := by decide +kernel
theorem d_Memory_at_29 : decode b_Memory_at 29 = .ok (.iload_n 2, 1) := by decide +kernel
theorem d_Memory_at_30 : decode b_Memory_at 30 = .ok (.sipush 512, 3) := by decide +kernel
theorem d_Memory_at_33 : decode b_Memory_at 33 = .ok (.isub, 1) := by decide +kernel
theorem d_Memory_at_34 : decode b_Memory_at 34 = .ok (.iaload, 1) := by decide +kernel
theorem d_Memory_at_35 : decode b_Memory_at 35 = .ok (.ireturn, 1) := by decide +kernel
theorem tw_0 : Jvm.Cond.code ⟨"ArcadeBoard$Memory", "at", "(I)I"⟩ prog_4_method_2_code 3 (Option.some Jvm.ClassFile.FieldType.int) ∈ AL := ab_in (ab_t2 (List.mem_of_getElem? (i := 75) (by decide +kernel))) rfl
theorem tw_1 : Jvm.Cond.initialized "ArcadeBoard$Memory" ∈ AL := ab_in (ab_t1 (List.mem_of_getElem? (i := 3) (by decide +kernel))) rfl
theorem tw_2 : Jvm.Cond.instanceMethod ⟨"ArcadeBoard$Memory", "at", "(I)I"⟩ ∈ AL := ab_in (ab_t2 (List.mem_of_getElem? (i := 73) (by decide +kernel))) rfl
theorem tw_3 : Jvm.Cond.selects "ArcadeBoard$Memory" ⟨"ArcadeBoard$Memory", "at", "(I)I"⟩ ⟨"ArcadeBoard$Memory", "at", "(I)I"⟩ ∈ AL := ab_in (ab_t2 (List.mem_of_getElem? (i := 74) (by decide +kernel))) rfl
theorem tw_4 : Jvm.Cond.fieldLink "ArcadeBoard$Memory" 15 "ArcadeBoard$Memory" "state" "LArcadeBoard$State;" ∈ AL := ab_in (ab_t1 (List.mem_of_getElem? (i := 134) (by decide +kernel))) rfl
theorem tw_5 : Jvm.Cond.fieldLink "ArcadeBoard$Memory" 19 "ArcadeBoard$State" "ram" "[I" ∈ AL := ab_in (ab_t1 (List.mem_of_getElem? (i := 33) (by decide +kernel))) rfl
theorem tw_6 : Jvm.Cond.fieldLink "ArcadeBoard$Memory" 9 "ArcadeBoard$Memory" "program" "[I" ∈ AL := ab_in (ab_t1 (List.mem_of_getElem? (i := 133) (by decide +kernel))) rfl
theorem ok_Memory_at : ab_yok y_Memory_at b_Memory_at 3 (some .int) 1 := ⟨tw_0, tw_1, by decide, by decide, by decide +kernel⟩
theorem okv_Memory_at : ab_yok_V y_Memory_at := ⟨tw_2, tw_3⟩
set_option maxHeartbeats 1000000 in
set_option maxRecDepth 100000 in
theorem c_Memory_at (l : Launch) (D : va_G) (t : Nat → ClassId) (q : Nat → Nat) (u : SS) (x1 : Int32) : ab_ki l D (tyC t) (wC t q) y_Memory_at b_Memory_at 3 .int { frames := 0, cells := 0, slots := 0, locals := 0 } [.ref (q 4), .int x1] u ((f_Memory_at u x1, u)) := by
  refine ab_ki_ofW (by decide) (Nat.le_of_ble_eq_true rfl) (fun p e s m below meth c ls A X hr hk hl hX => ?_)
  have hl : lv_has ls 3 [(0, .ref (q 4)), (1, .int x1)] := hl
  refine lv_iload_n (pc := 0) X.1 X.2.1 d_Memory_at_0 rfl (lv_at hl 1 rfl) ?_
  refine lv_sipush (pc := 1) (v := 1023) X.1 X.2.1 d_Memory_at_1 (by decide) ?_
  refine lv_iand (pc := 4) X.1 X.2.1 d_Memory_at_4 ?_
  refine lv_istore_n (pc := 5) (lv' := [(2, .int (x1 &&& 1023)), (0, .ref (q 4)), (1, .int x1)]) X.1 X.2.1 d_Memory_at_5 rfl hl (Nat.le_of_ble_eq_true rfl) rfl (fun ls hl => ?_)
  refine lv_iload_n (pc := 6) X.1 X.2.1 d_Memory_at_6 rfl (lv_at hl 0 rfl) ?_
  refine lv_sipush (pc := 7) (v := 512) X.1 X.2.1 d_Memory_at_7 (by decide) ?_
  refine ab_jn (ls := ls) (rest := []) 35 (if 512 ≤ (x1 &&& 1023) then (u 1 (((x1 &&& 1023) - 512).toNatClampNeg)) else (u 3 ((x1 &&& 1023).toNatClampNeg)) : Int32) ?_ (fun J => ?_)
  rotate_left
  ·
    refine lv_icmp_ge (pc := 10) (tgt := 22) X.1 X.2.1 d_Memory_at_10 (by decide) (fun h1 => ?_) (fun h1 => ?_)
    ·
      refine lv_aload_n (pc := 22) X.1 X.2.1 d_Memory_at_22 rfl (lv_at hl 1 rfl) ?_
      refine ab_gx (pc := 23) (v := .ref (q 1)) X hX 4 2 1 rfl rfl (Nat.le_of_ble_eq_true rfl) in_Memory rfl tw_4 rfl d_Memory_at_23 ?_
      refine ab_gx (pc := 26) (v := .ref (q 2)) X hX 1 7 0 rfl rfl (Nat.le_of_ble_eq_true rfl) in_State rfl tw_5 rfl d_Memory_at_26 ?_
      refine lv_iload_n (pc := 29) X.1 X.2.1 d_Memory_at_29 rfl (lv_at hl 0 rfl) ?_
      refine lv_sipush (pc := 30) (v := 512) X.1 X.2.1 d_Memory_at_30 (by decide) ?_
      refine lv_isub (pc := 33) X.1 X.2.1 d_Memory_at_33 ?_
      refine ab_ald (pc := 34) (f := u 1) (j := ((x1 &&& 1023) - 512).toNatClampNeg) X hX 2 0 rfl rfl (ab_inB h1) rfl d_Memory_at_34 ?_
      exact ab_jt (by rw [if_pos h1]) J
    ·
      refine lv_aload_n (pc := 13) X.1 X.2.1 d_Memory_at_13 rfl (lv_at hl 1 rfl) ?_
      refine ab_gx (pc := 14) (v := .ref (q 5)) X hX 4 2 0 rfl rfl (Nat.le_of_ble_eq_true rfl) in_Memory rfl tw_6 rfl d_Memory_at_14 ?_
      refine lv_iload_n (pc := 17) X.1 X.2.1 d_Memory_at_17 rfl (lv_at hl 0 rfl) ?_
      refine ab_ald (pc := 18) (f := u 3) (j := (x1 &&& 1023).toNatClampNeg) X hX 5 0 rfl rfl (ab_inA h1) rfl d_Memory_at_18 ?_
      refine lv_goto (pc := 19) (tgt := 35) X.1 X.2.1 d_Memory_at_19 (by decide) ?_
      exact ab_jt (by rw [if_neg h1]) J
  exact ab_ki_ret (pc := 35) X hr hk hX rfl (by rw [f_Memory_at]) d_Memory_at_35
abbrev b_Memory_put : ByteArray := prog_4_method_3_code
def y_Memory_put : MethodName := ⟨"ArcadeBoard$Memory", "put", "(II)V"⟩
theorem d_Memory_put_0 : decode b_Memory_put 0 = .ok (.iload_n 1, 1) := by decide +kernel
theorem d_Memory_put_1 : decode b_Memory_put 1 = .ok (.sipush 1023, 3) := by decide +kernel
theorem d_Memory_put_4 : decode b_Memory_put 4 = .ok (.iand, 1) := by decide +kernel
theorem d_Memory_put_5 : decode b_Memory_put 5 = .ok (.istore_n 3, 1) := by decide +kernel
theorem d_Memory_put_6 : decode b_Memory_put 6 = .ok (.iload_n 3, 1) := by decide +kernel
theorem d_Memory_put_7 : decode b_Memory_put 7 = .ok (.sipush 512, 3) := by decide +kernel
theorem d_Memory_put_10 : decode b_Memory_put 10 = .ok (.if_icmp .lt 21, 3) := by decide +kernel
theorem d_Memory_put_13 : decode b_Memory_put 13 = .ok (.aload_n 0, 1) := by decide +kernel
theorem d_Memory_put_14 : decode b_Memory_put 14 = .ok (.getfield 15, 3) := by decide +kernel
theorem d_Memory_put_17 : decode b_Memory_put 17 = .ok (.getfield 19, 3) := by decide +kernel
theorem d_Memory_put_20 : decode b_Memory_put 20 = .ok (.iload_n 3, 1) := by decide +kernel
theorem d_Memory_put_21 : decode b_Memory_put 21 = .ok (.sipush 512, 3) := by decide +kernel
theorem d_Memory_put_24 : decode b_Memory_put 24 = .ok (.isub, 1) := by decide +kernel
theorem d_Memory_put_25 : decode b_Memory_put 25 = .ok (.iload_n 2, 1) := by decide +kernel
theorem d_Memory_put_26 : decode b_Memory_put 26 = .ok (.sipush 255, 3) := by decide +kernel
theorem d_Memory_put_29 : decode b_Memory_put 29 = .ok (.iand, 1) := by decide +kernel
theorem d_Memory_put_30 : decode b_Memory_put 30 = .ok (.iastore, 1) := by decide +kernel
theorem d_Memory_put_31 : decode b_Memory_put 31 = .ok (.return_, 1) := by decide +kernel
theorem tw_7 : Jvm.Cond.code ⟨"ArcadeBoard$Memory", "put", "(II)V"⟩ prog_4_method_3_code 4 (Option.none : Option Jvm.ClassFile.FieldType) ∈ AL := ab_in (ab_t2 (List.mem_of_getElem? (i := 232) (by decide +kernel))) rfl
theorem tw_8 : Jvm.Cond.instanceMethod ⟨"ArcadeBoard$Memory", "put", "(II)V"⟩ ∈ AL := ab_in (ab_t2 (List.mem_of_getElem? (i := 230) (by decide +kernel))) rfl
theorem tw_9 : Jvm.Cond.selects "ArcadeBoard$Memory" ⟨"ArcadeBoard$Memory", "put", "(II)V"⟩ ⟨"ArcadeBoard$Memory", "put", "(II)V"⟩ ∈ AL := ab_in (ab_t2 (List.mem_of_getElem? (i := 231) (by decide +kernel))) rfl
theorem ok_Memory_put : ab_yok y_Memory_put b_Memory_put 4 none 2 := ⟨tw_7, tw_1, by decide, by decide, by decide +kernel⟩
theorem okv_Memory_put : ab_yok_V y_Memory_put := ⟨tw_8, tw_9⟩
set_option maxHeartbeats 1000000 in
set_option maxRecDepth 100000 in
theorem c_Memory_put (l : Launch) (D : va_G) (t : Nat → ClassId) (q : Nat → Nat) (u : SS) (x1 : Int32) (x2 : Int32) : ab_kv l D (tyC t) (wC t q) y_Memory_put b_Memory_put 4 { frames := 0, cells := 0, slots := 0, locals := 0 } [.ref (q 4), .int x1, .int x2] u (f_Memory_put u x1 x2) := by
  refine ab_kv_ofW (by decide) (Nat.le_of_ble_eq_true rfl) (fun p e s m below meth c ls A X hr hk hl hX => ?_)
  have hl : lv_has ls 4 [(0, .ref (q 4)), (1, .int x1), (2, .int x2)] := hl
  refine lv_iload_n (pc := 0) X.1 X.2.1 d_Memory_put_0 rfl (lv_at hl 1 rfl) ?_
  refine lv_sipush (pc := 1) (v := 1023) X.1 X.2.1 d_Memory_put_1 (by decide) ?_
  refine lv_iand (pc := 4) X.1 X.2.1 d_Memory_put_4 ?_
  refine lv_istore_n (pc := 5) (lv' := [(3, .int (x1 &&& 1023)), (0, .ref (q 4)), (1, .int x1), (2, .int x2)]) X.1 X.2.1 d_Memory_put_5 rfl hl (Nat.le_of_ble_eq_true rfl) rfl (fun ls hl => ?_)
  refine lv_iload_n (pc := 6) X.1 X.2.1 d_Memory_put_6 rfl (lv_at hl 0 rfl) ?_
  refine lv_sipush (pc := 7) (v := 512) X.1 X.2.1 d_Memory_put_7 (by decide) ?_
  refine lv_icmp_lt (pc := 10) (tgt := 31) X.1 X.2.1 d_Memory_put_10 (by decide) (fun h1 => ?_) (fun h1 => ?_)
  ·
    exact ab_kv_ret (pc := 31) X hr hk hX (by rw [f_Memory_put, if_pos h1]) d_Memory_put_31
  ·
    refine lv_aload_n (pc := 13) X.1 X.2.1 d_Memory_put_13 rfl (lv_at hl 1 rfl) ?_
    refine ab_gx (pc := 14) (v := .ref (q 1)) X hX 4 2 1 rfl rfl (Nat.le_of_ble_eq_true rfl) in_Memory rfl tw_4 rfl d_Memory_put_14 ?_
    refine ab_gx (pc := 17) (v := .ref (q 2)) X hX 1 7 0 rfl rfl (Nat.le_of_ble_eq_true rfl) in_State rfl tw_5 rfl d_Memory_put_17 ?_
    refine lv_iload_n (pc := 20) X.1 X.2.1 d_Memory_put_20 rfl (lv_at hl 0 rfl) ?_
    refine lv_sipush (pc := 21) (v := 512) X.1 X.2.1 d_Memory_put_21 (by decide) ?_
    refine lv_isub (pc := 24) X.1 X.2.1 d_Memory_put_24 ?_
    refine lv_iload_n (pc := 25) X.1 X.2.1 d_Memory_put_25 rfl (lv_at hl 3 rfl) ?_
    refine lv_sipush (pc := 26) (v := 255) X.1 X.2.1 d_Memory_put_26 (by decide) ?_
    refine lv_iand (pc := 29) X.1 X.2.1 d_Memory_put_29 ?_
    refine ab_ast (pc := 30) (f := u 1) (j := ((x1 &&& 1023) - 512).toNatClampNeg) (ws' := (wC t q (stt u 1 (((x1 &&& 1023) - 512).toNatClampNeg) (x2 &&& 255)))) X hX 2 0 rfl rfl (ab_inB' h1) rfl (sa_wC_2 t q u (((x1 &&& 1023) - 512).toNatClampNeg) (x2 &&& 255)) d_Memory_put_30 (fun H locs hX => ?_)
    exact ab_kv_ret (pc := 31) X hr hk hX (by rw [f_Memory_put, if_neg h1]) d_Memory_put_31
abbrev b_Memory_wordAt : ByteArray := prog_4_method_4_code
def y_Memory_wordAt : MethodName := ⟨"ArcadeBoard$Memory", "wordAt", "(I)I"⟩
theorem d_Memory_wordAt_0 : decode b_Memory_wordAt 0 = .ok (.aload_n 0, 1) := by decide +kernel
theorem d_Memory_wordAt_1 : decode b_Memory_wordAt 1 = .ok (.iload_n 1, 1) := by decide +kernel
theorem d_Memory_wordAt_2 : decode b_Memory_wordAt 2 = .ok (.invokevirtual 24, 3) := by decide +kernel
theorem d_Memory_wordAt_5 : decode b_Memory_wordAt 5 = .ok (.aload_n 0, 1) := by decide +kernel
theorem d_Memory_wordAt_6 : decode b_Memory_wordAt 6 = .ok (.iload_n 1, 1) := by decide +kernel
theorem d_Memory_wordAt_7 : decode b_Memory_wordAt 7 = .ok (.iconst 1, 1) := by decide +kernel
theorem d_Memory_wordAt_8 : decode b_Memory_wordAt 8 = .ok (.iadd, 1) := by decide +kernel
theorem d_Memory_wordAt_9 : decode b_Memory_wordAt 9 = .ok (.invokevirtual 24, 3) := by decide +kernel
theorem d_Memory_wordAt_12 : decode b_Memory_wordAt 12 = .ok (.bipush 8, 2) := by decide +kernel
theorem d_Memory_wordAt_14 : decode b_Memory_wordAt 14 = .ok (.ishl, 1) := by decide +kernel
theorem d_Memory_wordAt_15 : decode b_Memory_wordAt 15 = .ok (.ior, 1) := by decide +kernel
theorem d_Memory_wordAt_16 : decode b_Memory_wordAt 16 = .ok (.ireturn, 1) := by decide +kernel
theorem tw_10 : Jvm.Cond.code ⟨"ArcadeBoard$Memory", "wordAt", "(I)I"⟩ prog_4_method_4_code 2 (Option.some Jvm.ClassFile.FieldType.int) ∈ AL := ab_in (ab_t3 (List.mem_of_getElem? (i := 41) (by decide +kernel))) rfl
theorem tw_11 : Jvm.Cond.instanceMethod ⟨"ArcadeBoard$Memory", "wordAt", "(I)I"⟩ ∈ AL := ab_in (ab_t3 (List.mem_of_getElem? (i := 39) (by decide +kernel))) rfl
theorem tw_12 : Jvm.Cond.selects "ArcadeBoard$Memory" ⟨"ArcadeBoard$Memory", "wordAt", "(I)I"⟩ ⟨"ArcadeBoard$Memory", "wordAt", "(I)I"⟩ ∈ AL := ab_in (ab_t3 (List.mem_of_getElem? (i := 40) (by decide +kernel))) rfl
theorem tw_13 : Jvm.Cond.methodLink "ArcadeBoard$Memory" 24 ⟨"ArcadeBoard$Memory", "at", "(I)I"⟩ ∈ AL := ab_in (ab_t3 (List.mem_of_getElem? (i := 42) (by decide +kernel))) rfl
theorem ok_Memory_wordAt : ab_yok y_Memory_wordAt b_Memory_wordAt 2 (some .int) 1 := ⟨tw_10, tw_1, by decide, by decide, by decide +kernel⟩
theorem okv_Memory_wordAt : ab_yok_V y_Memory_wordAt := ⟨tw_11, tw_12⟩
set_option maxHeartbeats 1000000 in
set_option maxRecDepth 100000 in
theorem c_Memory_wordAt (l : Launch) (D : va_G) (t : Nat → ClassId) (q : Nat → Nat) (u : SS) (x1 : Int32) : ab_ki l D (tyC t) (wC t q) y_Memory_wordAt b_Memory_wordAt 2 .int { frames := 1, cells := 0, slots := 0, locals := 22 } [.ref (q 4), .int x1] u ((f_Memory_wordAt u x1, u)) := by
  refine ab_ki_ofW (by decide) (Nat.le_of_ble_eq_true rfl) (fun p e s m below meth c ls A X hr hk hl hX => ?_)
  have hl : lv_has ls 2 [(0, .ref (q 4)), (1, .int x1)] := hl
  refine lv_aload_n (pc := 0) X.1 X.2.1 d_Memory_wordAt_0 rfl (lv_at hl 0 rfl) ?_
  refine lv_iload_n (pc := 1) X.1 X.2.1 d_Memory_wordAt_1 rfl (lv_at hl 1 rfl) ?_
  refine ab_kr_callV (pc := 2) (wr := []) (w := (wC t q)) (u := u) (r := f_Memory_at u x1) (as := [.int x1]) (rest := []) X hX (c_Memory_at l D t q u x1) ok_Memory_at okv_Memory_at tw_13 4 2 rfl rfl rfl hl.1 rfl (Nat.le_of_ble_eq_true rfl) ⟨rfl, rfl, Nat.le_of_ble_eq_true rfl, Nat.le_of_ble_eq_true rfl⟩ ⟨Nat.zero_le _, Nat.zero_le _⟩ d_Memory_wordAt_2 (fun H locs hX => ?_)
  refine lv_aload_n (pc := 5) X.1 X.2.1 d_Memory_wordAt_5 rfl (lv_at hl 0 rfl) ?_
  refine lv_iload_n (pc := 6) X.1 X.2.1 d_Memory_wordAt_6 rfl (lv_at hl 1 rfl) ?_
  refine lv_iconst (pc := 7) (v := 1) X.1 X.2.1 d_Memory_wordAt_7 (by decide) ?_
  refine lv_iadd (pc := 8) X.1 X.2.1 d_Memory_wordAt_8 ?_
  refine ab_kr_callV (pc := 9) (wr := []) (w := (wC t q)) (u := u) (r := f_Memory_at u (x1 + 1)) (as := [.int (x1 + 1)]) (rest := [.int (f_Memory_at u x1)]) X hX (c_Memory_at l D t q u (x1 + 1)) ok_Memory_at okv_Memory_at tw_13 4 2 rfl rfl rfl hl.1 rfl (Nat.le_of_ble_eq_true rfl) ⟨rfl, rfl, Nat.le_of_ble_eq_true rfl, Nat.le_of_ble_eq_true rfl⟩ ⟨Nat.zero_le _, Nat.zero_le _⟩ d_Memory_wordAt_9 (fun H locs hX => ?_)
  refine lv_bipush (pc := 12) (v := 8) X.1 X.2.1 d_Memory_wordAt_12 (by decide) ?_
  refine lv_ishl (pc := 14) X.1 X.2.1 d_Memory_wordAt_14 ?_
  refine lv_ior (pc := 15) X.1 X.2.1 d_Memory_wordAt_15 ?_
  exact ab_ki_ret (pc := 16) X hr hk hX rfl (by rw [f_Memory_wordAt]) d_Memory_wordAt_16
abbrev b_Memory_putWord : ByteArray := prog_4_method_5_code
def y_Memory_putWord : MethodName := ⟨"ArcadeBoard$Memory", "putWord", "(II)V"⟩
theorem d_Memory_putWord_0 : decode b_Memory_putWord 0 = .ok (.aload_n 0, 1) := by decide +kernel
theorem d_Memory_putWord_1 : decode b_Memory_putWord 1 = .ok (.iload_n 1, 1) := by decide +kernel
theorem d_Memory_putWord_2 : decode b_Memory_putWord 2 = .ok (.iload_n 2, 1) := by decide +kernel
theorem d_Memory_putWord_3 : decode b_Memory_putWord 3 = .ok (.invokevirtual 28, 3) := by decide +kernel
theorem d_Memory_putWord_6 : decode b_Memory_putWord 6 = .ok (.aload_n 0, 1) := by decide +kernel
theorem d_Memory_putWord_7 : decode b_Memory_putWord 7 = .ok (.iload_n 1, 1) := by decide +kernel
theorem d_Memory_putWord_8 : decode b_Memory_putWord 8 = .ok (.iconst 1, 1) := by decide +kernel
theorem d_Memory_putWord_9 : decode b_Memory_putWord 9 = .ok (.iadd, 1) := by decide +kernel
theorem d_Memory_putWord_10 : decode b_Memory_putWord 10 = .ok (.iload_n 2, 1) := by decide +kernel
theorem d_Memory_putWord_11 : decode b_Memory_putWord 11 = .ok (.bipush 8, 2) := by decide +kernel
theorem d_Memory_putWord_13 : decode b_Memory_putWord 13 = .ok (.ishr, 1) := by decide +kernel
theorem d_Memory_putWord_14 : decode b_Memory_putWord 14 = .ok (.invokevirtual 28, 3) := by decide +kernel
theorem d_Memory_putWord_17 : decode b_Memory_putWord 17 = .ok (.return_, 1) := by decide +kernel
theorem tw_14 : Jvm.Cond.code ⟨"ArcadeBoard$Memory", "putWord", "(II)V"⟩ prog_4_method_5_code 3 (Option.none : Option Jvm.ClassFile.FieldType) ∈ AL := ab_in (ab_t3 (List.mem_of_getElem? (i := 37) (by decide +kernel))) rfl
theorem tw_15 : Jvm.Cond.instanceMethod ⟨"ArcadeBoard$Memory", "putWord", "(II)V"⟩ ∈ AL := ab_in (ab_t3 (List.mem_of_getElem? (i := 35) (by decide +kernel))) rfl
theorem tw_16 : Jvm.Cond.selects "ArcadeBoard$Memory" ⟨"ArcadeBoard$Memory", "putWord", "(II)V"⟩ ⟨"ArcadeBoard$Memory", "putWord", "(II)V"⟩ ∈ AL := ab_in (ab_t3 (List.mem_of_getElem? (i := 36) (by decide +kernel))) rfl
theorem tw_17 : Jvm.Cond.methodLink "ArcadeBoard$Memory" 28 ⟨"ArcadeBoard$Memory", "put", "(II)V"⟩ ∈ AL := ab_in (ab_t2 (List.mem_of_getElem? (i := 229) (by decide +kernel))) rfl
theorem ok_Memory_putWord : ab_yok y_Memory_putWord b_Memory_putWord 3 none 2 := ⟨tw_14, tw_1, by decide, by decide, by decide +kernel⟩
theorem okv_Memory_putWord : ab_yok_V y_Memory_putWord := ⟨tw_15, tw_16⟩
set_option maxHeartbeats 1000000 in
set_option maxRecDepth 100000 in
theorem c_Memory_putWord (l : Launch) (D : va_G) (t : Nat → ClassId) (q : Nat → Nat) (u : SS) (x1 : Int32) (x2 : Int32) : ab_kv l D (tyC t) (wC t q) y_Memory_putWord b_Memory_putWord 3 { frames := 1, cells := 0, slots := 0, locals := 23 } [.ref (q 4), .int x1, .int x2] u (f_Memory_putWord u x1 x2) := by
  refine ab_kv_ofW (by decide) (Nat.le_of_ble_eq_true rfl) (fun p e s m below meth c ls A X hr hk hl hX => ?_)
  have hl : lv_has ls 3 [(0, .ref (q 4)), (1, .int x1), (2, .int x2)] := hl
  refine lv_aload_n (pc := 0) X.1 X.2.1 d_Memory_putWord_0 rfl (lv_at hl 0 rfl) ?_
  refine lv_iload_n (pc := 1) X.1 X.2.1 d_Memory_putWord_1 rfl (lv_at hl 1 rfl) ?_
  refine lv_iload_n (pc := 2) X.1 X.2.1 d_Memory_putWord_2 rfl (lv_at hl 2 rfl) ?_
  refine ab_kv_callV (pc := 3) (wr := []) (w := (wC t q)) (u := u) (F := f_Memory_put u x1 x2) (as := [.int x1, .int x2]) (rest := []) X hX (c_Memory_put l D t q u x1 x2) ok_Memory_put okv_Memory_put tw_17 4 2 rfl rfl rfl hl.1 rfl (Nat.le_of_ble_eq_true rfl) ⟨rfl, rfl, Nat.le_of_ble_eq_true rfl, Nat.le_of_ble_eq_true rfl⟩ ⟨Nat.zero_le _, Nat.zero_le _⟩ d_Memory_putWord_3 (fun H locs hX => ?_)
  refine lv_aload_n (pc := 6) X.1 X.2.1 d_Memory_putWord_6 rfl (lv_at hl 0 rfl) ?_
  refine lv_iload_n (pc := 7) X.1 X.2.1 d_Memory_putWord_7 rfl (lv_at hl 1 rfl) ?_
  refine lv_iconst (pc := 8) (v := 1) X.1 X.2.1 d_Memory_putWord_8 (by decide) ?_
  refine lv_iadd (pc := 9) X.1 X.2.1 d_Memory_putWord_9 ?_
  refine lv_iload_n (pc := 10) X.1 X.2.1 d_Memory_putWord_10 rfl (lv_at hl 2 rfl) ?_
  refine lv_bipush (pc := 11) (v := 8) X.1 X.2.1 d_Memory_putWord_11 (by decide) ?_
  refine lv_ishr (pc := 13) X.1 X.2.1 d_Memory_putWord_13 ?_
  refine ab_kv_callV (pc := 14) (wr := []) (w := (wC t q)) (u := (f_Memory_put u x1 x2)) (F := f_Memory_put (f_Memory_put u x1 x2) (x1 + 1) (x2 >>> ((8 : Int32) &&& 31))) (as := [.int (x1 + 1), .int (x2 >>> ((8 : Int32) &&& 31))]) (rest := []) X hX (c_Memory_put l D t q (f_Memory_put u x1 x2) (x1 + 1) (x2 >>> ((8 : Int32) &&& 31))) ok_Memory_put okv_Memory_put tw_17 4 2 rfl rfl rfl hl.1 rfl (Nat.le_of_ble_eq_true rfl) ⟨rfl, rfl, Nat.le_of_ble_eq_true rfl, Nat.le_of_ble_eq_true rfl⟩ ⟨Nat.zero_le _, Nat.zero_le _⟩ d_Memory_putWord_14 (fun H locs hX => ?_)
  exact ab_kv_ret (pc := 17) X hr hk hX (by rw [f_Memory_putWord]) d_Memory_putWord_17
abbrev b_Memory_push : ByteArray := prog_4_method_6_code
def y_Memory_push : MethodName := ⟨"ArcadeBoard$Memory", "push", "(I)V"⟩
theorem d_Memory_push_0 : decode b_Memory_push 0 = .ok (.aload_n 0, 1) := by decide +kernel
theorem d_Memory_push_1 : decode b_Memory_push 1 = .ok (.aload_n 0, 1) := by decide +kernel
theorem d_Memory_push_2 : decode b_Memory_push 2 = .ok (.getfield 15, 3) := by decide +kernel
theorem d_Memory_push_5 : decode b_Memory_push 5 = .ok (.getfield 32, 3) := by decide +kernel
theorem d_Memory_push_8 : decode b_Memory_push 8 = .ok (.iconst 1, 1) := by decide +kernel
theorem d_Memory_push_9 : decode b_Memory_push 9 = .ok (.isub, 1) := by decide +kernel
theorem d_Memory_push_10 : decode b_Memory_push 10 = .ok (.iload_n 1, 1) := by decide +kernel
theorem d_Memory_push_11 : decode b_Memory_push 11 = .ok (.bipush 8, 2) := by decide +kernel
theorem d_Memory_push_13 : decode b_Memory_push 13 = .ok (.ishr, 1) := by decide +kernel
theorem d_Memory_push_14 : decode b_Memory_push 14 = .ok (.invokevirtual 28, 3) := by decide +kernel
theorem d_Memory_push_17 : decode b_Memory_push 17 = .ok (.aload_n 0, 1) := by decide +kernel
theorem d_Memory_push_18 : decode b_Memory_push 18 = .ok (.aload_n 0, 1) := by decide +kernel
theorem d_Memory_push_19 : decode b_Memory_push 19 = .ok (.getfield 15, 3) := by decide +kernel
theorem d_Memory_push_22 : decode b_Memory_push 22 = .ok (.getfield 32, 3) := by decide +kernel
theorem d_Memory_push_25 : decode b_Memory_push 25 = .ok (.iconst 2, 1) := by decide +kernel
theorem d_Memory_push_26 : decode b_Memory_push 26 = .ok (.isub, 1) := by decide +kernel
theorem d_Memory_push_27 : decode b_Memory_push 27 = .ok (.iload_n 1, 1) := by decide +kernel
theorem d_Memory_push_28 : decode b_Memory_push 28 = .ok (.invokevirtual 28, 3) := by decide +kernel
theorem d_Memory_push_31 : decode b_Memory_push 31 = .ok (.aload_n 0, 1) := by decide +kernel
theorem d_Memory_push_32 : decode b_Memory_push 32 = .ok (.getfield 15, 3) := by decide +kernel
theorem d_Memory_push_35 : decode b_Memory_push 35 = .ok (.aload_n 0, 1) := by decide +kernel
theorem d_Memory_push_36 : decode b_Memory_push 36 = .ok (.getfield 15, 3) := by decide +kernel
theorem d_Memory_push_39 : decode b_Memory_push 39 = .ok (.getfield 32, 3) := by decide +kernel
theorem d_Memory_push_42 : decode b_Memory_push 42 = .ok (.iconst 2, 1) := by decide +kernel
theorem d_Memory_push_43 : decode b_Memory_push 43 = .ok (.isub, 1) := by decide +kernel
theorem d_Memory_push_44 : decode b_Memory_push 44 = .ok (.ldc 36, 2) := by decide +kernel
theorem d_Memory_push_46 : decode b_Memory_push 46 = .ok (.iand, 1) := by decide +kernel
theorem d_Memory_push_47 : decode b_Memory_push 47 = .ok (.putfield 32, 3) := by decide +kernel
theorem d_Memory_push_50 : decode b_Memory_push 50 = .ok (.return_, 1) := by decide +kernel
theorem tw_18 : Jvm.Cond.code ⟨"ArcadeBoard$Memory", "push", "(I)V"⟩ prog_4_method_6_code 2 (Option.none : Option Jvm.ClassFile.FieldType) ∈ AL := ab_in (ab_t2 (List.mem_of_getElem? (i := 228) (by decide +kernel))) rfl
theorem tw_19 : Jvm.Cond.instanceMethod ⟨"ArcadeBoard$Memory", "push", "(I)V"⟩ ∈ AL := ab_in (ab_t2 (List.mem_of_getElem? (i := 226) (by decide +kernel))) rfl
theorem tw_20 : Jvm.Cond.selects "ArcadeBoard$Memory" ⟨"ArcadeBoard$Memory", "push", "(I)V"⟩ ⟨"ArcadeBoard$Memory", "push", "(I)V"⟩ ∈ AL := ab_in (ab_t2 (List.mem_of_getElem? (i := 227) (by decide +kernel))) rfl
theorem tw_21 : Jvm.Cond.fieldLink "ArcadeBoard$Memory" 32 "ArcadeBoard$State" "sp" "I" ∈ AL := ab_in (ab_t1 (List.mem_of_getElem? (i := 44) (by decide +kernel))) rfl
theorem tw_22 : Jvm.Cond.constant "ArcadeBoard$Memory" 36 (65535 : Int32) ∈ AL := ab_in (ab_t2 (List.mem_of_getElem? (i := 39) (by decide +kernel))) rfl
theorem ok_Memory_push : ab_yok y_Memory_push b_Memory_push 2 none 1 := ⟨tw_18, tw_1, by decide, by decide, by decide +kernel⟩
theorem okv_Memory_push : ab_yok_V y_Memory_push := ⟨tw_19, tw_20⟩
set_option maxHeartbeats 1000000 in
set_option maxRecDepth 100000 in
theorem c_Memory_push (l : Launch) (D : va_G) (t : Nat → ClassId) (q : Nat → Nat) (u : SS) (x1 : Int32) : ab_kv l D (tyC t) (wC t q) y_Memory_push b_Memory_push 2 { frames := 1, cells := 0, slots := 0, locals := 23 } [.ref (q 4), .int x1] u (f_Memory_push u x1) := by
  refine ab_kv_ofW (by decide) (Nat.le_of_ble_eq_true rfl) (fun p e s m below meth c ls A X hr hk hl hX => ?_)
  have hl : lv_has ls 2 [(0, .ref (q 4)), (1, .int x1)] := hl
  refine lv_aload_n (pc := 0) X.1 X.2.1 d_Memory_push_0 rfl (lv_at hl 0 rfl) ?_
  refine lv_aload_n (pc := 1) X.1 X.2.1 d_Memory_push_1 rfl (lv_at hl 0 rfl) ?_
  refine ab_gx (pc := 2) (v := .ref (q 1)) X hX 4 2 1 rfl rfl (Nat.le_of_ble_eq_true rfl) in_Memory rfl tw_4 rfl d_Memory_push_2 ?_
  refine ab_gx (pc := 5) (v := .int (u 0 1)) X hX 1 7 3 rfl rfl (Nat.le_of_ble_eq_true rfl) in_State rfl tw_21 rfl d_Memory_push_5 ?_
  refine lv_iconst (pc := 8) (v := 1) X.1 X.2.1 d_Memory_push_8 (by decide) ?_
  refine lv_isub (pc := 9) X.1 X.2.1 d_Memory_push_9 ?_
  refine lv_iload_n (pc := 10) X.1 X.2.1 d_Memory_push_10 rfl (lv_at hl 1 rfl) ?_
  refine lv_bipush (pc := 11) (v := 8) X.1 X.2.1 d_Memory_push_11 (by decide) ?_
  refine lv_ishr (pc := 13) X.1 X.2.1 d_Memory_push_13 ?_
  refine ab_kv_callV (pc := 14) (wr := []) (w := (wC t q)) (u := u) (F := f_Memory_put u ((u 0 1) - 1) (x1 >>> ((8 : Int32) &&& 31))) (as := [.int ((u 0 1) - 1), .int (x1 >>> ((8 : Int32) &&& 31))]) (rest := []) X hX (c_Memory_put l D t q u ((u 0 1) - 1) (x1 >>> ((8 : Int32) &&& 31))) ok_Memory_put okv_Memory_put tw_17 4 2 rfl rfl rfl hl.1 rfl (Nat.le_of_ble_eq_true rfl) ⟨rfl, rfl, Nat.le_of_ble_eq_true rfl, Nat.le_of_ble_eq_true rfl⟩ ⟨Nat.zero_le _, Nat.zero_le _⟩ d_Memory_push_14 (fun H locs hX => ?_)
  refine lv_aload_n (pc := 17) X.1 X.2.1 d_Memory_push_17 rfl (lv_at hl 0 rfl) ?_
  refine lv_aload_n (pc := 18) X.1 X.2.1 d_Memory_push_18 rfl (lv_at hl 0 rfl) ?_
  refine ab_gx (pc := 19) (v := .ref (q 1)) X hX 4 2 1 rfl rfl (Nat.le_of_ble_eq_true rfl) in_Memory rfl tw_4 rfl d_Memory_push_19 ?_
  refine ab_gx (pc := 22) (v := .int ((f_Memory_put u ((u 0 1) - 1) (x1 >>> ((8 : Int32) &&& 31))) 0 1)) X hX 1 7 3 rfl rfl (Nat.le_of_ble_eq_true rfl) in_State rfl tw_21 rfl d_Memory_push_22 ?_
  refine lv_iconst (pc := 25) (v := 2) X.1 X.2.1 d_Memory_push_25 (by decide) ?_
  refine lv_isub (pc := 26) X.1 X.2.1 d_Memory_push_26 ?_
  refine lv_iload_n (pc := 27) X.1 X.2.1 d_Memory_push_27 rfl (lv_at hl 1 rfl) ?_
  refine ab_kv_callV (pc := 28) (wr := []) (w := (wC t q)) (u := (f_Memory_put u ((u 0 1) - 1) (x1 >>> ((8 : Int32) &&& 31)))) (F := f_Memory_put (f_Memory_put u ((u 0 1) - 1) (x1 >>> ((8 : Int32) &&& 31))) (((f_Memory_put u ((u 0 1) - 1) (x1 >>> ((8 : Int32) &&& 31))) 0 1) - 2) x1) (as := [.int (((f_Memory_put u ((u 0 1) - 1) (x1 >>> ((8 : Int32) &&& 31))) 0 1) - 2), .int x1]) (rest := []) X hX (c_Memory_put l D t q (f_Memory_put u ((u 0 1) - 1) (x1 >>> ((8 : Int32) &&& 31))) (((f_Memory_put u ((u 0 1) - 1) (x1 >>> ((8 : Int32) &&& 31))) 0 1) - 2) x1) ok_Memory_put okv_Memory_put tw_17 4 2 rfl rfl rfl hl.1 rfl (Nat.le_of_ble_eq_true rfl) ⟨rfl, rfl, Nat.le_of_ble_eq_true rfl, Nat.le_of_ble_eq_true rfl⟩ ⟨Nat.zero_le _, Nat.zero_le _⟩ d_Memory_push_28 (fun H locs hX => ?_)
  refine lv_aload_n (pc := 31) X.1 X.2.1 d_Memory_push_31 rfl (lv_at hl 0 rfl) ?_
  refine ab_gx (pc := 32) (v := .ref (q 1)) X hX 4 2 1 rfl rfl (Nat.le_of_ble_eq_true rfl) in_Memory rfl tw_4 rfl d_Memory_push_32 ?_
  refine lv_aload_n (pc := 35) X.1 X.2.1 d_Memory_push_35 rfl (lv_at hl 0 rfl) ?_
  refine ab_gx (pc := 36) (v := .ref (q 1)) X hX 4 2 1 rfl rfl (Nat.le_of_ble_eq_true rfl) in_Memory rfl tw_4 rfl d_Memory_push_36 ?_
  refine ab_gx (pc := 39) (v := .int ((f_Memory_put (f_Memory_put u ((u 0 1) - 1) (x1 >>> ((8 : Int32) &&& 31))) (((f_Memory_put u ((u 0 1) - 1) (x1 >>> ((8 : Int32) &&& 31))) 0 1) - 2) x1) 0 1)) X hX 1 7 3 rfl rfl (Nat.le_of_ble_eq_true rfl) in_State rfl tw_21 rfl d_Memory_push_39 ?_
  refine lv_iconst (pc := 42) (v := 2) X.1 X.2.1 d_Memory_push_42 (by decide) ?_
  refine lv_isub (pc := 43) X.1 X.2.1 d_Memory_push_43 ?_
  refine lv_ldc (pc := 44) (v := 65535) X.1 X.2.1 X.2.2.2.1 (X.2.2.2.2.1 _ tw_22) d_Memory_push_44 ?_
  refine lv_iand (pc := 46) X.1 X.2.1 d_Memory_push_46 ?_
  refine ab_px (pc := 47) (ws' := (wC t q (stt (f_Memory_put (f_Memory_put u ((u 0 1) - 1) (x1 >>> ((8 : Int32) &&& 31))) (((f_Memory_put u ((u 0 1) - 1) (x1 >>> ((8 : Int32) &&& 31))) 0 1) - 2) x1) 0 1 ((((f_Memory_put (f_Memory_put u ((u 0 1) - 1) (x1 >>> ((8 : Int32) &&& 31))) (((f_Memory_put u ((u 0 1) - 1) (x1 >>> ((8 : Int32) &&& 31))) 0 1) - 2) x1) 0 1) - 2) &&& 65535)))) X hX 1 7 3 ty_State ty_State_ok nm_State rfl rfl (Nat.le_of_ble_eq_true rfl) in_State rfl tw_21 rfl rfl rfl rfl (Nat.le_of_ble_eq_true rfl) (sf_wC_1_3 t q (f_Memory_put (f_Memory_put u ((u 0 1) - 1) (x1 >>> ((8 : Int32) &&& 31))) (((f_Memory_put u ((u 0 1) - 1) (x1 >>> ((8 : Int32) &&& 31))) 0 1) - 2) x1) ((((f_Memory_put (f_Memory_put u ((u 0 1) - 1) (x1 >>> ((8 : Int32) &&& 31))) (((f_Memory_put u ((u 0 1) - 1) (x1 >>> ((8 : Int32) &&& 31))) 0 1) - 2) x1) 0 1) - 2) &&& 65535)) d_Memory_push_47 (fun H locs hX => ?_)
  exact ab_kv_ret (pc := 50) X hr hk hX (by rw [f_Memory_push]) d_Memory_push_50
abbrev b_Memory_pop : ByteArray := prog_4_method_7_code
def y_Memory_pop : MethodName := ⟨"ArcadeBoard$Memory", "pop", "()I"⟩
theorem d_Memory_pop_0 : decode b_Memory_pop 0 = .ok (.aload_n 0, 1) := by decide +kernel
theorem d_Memory_pop_1 : decode b_Memory_pop 1 = .ok (.aload_n 0, 1) := by decide +kernel
theorem d_Memory_pop_2 : decode b_Memory_pop 2 = .ok (.getfield 15, 3) := by decide +kernel
theorem d_Memory_pop_5 : decode b_Memory_pop 5 = .ok (.getfield 32, 3) := by decide +kernel
theorem d_Memory_pop_8 : decode b_Memory_pop 8 = .ok (.invokevirtual 24, 3) := by decide +kernel
theorem d_Memory_pop_11 : decode b_Memory_pop 11 = .ok (.aload_n 0, 1) := by decide +kernel
theorem d_Memory_pop_12 : decode b_Memory_pop 12 = .ok (.aload_n 0, 1) := by decide +kernel
theorem d_Memory_pop_13 : decode b_Memory_pop 13 = .ok (.getfield 15, 3) := by decide +kernel
theorem d_Memory_pop_16 : decode b_Memory_pop 16 = .ok (.getfield 32, 3) := by decide +kernel
theorem d_Memory_pop_19 : decode b_Memory_pop 19 = .ok (.iconst 1, 1) := by decide +kernel
theorem d_Memory_pop_20 : decode b_Memory_pop 20 = .ok (.iadd, 1) := by decide +kernel
theorem d_Memory_pop_21 : decode b_Memory_pop 21 = .ok (.invokevirtual 24, 3) := by decide +kernel
theorem d_Memory_pop_24 : decode b_Memory_pop 24 = .ok (.bipush 8, 2) := by decide +kernel
theorem d_Memory_pop_26 : decode b_Memory_pop 26 = .ok (.ishl, 1) := by decide +kernel
theorem d_Memory_pop_27 : decode b_Memory_pop 27 = .ok (.ior, 1) := by decide +kernel
theorem d_Memory_pop_28 : decode b_Memory_pop 28 = .ok (.istore_n 1, 1) := by decide +kernel
theorem d_Memory_pop_29 : decode b_Memory_pop 29 = .ok (.aload_n 0, 1) := by decide +kernel
theorem d_Memory_pop_30 : decode b_Memory_pop 30 = .ok (.getfield 15, 3) := by decide +kernel
theorem d_Memory_pop_33 : decode b_Memory_pop 33 = .ok (.aload_n 0, 1) := by decide +kernel
theorem d_Memory_pop_34 : decode b_Memory_pop 34 = .ok (.getfield 15, 3) := by decide +kernel
theorem d_Memory_pop_37 : decode b_Memory_pop 37 = .ok (.getfield 32, 3) := by decide +kernel
theorem d_Memory_pop_40 : decode b_Memory_pop 40 = .ok (.iconst 2, 1) := by decide +kernel
theorem d_Memory_pop_41 : decode b_Memory_pop 41 = .ok (.iadd, 1) := by decide +kernel
theorem d_Memory_pop_42 : decode b_Memory_pop 42 = .ok (.ldc 36, 2) := by decide +kernel
theorem d_Memory_pop_44 : decode b_Memory_pop 44 = .ok (.iand, 1) := by decide +kernel
theorem d_Memory_pop_45 : decode b_Memory_pop 45 = .ok (.putfield 32, 3) := by decide +kernel
theorem d_Memory_pop_48 : decode b_Memory_pop 48 = .ok (.iload_n 1, 1) := by decide +kernel
theorem d_Memory_pop_49 : decode b_Memory_pop 49 = .ok (.ireturn, 1) := by decide +kernel
theorem tw_23 : Jvm.Cond.code ⟨"ArcadeBoard$Memory", "pop", "()I"⟩ prog_4_method_7_code 2 (Option.some Jvm.ClassFile.FieldType.int) ∈ AL := ab_in (ab_t3 (List.mem_of_getElem? (i := 117) (by decide +kernel))) rfl
theorem tw_24 : Jvm.Cond.instanceMethod ⟨"ArcadeBoard$Memory", "pop", "()I"⟩ ∈ AL := ab_in (ab_t3 (List.mem_of_getElem? (i := 115) (by decide +kernel))) rfl
theorem tw_25 : Jvm.Cond.selects "ArcadeBoard$Memory" ⟨"ArcadeBoard$Memory", "pop", "()I"⟩ ⟨"ArcadeBoard$Memory", "pop", "()I"⟩ ∈ AL := ab_in (ab_t3 (List.mem_of_getElem? (i := 116) (by decide +kernel))) rfl
theorem ok_Memory_pop : ab_yok y_Memory_pop b_Memory_pop 2 (some .int) 0 := ⟨tw_23, tw_1, by decide, by decide, by decide +kernel⟩
theorem okv_Memory_pop : ab_yok_V y_Memory_pop := ⟨tw_24, tw_25⟩
set_option maxHeartbeats 1000000 in
set_option maxRecDepth 100000 in
theorem c_Memory_pop (l : Launch) (D : va_G) (t : Nat → ClassId) (q : Nat → Nat) (u : SS) : ab_ki l D (tyC t) (wC t q) y_Memory_pop b_Memory_pop 2 .int { frames := 1, cells := 0, slots := 0, locals := 22 } [.ref (q 4)] u (f_Memory_pop u) := by
  refine ab_ki_ofW (by decide) (Nat.le_of_ble_eq_true rfl) (fun p e s m below meth c ls A X hr hk hl hX => ?_)
  have hl : lv_has ls 2 [(0, .ref (q 4))] := hl
  refine lv_aload_n (pc := 0) X.1 X.2.1 d_Memory_pop_0 rfl (lv_at hl 0 rfl) ?_
  refine lv_aload_n (pc := 1) X.1 X.2.1 d_Memory_pop_1 rfl (lv_at hl 0 rfl) ?_
  refine ab_gx (pc := 2) (v := .ref (q 1)) X hX 4 2 1 rfl rfl (Nat.le_of_ble_eq_true rfl) in_Memory rfl tw_4 rfl d_Memory_pop_2 ?_
  refine ab_gx (pc := 5) (v := .int (u 0 1)) X hX 1 7 3 rfl rfl (Nat.le_of_ble_eq_true rfl) in_State rfl tw_21 rfl d_Memory_pop_5 ?_
  refine ab_kr_callV (pc := 8) (wr := []) (w := (wC t q)) (u := u) (r := f_Memory_at u (u 0 1)) (as := [.int (u 0 1)]) (rest := []) X hX (c_Memory_at l D t q u (u 0 1)) ok_Memory_at okv_Memory_at tw_13 4 2 rfl rfl rfl hl.1 rfl (Nat.le_of_ble_eq_true rfl) ⟨rfl, rfl, Nat.le_of_ble_eq_true rfl, Nat.le_of_ble_eq_true rfl⟩ ⟨Nat.zero_le _, Nat.zero_le _⟩ d_Memory_pop_8 (fun H locs hX => ?_)
  refine lv_aload_n (pc := 11) X.1 X.2.1 d_Memory_pop_11 rfl (lv_at hl 0 rfl) ?_
  refine lv_aload_n (pc := 12) X.1 X.2.1 d_Memory_pop_12 rfl (lv_at hl 0 rfl) ?_
  refine ab_gx (pc := 13) (v := .ref (q 1)) X hX 4 2 1 rfl rfl (Nat.le_of_ble_eq_true rfl) in_Memory rfl tw_4 rfl d_Memory_pop_13 ?_
  refine ab_gx (pc := 16) (v := .int (u 0 1)) X hX 1 7 3 rfl rfl (Nat.le_of_ble_eq_true rfl) in_State rfl tw_21 rfl d_Memory_pop_16 ?_
  refine lv_iconst (pc := 19) (v := 1) X.1 X.2.1 d_Memory_pop_19 (by decide) ?_
  refine lv_iadd (pc := 20) X.1 X.2.1 d_Memory_pop_20 ?_
  refine ab_kr_callV (pc := 21) (wr := []) (w := (wC t q)) (u := u) (r := f_Memory_at u ((u 0 1) + 1)) (as := [.int ((u 0 1) + 1)]) (rest := [.int (f_Memory_at u (u 0 1))]) X hX (c_Memory_at l D t q u ((u 0 1) + 1)) ok_Memory_at okv_Memory_at tw_13 4 2 rfl rfl rfl hl.1 rfl (Nat.le_of_ble_eq_true rfl) ⟨rfl, rfl, Nat.le_of_ble_eq_true rfl, Nat.le_of_ble_eq_true rfl⟩ ⟨Nat.zero_le _, Nat.zero_le _⟩ d_Memory_pop_21 (fun H locs hX => ?_)
  refine lv_bipush (pc := 24) (v := 8) X.1 X.2.1 d_Memory_pop_24 (by decide) ?_
  refine lv_ishl (pc := 26) X.1 X.2.1 d_Memory_pop_26 ?_
  refine lv_ior (pc := 27) X.1 X.2.1 d_Memory_pop_27 ?_
  refine lv_istore_n (pc := 28) (lv' := [(1, .int ((f_Memory_at u (u 0 1)) ||| ((f_Memory_at u ((u 0 1) + 1)) <<< ((8 : Int32) &&& 31)))), (0, .ref (q 4))]) X.1 X.2.1 d_Memory_pop_28 rfl hl (Nat.le_of_ble_eq_true rfl) rfl (fun ls hl => ?_)
  refine lv_aload_n (pc := 29) X.1 X.2.1 d_Memory_pop_29 rfl (lv_at hl 1 rfl) ?_
  refine ab_gx (pc := 30) (v := .ref (q 1)) X hX 4 2 1 rfl rfl (Nat.le_of_ble_eq_true rfl) in_Memory rfl tw_4 rfl d_Memory_pop_30 ?_
  refine lv_aload_n (pc := 33) X.1 X.2.1 d_Memory_pop_33 rfl (lv_at hl 1 rfl) ?_
  refine ab_gx (pc := 34) (v := .ref (q 1)) X hX 4 2 1 rfl rfl (Nat.le_of_ble_eq_true rfl) in_Memory rfl tw_4 rfl d_Memory_pop_34 ?_
  refine ab_gx (pc := 37) (v := .int (u 0 1)) X hX 1 7 3 rfl rfl (Nat.le_of_ble_eq_true rfl) in_State rfl tw_21 rfl d_Memory_pop_37 ?_
  refine lv_iconst (pc := 40) (v := 2) X.1 X.2.1 d_Memory_pop_40 (by decide) ?_
  refine lv_iadd (pc := 41) X.1 X.2.1 d_Memory_pop_41 ?_
  refine lv_ldc (pc := 42) (v := 65535) X.1 X.2.1 X.2.2.2.1 (X.2.2.2.2.1 _ tw_22) d_Memory_pop_42 ?_
  refine lv_iand (pc := 44) X.1 X.2.1 d_Memory_pop_44 ?_
  refine ab_px (pc := 45) (ws' := (wC t q (stt u 0 1 (((u 0 1) + 2) &&& 65535)))) X hX 1 7 3 ty_State ty_State_ok nm_State rfl rfl (Nat.le_of_ble_eq_true rfl) in_State rfl tw_21 rfl rfl rfl rfl (Nat.le_of_ble_eq_true rfl) (sf_wC_1_3 t q u (((u 0 1) + 2) &&& 65535)) d_Memory_pop_45 (fun H locs hX => ?_)
  refine lv_iload_n (pc := 48) X.1 X.2.1 d_Memory_pop_48 rfl (lv_at hl 0 rfl) ?_
  exact ab_ki_ret (pc := 49) X hr hk hX rfl (by rw [f_Memory_pop]) d_Memory_pop_49
abbrev b_Memory_burn : ByteArray := prog_4_method_8_code
def y_Memory_burn : MethodName := ⟨"ArcadeBoard$Memory", "burn", "(II)V"⟩
theorem d_Memory_burn_0 : decode b_Memory_burn 0 = .ok (.iload_n 1, 1) := by decide +kernel
theorem d_Memory_burn_1 : decode b_Memory_burn 1 = .ok (.ifCond .lt 21, 3) := by decide +kernel
theorem d_Memory_burn_4 : decode b_Memory_burn 4 = .ok (.iload_n 1, 1) := by decide +kernel
theorem d_Memory_burn_5 : decode b_Memory_burn 5 = .ok (.sipush 512, 3) := by decide +kernel
theorem d_Memory_burn_8 : decode b_Memory_burn 8 = .ok (.if_icmp .ge 14, 3) := by decide +kernel
theorem d_Memory_burn_11 : decode b_Memory_burn 11 = .ok (.aload_n 0, 1) := by decide +kernel
theorem d_Memory_burn_12 : decode b_Memory_burn 12 = .ok (.getfield 9, 3) := by decide +kernel
theorem d_Memory_burn_15 : decode b_Memory_burn 15 = .ok (.iload_n 1, 1) := by decide +kernel
theorem d_Memory_burn_16 : decode b_Memory_burn 16 = .ok (.iload_n 2, 1) := by decide +kernel
theorem d_Memory_burn_17 : decode b_Memory_burn 17 = .ok (.sipush 255, 3) := by decide +kernel
theorem d_Memory_burn_20 : decode b_Memory_burn 20 = .ok (.iand, 1) := by decide +kernel
theorem d_Memory_burn_21 : decode b_Memory_burn 21 = .ok (.iastore, 1) := by decide +kernel
theorem d_Memory_burn_22 : decode b_Memory_burn 22 = .ok (.return_, 1) := by decide +kernel
theorem tw_26 : Jvm.Cond.code ⟨"ArcadeBoard$Memory", "burn", "(II)V"⟩ prog_4_method_8_code 3 (Option.none : Option Jvm.ClassFile.FieldType) ∈ AL := ab_in (ab_t2 (List.mem_of_getElem? (i := 30) (by decide +kernel))) rfl
theorem tw_27 : Jvm.Cond.instanceMethod ⟨"ArcadeBoard$Memory", "burn", "(II)V"⟩ ∈ AL := ab_in (ab_t2 (List.mem_of_getElem? (i := 28) (by decide +kernel))) rfl
theorem tw_28 : Jvm.Cond.selects "ArcadeBoard$Memory" ⟨"ArcadeBoard$Memory", "burn", "(II)V"⟩ ⟨"ArcadeBoard$Memory", "burn", "(II)V"⟩ ∈ AL := ab_in (ab_t2 (List.mem_of_getElem? (i := 29) (by decide +kernel))) rfl
theorem ok_Memory_burn : ab_yok y_Memory_burn b_Memory_burn 3 none 2 := ⟨tw_26, tw_1, by decide, by decide, by decide +kernel⟩
theorem okv_Memory_burn : ab_yok_V y_Memory_burn := ⟨tw_27, tw_28⟩
set_option maxHeartbeats 1000000 in
set_option maxRecDepth 100000 in
theorem c_Memory_burn (l : Launch) (D : va_G) (t : Nat → ClassId) (q : Nat → Nat) (u : SS) (x1 : Int32) (x2 : Int32) : ab_kv l D (tyC t) (wC t q) y_Memory_burn b_Memory_burn 3 { frames := 0, cells := 0, slots := 0, locals := 0 } [.ref (q 4), .int x1, .int x2] u (f_Memory_burn u x1 x2) := by
  refine ab_kv_ofW (by decide) (Nat.le_of_ble_eq_true rfl) (fun p e s m below meth c ls A X hr hk hl hX => ?_)
  have hl : lv_has ls 3 [(0, .ref (q 4)), (1, .int x1), (2, .int x2)] := hl
  refine lv_iload_n (pc := 0) X.1 X.2.1 d_Memory_burn_0 rfl (lv_at hl 1 rfl) ?_
  refine lv_if_lt (pc := 1) (tgt := 22) X.1 X.2.1 d_Memory_burn_1 (by decide) (fun h1 => ?_) (fun h1 => ?_)
  ·
    exact ab_kv_ret (pc := 22) X hr hk hX (by rw [f_Memory_burn, if_pos h1]) d_Memory_burn_22
  ·
    refine lv_iload_n (pc := 4) X.1 X.2.1 d_Memory_burn_4 rfl (lv_at hl 1 rfl) ?_
    refine lv_sipush (pc := 5) (v := 512) X.1 X.2.1 d_Memory_burn_5 (by decide) ?_
    refine lv_icmp_ge (pc := 8) (tgt := 22) X.1 X.2.1 d_Memory_burn_8 (by decide) (fun h2 => ?_) (fun h2 => ?_)
    ·
      exact ab_kv_ret (pc := 22) X hr hk hX (by rw [f_Memory_burn, if_neg h1, if_pos h2]) d_Memory_burn_22
    ·
      refine lv_aload_n (pc := 11) X.1 X.2.1 d_Memory_burn_11 rfl (lv_at hl 0 rfl) ?_
      refine ab_gx (pc := 12) (v := .ref (q 5)) X hX 4 2 0 rfl rfl (Nat.le_of_ble_eq_true rfl) in_Memory rfl tw_6 rfl d_Memory_burn_12 ?_
      refine lv_iload_n (pc := 15) X.1 X.2.1 d_Memory_burn_15 rfl (lv_at hl 1 rfl) ?_
      refine lv_iload_n (pc := 16) X.1 X.2.1 d_Memory_burn_16 rfl (lv_at hl 2 rfl) ?_
      refine lv_sipush (pc := 17) (v := 255) X.1 X.2.1 d_Memory_burn_17 (by decide) ?_
      refine lv_iand (pc := 20) X.1 X.2.1 d_Memory_burn_20 ?_
      refine ab_ast (pc := 21) (f := u 3) (j := (x1).toNatClampNeg) (ws' := (wC t q (stt u 3 ((x1).toNatClampNeg) (x2 &&& 255)))) X hX 5 0 rfl rfl (ab_inC h1 h2) rfl (sa_wC_5 t q u ((x1).toNatClampNeg) (x2 &&& 255)) d_Memory_burn_21 (fun H locs hX => ?_)
      exact ab_kv_ret (pc := 22) X hr hk hX (by rw [f_Memory_burn, if_neg h1, if_neg h2]) d_Memory_burn_22
abbrev b_Memory_sumOfByte : ByteArray := prog_4_method_10_code
def y_Memory_sumOfByte : MethodName := ⟨"ArcadeBoard$Memory", "sumOfByte", "(I)I"⟩
theorem d_Memory_sumOfByte_0 : decode b_Memory_sumOfByte 0 = .ok (.iload_n 0, 1) := by decide +kernel
theorem d_Memory_sumOfByte_1 : decode b_Memory_sumOfByte 1 = .ok (.istore_n 1, 1) := by decide +kernel
theorem d_Memory_sumOfByte_2 : decode b_Memory_sumOfByte 2 = .ok (.iconst 0, 1) := by decide +kernel
theorem d_Memory_sumOfByte_3 : decode b_Memory_sumOfByte 3 = .ok (.istore_n 2, 1) := by decide +kernel
theorem d_Memory_sumOfByte_4 : decode b_Memory_sumOfByte 4 = .ok (.iload_n 2, 1) := by decide +kernel
theorem d_Memory_sumOfByte_5 : decode b_Memory_sumOfByte 5 = .ok (.bipush 8, 2) := by decide +kernel
theorem d_Memory_sumOfByte_7 : decode b_Memory_sumOfByte 7 = .ok (.if_icmp .ge 33, 3) := by decide +kernel
theorem d_Memory_sumOfByte_10 : decode b_Memory_sumOfByte 10 = .ok (.iload_n 1, 1) := by decide +kernel
theorem d_Memory_sumOfByte_11 : decode b_Memory_sumOfByte 11 = .ok (.iconst 1, 1) := by decide +kernel
theorem d_Memory_sumOfByte_12 : decode b_Memory_sumOfByte 12 = .ok (.ishl, 1) := by decide +kernel
theorem d_Memory_sumOfByte_13 : decode b_Memory_sumOfByte 13 = .ok (.ldc 36, 2) := by decide +kernel
theorem d_Memory_sumOfByte_15 : decode b_Memory_sumOfByte 15 = .ok (.iand, 1) := by decide +kernel
theorem d_Memory_sumOfByte_16 : decode b_Memory_sumOfByte 16 = .ok (.istore_n 3, 1) := by decide +kernel
theorem d_Memory_sumOfByte_17 : decode b_Memory_sumOfByte 17 = .ok (.iload_n 1, 1) := by decide +kernel
theorem d_Memory_sumOfByte_18 : decode b_Memory_sumOfByte 18 = .ok (.ldc 40, 2) := by decide +kernel
theorem d_Memory_sumOfByte_20 : decode b_Memory_sumOfByte 20 = .ok (.iand, 1) := by decide +kernel
theorem d_Memory_sumOfByte_21 : decode b_Memory_sumOfByte 21 = .ok (.ifCond .ne 7, 3) := by decide +kernel
theorem d_Memory_sumOfByte_24 : decode b_Memory_sumOfByte 24 = .ok (.iload_n 3, 1) := by decide +kernel
theorem d_Memory_sumOfByte_25 : decode b_Memory_sumOfByte 25 = .ok (.goto 8, 3) := by decide +kernel
theorem d_Memory_sumOfByte_28 : decode b_Memory_sumOfByte 28 = .ok (.iload_n 3, 1) := by decide +kernel
theorem d_Memory_sumOfByte_29 : decode b_Memory_sumOfByte 29 = .ok (.sipush 4129, 3) := by decide +kernel
theorem d_Memory_sumOfByte_32 : decode b_Memory_sumOfByte 32 = .ok (.ixor, 1) := by decide +kernel
theorem d_Memory_sumOfByte_33 : decode b_Memory_sumOfByte 33 = .ok (.istore_n 1, 1) := by decide +kernel
theorem d_Memory_sumOfByte_34 : decode b_Memory_sumOfByte 34 = .ok (.iinc 2 1, 3) := by decide +kernel
theorem d_Memory_sumOfByte_37 : decode b_Memory_sumOfByte 37 = .ok (.goto (-33), 3) := by decide +kernel
theorem d_Memory_sumOfByte_40 : decode b_Memory_sumOfByte 40 = .ok (.iload_n 1, 1) := by decide +kernel
theorem d_Memory_sumOfByte_41 : decode b_Memory_sumOfByte 41 = .ok (.ireturn, 1) := by decide +kernel
theorem tw_29 : Jvm.Cond.code ⟨"ArcadeBoard$Memory", "sumOfByte", "(I)I"⟩ prog_4_method_10_code 4 (Option.some Jvm.ClassFile.FieldType.int) ∈ AL := ab_in (ab_t2 (List.mem_of_getElem? (i := 42) (by decide +kernel))) rfl
theorem tw_30 : Jvm.Cond.static ⟨"ArcadeBoard$Memory", "sumOfByte", "(I)I"⟩ ∈ AL := ab_in (ab_t2 (List.mem_of_getElem? (i := 41) (by decide +kernel))) rfl
theorem tw_31 : Jvm.Cond.constant "ArcadeBoard$Memory" 40 (32768 : Int32) ∈ AL := ab_in (ab_t2 (List.mem_of_getElem? (i := 43) (by decide +kernel))) rfl
theorem ok_Memory_sumOfByte : ab_yok y_Memory_sumOfByte b_Memory_sumOfByte 4 (some .int) 1 := ⟨tw_29, tw_1, by decide, by decide, by decide +kernel⟩
theorem oks_Memory_sumOfByte : Cond.static y_Memory_sumOfByte ∈ AL := tw_30
set_option maxHeartbeats 1000000 in
set_option maxRecDepth 100000 in
theorem k_Memory_sumOfByte_4 {p : Program} {l : Launch} {e : Env} {s : State} {m : MethodId} {args : Array Value} {below : List Frame} {meth : Method} {c : Code} {A : Nat → Prop} {D : va_G} {t : Nat → ClassId} {q : Nat → Nat} (X : ab_cx p s m args c b_Memory_sumOfByte 4 y_Memory_sumOfByte.cls D (tyC t)) (hr : meth.sig.returnType = some .int) (hk : meth.locks = false) (k : Nat) (u : SS) (v1 : Int32) (v2 : Int32) (j : Nat) (hi : v2 = nI j) (hj : j ≤ 8) (hf : 8 < j + k) {H : Heap} {locs : List Loc} {ls : Array Slot} (hX : ab_hx D (wC t q u) A s.heap H locs) (hl : lv_has ls 4 [(1, .int v1), (2, .int v2)]) :
    W p l e { frames := 0, cells := 0, slots := 0, locals := 0 } s m args below meth c H locs 0 0 (ab_ki_E below args s D (tyC t) (wC t q) A ((g_Memory_sumOfByte_4 k u v1 v2, u))) (F0 m 4 ls []) := by
  induction k generalizing u v1 v2 j H locs ls with
  | zero => exact absurd hf (by omega)
  | succ k ih =>
    refine lv_iload_n (pc := 4) X.1 X.2.1 d_Memory_sumOfByte_4 rfl (lv_at hl 1 rfl) ?_
    refine lv_bipush (pc := 5) (v := 8) X.1 X.2.1 d_Memory_sumOfByte_5 (by decide) ?_
    refine lv_icmp_ge (pc := 7) (tgt := 40) X.1 X.2.1 d_Memory_sumOfByte_7 (by decide) (fun h1 => ?_) (fun h1 => ?_)
    ·
      refine lv_iload_n (pc := 40) X.1 X.2.1 d_Memory_sumOfByte_40 rfl (lv_at hl 0 rfl) ?_
      exact ab_ki_ret (pc := 41) X hr hk hX rfl (by rw [g_Memory_sumOfByte_4, if_pos h1]) d_Memory_sumOfByte_41
    ·
      refine lv_iload_n (pc := 10) X.1 X.2.1 d_Memory_sumOfByte_10 rfl (lv_at hl 0 rfl) ?_
      refine lv_iconst (pc := 11) (v := 1) X.1 X.2.1 d_Memory_sumOfByte_11 (by decide) ?_
      refine lv_ishl (pc := 12) X.1 X.2.1 d_Memory_sumOfByte_12 ?_
      refine lv_ldc (pc := 13) (v := 65535) X.1 X.2.1 X.2.2.2.1 (X.2.2.2.2.1 _ tw_22) d_Memory_sumOfByte_13 ?_
      refine lv_iand (pc := 15) X.1 X.2.1 d_Memory_sumOfByte_15 ?_
      refine lv_istore_n (pc := 16) (lv' := [(3, .int ((v1 <<< ((1 : Int32) &&& 31)) &&& 65535)), (1, .int v1), (2, .int v2)]) X.1 X.2.1 d_Memory_sumOfByte_16 rfl hl (Nat.le_of_ble_eq_true rfl) rfl (fun ls hl => ?_)
      refine lv_iload_n (pc := 17) X.1 X.2.1 d_Memory_sumOfByte_17 rfl (lv_at hl 1 rfl) ?_
      refine lv_ldc (pc := 18) (v := 32768) X.1 X.2.1 X.2.2.2.1 (X.2.2.2.2.1 _ tw_31) d_Memory_sumOfByte_18 ?_
      refine lv_iand (pc := 20) X.1 X.2.1 d_Memory_sumOfByte_20 ?_
      refine ab_jn (ls := ls) (rest := []) 33 (if (v1 &&& 32768) = 0 then ((v1 <<< ((1 : Int32) &&& 31)) &&& 65535) else (((v1 <<< ((1 : Int32) &&& 31)) &&& 65535) ^^^ 4129) : Int32) ?_ (fun J => ?_)
      rotate_left
      ·
        refine lv_if_ne (pc := 21) (tgt := 28) X.1 X.2.1 d_Memory_sumOfByte_21 (by decide) (fun h2 => ?_) (fun h2 => ?_)
        ·
          refine lv_iload_n (pc := 28) X.1 X.2.1 d_Memory_sumOfByte_28 rfl (lv_at hl 0 rfl) ?_
          refine lv_sipush (pc := 29) (v := 4129) X.1 X.2.1 d_Memory_sumOfByte_29 (by decide) ?_
          refine lv_ixor (pc := 32) X.1 X.2.1 d_Memory_sumOfByte_32 ?_
          exact ab_jt (by rw [if_neg h2]) J
        ·
          refine lv_iload_n (pc := 24) X.1 X.2.1 d_Memory_sumOfByte_24 rfl (lv_at hl 0 rfl) ?_
          refine lv_goto (pc := 25) (tgt := 33) X.1 X.2.1 d_Memory_sumOfByte_25 (by decide) ?_
          exact ab_jt (by rw [if_pos h2]) J
      refine lv_istore_n (pc := 33) (lv' := [(1, .int (if (v1 &&& 32768) = 0 then ((v1 <<< ((1 : Int32) &&& 31)) &&& 65535) else (((v1 <<< ((1 : Int32) &&& 31)) &&& 65535) ^^^ 4129) : Int32)), (3, .int ((v1 <<< ((1 : Int32) &&& 31)) &&& 65535)), (2, .int v2)]) X.1 X.2.1 d_Memory_sumOfByte_33 rfl hl (Nat.le_of_ble_eq_true rfl) rfl (fun ls hl => ?_)
      refine lv_iinc (pc := 34) (k := 2) (v := v2 + 1) (lv' := [(2, .int (v2 + 1)), (1, .int (if (v1 &&& 32768) = 0 then ((v1 <<< ((1 : Int32) &&& 31)) &&& 65535) else (((v1 <<< ((1 : Int32) &&& 31)) &&& 65535) ^^^ 4129) : Int32)), (3, .int ((v1 <<< ((1 : Int32) &&& 31)) &&& 65535))]) X.1 X.2.1 d_Memory_sumOfByte_34 hl rfl rfl (Nat.le_of_ble_eq_true rfl) rfl (fun ls hl => ?_)
      refine lv_goto (pc := 37) (tgt := 4) X.1 X.2.1 d_Memory_sumOfByte_37 (by decide) ?_
      rw [show g_Memory_sumOfByte_4 (k + 1) u v1 v2 = g_Memory_sumOfByte_4 k u (if (v1 &&& 32768) = 0 then ((v1 <<< ((1 : Int32) &&& 31)) &&& 65535) else (((v1 <<< ((1 : Int32) &&& 31)) &&& 65535) ^^^ 4129) : Int32) (v2 + 1) from by rw [g_Memory_sumOfByte_4, if_neg h1]]
      exact ih u (if (v1 &&& 32768) = 0 then ((v1 <<< ((1 : Int32) &&& 31)) &&& 65535) else (((v1 <<< ((1 : Int32) &&& 31)) &&& 65535) ^^^ 4129) : Int32) (v2 + 1) (j + 1) (by rw [hi]; exact nI_1 j) (ab_ltN h1 hi hj rfl (by decide)) (by have := ab_ltN h1 hi hj (N := 8) rfl (by decide); omega) hX (lv_sub hl [1, 0] rfl)
set_option maxHeartbeats 1000000 in
set_option maxRecDepth 100000 in
theorem c_Memory_sumOfByte (l : Launch) (D : va_G) (t : Nat → ClassId) (q : Nat → Nat) (u : SS) (x1 : Int32) : ab_ki l D (tyC t) (wC t q) y_Memory_sumOfByte b_Memory_sumOfByte 4 .int { frames := 0, cells := 0, slots := 0, locals := 0 } [.int x1] u ((f_Memory_sumOfByte u x1, u)) := by
  refine ab_ki_ofW (by decide) (Nat.le_of_ble_eq_true rfl) (fun p e s m below meth c ls A X hr hk hl hX => ?_)
  have hl : lv_has ls 4 [(0, .int x1)] := hl
  refine lv_iload_n (pc := 0) X.1 X.2.1 d_Memory_sumOfByte_0 rfl (lv_at hl 0 rfl) ?_
  refine lv_istore_n (pc := 1) (lv' := [(1, .int x1), (0, .int x1)]) X.1 X.2.1 d_Memory_sumOfByte_1 rfl hl (Nat.le_of_ble_eq_true rfl) rfl (fun ls hl => ?_)
  refine lv_iconst (pc := 2) (v := 0) X.1 X.2.1 d_Memory_sumOfByte_2 (by decide) ?_
  refine lv_istore_n (pc := 3) (lv' := [(2, .int 0), (1, .int x1), (0, .int x1)]) X.1 X.2.1 d_Memory_sumOfByte_3 rfl hl (Nat.le_of_ble_eq_true rfl) rfl (fun ls hl => ?_)
  rw [show f_Memory_sumOfByte u x1 = g_Memory_sumOfByte_4 9 u x1 0 from by rw [f_Memory_sumOfByte]]
  exact k_Memory_sumOfByte_4 X hr hk 9 u x1 0 0 rfl (Nat.zero_le _) (by decide) hX (lv_sub hl [1, 0] rfl)
abbrev b_Memory_programSum : ByteArray := prog_4_method_9_code
def y_Memory_programSum : MethodName := ⟨"ArcadeBoard$Memory", "programSum", "()I"⟩
theorem d_Memory_programSum_0 : decode b_Memory_programSum 0 = .ok (.ldc 36, 2) := by decide +kernel
theorem d_Memory_programSum_2 : decode b_Memory_programSum 2 = .ok (.istore_n 1, 1) := by decide +kernel
theorem d_Memory_programSum_3 : decode b_Memory_programSum 3 = .ok (.iconst 0, 1) := by decide +kernel
theorem d_Memory_programSum_4 : decode b_Memory_programSum 4 = .ok (.istore_n 2, 1) := by decide +kernel
theorem d_Memory_programSum_5 : decode b_Memory_programSum 5 = .ok (.iload_n 2, 1) := by decide +kernel
theorem d_Memory_programSum_6 : decode b_Memory_programSum 6 = .ok (.sipush 512, 3) := by decide +kernel
theorem d_Memory_programSum_9 : decode b_Memory_programSum 9 = .ok (.if_icmp .ge 24, 3) := by decide +kernel
theorem d_Memory_programSum_12 : decode b_Memory_programSum 12 = .ok (.iload_n 1, 1) := by decide +kernel
theorem d_Memory_programSum_13 : decode b_Memory_programSum 13 = .ok (.aload_n 0, 1) := by decide +kernel
theorem d_Memory_programSum_14 : decode b_Memory_programSum 14 = .ok (.getfield 9, 3) := by decide +kernel
theorem d_Memory_programSum_17 : decode b_Memory_programSum 17 = .ok (.iload_n 2, 1) := by decide +kernel
theorem d_Memory_programSum_18 : decode b_Memory_programSum 18 = .ok (.iaload, 1) := by decide +kernel
theorem d_Memory_programSum_19 : decode b_Memory_programSum 19 = .ok (.bipush 8, 2) := by decide +kernel
theorem d_Memory_programSum_21 : decode b_Memory_programSum 21 = .ok (.ishl, 1) := by decide +kernel
theorem d_Memory_programSum_22 : decode b_Memory_programSum 22 = .ok (.ixor, 1) := by decide +kernel
theorem d_Memory_programSum_23 : decode b_Memory_programSum 23 = .ok (.invokestatic 37, 3) := by decide +kernel
theorem d_Memory_programSum_26 : decode b_Memory_programSum 26 = .ok (.istore_n 1, 1) := by decide +kernel
theorem d_Memory_programSum_27 : decode b_Memory_programSum 27 = .ok (.iinc 2 1, 3) := by decide +kernel
theorem d_Memory_programSum_30 : decode b_Memory_programSum 30 = .ok (.goto (-25), 3) := by decide +kernel
theorem d_Memory_programSum_33 : decode b_Memory_programSum 33 = .ok (.iload_n 1, 1) := by decide +kernel
theorem d_Memory_programSum_34 : decode b_Memory_programSum 34 = .ok (.ireturn, 1) := by decide +kernel
theorem tw_32 : Jvm.Cond.code ⟨"ArcadeBoard$Memory", "programSum", "()I"⟩ prog_4_method_9_code 3 (Option.some Jvm.ClassFile.FieldType.int) ∈ AL := ab_in (ab_t2 (List.mem_of_getElem? (i := 38) (by decide +kernel))) rfl
theorem tw_33 : Jvm.Cond.instanceMethod ⟨"ArcadeBoard$Memory", "programSum", "()I"⟩ ∈ AL := ab_in (ab_t2 (List.mem_of_getElem? (i := 36) (by decide +kernel))) rfl
theorem tw_34 : Jvm.Cond.selects "ArcadeBoard$Memory" ⟨"ArcadeBoard$Memory", "programSum", "()I"⟩ ⟨"ArcadeBoard$Memory", "programSum", "()I"⟩ ∈ AL := ab_in (ab_t2 (List.mem_of_getElem? (i := 37) (by decide +kernel))) rfl
theorem tw_35 : Jvm.Cond.methodLink "ArcadeBoard$Memory" 37 ⟨"ArcadeBoard$Memory", "sumOfByte", "(I)I"⟩ ∈ AL := ab_in (ab_t2 (List.mem_of_getElem? (i := 40) (by decide +kernel))) rfl
theorem ok_Memory_programSum : ab_yok y_Memory_programSum b_Memory_programSum 3 (some .int) 0 := ⟨tw_32, tw_1, by decide, by decide, by decide +kernel⟩
theorem okv_Memory_programSum : ab_yok_V y_Memory_programSum := ⟨tw_33, tw_34⟩
set_option maxHeartbeats 1000000 in
set_option maxRecDepth 100000 in
theorem k_Memory_programSum_5 {p : Program} {l : Launch} {e : Env} {s : State} {m : MethodId} {args : Array Value} {below : List Frame} {meth : Method} {c : Code} {A : Nat → Prop} {D : va_G} {t : Nat → ClassId} {q : Nat → Nat} (X : ab_cx p s m args c b_Memory_programSum 3 y_Memory_programSum.cls D (tyC t)) (hr : meth.sig.returnType = some .int) (hk : meth.locks = false) (k : Nat) (u : SS) (v1 : Int32) (v2 : Int32) (j : Nat) (hi : v2 = nI j) (hj : j ≤ 512) (hf : 512 < j + k) {H : Heap} {locs : List Loc} {ls : Array Slot} (hX : ab_hx D (wC t q u) A s.heap H locs) (hl : lv_has ls 3 [(0, .ref (q 4)), (1, .int v1), (2, .int v2)]) :
    W p l e { frames := 1, cells := 0, slots := 0, locals := 23 } s m args below meth c H locs 0 0 (ab_ki_E below args s D (tyC t) (wC t q) A ((g_Memory_programSum_5 k u v1 v2, u))) (F0 m 5 ls []) := by
  induction k generalizing u v1 v2 j H locs ls with
  | zero => exact absurd hf (by omega)
  | succ k ih =>
    refine lv_iload_n (pc := 5) X.1 X.2.1 d_Memory_programSum_5 rfl (lv_at hl 2 rfl) ?_
    refine lv_sipush (pc := 6) (v := 512) X.1 X.2.1 d_Memory_programSum_6 (by decide) ?_
    refine lv_icmp_ge (pc := 9) (tgt := 33) X.1 X.2.1 d_Memory_programSum_9 (by decide) (fun h1 => ?_) (fun h1 => ?_)
    ·
      refine lv_iload_n (pc := 33) X.1 X.2.1 d_Memory_programSum_33 rfl (lv_at hl 1 rfl) ?_
      exact ab_ki_ret (pc := 34) X hr hk hX rfl (by rw [g_Memory_programSum_5, if_pos h1]) d_Memory_programSum_34
    ·
      refine lv_iload_n (pc := 12) X.1 X.2.1 d_Memory_programSum_12 rfl (lv_at hl 1 rfl) ?_
      refine lv_aload_n (pc := 13) X.1 X.2.1 d_Memory_programSum_13 rfl (lv_at hl 0 rfl) ?_
      refine ab_gx (pc := 14) (v := .ref (q 5)) X hX 4 2 0 rfl rfl (Nat.le_of_ble_eq_true rfl) in_Memory rfl tw_6 rfl d_Memory_programSum_14 ?_
      refine lv_iload_n (pc := 17) X.1 X.2.1 d_Memory_programSum_17 rfl (lv_at hl 2 rfl) ?_
      refine ab_ald (pc := 18) (f := u 3) (j := (v2).toNatClampNeg) X hX 5 0 rfl rfl (ab_inN h1 hi hj rfl (by decide)) rfl d_Memory_programSum_18 ?_
      refine lv_bipush (pc := 19) (v := 8) X.1 X.2.1 d_Memory_programSum_19 (by decide) ?_
      refine lv_ishl (pc := 21) X.1 X.2.1 d_Memory_programSum_21 ?_
      refine lv_ixor (pc := 22) X.1 X.2.1 d_Memory_programSum_22 ?_
      refine ab_kr_callS (pc := 23) (wr := []) (w := (wC t q)) (u := u) (r := f_Memory_sumOfByte u (v1 ^^^ ((u 3 ((v2).toNatClampNeg)) <<< ((8 : Int32) &&& 31)))) (as := [.int (v1 ^^^ ((u 3 ((v2).toNatClampNeg)) <<< ((8 : Int32) &&& 31)))]) (rest := []) X hX (c_Memory_sumOfByte l D t q u (v1 ^^^ ((u 3 ((v2).toNatClampNeg)) <<< ((8 : Int32) &&& 31)))) ok_Memory_sumOfByte oks_Memory_sumOfByte tw_35 rfl hl.1 rfl (Nat.le_of_ble_eq_true rfl) ⟨rfl, rfl, Nat.le_of_ble_eq_true rfl, Nat.le_of_ble_eq_true rfl⟩ ⟨Nat.zero_le _, Nat.zero_le _⟩ d_Memory_programSum_23 (fun H locs hX => ?_)
      refine lv_istore_n (pc := 26) (lv' := [(1, .int (f_Memory_sumOfByte u (v1 ^^^ ((u 3 ((v2).toNatClampNeg)) <<< ((8 : Int32) &&& 31))))), (0, .ref (q 4)), (2, .int v2)]) X.1 X.2.1 d_Memory_programSum_26 rfl hl (Nat.le_of_ble_eq_true rfl) rfl (fun ls hl => ?_)
      refine lv_iinc (pc := 27) (k := 2) (v := v2 + 1) (lv' := [(2, .int (v2 + 1)), (1, .int (f_Memory_sumOfByte u (v1 ^^^ ((u 3 ((v2).toNatClampNeg)) <<< ((8 : Int32) &&& 31))))), (0, .ref (q 4))]) X.1 X.2.1 d_Memory_programSum_27 hl rfl rfl (Nat.le_of_ble_eq_true rfl) rfl (fun ls hl => ?_)
      refine lv_goto (pc := 30) (tgt := 5) X.1 X.2.1 d_Memory_programSum_30 (by decide) ?_
      rw [show g_Memory_programSum_5 (k + 1) u v1 v2 = g_Memory_programSum_5 k u (f_Memory_sumOfByte u (v1 ^^^ ((u 3 ((v2).toNatClampNeg)) <<< ((8 : Int32) &&& 31)))) (v2 + 1) from by rw [g_Memory_programSum_5, if_neg h1]]
      exact ih u (f_Memory_sumOfByte u (v1 ^^^ ((u 3 ((v2).toNatClampNeg)) <<< ((8 : Int32) &&& 31)))) (v2 + 1) (j + 1) (by rw [hi]; exact nI_1 j) (ab_ltN h1 hi hj rfl (by decide)) (by have := ab_ltN h1 hi hj (N := 512) rfl (by decide); omega) hX (lv_sub hl [2, 1, 0] rfl)
set_option maxHeartbeats 1000000 in
set_option maxRecDepth 100000 in
theorem c_Memory_programSum (l : Launch) (D : va_G) (t : Nat → ClassId) (q : Nat → Nat) (u : SS) : ab_ki l D (tyC t) (wC t q) y_Memory_programSum b_Memory_programSum 3 .int { frames := 1, cells := 0, slots := 0, locals := 23 } [.ref (q 4)] u ((f_Memory_programSum u, u)) := by
  refine ab_ki_ofW (by decide) (Nat.le_of_ble_eq_true rfl) (fun p e s m below meth c ls A X hr hk hl hX => ?_)
  have hl : lv_has ls 3 [(0, .ref (q 4))] := hl
  refine lv_ldc (pc := 0) (v := 65535) X.1 X.2.1 X.2.2.2.1 (X.2.2.2.2.1 _ tw_22) d_Memory_programSum_0 ?_
  refine lv_istore_n (pc := 2) (lv' := [(1, .int 65535), (0, .ref (q 4))]) X.1 X.2.1 d_Memory_programSum_2 rfl hl (Nat.le_of_ble_eq_true rfl) rfl (fun ls hl => ?_)
  refine lv_iconst (pc := 3) (v := 0) X.1 X.2.1 d_Memory_programSum_3 (by decide) ?_
  refine lv_istore_n (pc := 4) (lv' := [(2, .int 0), (1, .int 65535), (0, .ref (q 4))]) X.1 X.2.1 d_Memory_programSum_4 rfl hl (Nat.le_of_ble_eq_true rfl) rfl (fun ls hl => ?_)
  rw [show f_Memory_programSum u = g_Memory_programSum_5 513 u 65535 0 from by rw [f_Memory_programSum]]
  exact k_Memory_programSum_5 X hr hk 513 u 65535 0 0 rfl (Nat.zero_le _) (by decide) hX (lv_sub hl [2, 1, 0] rfl)
