abbrev b_Registers_pair : ByteArray := prog_7_method_4_code
def y_Registers_pair : MethodName := ⟨"ArcadeBoard$Registers", "pair", "(I)I"⟩
theorem d_Registers_pair_0 : decode b_Registers_pair 0 = .ok (.iload_n 1, 1) := by decide +kernel
theorem d_Registers_pair_1 : decode b_Registers_pair 1 = .ok (.iconst 3, 1) := by decide +kernel
theorem d_Registers_pair_2 : decode b_Registers_pair 2 = .ok (.if_icmp .ne 11, 3) := by decide +kernel
theorem d_Registers_pair_5 : decode b_Registers_pair 5 = .ok (.aload_n 0, 1) := by decide +kernel
theorem d_Registers_pair_6 : decode b_Registers_pair 6 = .ok (.getfield 9, 3) := by decide +kernel
theorem d_Registers_pair_9 : decode b_Registers_pair 9 = .ok (.getfield 38, 3) := by decide +kernel
theorem d_Registers_pair_12 : decode b_Registers_pair 12 = .ok (.ireturn, 1) := by decide +kernel
theorem d_Registers_pair_13 : decode b_Registers_pair 13 = .ok (.iconst 2, 1) := by decide +kernel
theorem d_Registers_pair_14 : decode b_Registers_pair 14 = .ok (.iload_n 1, 1) := by decide +kernel
theorem d_Registers_pair_15 : decode b_Registers_pair 15 = .ok (.iconst 3, 1) := by decide +kernel
theorem d_Registers_pair_16 : decode b_Registers_pair 16 = .ok (.iand, 1) := by decide +kernel
theorem d_Registers_pair_17 : decode b_Registers_pair 17 = .ok (.imul, 1) := by decide +kernel
theorem d_Registers_pair_18 : decode b_Registers_pair 18 = .ok (.istore_n 2, 1) := by decide +kernel
theorem d_Registers_pair_19 : decode b_Registers_pair 19 = .ok (.aload_n 0, 1) := by decide +kernel
theorem d_Registers_pair_20 : decode b_Registers_pair 20 = .ok (.getfield 9, 3) := by decide +kernel
theorem d_Registers_pair_23 : decode b_Registers_pair 23 = .ok (.getfield 28, 3) := by decide +kernel
theorem d_Registers_pair_26 : decode b_Registers_pair 26 = .ok (.iload_n 2, 1) := by decide +kernel
theorem d_Registers_pair_27 : decode b_Registers_pair 27 = .ok (.iaload, 1) := by decide +kernel
theorem d_Registers_pair_28 : decode b_Registers_pair 28 = .ok (.bipush 8, 2) := by decide +kernel
theorem d_Registers_pair_30 : decode b_Registers_pair 30 = .ok (.ishl, 1) := by decide +kernel
theorem d_Registers_pair_31 : decode b_Registers_pair 31 = .ok (.aload_n 0, 1) := by decide +kernel
theorem d_Registers_pair_32 : decode b_Registers_pair 32 = .ok (.getfield 9, 3) := by decide +kernel
theorem d_Registers_pair_35 : decode b_Registers_pair 35 = .ok (.getfield 28, 3) := by decide +kernel
theorem d_Registers_pair_38 : decode b_Registers_pair 38 = .ok (.iload_n 2, 1) := by decide +kernel
theorem d_Registers_pair_39 : decode b_Registers_pair 39 = .ok (.iconst 1, 1) := by decide +kernel
theorem d_Registers_pair_40 : decode b_Registers_pair 40 = .ok (.iadd, 1) := by decide +kernel
theorem d_Registers_pair_41 : decode b_Registers_pair 41 = .ok (.iaload, 1) := by decide +kernel
theorem d_Registers_pair_42 : decode b_Registers_pair 42 = .ok (.ior, 1) := by decide +kernel
theorem d_Registers_pair_43 : decode b_Registers_pair 43 = .ok (.ireturn, 1) := by decide +kernel
theorem tw_36 : Jvm.Cond.code ⟨"ArcadeBoard$Registers", "pair", "(I)I"⟩ prog_7_method_4_code 3 (Option.some Jvm.ClassFile.FieldType.int) ∈ AL := ab_in (ab_t2 (List.mem_of_getElem? (i := 71) (by decide +kernel))) rfl
theorem tw_37 : Jvm.Cond.initialized "ArcadeBoard$Registers" ∈ AL := ab_in (ab_t1 (List.mem_of_getElem? (i := 4) (by decide +kernel))) rfl
theorem tw_38 : Jvm.Cond.instanceMethod ⟨"ArcadeBoard$Registers", "pair", "(I)I"⟩ ∈ AL := ab_in (ab_t2 (List.mem_of_getElem? (i := 69) (by decide +kernel))) rfl
theorem tw_39 : Jvm.Cond.selects "ArcadeBoard$Registers" ⟨"ArcadeBoard$Registers", "pair", "(I)I"⟩ ⟨"ArcadeBoard$Registers", "pair", "(I)I"⟩ ∈ AL := ab_in (ab_t2 (List.mem_of_getElem? (i := 70) (by decide +kernel))) rfl
theorem tw_40 : Jvm.Cond.fieldLink "ArcadeBoard$Registers" 9 "ArcadeBoard$Registers" "state" "LArcadeBoard$State;" ∈ AL := ab_in (ab_t1 (List.mem_of_getElem? (i := 146) (by decide +kernel))) rfl
theorem tw_41 : Jvm.Cond.fieldLink "ArcadeBoard$Registers" 28 "ArcadeBoard$State" "registers" "[I" ∈ AL := ab_in (ab_t1 (List.mem_of_getElem? (i := 35) (by decide +kernel))) rfl
theorem tw_42 : Jvm.Cond.fieldLink "ArcadeBoard$Registers" 38 "ArcadeBoard$State" "sp" "I" ∈ AL := ab_in (ab_t1 (List.mem_of_getElem? (i := 43) (by decide +kernel))) rfl
theorem ok_Registers_pair : ab_yok y_Registers_pair b_Registers_pair 3 (some .int) 1 := ⟨tw_36, tw_37, by decide, by decide, by decide +kernel⟩
theorem okv_Registers_pair : ab_yok_V y_Registers_pair := ⟨tw_38, tw_39⟩
set_option maxHeartbeats 1000000 in
set_option maxRecDepth 100000 in
theorem c_Registers_pair (l : Launch) (D : va_G) (t : Nat → ClassId) (q : Nat → Nat) (u : SS) (x1 : Int32) : ab_ki l D (tyC t) (wC t q) y_Registers_pair b_Registers_pair 3 .int { frames := 0, cells := 0, slots := 0, locals := 0 } [.ref (q 6), .int x1] u ((f_Registers_pair u x1, u)) := by
  refine ab_ki_ofW (by decide) (Nat.le_of_ble_eq_true rfl) (fun p e s m below meth c ls A X hr hk hl hX => ?_)
  have hl : lv_has ls 3 [(0, .ref (q 6)), (1, .int x1)] := hl
  refine lv_iload_n (pc := 0) X.1 X.2.1 d_Registers_pair_0 rfl (lv_at hl 1 rfl) ?_
  refine lv_iconst (pc := 1) (v := 3) X.1 X.2.1 d_Registers_pair_1 (by decide) ?_
  refine lv_icmp_ne (pc := 2) (tgt := 13) X.1 X.2.1 d_Registers_pair_2 (by decide) (fun h1 => ?_) (fun h1 => ?_)
  ·
    refine lv_iconst (pc := 13) (v := 2) X.1 X.2.1 d_Registers_pair_13 (by decide) ?_
    refine lv_iload_n (pc := 14) X.1 X.2.1 d_Registers_pair_14 rfl (lv_at hl 1 rfl) ?_
    refine lv_iconst (pc := 15) (v := 3) X.1 X.2.1 d_Registers_pair_15 (by decide) ?_
    refine lv_iand (pc := 16) X.1 X.2.1 d_Registers_pair_16 ?_
    refine lv_imul (pc := 17) X.1 X.2.1 d_Registers_pair_17 ?_
    refine lv_istore_n (pc := 18) (lv' := [(2, .int (2 * (x1 &&& 3))), (0, .ref (q 6)), (1, .int x1)]) X.1 X.2.1 d_Registers_pair_18 rfl hl (Nat.le_of_ble_eq_true rfl) rfl (fun ls hl => ?_)
    refine lv_aload_n (pc := 19) X.1 X.2.1 d_Registers_pair_19 rfl (lv_at hl 1 rfl) ?_
    refine ab_gx (pc := 20) (v := .ref (q 1)) X hX 6 5 0 rfl rfl (Nat.le_of_ble_eq_true rfl) in_Registers rfl tw_40 rfl d_Registers_pair_20 ?_
    refine ab_gx (pc := 23) (v := .ref (q 3)) X hX 1 7 1 rfl rfl (Nat.le_of_ble_eq_true rfl) in_State rfl tw_41 rfl d_Registers_pair_23 ?_
    refine lv_iload_n (pc := 26) X.1 X.2.1 d_Registers_pair_26 rfl (lv_at hl 0 rfl) ?_
    refine ab_ald (pc := 27) (f := u 2) (j := (2 * (x1 &&& 3)).toNatClampNeg) X hX 3 0 rfl rfl (ab_in2 _) rfl d_Registers_pair_27 ?_
    refine lv_bipush (pc := 28) (v := 8) X.1 X.2.1 d_Registers_pair_28 (by decide) ?_
    refine lv_ishl (pc := 30) X.1 X.2.1 d_Registers_pair_30 ?_
    refine lv_aload_n (pc := 31) X.1 X.2.1 d_Registers_pair_31 rfl (lv_at hl 1 rfl) ?_
    refine ab_gx (pc := 32) (v := .ref (q 1)) X hX 6 5 0 rfl rfl (Nat.le_of_ble_eq_true rfl) in_Registers rfl tw_40 rfl d_Registers_pair_32 ?_
    refine ab_gx (pc := 35) (v := .ref (q 3)) X hX 1 7 1 rfl rfl (Nat.le_of_ble_eq_true rfl) in_State rfl tw_41 rfl d_Registers_pair_35 ?_
    refine lv_iload_n (pc := 38) X.1 X.2.1 d_Registers_pair_38 rfl (lv_at hl 0 rfl) ?_
    refine lv_iconst (pc := 39) (v := 1) X.1 X.2.1 d_Registers_pair_39 (by decide) ?_
    refine lv_iadd (pc := 40) X.1 X.2.1 d_Registers_pair_40 ?_
    refine ab_ald (pc := 41) (f := u 2) (j := ((2 * (x1 &&& 3)) + 1).toNatClampNeg) X hX 3 0 rfl rfl (ab_in21 _) rfl d_Registers_pair_41 ?_
    refine lv_ior (pc := 42) X.1 X.2.1 d_Registers_pair_42 ?_
    exact ab_ki_ret (pc := 43) X hr hk hX rfl (by rw [f_Registers_pair, if_neg h1]) d_Registers_pair_43
  ·
    refine lv_aload_n (pc := 5) X.1 X.2.1 d_Registers_pair_5 rfl (lv_at hl 0 rfl) ?_
    refine ab_gx (pc := 6) (v := .ref (q 1)) X hX 6 5 0 rfl rfl (Nat.le_of_ble_eq_true rfl) in_Registers rfl tw_40 rfl d_Registers_pair_6 ?_
    refine ab_gx (pc := 9) (v := .int (u 0 1)) X hX 1 7 3 rfl rfl (Nat.le_of_ble_eq_true rfl) in_State rfl tw_42 rfl d_Registers_pair_9 ?_
    exact ab_ki_ret (pc := 12) X hr hk hX rfl (by rw [f_Registers_pair, if_pos h1]) d_Registers_pair_12
abbrev b_Registers_value : ByteArray := prog_7_method_2_code
def y_Registers_value : MethodName := ⟨"ArcadeBoard$Registers", "value", "(I)I"⟩
theorem d_Registers_value_0 : decode b_Registers_value 0 = .ok (.iload_n 1, 1) := by decide +kernel
theorem d_Registers_value_1 : decode b_Registers_value 1 = .ok (.bipush 6, 2) := by decide +kernel
theorem d_Registers_value_3 : decode b_Registers_value 3 = .ok (.if_icmp .ne 18, 3) := by decide +kernel
theorem d_Registers_value_6 : decode b_Registers_value 6 = .ok (.aload_n 0, 1) := by decide +kernel
theorem d_Registers_value_7 : decode b_Registers_value 7 = .ok (.getfield 15, 3) := by decide +kernel
theorem d_Registers_value_10 : decode b_Registers_value 10 = .ok (.aload_n 0, 1) := by decide +kernel
theorem d_Registers_value_11 : decode b_Registers_value 11 = .ok (.iconst 2, 1) := by decide +kernel
theorem d_Registers_value_12 : decode b_Registers_value 12 = .ok (.invokevirtual 19, 3) := by decide +kernel
theorem d_Registers_value_15 : decode b_Registers_value 15 = .ok (.invokevirtual 23, 3) := by decide +kernel
theorem d_Registers_value_18 : decode b_Registers_value 18 = .ok (.goto 15, 3) := by decide +kernel
theorem d_Registers_value_21 : decode b_Registers_value 21 = .ok (.aload_n 0, 1) := by decide +kernel
theorem d_Registers_value_22 : decode b_Registers_value 22 = .ok (.getfield 9, 3) := by decide +kernel
theorem d_Registers_value_25 : decode b_Registers_value 25 = .ok (.getfield 28, 3) := by decide +kernel
theorem d_Registers_value_28 : decode b_Registers_value 28 = .ok (.iload_n 1, 1) := by decide +kernel
theorem d_Registers_value_29 : decode b_Registers_value 29 = .ok (.bipush 7, 2) := by decide +kernel
theorem d_Registers_value_31 : decode b_Registers_value 31 = .ok (.iand, 1) := by decide +kernel
theorem d_Registers_value_32 : decode b_Registers_value 32 = .ok (.iaload, 1) := by decide +kernel
theorem d_Registers_value_33 : decode b_Registers_value 33 = .ok (.ireturn, 1) := by decide +kernel
theorem tw_43 : Jvm.Cond.code ⟨"ArcadeBoard$Registers", "value", "(I)I"⟩ prog_7_method_2_code 2 (Option.some Jvm.ClassFile.FieldType.int) ∈ AL := ab_in (ab_t2 (List.mem_of_getElem? (i := 67) (by decide +kernel))) rfl
theorem tw_44 : Jvm.Cond.instanceMethod ⟨"ArcadeBoard$Registers", "value", "(I)I"⟩ ∈ AL := ab_in (ab_t2 (List.mem_of_getElem? (i := 65) (by decide +kernel))) rfl
theorem tw_45 : Jvm.Cond.selects "ArcadeBoard$Registers" ⟨"ArcadeBoard$Registers", "value", "(I)I"⟩ ⟨"ArcadeBoard$Registers", "value", "(I)I"⟩ ∈ AL := ab_in (ab_t2 (List.mem_of_getElem? (i := 66) (by decide +kernel))) rfl
theorem tw_46 : Jvm.Cond.fieldLink "ArcadeBoard$Registers" 15 "ArcadeBoard$Registers" "memory" "LArcadeBoard$Memory;" ∈ AL := ab_in (ab_t1 (List.mem_of_getElem? (i := 147) (by decide +kernel))) rfl
theorem tw_47 : Jvm.Cond.methodLink "ArcadeBoard$Registers" 19 ⟨"ArcadeBoard$Registers", "pair", "(I)I"⟩ ∈ AL := ab_in (ab_t2 (List.mem_of_getElem? (i := 68) (by decide +kernel))) rfl
theorem tw_48 : Jvm.Cond.methodLink "ArcadeBoard$Registers" 23 ⟨"ArcadeBoard$Memory", "at", "(I)I"⟩ ∈ AL := ab_in (ab_t2 (List.mem_of_getElem? (i := 72) (by decide +kernel))) rfl
theorem ok_Registers_value : ab_yok y_Registers_value b_Registers_value 2 (some .int) 1 := ⟨tw_43, tw_37, by decide, by decide, by decide +kernel⟩
theorem okv_Registers_value : ab_yok_V y_Registers_value := ⟨tw_44, tw_45⟩
set_option maxHeartbeats 1000000 in
set_option maxRecDepth 100000 in
theorem c_Registers_value (l : Launch) (D : va_G) (t : Nat → ClassId) (q : Nat → Nat) (u : SS) (x1 : Int32) : ab_ki l D (tyC t) (wC t q) y_Registers_value b_Registers_value 2 .int { frames := 1, cells := 0, slots := 0, locals := 22 } [.ref (q 6), .int x1] u ((f_Registers_value u x1, u)) := by
  refine ab_ki_ofW (by decide) (Nat.le_of_ble_eq_true rfl) (fun p e s m below meth c ls A X hr hk hl hX => ?_)
  have hl : lv_has ls 2 [(0, .ref (q 6)), (1, .int x1)] := hl
  refine lv_iload_n (pc := 0) X.1 X.2.1 d_Registers_value_0 rfl (lv_at hl 1 rfl) ?_
  refine lv_bipush (pc := 1) (v := 6) X.1 X.2.1 d_Registers_value_1 (by decide) ?_
  refine lv_icmp_ne (pc := 3) (tgt := 21) X.1 X.2.1 d_Registers_value_3 (by decide) (fun h1 => ?_) (fun h1 => ?_)
  ·
    refine lv_aload_n (pc := 21) X.1 X.2.1 d_Registers_value_21 rfl (lv_at hl 0 rfl) ?_
    refine ab_gx (pc := 22) (v := .ref (q 1)) X hX 6 5 0 rfl rfl (Nat.le_of_ble_eq_true rfl) in_Registers rfl tw_40 rfl d_Registers_value_22 ?_
    refine ab_gx (pc := 25) (v := .ref (q 3)) X hX 1 7 1 rfl rfl (Nat.le_of_ble_eq_true rfl) in_State rfl tw_41 rfl d_Registers_value_25 ?_
    refine lv_iload_n (pc := 28) X.1 X.2.1 d_Registers_value_28 rfl (lv_at hl 1 rfl) ?_
    refine lv_bipush (pc := 29) (v := 7) X.1 X.2.1 d_Registers_value_29 (by decide) ?_
    refine lv_iand (pc := 31) X.1 X.2.1 d_Registers_value_31 ?_
    refine ab_ald (pc := 32) (f := u 2) (j := (x1 &&& 7).toNatClampNeg) X hX 3 0 rfl rfl (ab_inm _ 3 rfl (by decide)) rfl d_Registers_value_32 ?_
    exact ab_ki_ret (pc := 33) X hr hk hX rfl (by rw [f_Registers_value, if_neg h1]) d_Registers_value_33
  ·
    refine lv_aload_n (pc := 6) X.1 X.2.1 d_Registers_value_6 rfl (lv_at hl 0 rfl) ?_
    refine ab_gx (pc := 7) (v := .ref (q 4)) X hX 6 5 1 rfl rfl (Nat.le_of_ble_eq_true rfl) in_Registers rfl tw_46 rfl d_Registers_value_7 ?_
    refine lv_aload_n (pc := 10) X.1 X.2.1 d_Registers_value_10 rfl (lv_at hl 0 rfl) ?_
    refine lv_iconst (pc := 11) (v := 2) X.1 X.2.1 d_Registers_value_11 (by decide) ?_
    refine ab_kr_callV (pc := 12) (wr := []) (w := (wC t q)) (u := u) (r := f_Registers_pair u 2) (as := [.int 2]) (rest := [.ref (q 4)]) X hX (c_Registers_pair l D t q u 2) ok_Registers_pair okv_Registers_pair tw_47 6 5 rfl rfl rfl hl.1 rfl (Nat.le_of_ble_eq_true rfl) ⟨rfl, rfl, Nat.le_of_ble_eq_true rfl, Nat.le_of_ble_eq_true rfl⟩ ⟨Nat.zero_le _, Nat.zero_le _⟩ d_Registers_value_12 (fun H locs hX => ?_)
    refine ab_kr_callV (pc := 15) (wr := []) (w := (wC t q)) (u := u) (r := f_Memory_at u (f_Registers_pair u 2)) (as := [.int (f_Registers_pair u 2)]) (rest := []) X hX (c_Memory_at l D t q u (f_Registers_pair u 2)) ok_Memory_at okv_Memory_at tw_48 4 2 rfl rfl rfl hl.1 rfl (Nat.le_of_ble_eq_true rfl) ⟨rfl, rfl, Nat.le_of_ble_eq_true rfl, Nat.le_of_ble_eq_true rfl⟩ ⟨Nat.zero_le _, Nat.zero_le _⟩ d_Registers_value_15 (fun H locs hX => ?_)
    refine lv_goto (pc := 18) (tgt := 33) X.1 X.2.1 d_Registers_value_18 (by decide) ?_
    exact ab_ki_ret (pc := 33) X hr hk hX rfl (by rw [f_Registers_value, if_pos h1]) d_Registers_value_33
abbrev b_Registers_set : ByteArray := prog_7_method_3_code
def y_Registers_set : MethodName := ⟨"ArcadeBoard$Registers", "set", "(II)V"⟩
theorem d_Registers_set_0 : decode b_Registers_set 0 = .ok (.iload_n 1, 1) := by decide +kernel
theorem d_Registers_set_1 : decode b_Registers_set 1 = .ok (.bipush 6, 2) := by decide +kernel
theorem d_Registers_set_3 : decode b_Registers_set 3 = .ok (.if_icmp .ne 19, 3) := by decide +kernel
theorem d_Registers_set_6 : decode b_Registers_set 6 = .ok (.aload_n 0, 1) := by decide +kernel
theorem d_Registers_set_7 : decode b_Registers_set 7 = .ok (.getfield 15, 3) := by decide +kernel
theorem d_Registers_set_10 : decode b_Registers_set 10 = .ok (.aload_n 0, 1) := by decide +kernel
theorem d_Registers_set_11 : decode b_Registers_set 11 = .ok (.iconst 2, 1) := by decide +kernel
theorem d_Registers_set_12 : decode b_Registers_set 12 = .ok (.invokevirtual 19, 3) := by decide +kernel
theorem d_Registers_set_15 : decode b_Registers_set 15 = .ok (.iload_n 2, 1) := by decide +kernel
theorem d_Registers_set_16 : decode b_Registers_set 16 = .ok (.invokevirtual 34, 3) := by decide +kernel
theorem d_Registers_set_19 : decode b_Registers_set 19 = .ok (.goto 20, 3) := by decide +kernel
theorem d_Registers_set_22 : decode b_Registers_set 22 = .ok (.aload_n 0, 1) := by decide +kernel
theorem d_Registers_set_23 : decode b_Registers_set 23 = .ok (.getfield 9, 3) := by decide +kernel
theorem d_Registers_set_26 : decode b_Registers_set 26 = .ok (.getfield 28, 3) := by decide +kernel
theorem d_Registers_set_29 : decode b_Registers_set 29 = .ok (.iload_n 1, 1) := by decide +kernel
theorem d_Registers_set_30 : decode b_Registers_set 30 = .ok (.bipush 7, 2) := by decide +kernel
theorem d_Registers_set_32 : decode b_Registers_set 32 = .ok (.iand, 1) := by decide +kernel
theorem d_Registers_set_33 : decode b_Registers_set 33 = .ok (.iload_n 2, 1) := by decide +kernel
theorem d_Registers_set_34 : decode b_Registers_set 34 = .ok (.sipush 255, 3) := by decide +kernel
theorem d_Registers_set_37 : decode b_Registers_set 37 = .ok (.iand, 1) := by decide +kernel
theorem d_Registers_set_38 : decode b_Registers_set 38 = .ok (.iastore, 1) := by decide +kernel
theorem d_Registers_set_39 : decode b_Registers_set 39 = .ok (.return_, 1) := by decide +kernel
theorem tw_49 : Jvm.Cond.code ⟨"ArcadeBoard$Registers", "set", "(II)V"⟩ prog_7_method_3_code 3 (Option.none : Option Jvm.ClassFile.FieldType) ∈ AL := ab_in (ab_t3 (List.mem_of_getElem? (i := 64) (by decide +kernel))) rfl
theorem tw_50 : Jvm.Cond.instanceMethod ⟨"ArcadeBoard$Registers", "set", "(II)V"⟩ ∈ AL := ab_in (ab_t3 (List.mem_of_getElem? (i := 62) (by decide +kernel))) rfl
theorem tw_51 : Jvm.Cond.selects "ArcadeBoard$Registers" ⟨"ArcadeBoard$Registers", "set", "(II)V"⟩ ⟨"ArcadeBoard$Registers", "set", "(II)V"⟩ ∈ AL := ab_in (ab_t3 (List.mem_of_getElem? (i := 63) (by decide +kernel))) rfl
theorem tw_52 : Jvm.Cond.methodLink "ArcadeBoard$Registers" 34 ⟨"ArcadeBoard$Memory", "put", "(II)V"⟩ ∈ AL := ab_in (ab_t3 (List.mem_of_getElem? (i := 65) (by decide +kernel))) rfl
theorem ok_Registers_set : ab_yok y_Registers_set b_Registers_set 3 none 2 := ⟨tw_49, tw_37, by decide, by decide, by decide +kernel⟩
theorem okv_Registers_set : ab_yok_V y_Registers_set := ⟨tw_50, tw_51⟩
set_option maxHeartbeats 1000000 in
set_option maxRecDepth 100000 in
theorem c_Registers_set (l : Launch) (D : va_G) (t : Nat → ClassId) (q : Nat → Nat) (u : SS) (x1 : Int32) (x2 : Int32) : ab_kv l D (tyC t) (wC t q) y_Registers_set b_Registers_set 3 { frames := 1, cells := 0, slots := 0, locals := 23 } [.ref (q 6), .int x1, .int x2] u (f_Registers_set u x1 x2) := by
  refine ab_kv_ofW (by decide) (Nat.le_of_ble_eq_true rfl) (fun p e s m below meth c ls A X hr hk hl hX => ?_)
  have hl : lv_has ls 3 [(0, .ref (q 6)), (1, .int x1), (2, .int x2)] := hl
  refine lv_iload_n (pc := 0) X.1 X.2.1 d_Registers_set_0 rfl (lv_at hl 1 rfl) ?_
  refine lv_bipush (pc := 1) (v := 6) X.1 X.2.1 d_Registers_set_1 (by decide) ?_
  refine lv_icmp_ne (pc := 3) (tgt := 22) X.1 X.2.1 d_Registers_set_3 (by decide) (fun h1 => ?_) (fun h1 => ?_)
  ·
    refine lv_aload_n (pc := 22) X.1 X.2.1 d_Registers_set_22 rfl (lv_at hl 0 rfl) ?_
    refine ab_gx (pc := 23) (v := .ref (q 1)) X hX 6 5 0 rfl rfl (Nat.le_of_ble_eq_true rfl) in_Registers rfl tw_40 rfl d_Registers_set_23 ?_
    refine ab_gx (pc := 26) (v := .ref (q 3)) X hX 1 7 1 rfl rfl (Nat.le_of_ble_eq_true rfl) in_State rfl tw_41 rfl d_Registers_set_26 ?_
    refine lv_iload_n (pc := 29) X.1 X.2.1 d_Registers_set_29 rfl (lv_at hl 1 rfl) ?_
    refine lv_bipush (pc := 30) (v := 7) X.1 X.2.1 d_Registers_set_30 (by decide) ?_
    refine lv_iand (pc := 32) X.1 X.2.1 d_Registers_set_32 ?_
    refine lv_iload_n (pc := 33) X.1 X.2.1 d_Registers_set_33 rfl (lv_at hl 2 rfl) ?_
    refine lv_sipush (pc := 34) (v := 255) X.1 X.2.1 d_Registers_set_34 (by decide) ?_
    refine lv_iand (pc := 37) X.1 X.2.1 d_Registers_set_37 ?_
    refine ab_ast (pc := 38) (f := u 2) (j := (x1 &&& 7).toNatClampNeg) (ws' := (wC t q (stt u 2 ((x1 &&& 7).toNatClampNeg) (x2 &&& 255)))) X hX 3 0 rfl rfl (ab_inm _ 3 rfl (by decide)) rfl (sa_wC_3 t q u ((x1 &&& 7).toNatClampNeg) (x2 &&& 255)) d_Registers_set_38 (fun H locs hX => ?_)
    exact ab_kv_ret (pc := 39) X hr hk hX (by rw [f_Registers_set, if_neg h1]) d_Registers_set_39
  ·
    refine lv_aload_n (pc := 6) X.1 X.2.1 d_Registers_set_6 rfl (lv_at hl 0 rfl) ?_
    refine ab_gx (pc := 7) (v := .ref (q 4)) X hX 6 5 1 rfl rfl (Nat.le_of_ble_eq_true rfl) in_Registers rfl tw_46 rfl d_Registers_set_7 ?_
    refine lv_aload_n (pc := 10) X.1 X.2.1 d_Registers_set_10 rfl (lv_at hl 0 rfl) ?_
    refine lv_iconst (pc := 11) (v := 2) X.1 X.2.1 d_Registers_set_11 (by decide) ?_
    refine ab_kr_callV (pc := 12) (wr := []) (w := (wC t q)) (u := u) (r := f_Registers_pair u 2) (as := [.int 2]) (rest := [.ref (q 4)]) X hX (c_Registers_pair l D t q u 2) ok_Registers_pair okv_Registers_pair tw_47 6 5 rfl rfl rfl hl.1 rfl (Nat.le_of_ble_eq_true rfl) ⟨rfl, rfl, Nat.le_of_ble_eq_true rfl, Nat.le_of_ble_eq_true rfl⟩ ⟨Nat.zero_le _, Nat.zero_le _⟩ d_Registers_set_12 (fun H locs hX => ?_)
    refine lv_iload_n (pc := 15) X.1 X.2.1 d_Registers_set_15 rfl (lv_at hl 2 rfl) ?_
    refine ab_kv_callV (pc := 16) (wr := []) (w := (wC t q)) (u := u) (F := f_Memory_put u (f_Registers_pair u 2) x2) (as := [.int (f_Registers_pair u 2), .int x2]) (rest := []) X hX (c_Memory_put l D t q u (f_Registers_pair u 2) x2) ok_Memory_put okv_Memory_put tw_52 4 2 rfl rfl rfl hl.1 rfl (Nat.le_of_ble_eq_true rfl) ⟨rfl, rfl, Nat.le_of_ble_eq_true rfl, Nat.le_of_ble_eq_true rfl⟩ ⟨Nat.zero_le _, Nat.zero_le _⟩ d_Registers_set_16 (fun H locs hX => ?_)
    refine lv_goto (pc := 19) (tgt := 39) X.1 X.2.1 d_Registers_set_19 (by decide) ?_
    exact ab_kv_ret (pc := 39) X hr hk hX (by rw [f_Registers_set, if_pos h1]) d_Registers_set_39
abbrev b_Registers_setPair : ByteArray := prog_7_method_5_code
def y_Registers_setPair : MethodName := ⟨"ArcadeBoard$Registers", "setPair", "(II)V"⟩
theorem d_Registers_setPair_0 : decode b_Registers_setPair 0 = .ok (.iload_n 1, 1) := by decide +kernel
theorem d_Registers_setPair_1 : decode b_Registers_setPair 1 = .ok (.iconst 3, 1) := by decide +kernel
theorem d_Registers_setPair_2 : decode b_Registers_setPair 2 = .ok (.if_icmp .ne 17, 3) := by decide +kernel
theorem d_Registers_setPair_5 : decode b_Registers_setPair 5 = .ok (.aload_n 0, 1) := by decide +kernel
theorem d_Registers_setPair_6 : decode b_Registers_setPair 6 = .ok (.getfield 9, 3) := by decide +kernel
theorem d_Registers_setPair_9 : decode b_Registers_setPair 9 = .ok (.iload_n 2, 1) := by decide +kernel
theorem d_Registers_setPair_10 : decode b_Registers_setPair 10 = .ok (.ldc 42, 2) := by decide +kernel
theorem d_Registers_setPair_12 : decode b_Registers_setPair 12 = .ok (.iand, 1) := by decide +kernel
theorem d_Registers_setPair_13 : decode b_Registers_setPair 13 = .ok (.putfield 38, 3) := by decide +kernel
theorem d_Registers_setPair_16 : decode b_Registers_setPair 16 = .ok (.goto 42, 3) := by decide +kernel
theorem d_Registers_setPair_19 : decode b_Registers_setPair 19 = .ok (.iconst 2, 1) := by decide +kernel
theorem d_Registers_setPair_20 : decode b_Registers_setPair 20 = .ok (.iload_n 1, 1) := by decide +kernel
theorem d_Registers_setPair_21 : decode b_Registers_setPair 21 = .ok (.iconst 3, 1) := by decide +kernel
theorem d_Registers_setPair_22 : decode b_Registers_setPair 22 = .ok (.iand, 1) := by decide +kernel
theorem d_Registers_setPair_23 : decode b_Registers_setPair 23 = .ok (.imul, 1) := by decide +kernel
theorem d_Registers_setPair_24 : decode b_Registers_setPair 24 = .ok (.istore_n 3, 1) := by decide +kernel
theorem d_Registers_setPair_25 : decode b_Registers_setPair 25 = .ok (.aload_n 0, 1) := by decide +kernel
theorem d_Registers_setPair_26 : decode b_Registers_setPair 26 = .ok (.getfield 9, 3) := by decide +kernel
theorem d_Registers_setPair_29 : decode b_Registers_setPair 29 = .ok (.getfield 28, 3) := by decide +kernel
theorem d_Registers_setPair_32 : decode b_Registers_setPair 32 = .ok (.iload_n 3, 1) := by decide +kernel
theorem d_Registers_setPair_33 : decode b_Registers_setPair 33 = .ok (.iload_n 2, 1) := by decide +kernel
theorem d_Registers_setPair_34 : decode b_Registers_setPair 34 = .ok (.bipush 8, 2) := by decide +kernel
theorem d_Registers_setPair_36 : decode b_Registers_setPair 36 = .ok (.ishr, 1) := by decide +kernel
theorem d_Registers_setPair_37 : decode b_Registers_setPair 37 = .ok (.sipush 255, 3) := by decide +kernel
theorem d_Registers_setPair_40 : decode b_Registers_setPair 40 = .ok (.iand, 1) := by decide +kernel
theorem d_Registers_setPair_41 : decode b_Registers_setPair 41 = .ok (.iastore, 1) := by decide +kernel
theorem d_Registers_setPair_42 : decode b_Registers_setPair 42 = .ok (.aload_n 0, 1) := by decide +kernel
theorem d_Registers_setPair_43 : decode b_Registers_setPair 43 = .ok (.getfield 9, 3) := by decide +kernel
theorem d_Registers_setPair_46 : decode b_Registers_setPair 46 = .ok (.getfield 28, 3) := by decide +kernel
theorem d_Registers_setPair_49 : decode b_Registers_setPair 49 = .ok (.iload_n 3, 1) := by decide +kernel
theorem d_Registers_setPair_50 : decode b_Registers_setPair 50 = .ok (.iconst 1, 1) := by decide +kernel
theorem d_Registers_setPair_51 : decode b_Registers_setPair 51 = .ok (.iadd, 1) := by decide +kernel
theorem d_Registers_setPair_52 : decode b_Registers_setPair 52 = .ok (.iload_n 2, 1) := by decide +kernel
theorem d_Registers_setPair_53 : decode b_Registers_setPair 53 = .ok (.sipush 255, 3) := by decide +kernel
theorem d_Registers_setPair_56 : decode b_Registers_setPair 56 = .ok (.iand, 1) := by decide +kernel
theorem d_Registers_setPair_57 : decode b_Registers_setPair 57 = .ok (.iastore, 1) := by decide +kernel
theorem d_Registers_setPair_58 : decode b_Registers_setPair 58 = .ok (.return_, 1) := by decide +kernel
theorem tw_53 : Jvm.Cond.code ⟨"ArcadeBoard$Registers", "setPair", "(II)V"⟩ prog_7_method_5_code 4 (Option.none : Option Jvm.ClassFile.FieldType) ∈ AL := ab_in (ab_t3 (List.mem_of_getElem? (i := 18) (by decide +kernel))) rfl
theorem tw_54 : Jvm.Cond.instanceMethod ⟨"ArcadeBoard$Registers", "setPair", "(II)V"⟩ ∈ AL := ab_in (ab_t3 (List.mem_of_getElem? (i := 16) (by decide +kernel))) rfl
theorem tw_55 : Jvm.Cond.selects "ArcadeBoard$Registers" ⟨"ArcadeBoard$Registers", "setPair", "(II)V"⟩ ⟨"ArcadeBoard$Registers", "setPair", "(II)V"⟩ ∈ AL := ab_in (ab_t3 (List.mem_of_getElem? (i := 17) (by decide +kernel))) rfl
theorem tw_56 : Jvm.Cond.constant "ArcadeBoard$Registers" 42 (65535 : Int32) ∈ AL := ab_in (ab_t3 (List.mem_of_getElem? (i := 19) (by decide +kernel))) rfl
theorem ok_Registers_setPair : ab_yok y_Registers_setPair b_Registers_setPair 4 none 2 := ⟨tw_53, tw_37, by decide, by decide, by decide +kernel⟩
theorem okv_Registers_setPair : ab_yok_V y_Registers_setPair := ⟨tw_54, tw_55⟩
set_option maxHeartbeats 1000000 in
set_option maxRecDepth 100000 in
theorem c_Registers_setPair (l : Launch) (D : va_G) (t : Nat → ClassId) (q : Nat → Nat) (u : SS) (x1 : Int32) (x2 : Int32) : ab_kv l D (tyC t) (wC t q) y_Registers_setPair b_Registers_setPair 4 { frames := 0, cells := 0, slots := 0, locals := 0 } [.ref (q 6), .int x1, .int x2] u (f_Registers_setPair u x1 x2) := by
  refine ab_kv_ofW (by decide) (Nat.le_of_ble_eq_true rfl) (fun p e s m below meth c ls A X hr hk hl hX => ?_)
  have hl : lv_has ls 4 [(0, .ref (q 6)), (1, .int x1), (2, .int x2)] := hl
  refine lv_iload_n (pc := 0) X.1 X.2.1 d_Registers_setPair_0 rfl (lv_at hl 1 rfl) ?_
  refine lv_iconst (pc := 1) (v := 3) X.1 X.2.1 d_Registers_setPair_1 (by decide) ?_
  refine lv_icmp_ne (pc := 2) (tgt := 19) X.1 X.2.1 d_Registers_setPair_2 (by decide) (fun h1 => ?_) (fun h1 => ?_)
  ·
    refine lv_iconst (pc := 19) (v := 2) X.1 X.2.1 d_Registers_setPair_19 (by decide) ?_
    refine lv_iload_n (pc := 20) X.1 X.2.1 d_Registers_setPair_20 rfl (lv_at hl 1 rfl) ?_
    refine lv_iconst (pc := 21) (v := 3) X.1 X.2.1 d_Registers_setPair_21 (by decide) ?_
    refine lv_iand (pc := 22) X.1 X.2.1 d_Registers_setPair_22 ?_
    refine lv_imul (pc := 23) X.1 X.2.1 d_Registers_setPair_23 ?_
    refine lv_istore_n (pc := 24) (lv' := [(3, .int (2 * (x1 &&& 3))), (0, .ref (q 6)), (1, .int x1), (2, .int x2)]) X.1 X.2.1 d_Registers_setPair_24 rfl hl (Nat.le_of_ble_eq_true rfl) rfl (fun ls hl => ?_)
    refine lv_aload_n (pc := 25) X.1 X.2.1 d_Registers_setPair_25 rfl (lv_at hl 1 rfl) ?_
    refine ab_gx (pc := 26) (v := .ref (q 1)) X hX 6 5 0 rfl rfl (Nat.le_of_ble_eq_true rfl) in_Registers rfl tw_40 rfl d_Registers_setPair_26 ?_
    refine ab_gx (pc := 29) (v := .ref (q 3)) X hX 1 7 1 rfl rfl (Nat.le_of_ble_eq_true rfl) in_State rfl tw_41 rfl d_Registers_setPair_29 ?_
    refine lv_iload_n (pc := 32) X.1 X.2.1 d_Registers_setPair_32 rfl (lv_at hl 0 rfl) ?_
    refine lv_iload_n (pc := 33) X.1 X.2.1 d_Registers_setPair_33 rfl (lv_at hl 3 rfl) ?_
    refine lv_bipush (pc := 34) (v := 8) X.1 X.2.1 d_Registers_setPair_34 (by decide) ?_
    refine lv_ishr (pc := 36) X.1 X.2.1 d_Registers_setPair_36 ?_
    refine lv_sipush (pc := 37) (v := 255) X.1 X.2.1 d_Registers_setPair_37 (by decide) ?_
    refine lv_iand (pc := 40) X.1 X.2.1 d_Registers_setPair_40 ?_
    refine ab_ast (pc := 41) (f := u 2) (j := (2 * (x1 &&& 3)).toNatClampNeg) (ws' := (wC t q (stt u 2 ((2 * (x1 &&& 3)).toNatClampNeg) ((x2 >>> ((8 : Int32) &&& 31)) &&& 255)))) X hX 3 0 rfl rfl (ab_in2 _) rfl (sa_wC_3 t q u ((2 * (x1 &&& 3)).toNatClampNeg) ((x2 >>> ((8 : Int32) &&& 31)) &&& 255)) d_Registers_setPair_41 (fun H locs hX => ?_)
    refine lv_aload_n (pc := 42) X.1 X.2.1 d_Registers_setPair_42 rfl (lv_at hl 1 rfl) ?_
    refine ab_gx (pc := 43) (v := .ref (q 1)) X hX 6 5 0 rfl rfl (Nat.le_of_ble_eq_true rfl) in_Registers rfl tw_40 rfl d_Registers_setPair_43 ?_
    refine ab_gx (pc := 46) (v := .ref (q 3)) X hX 1 7 1 rfl rfl (Nat.le_of_ble_eq_true rfl) in_State rfl tw_41 rfl d_Registers_setPair_46 ?_
    refine lv_iload_n (pc := 49) X.1 X.2.1 d_Registers_setPair_49 rfl (lv_at hl 0 rfl) ?_
    refine lv_iconst (pc := 50) (v := 1) X.1 X.2.1 d_Registers_setPair_50 (by decide) ?_
    refine lv_iadd (pc := 51) X.1 X.2.1 d_Registers_setPair_51 ?_
    refine lv_iload_n (pc := 52) X.1 X.2.1 d_Registers_setPair_52 rfl (lv_at hl 3 rfl) ?_
    refine lv_sipush (pc := 53) (v := 255) X.1 X.2.1 d_Registers_setPair_53 (by decide) ?_
    refine lv_iand (pc := 56) X.1 X.2.1 d_Registers_setPair_56 ?_
    refine ab_ast (pc := 57) (f := (stt u 2 ((2 * (x1 &&& 3)).toNatClampNeg) ((x2 >>> ((8 : Int32) &&& 31)) &&& 255)) 2) (j := ((2 * (x1 &&& 3)) + 1).toNatClampNeg) (ws' := (wC t q (stt (stt u 2 ((2 * (x1 &&& 3)).toNatClampNeg) ((x2 >>> ((8 : Int32) &&& 31)) &&& 255)) 2 (((2 * (x1 &&& 3)) + 1).toNatClampNeg) (x2 &&& 255)))) X hX 3 0 rfl rfl (ab_in21 _) rfl (sa_wC_3 t q (stt u 2 ((2 * (x1 &&& 3)).toNatClampNeg) ((x2 >>> ((8 : Int32) &&& 31)) &&& 255)) (((2 * (x1 &&& 3)) + 1).toNatClampNeg) (x2 &&& 255)) d_Registers_setPair_57 (fun H locs hX => ?_)
    exact ab_kv_ret (pc := 58) X hr hk hX (by rw [f_Registers_setPair, if_neg h1]) d_Registers_setPair_58
  ·
    refine lv_aload_n (pc := 5) X.1 X.2.1 d_Registers_setPair_5 rfl (lv_at hl 0 rfl) ?_
    refine ab_gx (pc := 6) (v := .ref (q 1)) X hX 6 5 0 rfl rfl (Nat.le_of_ble_eq_true rfl) in_Registers rfl tw_40 rfl d_Registers_setPair_6 ?_
    refine lv_iload_n (pc := 9) X.1 X.2.1 d_Registers_setPair_9 rfl (lv_at hl 2 rfl) ?_
    refine lv_ldc (pc := 10) (v := 65535) X.1 X.2.1 X.2.2.2.1 (X.2.2.2.2.1 _ tw_56) d_Registers_setPair_10 ?_
    refine lv_iand (pc := 12) X.1 X.2.1 d_Registers_setPair_12 ?_
    refine ab_px (pc := 13) (ws' := (wC t q (stt u 0 1 (x2 &&& 65535)))) X hX 1 7 3 ty_State ty_State_ok nm_State rfl rfl (Nat.le_of_ble_eq_true rfl) in_State rfl tw_42 rfl rfl rfl rfl (Nat.le_of_ble_eq_true rfl) (sf_wC_1_3 t q u (x2 &&& 65535)) d_Registers_setPair_13 (fun H locs hX => ?_)
    refine lv_goto (pc := 16) (tgt := 58) X.1 X.2.1 d_Registers_setPair_16 (by decide) ?_
    exact ab_kv_ret (pc := 58) X hr hk hX (by rw [f_Registers_setPair, if_pos h1]) d_Registers_setPair_58
