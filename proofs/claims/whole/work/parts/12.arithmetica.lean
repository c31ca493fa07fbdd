abbrev b_Arithmetic_carry : ByteArray := prog_2_method_2_code
def y_Arithmetic_carry : MethodName := ⟨"ArcadeBoard$Arithmetic", "carry", "()I"⟩
theorem d_Arithmetic_carry_0 : decode b_Arithmetic_carry 0 = .ok (.aload_n 0, 1) := by decide +kernel
theorem d_Arithmetic_carry_1 : decode b_Arithmetic_carry 1 = .ok (.getfield 9, 3) := by decide +kernel
theorem d_Arithmetic_carry_4 : decode b_Arithmetic_carry 4 = .ok (.getfield 15, 3) := by decide +kernel
theorem d_Arithmetic_carry_7 : decode b_Arithmetic_carry 7 = .ok (.iconst 1, 1) := by decide +kernel
theorem d_Arithmetic_carry_8 : decode b_Arithmetic_carry 8 = .ok (.iand, 1) := by decide +kernel
theorem d_Arithmetic_carry_9 : decode b_Arithmetic_carry 9 = .ok (.ireturn, 1) := by decide +kernel
theorem tw_57 : Jvm.Cond.code ⟨"ArcadeBoard$Arithmetic", "carry", "()I"⟩ prog_2_method_2_code 1 (Option.some Jvm.ClassFile.FieldType.int) ∈ AL := ab_in (ab_t3 (List.mem_of_getElem? (i := 60) (by decide +kernel))) rfl
theorem tw_58 : Jvm.Cond.initialized "ArcadeBoard$Arithmetic" ∈ AL := ab_in (ab_t1 (List.mem_of_getElem? (i := 9) (by decide +kernel))) rfl
theorem tw_59 : Jvm.Cond.instanceMethod ⟨"ArcadeBoard$Arithmetic", "carry", "()I"⟩ ∈ AL := ab_in (ab_t3 (List.mem_of_getElem? (i := 58) (by decide +kernel))) rfl
theorem tw_60 : Jvm.Cond.selects "ArcadeBoard$Arithmetic" ⟨"ArcadeBoard$Arithmetic", "carry", "()I"⟩ ⟨"ArcadeBoard$Arithmetic", "carry", "()I"⟩ ∈ AL := ab_in (ab_t3 (List.mem_of_getElem? (i := 59) (by decide +kernel))) rfl
theorem tw_61 : Jvm.Cond.fieldLink "ArcadeBoard$Arithmetic" 9 "ArcadeBoard$Arithmetic" "state" "LArcadeBoard$State;" ∈ AL := ab_in (ab_t1 (List.mem_of_getElem? (i := 207) (by decide +kernel))) rfl
theorem tw_62 : Jvm.Cond.fieldLink "ArcadeBoard$Arithmetic" 15 "ArcadeBoard$State" "flags" "I" ∈ AL := ab_in (ab_t1 (List.mem_of_getElem? (i := 39) (by decide +kernel))) rfl
theorem ok_Arithmetic_carry : ab_yok y_Arithmetic_carry b_Arithmetic_carry 1 (some .int) 0 := ⟨tw_57, tw_58, by decide, by decide, by decide +kernel⟩
theorem okv_Arithmetic_carry : ab_yok_V y_Arithmetic_carry := ⟨tw_59, tw_60⟩
set_option maxHeartbeats 1000000 in
set_option maxRecDepth 100000 in
theorem c_Arithmetic_carry (l : Launch) (D : va_G) (t : Nat → ClassId) (q : Nat → Nat) (u : SS) : ab_ki l D (tyC t) (wC t q) y_Arithmetic_carry b_Arithmetic_carry 1 .int { frames := 0, cells := 0, slots := 0, locals := 0 } [.ref (q 7)] u ((f_Arithmetic_carry u, u)) := by
  refine ab_ki_ofW (by decide) (Nat.le_of_ble_eq_true rfl) (fun p e s m below meth c ls A X hr hk hl hX => ?_)
  have hl : lv_has ls 1 [(0, .ref (q 7))] := hl
  refine lv_aload_n (pc := 0) X.1 X.2.1 d_Arithmetic_carry_0 rfl (lv_at hl 0 rfl) ?_
  refine ab_gx (pc := 1) (v := .ref (q 1)) X hX 7 0 0 rfl rfl (Nat.le_of_ble_eq_true rfl) in_Arithmetic rfl tw_61 rfl d_Arithmetic_carry_1 ?_
  refine ab_gx (pc := 4) (v := .int (u 0 0)) X hX 1 7 2 rfl rfl (Nat.le_of_ble_eq_true rfl) in_State rfl tw_62 rfl d_Arithmetic_carry_4 ?_
  refine lv_iconst (pc := 7) (v := 1) X.1 X.2.1 d_Arithmetic_carry_7 (by decide) ?_
  refine lv_iand (pc := 8) X.1 X.2.1 d_Arithmetic_carry_8 ?_
  exact ab_ki_ret (pc := 9) X hr hk hX rfl (by rw [f_Arithmetic_carry]) d_Arithmetic_carry_9
abbrev b_Arithmetic_setCarry : ByteArray := prog_2_method_3_code
def y_Arithmetic_setCarry : MethodName := ⟨"ArcadeBoard$Arithmetic", "setCarry", "(I)V"⟩
theorem d_Arithmetic_setCarry_0 : decode b_Arithmetic_setCarry 0 = .ok (.aload_n 0, 1) := by decide +kernel
theorem d_Arithmetic_setCarry_1 : decode b_Arithmetic_setCarry 1 = .ok (.getfield 9, 3) := by decide +kernel
theorem d_Arithmetic_setCarry_4 : decode b_Arithmetic_setCarry 4 = .ok (.aload_n 0, 1) := by decide +kernel
theorem d_Arithmetic_setCarry_5 : decode b_Arithmetic_setCarry 5 = .ok (.getfield 9, 3) := by decide +kernel
theorem d_Arithmetic_setCarry_8 : decode b_Arithmetic_setCarry 8 = .ok (.getfield 15, 3) := by decide +kernel
theorem d_Arithmetic_setCarry_11 : decode b_Arithmetic_setCarry 11 = .ok (.bipush (-2), 2) := by decide +kernel
theorem d_Arithmetic_setCarry_13 : decode b_Arithmetic_setCarry 13 = .ok (.iand, 1) := by decide +kernel
theorem d_Arithmetic_setCarry_14 : decode b_Arithmetic_setCarry 14 = .ok (.iload_n 1, 1) := by decide +kernel
theorem d_Arithmetic_setCarry_15 : decode b_Arithmetic_setCarry 15 = .ok (.iconst 1, 1) := by decide +kernel
theorem d_Arithmetic_setCarry_16 : decode b_Arithmetic_setCarry 16 = .ok (.iand, 1) := by decide +kernel
theorem d_Arithmetic_setCarry_17 : decode b_Arithmetic_setCarry 17 = .ok (.ior, 1) := by decide +kernel
theorem d_Arithmetic_setCarry_18 : decode b_Arithmetic_setCarry 18 = .ok (.putfield 15, 3) := by decide +kernel
theorem d_Arithmetic_setCarry_21 : decode b_Arithmetic_setCarry 21 = .ok (.return_, 1) := by decide +kernel
theorem tw_63 : Jvm.Cond.code ⟨"ArcadeBoard$Arithmetic", "setCarry", "(I)V"⟩ prog_2_method_3_code 2 (Option.none : Option Jvm.ClassFile.FieldType) ∈ AL := ab_in (ab_t3 (List.mem_of_getElem? (i := 28) (by decide +kernel))) rfl
theorem tw_64 : Jvm.Cond.instanceMethod ⟨"ArcadeBoard$Arithmetic", "setCarry", "(I)V"⟩ ∈ AL := ab_in (ab_t3 (List.mem_of_getElem? (i := 26) (by decide +kernel))) rfl
theorem tw_65 : Jvm.Cond.selects "ArcadeBoard$Arithmetic" ⟨"ArcadeBoard$Arithmetic", "setCarry", "(I)V"⟩ ⟨"ArcadeBoard$Arithmetic", "setCarry", "(I)V"⟩ ∈ AL := ab_in (ab_t3 (List.mem_of_getElem? (i := 27) (by decide +kernel))) rfl
theorem ok_Arithmetic_setCarry : ab_yok y_Arithmetic_setCarry b_Arithmetic_setCarry 2 none 1 := ⟨tw_63, tw_58, by decide, by decide, by decide +kernel⟩
theorem okv_Arithmetic_setCarry : ab_yok_V y_Arithmetic_setCarry := ⟨tw_64, tw_65⟩
set_option maxHeartbeats 1000000 in
set_option maxRecDepth 100000 in
theorem c_Arithmetic_setCarry (l : Launch) (D : va_G) (t : Nat → ClassId) (q : Nat → Nat) (u : SS) (x1 : Int32) : ab_kv l D (tyC t) (wC t q) y_Arithmetic_setCarry b_Arithmetic_setCarry 2 { frames := 0, cells := 0, slots := 0, locals := 0 } [.ref (q 7), .int x1] u (f_Arithmetic_setCarry u x1) := by
  refine ab_kv_ofW (by decide) (Nat.le_of_ble_eq_true rfl) (fun p e s m below meth c ls A X hr hk hl hX => ?_)
  have hl : lv_has ls 2 [(0, .ref (q 7)), (1, .int x1)] := hl
  refine lv_aload_n (pc := 0) X.1 X.2.1 d_Arithmetic_setCarry_0 rfl (lv_at hl 0 rfl) ?_
  refine ab_gx (pc := 1) (v := .ref (q 1)) X hX 7 0 0 rfl rfl (Nat.le_of_ble_eq_true rfl) in_Arithmetic rfl tw_61 rfl d_Arithmetic_setCarry_1 ?_
  refine lv_aload_n (pc := 4) X.1 X.2.1 d_Arithmetic_setCarry_4 rfl (lv_at hl 0 rfl) ?_
  refine ab_gx (pc := 5) (v := .ref (q 1)) X hX 7 0 0 rfl rfl (Nat.le_of_ble_eq_true rfl) in_Arithmetic rfl tw_61 rfl d_Arithmetic_setCarry_5 ?_
  refine ab_gx (pc := 8) (v := .int (u 0 0)) X hX 1 7 2 rfl rfl (Nat.le_of_ble_eq_true rfl) in_State rfl tw_62 rfl d_Arithmetic_setCarry_8 ?_
  refine lv_bipush (pc := 11) (v := (-2)) X.1 X.2.1 d_Arithmetic_setCarry_11 (by decide) ?_
  refine lv_iand (pc := 13) X.1 X.2.1 d_Arithmetic_setCarry_13 ?_
  refine lv_iload_n (pc := 14) X.1 X.2.1 d_Arithmetic_setCarry_14 rfl (lv_at hl 1 rfl) ?_
  refine lv_iconst (pc := 15) (v := 1) X.1 X.2.1 d_Arithmetic_setCarry_15 (by decide) ?_
  refine lv_iand (pc := 16) X.1 X.2.1 d_Arithmetic_setCarry_16 ?_
  refine lv_ior (pc := 17) X.1 X.2.1 d_Arithmetic_setCarry_17 ?_
  refine ab_px (pc := 18) (ws' := (wC t q (stt u 0 0 (((u 0 0) &&& (-2)) ||| (x1 &&& 1))))) X hX 1 7 2 ty_State ty_State_ok nm_State rfl rfl (Nat.le_of_ble_eq_true rfl) in_State rfl tw_62 rfl rfl rfl rfl (Nat.le_of_ble_eq_true rfl) (sf_wC_1_2 t q u (((u 0 0) &&& (-2)) ||| (x1 &&& 1))) d_Arithmetic_setCarry_18 (fun H locs hX => ?_)
  exact ab_kv_ret (pc := 21) X hr hk hX (by rw [f_Arithmetic_setCarry]) d_Arithmetic_setCarry_21
abbrev b_JI_bitCount : ByteArray := prog_15_method_49_code
def y_JI_bitCount : MethodName := ⟨"java/lang/Integer", "bitCount", "(I)I"⟩
theorem d_JI_bitCount_0 : decode b_JI_bitCount 0 = .ok (.iload_n 0, 1) := by decide +kernel
theorem d_JI_bitCount_1 : decode b_JI_bitCount 1 = .ok (.iload_n 0, 1) := by decide +kernel
theorem d_JI_bitCount_2 : decode b_JI_bitCount 2 = .ok (.iconst 1, 1) := by decide +kernel
theorem d_JI_bitCount_3 : decode b_JI_bitCount 3 = .ok (.iushr, 1) := by decide +kernel
theorem d_JI_bitCount_4 : decode b_JI_bitCount 4 = .ok (.ldc_w 265, 3) := by decide +kernel
theorem d_JI_bitCount_7 : decode b_JI_bitCount 7 = .ok (.iand, 1) := by decide +kernel
theorem d_JI_bitCount_8 : decode b_JI_bitCount 8 = .ok (.isub, 1) := by decide +kernel
theorem d_JI_bitCount_9 : decode b_JI_bitCount 9 = .ok (.istore_n 0, 1) := by decide +kernel
theorem d_JI_bitCount_10 : decode b_JI_bitCount 10 = .ok (.iload_n 0, 1) := by decide +kernel
theorem d_JI_bitCount_11 : decode b_JI_bitCount 11 = .ok (.ldc_w 266, 3) := by decide +kernel
theorem d_JI_bitCount_14 : decode b_JI_bitCount 14 = .ok (.iand, 1) := by decide +kernel
theorem d_JI_bitCount_15 : decode b_JI_bitCount 15 = .ok (.iload_n 0, 1) := by decide +kernel
theorem d_JI_bitCount_16 : decode b_JI_bitCount 16 = .ok (.iconst 2, 1) := by decide +kernel
theorem d_JI_bitCount_17 : decode b_JI_bitCount 17 = .ok (.iushr, 1) := by decide +kernel
theorem d_JI_bitCount_18 : decode b_JI_bitCount 18 = .ok (.ldc_w 266, 3) := by decide +kernel
theorem d_JI_bitCount_21 : decode b_JI_bitCount 21 = .ok (.iand, 1) := by decide +kernel
theorem d_JI_bitCount_22 : decode b_JI_bitCount 22 = .ok (.iadd, 1) := by decide +kernel
theorem d_JI_bitCount_23 : decode b_JI_bitCount 23 = .ok (.istore_n 0, 1) := by decide +kernel
theorem d_JI_bitCount_24 : decode b_JI_bitCount 24 = .ok (.iload_n 0, 1) := by decide +kernel
theorem d_JI_bitCount_25 : decode b_JI_bitCount 25 = .ok (.iload_n 0, 1) := by decide +kernel
theorem d_JI_bitCount_26 : decode b_JI_bitCount 26 = .ok (.iconst 4, 1) := by decide +kernel
theorem d_JI_bitCount_27 : decode b_JI_bitCount 27 = .ok (.iushr, 1) := by decide +kernel
theorem d_JI_bitCount_28 : decode b_JI_bitCount 28 = .ok (.iadd, 1) := by decide +kernel
theorem d_JI_bitCount_29 : decode b_JI_bitCount 29 = .ok (.ldc_w 267, 3) := by decide +kernel
theorem d_JI_bitCount_32 : decode b_JI_bitCount 32 = .ok (.iand, 1) := by decide +kernel
theorem d_JI_bitCount_33 : decode b_JI_bitCount 33 = .ok (.istore_n 0, 1) := by decide +kernel
theorem d_JI_bitCount_34 : decode b_JI_bitCount 34 = .ok (.iload_n 0, 1) := by decide +kernel
theorem d_JI_bitCount_35 : decode b_JI_bitCount 35 = .ok (.iload_n 0, 1) := by decide +kernel
theorem d_JI_bitCount_36 : decode b_JI_bitCount 36 = .ok (.bipush 8, 2) := by decide +kernel
theorem d_JI_bitCount_38 : decode b_JI_bitCount 38 = .ok (.iushr, 1) := by decide +kernel
theorem d_JI_bitCount_39 : decode b_JI_bitCount 39 = .ok (.iadd, 1) := by decide +kernel
theorem d_JI_bitCount_40 : decode b_JI_bitCount 40 = .ok (.istore_n 0, 1) := by decide +kernel
theorem d_JI_bitCount_41 : decode b_JI_bitCount 41 = .ok (.iload_n 0, 1) := by decide +kernel
theorem d_JI_bitCount_42 : decode b_JI_bitCount 42 = .ok (.iload_n 0, 1) := by decide +kernel
theorem d_JI_bitCount_43 : decode b_JI_bitCount 43 = .ok (.bipush 16, 2) := by decide +kernel
theorem d_JI_bitCount_45 : decode b_JI_bitCount 45 = .ok (.iushr, 1) := by decide +kernel
theorem d_JI_bitCount_46 : decode b_JI_bitCount 46 = .ok (.iadd, 1) := by decide +kernel
theorem d_JI_bitCount_47 : decode b_JI_bitCount 47 = .ok (.istore_n 0, 1) := by decide +kernel
theorem d_JI_bitCount_48 : decode b_JI_bitCount 48 = .ok (.iload_n 0, 1) := by decide +kernel
theorem d_JI_bitCount_49 : decode b_JI_bitCount 49 = .ok (.bipush 63, 2) := by decide +kernel
theorem d_JI_bitCount_51 : decode b_JI_bitCount 51 = .ok (.iand, 1) := by decide +kernel
theorem d_JI_bitCount_52 : decode b_JI_bitCount 52 = .ok (.ireturn, 1) := by decide +kernel
theorem tw_66 : Jvm.Cond.code ⟨"java/lang/Integer", "bitCount", "(I)I"⟩ prog_15_method_49_code 1 (Option.some Jvm.ClassFile.FieldType.int) ∈ AL := ab_in (ab_t3 (List.mem_of_getElem? (i := 53) (by decide +kernel))) rfl
theorem tw_67 : Jvm.Cond.initialized "java/lang/Integer" ∈ AL := ab_in (ab_t1 (List.mem_of_getElem? (i := 16) (by decide +kernel))) rfl
theorem tw_68 : Jvm.Cond.static ⟨"java/lang/Integer", "bitCount", "(I)I"⟩ ∈ AL := ab_in (ab_t3 (List.mem_of_getElem? (i := 52) (by decide +kernel))) rfl
theorem tw_69 : Jvm.Cond.constant "java/lang/Integer" 265 (1431655765 : Int32) ∈ AL := ab_in (ab_t3 (List.mem_of_getElem? (i := 54) (by decide +kernel))) rfl
theorem tw_70 : Jvm.Cond.constant "java/lang/Integer" 266 (858993459 : Int32) ∈ AL := ab_in (ab_t3 (List.mem_of_getElem? (i := 55) (by decide +kernel))) rfl
theorem tw_71 : Jvm.Cond.constant "java/lang/Integer" 267 (252645135 : Int32) ∈ AL := ab_in (ab_t3 (List.mem_of_getElem? (i := 56) (by decide +kernel))) rfl
theorem ok_JI_bitCount : ab_yok y_JI_bitCount b_JI_bitCount 1 (some .int) 1 := ⟨tw_66, tw_67, by decide, by decide, by decide +kernel⟩
theorem oks_JI_bitCount : Cond.static y_JI_bitCount ∈ AL := tw_68
set_option maxHeartbeats 1000000 in
set_option maxRecDepth 100000 in
theorem c_JI_bitCount (l : Launch) (D : va_G) (t : Nat → ClassId) (q : Nat → Nat) (u : SS) (x1 : Int32) : ab_ki l D (tyC t) (wC t q) y_JI_bitCount b_JI_bitCount 1 .int { frames := 0, cells := 0, slots := 0, locals := 0 } [.int x1] u ((f_JI_bitCount u x1, u)) := by
  refine ab_ki_ofW (by decide) (Nat.le_of_ble_eq_true rfl) (fun p e s m below meth c ls A X hr hk hl hX => ?_)
  have hl : lv_has ls 1 [(0, .int x1)] := hl
  refine lv_iload_n (pc := 0) X.1 X.2.1 d_JI_bitCount_0 rfl (lv_at hl 0 rfl) ?_
  refine lv_iload_n (pc := 1) X.1 X.2.1 d_JI_bitCount_1 rfl (lv_at hl 0 rfl) ?_
  refine lv_iconst (pc := 2) (v := 1) X.1 X.2.1 d_JI_bitCount_2 (by decide) ?_
  refine lv_iushr (pc := 3) X.1 X.2.1 d_JI_bitCount_3 rfl ?_
  refine lv_ldcw (pc := 4) (v := 1431655765) X.1 X.2.1 X.2.2.2.1 (X.2.2.2.2.1 _ tw_69) d_JI_bitCount_4 ?_
  refine lv_iand (pc := 7) X.1 X.2.1 d_JI_bitCount_7 ?_
  refine lv_isub (pc := 8) X.1 X.2.1 d_JI_bitCount_8 ?_
  refine lv_istore_n (pc := 9) (lv' := [(0, .int (x1 - (((x1.toUInt32 >>> ((1 : Int32).toUInt32 &&& Int32.toUInt32 31)).toInt32) &&& 1431655765)))]) X.1 X.2.1 d_JI_bitCount_9 rfl hl (Nat.le_of_ble_eq_true rfl) rfl (fun ls hl => ?_)
  refine lv_iload_n (pc := 10) X.1 X.2.1 d_JI_bitCount_10 rfl (lv_at hl 0 rfl) ?_
  refine lv_ldcw (pc := 11) (v := 858993459) X.1 X.2.1 X.2.2.2.1 (X.2.2.2.2.1 _ tw_70) d_JI_bitCount_11 ?_
  refine lv_iand (pc := 14) X.1 X.2.1 d_JI_bitCount_14 ?_
  refine lv_iload_n (pc := 15) X.1 X.2.1 d_JI_bitCount_15 rfl (lv_at hl 0 rfl) ?_
  refine lv_iconst (pc := 16) (v := 2) X.1 X.2.1 d_JI_bitCount_16 (by decide) ?_
  refine lv_iushr (pc := 17) X.1 X.2.1 d_JI_bitCount_17 rfl ?_
  refine lv_ldcw (pc := 18) (v := 858993459) X.1 X.2.1 X.2.2.2.1 (X.2.2.2.2.1 _ tw_70) d_JI_bitCount_18 ?_
  refine lv_iand (pc := 21) X.1 X.2.1 d_JI_bitCount_21 ?_
  refine lv_iadd (pc := 22) X.1 X.2.1 d_JI_bitCount_22 ?_
  refine lv_istore_n (pc := 23) (lv' := [(0, .int (((x1 - (((x1.toUInt32 >>> ((1 : Int32).toUInt32 &&& Int32.toUInt32 31)).toInt32) &&& 1431655765)) &&& 858993459) + ((((x1 - (((x1.toUInt32 >>> ((1 : Int32).toUInt32 &&& Int32.toUInt32 31)).toInt32) &&& 1431655765)).toUInt32 >>> ((2 : Int32).toUInt32 &&& Int32.toUInt32 31)).toInt32) &&& 858993459)))]) X.1 X.2.1 d_JI_bitCount_23 rfl hl (Nat.le_of_ble_eq_true rfl) rfl (fun ls hl => ?_)
  refine lv_iload_n (pc := 24) X.1 X.2.1 d_JI_bitCount_24 rfl (lv_at hl 0 rfl) ?_
  refine lv_iload_n (pc := 25) X.1 X.2.1 d_JI_bitCount_25 rfl (lv_at hl 0 rfl) ?_
  refine lv_iconst (pc := 26) (v := 4) X.1 X.2.1 d_JI_bitCount_26 (by decide) ?_
  refine lv_iushr (pc := 27) X.1 X.2.1 d_JI_bitCount_27 rfl ?_
  refine lv_iadd (pc := 28) X.1 X.2.1 d_JI_bitCount_28 ?_
  refine lv_ldcw (pc := 29) (v := 252645135) X.1 X.2.1 X.2.2.2.1 (X.2.2.2.2.1 _ tw_71) d_JI_bitCount_29 ?_
  refine lv_iand (pc := 32) X.1 X.2.1 d_JI_bitCount_32 ?_
  refine lv_istore_n (pc := 33) (lv' := [(0, .int (((((x1 - (((x1.toUInt32 >>> ((1 : Int32).toUInt32 &&& Int32.toUInt32 31)).toInt32) &&& 1431655765)) &&& 858993459) + ((((x1 - (((x1.toUInt32 >>> ((1 : Int32).toUInt32 &&& Int32.toUInt32 31)).toInt32) &&& 1431655765)).toUInt32 >>> ((2 : Int32).toUInt32 &&& Int32.toUInt32 31)).toInt32) &&& 858993459)) + (((((x1 - (((x1.toUInt32 >>> ((1 : Int32).toUInt32 &&& Int32.toUInt32 31)).toInt32) &&& 1431655765)) &&& 858993459) + ((((x1 - (((x1.toUInt32 >>> ((1 : Int32).toUInt32 &&& Int32.toUInt32 31)).toInt32) &&& 1431655765)).toUInt32 >>> ((2 : Int32).toUInt32 &&& Int32.toUInt32 31)).toInt32) &&& 858993459)).toUInt32 >>> ((4 : Int32).toUInt32 &&& Int32.toUInt32 31)).toInt32)) &&& 252645135))]) X.1 X.2.1 d_JI_bitCount_33 rfl hl (Nat.le_of_ble_eq_true rfl) rfl (fun ls hl => ?_)
  refine lv_iload_n (pc := 34) X.1 X.2.1 d_JI_bitCount_34 rfl (lv_at hl 0 rfl) ?_
  refine lv_iload_n (pc := 35) X.1 X.2.1 d_JI_bitCount_35 rfl (lv_at hl 0 rfl) ?_
  refine lv_bipush (pc := 36) (v := 8) X.1 X.2.1 d_JI_bitCount_36 (by decide) ?_
  refine lv_iushr (pc := 38) X.1 X.2.1 d_JI_bitCount_38 rfl ?_
  refine lv_iadd (pc := 39) X.1 X.2.1 d_JI_bitCount_39 ?_
  refine lv_istore_n (pc := 40) (lv' := [(0, .int ((((((x1 - (((x1.toUInt32 >>> ((1 : Int32).toUInt32 &&& Int32.toUInt32 31)).toInt32) &&& 1431655765)) &&& 858993459) + ((((x1 - (((x1.toUInt32 >>> ((1 : Int32).toUInt32 &&& Int32.toUInt32 31)).toInt32) &&& 1431655765)).toUInt32 >>> ((2 : Int32).toUInt32 &&& Int32.toUInt32 31)).toInt32) &&& 858993459)) + (((((x1 - (((x1.toUInt32 >>> ((1 : Int32).toUInt32 &&& Int32.toUInt32 31)).toInt32) &&& 1431655765)) &&& 858993459) + ((((x1 - (((x1.toUInt32 >>> ((1 : Int32).toUInt32 &&& Int32.toUInt32 31)).toInt32) &&& 1431655765)).toUInt32 >>> ((2 : Int32).toUInt32 &&& Int32.toUInt32 31)).toInt32) &&& 858993459)).toUInt32 >>> ((4 : Int32).toUInt32 &&& Int32.toUInt32 31)).toInt32)) &&& 252645135) + (((((((x1 - (((x1.toUInt32 >>> ((1 : Int32).toUInt32 &&& Int32.toUInt32 31)).toInt32) &&& 1431655765)) &&& 858993459) + ((((x1 - (((x1.toUInt32 >>> ((1 : Int32).toUInt32 &&& Int32.toUInt32 31)).toInt32) &&& 1431655765)).toUInt32 >>> ((2 : Int32).toUInt32 &&& Int32.toUInt32 31)).toInt32) &&& 858993459)) + (((((x1 - (((x1.toUInt32 >>> ((1 : Int32).toUInt32 &&& Int32.toUInt32 31)).toInt32) &&& 1431655765)) &&& 858993459) + ((((x1 - (((x1.toUInt32 >>> ((1 : Int32).toUInt32 &&& Int32.toUInt32 31)).toInt32) &&& 1431655765)).toUInt32 >>> ((2 : Int32).toUInt32 &&& Int32.toUInt32 31)).toInt32) &&& 858993459)).toUInt32 >>> ((4 : Int32).toUInt32 &&& Int32.toUInt32 31)).toInt32)) &&& 252645135).toUInt32 >>> ((8 : Int32).toUInt32 &&& Int32.toUInt32 31)).toInt32)))]) X.1 X.2.1 d_JI_bitCount_40 rfl hl (Nat.le_of_ble_eq_true rfl) rfl (fun ls hl => ?_)
  refine lv_iload_n (pc := 41) X.1 X.2.1 d_JI_bitCount_41 rfl (lv_at hl 0 rfl) ?_
  refine lv_iload_n (pc := 42) X.1 X.2.1 d_JI_bitCount_42 rfl (lv_at hl 0 rfl) ?_
  refine lv_bipush (pc := 43) (v := 16) X.1 X.2.1 d_JI_bitCount_43 (by decide) ?_
  refine lv_iushr (pc := 45) X.1 X.2.1 d_JI_bitCount_45 rfl ?_
  refine lv_iadd (pc := 46) X.1 X.2.1 d_JI_bitCount_46 ?_
  refine lv_istore_n (pc := 47) (lv' := [(0, .int (((((((x1 - (((x1.toUInt32 >>> ((1 : Int32).toUInt32 &&& Int32.toUInt32 31)).toInt32) &&& 1431655765)) &&& 858993459) + ((((x1 - (((x1.toUInt32 >>> ((1 : Int32).toUInt32 &&& Int32.toUInt32 31)).toInt32) &&& 1431655765)).toUInt32 >>> ((2 : Int32).toUInt32 &&& Int32.toUInt32 31)).toInt32) &&& 858993459)) + (((((x1 - (((x1.toUInt32 >>> ((1 : Int32).toUInt32 &&& Int32.toUInt32 31)).toInt32) &&& 1431655765)) &&& 858993459) + ((((x1 - (((x1.toUInt32 >>> ((1 : Int32).toUInt32 &&& Int32.toUInt32 31)).toInt32) &&& 1431655765)).toUInt32 >>> ((2 : Int32).toUInt32 &&& Int32.toUInt32 31)).toInt32) &&& 858993459)).toUInt32 >>> ((4 : Int32).toUInt32 &&& Int32.toUInt32 31)).toInt32)) &&& 252645135) + (((((((x1 - (((x1.toUInt32 >>> ((1 : Int32).toUInt32 &&& Int32.toUInt32 31)).toInt32) &&& 1431655765)) &&& 858993459) + ((((x1 - (((x1.toUInt32 >>> ((1 : Int32).toUInt32 &&& Int32.toUInt32 31)).toInt32) &&& 1431655765)).toUInt32 >>> ((2 : Int32).toUInt32 &&& Int32.toUInt32 31)).toInt32) &&& 858993459)) + (((((x1 - (((x1.toUInt32 >>> ((1 : Int32).toUInt32 &&& Int32.toUInt32 31)).toInt32) &&& 1431655765)) &&& 858993459) + ((((x1 - (((x1.toUInt32 >>> ((1 : Int32).toUInt32 &&& Int32.toUInt32 31)).toInt32) &&& 1431655765)).toUInt32 >>> ((2 : Int32).toUInt32 &&& Int32.toUInt32 31)).toInt32) &&& 858993459)).toUInt32 >>> ((4 : Int32).toUInt32 &&& Int32.toUInt32 31)).toInt32)) &&& 252645135).toUInt32 >>> ((8 : Int32).toUInt32 &&& Int32.toUInt32 31)).toInt32)) + ((((((((x1 - (((x1.toUInt32 >>> ((1 : Int32).toUInt32 &&& Int32.toUInt32 31)).toInt32) &&& 1431655765)) &&& 858993459) + ((((x1 - (((x1.toUInt32 >>> ((1 : Int32).toUInt32 &&& Int32.toUInt32 31)).toInt32) &&& 1431655765)).toUInt32 >>> ((2 : Int32).toUInt32 &&& Int32.toUInt32 31)).toInt32) &&& 858993459)) + (((((x1 - (((x1.toUInt32 >>> ((1 : Int32).toUInt32 &&& Int32.toUInt32 31)).toInt32) &&& 1431655765)) &&& 858993459) + ((((x1 - (((x1.toUInt32 >>> ((1 : Int32).toUInt32 &&& Int32.toUInt32 31)).toInt32) &&& 1431655765)).toUInt32 >>> ((2 : Int32).toUInt32 &&& Int32.toUInt32 31)).toInt32) &&& 858993459)).toUInt32 >>> ((4 : Int32).toUInt32 &&& Int32.toUInt32 31)).toInt32)) &&& 252645135) + (((((((x1 - (((x1.toUInt32 >>> ((1 : Int32).toUInt32 &&& Int32.toUInt32 31)).toInt32) &&& 1431655765)) &&& 858993459) + ((((x1 - (((x1.toUInt32 >>> ((1 : Int32).toUInt32 &&& Int32.toUInt32 31)).toInt32) &&& 1431655765)).toUInt32 >>> ((2 : Int32).toUInt32 &&& Int32.toUInt32 31)).toInt32) &&& 858993459)) + (((((x1 - (((x1.toUInt32 >>> ((1 : Int32).toUInt32 &&& Int32.toUInt32 31)).toInt32) &&& 1431655765)) &&& 858993459) + ((((x1 - (((x1.toUInt32 >>> ((1 : Int32).toUInt32 &&& Int32.toUInt32 31)).toInt32) &&& 1431655765)).toUInt32 >>> ((2 : Int32).toUInt32 &&& Int32.toUInt32 31)).toInt32) &&& 858993459)).toUInt32 >>> ((4 : Int32).toUInt32 &&& Int32.toUInt32 31)).toInt32)) &&& 252645135).toUInt32 >>> ((8 : Int32).toUInt32 &&& Int32.toUInt32 31)).toInt32)).toUInt32 >>> ((16 : Int32).toUInt32 &&& Int32.toUInt32 31)).toInt32)))]) X.1 X.2.1 d_JI_bitCount_47 rfl hl (Nat.le_of_ble_eq_true rfl) rfl (fun ls hl => ?_)
  refine lv_iload_n (pc := 48) X.1 X.2.1 d_JI_bitCount_48 rfl (lv_at hl 0 rfl) ?_
  refine lv_bipush (pc := 49) (v := 63) X.1 X.2.1 d_JI_bitCount_49 (by decide) ?_
  refine lv_iand (pc := 51) X.1 X.2.1 d_JI_bitCount_51 ?_
  exact ab_ki_ret (pc := 52) X hr hk hX rfl (by rw [f_JI_bitCount]) d_JI_bitCount_52
abbrev b_Arithmetic_resultFlags : ByteArray := prog_2_method_14_code
def y_Arithmetic_resultFlags : MethodName := ⟨"ArcadeBoard$Arithmetic", "resultFlags", "(I)I"⟩
theorem d_Arithmetic_resultFlags_0 : decode b_Arithmetic_resultFlags 0 = .ok (.iload_n 0, 1) := by decide +kernel
theorem d_Arithmetic_resultFlags_1 : decode b_Arithmetic_resultFlags 1 = .ok (.ifCond .ne 8, 3) := by decide +kernel
theorem d_Arithmetic_resultFlags_4 : decode b_Arithmetic_resultFlags 4 = .ok (.bipush 64, 2) := by decide +kernel
theorem d_Arithmetic_resultFlags_6 : decode b_Arithmetic_resultFlags 6 = .ok (.goto 4, 3) := by decide +kernel
theorem d_Arithmetic_resultFlags_9 : decode b_Arithmetic_resultFlags 9 = .ok (.iconst 0, 1) := by decide +kernel
theorem d_Arithmetic_resultFlags_10 : decode b_Arithmetic_resultFlags 10 = .ok (.istore_n 1, 1) := by decide +kernel
theorem d_Arithmetic_resultFlags_11 : decode b_Arithmetic_resultFlags 11 = .ok (.iload_n 0, 1) := by decide +kernel
theorem d_Arithmetic_resultFlags_12 : decode b_Arithmetic_resultFlags 12 = .ok (.invokestatic 52, 3) := by decide +kernel
theorem d_Arithmetic_resultFlags_15 : decode b_Arithmetic_resultFlags 15 = .ok (.iconst 1, 1) := by decide +kernel
theorem d_Arithmetic_resultFlags_16 : decode b_Arithmetic_resultFlags 16 = .ok (.iand, 1) := by decide +kernel
theorem d_Arithmetic_resultFlags_17 : decode b_Arithmetic_resultFlags 17 = .ok (.ifCond .ne 7, 3) := by decide +kernel
theorem d_Arithmetic_resultFlags_20 : decode b_Arithmetic_resultFlags 20 = .ok (.iconst 4, 1) := by decide +kernel
theorem d_Arithmetic_resultFlags_21 : decode b_Arithmetic_resultFlags 21 = .ok (.goto 4, 3) := by decide +kernel
theorem d_Arithmetic_resultFlags_24 : decode b_Arithmetic_resultFlags 24 = .ok (.iconst 0, 1) := by decide +kernel
theorem d_Arithmetic_resultFlags_25 : decode b_Arithmetic_resultFlags 25 = .ok (.istore_n 2, 1) := by decide +kernel
theorem d_Arithmetic_resultFlags_26 : decode b_Arithmetic_resultFlags 26 = .ok (.iload_n 0, 1) := by decide +kernel
theorem d_Arithmetic_resultFlags_27 : decode b_Arithmetic_resultFlags 27 = .ok (.sipush 128, 3) := by decide +kernel
theorem d_Arithmetic_resultFlags_30 : decode b_Arithmetic_resultFlags 30 = .ok (.iand, 1) := by decide +kernel
theorem d_Arithmetic_resultFlags_31 : decode b_Arithmetic_resultFlags 31 = .ok (.iload_n 1, 1) := by decide +kernel
theorem d_Arithmetic_resultFlags_32 : decode b_Arithmetic_resultFlags 32 = .ok (.ior, 1) := by decide +kernel
theorem d_Arithmetic_resultFlags_33 : decode b_Arithmetic_resultFlags 33 = .ok (.iload_n 2, 1) := by decide +kernel
theorem d_Arithmetic_resultFlags_34 : decode b_Arithmetic_resultFlags 34 = .ok (.ior, 1) := by decide +kernel
theorem d_Arithmetic_resultFlags_35 : decode b_Arithmetic_resultFlags 35 = .ok (.iconst 2, 1) := by decide +kernel
theorem d_Arithmetic_resultFlags_36 : decode b_Arithmetic_resultFlags 36 = .ok (.ior, 1) := by decide +kernel
theorem d_Arithmetic_resultFlags_37 : decode b_Arithmetic_resultFlags 37 = .ok (.ireturn, 1) := by decide +kernel
theorem tw_72 : Jvm.Cond.code ⟨"ArcadeBoard$Arithmetic", "resultFlags", "(I)I"⟩ prog_2_method_14_code 3 (Option.some Jvm.ClassFile.FieldType.int) ∈ AL := ab_in (ab_t3 (List.mem_of_getElem? (i := 50) (by decide +kernel))) rfl
theorem tw_73 : Jvm.Cond.static ⟨"ArcadeBoard$Arithmetic", "resultFlags", "(I)I"⟩ ∈ AL := ab_in (ab_t3 (List.mem_of_getElem? (i := 49) (by decide +kernel))) rfl
theorem tw_74 : Jvm.Cond.methodLink "ArcadeBoard$Arithmetic" 52 ⟨"java/lang/Integer", "bitCount", "(I)I"⟩ ∈ AL := ab_in (ab_t3 (List.mem_of_getElem? (i := 51) (by decide +kernel))) rfl
theorem ok_Arithmetic_resultFlags : ab_yok y_Arithmetic_resultFlags b_Arithmetic_resultFlags 3 (some .int) 1 := ⟨tw_72, tw_58, by decide, by decide, by decide +kernel⟩
theorem oks_Arithmetic_resultFlags : Cond.static y_Arithmetic_resultFlags ∈ AL := tw_73
set_option maxHeartbeats 1000000 in
set_option maxRecDepth 100000 in
theorem c_Arithmetic_resultFlags (l : Launch) (D : va_G) (t : Nat → ClassId) (q : Nat → Nat) (u : SS) (x1 : Int32) : ab_ki l D (tyC t) (wC t q) y_Arithmetic_resultFlags b_Arithmetic_resultFlags 3 .int { frames := 1, cells := 0, slots := 0, locals := 20 } [.int x1] u ((f_Arithmetic_resultFlags u x1, u)) := by
  refine ab_ki_ofW (by decide) (Nat.le_of_ble_eq_true rfl) (fun p e s m below meth c ls A X hr hk hl hX => ?_)
  have hl : lv_has ls 3 [(0, .int x1)] := hl
  refine lv_iload_n (pc := 0) X.1 X.2.1 d_Arithmetic_resultFlags_0 rfl (lv_at hl 0 rfl) ?_
  refine ab_jn (ls := ls) (rest := []) 10 (if x1 = 0 then 64 else 0 : Int32) ?_ (fun J => ?_)
  rotate_left
  ·
    refine lv_if_ne (pc := 1) (tgt := 9) X.1 X.2.1 d_Arithmetic_resultFlags_1 (by decide) (fun h1 => ?_) (fun h1 => ?_)
    ·
      refine lv_iconst (pc := 9) (v := 0) X.1 X.2.1 d_Arithmetic_resultFlags_9 (by decide) ?_
      exact ab_jt (by rw [if_neg h1]) J
    ·
      refine lv_bipush (pc := 4) (v := 64) X.1 X.2.1 d_Arithmetic_resultFlags_4 (by decide) ?_
      refine lv_goto (pc := 6) (tgt := 10) X.1 X.2.1 d_Arithmetic_resultFlags_6 (by decide) ?_
      exact ab_jt (by rw [if_pos h1]) J
  refine lv_istore_n (pc := 10) (lv' := [(1, .int (if x1 = 0 then 64 else 0 : Int32)), (0, .int x1)]) X.1 X.2.1 d_Arithmetic_resultFlags_10 rfl hl (Nat.le_of_ble_eq_true rfl) rfl (fun ls hl => ?_)
  refine lv_iload_n (pc := 11) X.1 X.2.1 d_Arithmetic_resultFlags_11 rfl (lv_at hl 1 rfl) ?_
  refine ab_kr_callS (pc := 12) (wr := []) (w := (wC t q)) (u := u) (r := f_JI_bitCount u x1) (as := [.int x1]) (rest := []) X hX (c_JI_bitCount l D t q u x1) ok_JI_bitCount oks_JI_bitCount tw_74 rfl hl.1 rfl (Nat.le_of_ble_eq_true rfl) ⟨rfl, rfl, Nat.le_of_ble_eq_true rfl, Nat.le_of_ble_eq_true rfl⟩ ⟨Nat.zero_le _, Nat.zero_le _⟩ d_Arithmetic_resultFlags_12 (fun H locs hX => ?_)
  refine lv_iconst (pc := 15) (v := 1) X.1 X.2.1 d_Arithmetic_resultFlags_15 (by decide) ?_
  refine lv_iand (pc := 16) X.1 X.2.1 d_Arithmetic_resultFlags_16 ?_
  refine ab_jn (ls := ls) (rest := []) 25 (if ((f_JI_bitCount u x1) &&& 1) = 0 then 4 else 0 : Int32) ?_ (fun J => ?_)
  rotate_left
  ·
    refine lv_if_ne (pc := 17) (tgt := 24) X.1 X.2.1 d_Arithmetic_resultFlags_17 (by decide) (fun h2 => ?_) (fun h2 => ?_)
    ·
      refine lv_iconst (pc := 24) (v := 0) X.1 X.2.1 d_Arithmetic_resultFlags_24 (by decide) ?_
      exact ab_jt (by rw [if_neg h2]) J
    ·
      refine lv_iconst (pc := 20) (v := 4) X.1 X.2.1 d_Arithmetic_resultFlags_20 (by decide) ?_
      refine lv_goto (pc := 21) (tgt := 25) X.1 X.2.1 d_Arithmetic_resultFlags_21 (by decide) ?_
      exact ab_jt (by rw [if_pos h2]) J
  refine lv_istore_n (pc := 25) (lv' := [(2, .int (if ((f_JI_bitCount u x1) &&& 1) = 0 then 4 else 0 : Int32)), (1, .int (if x1 = 0 then 64 else 0 : Int32)), (0, .int x1)]) X.1 X.2.1 d_Arithmetic_resultFlags_25 rfl hl (Nat.le_of_ble_eq_true rfl) rfl (fun ls hl => ?_)
  refine lv_iload_n (pc := 26) X.1 X.2.1 d_Arithmetic_resultFlags_26 rfl (lv_at hl 2 rfl) ?_
  refine lv_sipush (pc := 27) (v := 128) X.1 X.2.1 d_Arithmetic_resultFlags_27 (by decide) ?_
  refine lv_iand (pc := 30) X.1 X.2.1 d_Arithmetic_resultFlags_30 ?_
  refine lv_iload_n (pc := 31) X.1 X.2.1 d_Arithmetic_resultFlags_31 rfl (lv_at hl 1 rfl) ?_
  refine lv_ior (pc := 32) X.1 X.2.1 d_Arithmetic_resultFlags_32 ?_
  refine lv_iload_n (pc := 33) X.1 X.2.1 d_Arithmetic_resultFlags_33 rfl (lv_at hl 0 rfl) ?_
  refine lv_ior (pc := 34) X.1 X.2.1 d_Arithmetic_resultFlags_34 ?_
  refine lv_iconst (pc := 35) (v := 2) X.1 X.2.1 d_Arithmetic_resultFlags_35 (by decide) ?_
  refine lv_ior (pc := 36) X.1 X.2.1 d_Arithmetic_resultFlags_36 ?_
  exact ab_ki_ret (pc := 37) X hr hk hX rfl (by rw [f_Arithmetic_resultFlags]) d_Arithmetic_resultFlags_37
abbrev b_Arithmetic_sum : ByteArray := prog_2_method_11_code
def y_Arithmetic_sum : MethodName := ⟨"ArcadeBoard$Arithmetic", "sum", "(III)I"⟩
theorem d_Arithmetic_sum_0 : decode b_Arithmetic_sum 0 = .ok (.iload_n 1, 1) := by decide +kernel
theorem d_Arithmetic_sum_1 : decode b_Arithmetic_sum 1 = .ok (.iload_n 2, 1) := by decide +kernel
theorem d_Arithmetic_sum_2 : decode b_Arithmetic_sum 2 = .ok (.iadd, 1) := by decide +kernel
theorem d_Arithmetic_sum_3 : decode b_Arithmetic_sum 3 = .ok (.iload_n 3, 1) := by decide +kernel
theorem d_Arithmetic_sum_4 : decode b_Arithmetic_sum 4 = .ok (.iadd, 1) := by decide +kernel
theorem d_Arithmetic_sum_5 : decode b_Arithmetic_sum 5 = .ok (.istore 4, 2) := by decide +kernel
theorem d_Arithmetic_sum_7 : decode b_Arithmetic_sum 7 = .ok (.iload_n 1, 1) := by decide +kernel
theorem d_Arithmetic_sum_8 : decode b_Arithmetic_sum 8 = .ok (.bipush 15, 2) := by decide +kernel
theorem d_Arithmetic_sum_10 : decode b_Arithmetic_sum 10 = .ok (.iand, 1) := by decide +kernel
theorem d_Arithmetic_sum_11 : decode b_Arithmetic_sum 11 = .ok (.iload_n 2, 1) := by decide +kernel
theorem d_Arithmetic_sum_12 : decode b_Arithmetic_sum 12 = .ok (.bipush 15, 2) := by decide +kernel
theorem d_Arithmetic_sum_14 : decode b_Arithmetic_sum 14 = .ok (.iand, 1) := by decide +kernel
theorem d_Arithmetic_sum_15 : decode b_Arithmetic_sum 15 = .ok (.iadd, 1) := by decide +kernel
theorem d_Arithmetic_sum_16 : decode b_Arithmetic_sum 16 = .ok (.iload_n 3, 1) := by decide +kernel
theorem d_Arithmetic_sum_17 : decode b_Arithmetic_sum 17 = .ok (.iadd, 1) := by decide +kernel
theorem d_Arithmetic_sum_18 : decode b_Arithmetic_sum 18 = .ok (.bipush 16, 2) := by decide +kernel
theorem d_Arithmetic_sum_20 : decode b_Arithmetic_sum 20 = .ok (.iand, 1) := by decide +kernel
theorem d_Arithmetic_sum_21 : decode b_Arithmetic_sum 21 = .ok (.istore 5, 2) := by decide +kernel
theorem d_Arithmetic_sum_23 : decode b_Arithmetic_sum 23 = .ok (.aload_n 0, 1) := by decide +kernel
theorem d_Arithmetic_sum_24 : decode b_Arithmetic_sum 24 = .ok (.getfield 9, 3) := by decide +kernel
theorem d_Arithmetic_sum_27 : decode b_Arithmetic_sum 27 = .ok (.iload 4, 2) := by decide +kernel
theorem d_Arithmetic_sum_29 : decode b_Arithmetic_sum 29 = .ok (.sipush 255, 3) := by decide +kernel
theorem d_Arithmetic_sum_32 : decode b_Arithmetic_sum 32 = .ok (.iand, 1) := by decide +kernel
theorem d_Arithmetic_sum_33 : decode b_Arithmetic_sum 33 = .ok (.invokestatic 40, 3) := by decide +kernel
theorem d_Arithmetic_sum_36 : decode b_Arithmetic_sum 36 = .ok (.iload 5, 2) := by decide +kernel
theorem d_Arithmetic_sum_38 : decode b_Arithmetic_sum 38 = .ok (.ior, 1) := by decide +kernel
theorem d_Arithmetic_sum_39 : decode b_Arithmetic_sum 39 = .ok (.iload 4, 2) := by decide +kernel
theorem d_Arithmetic_sum_41 : decode b_Arithmetic_sum 41 = .ok (.bipush 8, 2) := by decide +kernel
theorem d_Arithmetic_sum_43 : decode b_Arithmetic_sum 43 = .ok (.ishr, 1) := by decide +kernel
theorem d_Arithmetic_sum_44 : decode b_Arithmetic_sum 44 = .ok (.ior, 1) := by decide +kernel
theorem d_Arithmetic_sum_45 : decode b_Arithmetic_sum 45 = .ok (.putfield 15, 3) := by decide +kernel
theorem d_Arithmetic_sum_48 : decode b_Arithmetic_sum 48 = .ok (.iload 4, 2) := by decide +kernel
theorem d_Arithmetic_sum_50 : decode b_Arithmetic_sum 50 = .ok (.sipush 255, 3) := by decide +kernel
theorem d_Arithmetic_sum_53 : decode b_Arithmetic_sum 53 = .ok (.iand, 1) := by decide +kernel
theorem d_Arithmetic_sum_54 : decode b_Arithmetic_sum 54 = .ok (.ireturn, 1) := by decide +kernel
theorem tw_75 : Jvm.Cond.code ⟨"ArcadeBoard$Arithmetic", "sum", "(III)I"⟩ prog_2_method_11_code 6 (Option.some Jvm.ClassFile.FieldType.int) ∈ AL := ab_in (ab_t3 (List.mem_of_getElem? (i := 93) (by decide +kernel))) rfl
theorem tw_76 : Jvm.Cond.instanceMethod ⟨"ArcadeBoard$Arithmetic", "sum", "(III)I"⟩ ∈ AL := ab_in (ab_t3 (List.mem_of_getElem? (i := 92) (by decide +kernel))) rfl
theorem tw_77 : Cond.selects "ArcadeBoard$Arithmetic" ⟨"ArcadeBoard$Arithmetic", "sum", "(III)I"⟩ ⟨"ArcadeBoard$Arithmetic", "sum", "(III)I"⟩ ∈ AL := ab_in (ab_s1 (List.mem_of_getElem? (i := 11) (by decide +kernel))) rfl
theorem tw_78 : Jvm.Cond.methodLink "ArcadeBoard$Arithmetic" 40 ⟨"ArcadeBoard$Arithmetic", "resultFlags", "(I)I"⟩ ∈ AL := ab_in (ab_t3 (List.mem_of_getElem? (i := 48) (by decide +kernel))) rfl
theorem ok_Arithmetic_sum : ab_yok y_Arithmetic_sum b_Arithmetic_sum 6 (some .int) 3 := ⟨tw_75, tw_58, by decide, by decide, by decide +kernel⟩
theorem okv_Arithmetic_sum : ab_yok_V y_Arithmetic_sum := ⟨tw_76, tw_77⟩
set_option maxHeartbeats 1000000 in
set_option maxRecDepth 100000 in
theorem c_Arithmetic_sum (l : Launch) (D : va_G) (t : Nat → ClassId) (q : Nat → Nat) (u : SS) (x1 : Int32) (x2 : Int32) (x3 : Int32) : ab_ki l D (tyC t) (wC t q) y_Arithmetic_sum b_Arithmetic_sum 6 .int { frames := 2, cells := 0, slots := 0, locals := 42 } [.ref (q 7), .int x1, .int x2, .int x3] u (f_Arithmetic_sum u x1 x2 x3) := by
  refine ab_ki_ofW (by decide) (Nat.le_of_ble_eq_true rfl) (fun p e s m below meth c ls A X hr hk hl hX => ?_)
  have hl : lv_has ls 6 [(0, .ref (q 7)), (1, .int x1), (2, .int x2), (3, .int x3)] := hl
  refine lv_iload_n (pc := 0) X.1 X.2.1 d_Arithmetic_sum_0 rfl (lv_at hl 1 rfl) ?_
  refine lv_iload_n (pc := 1) X.1 X.2.1 d_Arithmetic_sum_1 rfl (lv_at hl 2 rfl) ?_
  refine lv_iadd (pc := 2) X.1 X.2.1 d_Arithmetic_sum_2 ?_
  refine lv_iload_n (pc := 3) X.1 X.2.1 d_Arithmetic_sum_3 rfl (lv_at hl 3 rfl) ?_
  refine lv_iadd (pc := 4) X.1 X.2.1 d_Arithmetic_sum_4 ?_
  refine lv_istore (pc := 5) (lv' := [(4, .int ((x1 + x2) + x3)), (0, .ref (q 7)), (1, .int x1), (2, .int x2), (3, .int x3)]) X.1 X.2.1 d_Arithmetic_sum_5 hl (Nat.le_of_ble_eq_true rfl) rfl (fun ls hl => ?_)
  refine lv_iload_n (pc := 7) X.1 X.2.1 d_Arithmetic_sum_7 rfl (lv_at hl 2 rfl) ?_
  refine lv_bipush (pc := 8) (v := 15) X.1 X.2.1 d_Arithmetic_sum_8 (by decide) ?_
  refine lv_iand (pc := 10) X.1 X.2.1 d_Arithmetic_sum_10 ?_
  refine lv_iload_n (pc := 11) X.1 X.2.1 d_Arithmetic_sum_11 rfl (lv_at hl 3 rfl) ?_
  refine lv_bipush (pc := 12) (v := 15) X.1 X.2.1 d_Arithmetic_sum_12 (by decide) ?_
  refine lv_iand (pc := 14) X.1 X.2.1 d_Arithmetic_sum_14 ?_
  refine lv_iadd (pc := 15) X.1 X.2.1 d_Arithmetic_sum_15 ?_
  refine lv_iload_n (pc := 16) X.1 X.2.1 d_Arithmetic_sum_16 rfl (lv_at hl 4 rfl) ?_
  refine lv_iadd (pc := 17) X.1 X.2.1 d_Arithmetic_sum_17 ?_
  refine lv_bipush (pc := 18) (v := 16) X.1 X.2.1 d_Arithmetic_sum_18 (by decide) ?_
  refine lv_iand (pc := 20) X.1 X.2.1 d_Arithmetic_sum_20 ?_
  refine lv_istore (pc := 21) (lv' := [(5, .int ((((x1 &&& 15) + (x2 &&& 15)) + x3) &&& 16)), (4, .int ((x1 + x2) + x3)), (0, .ref (q 7)), (1, .int x1), (2, .int x2), (3, .int x3)]) X.1 X.2.1 d_Arithmetic_sum_21 hl (Nat.le_of_ble_eq_true rfl) rfl (fun ls hl => ?_)
  refine lv_aload_n (pc := 23) X.1 X.2.1 d_Arithmetic_sum_23 rfl (lv_at hl 2 rfl) ?_
  refine ab_gx (pc := 24) (v := .ref (q 1)) X hX 7 0 0 rfl rfl (Nat.le_of_ble_eq_true rfl) in_Arithmetic rfl tw_61 rfl d_Arithmetic_sum_24 ?_
  refine lv_iload (pc := 27) X.1 X.2.1 d_Arithmetic_sum_27 (lv_at hl 1 rfl) ?_
  refine lv_sipush (pc := 29) (v := 255) X.1 X.2.1 d_Arithmetic_sum_29 (by decide) ?_
  refine lv_iand (pc := 32) X.1 X.2.1 d_Arithmetic_sum_32 ?_
  refine ab_kr_callS (pc := 33) (wr := []) (w := (wC t q)) (u := u) (r := f_Arithmetic_resultFlags u (((x1 + x2) + x3) &&& 255)) (as := [.int (((x1 + x2) + x3) &&& 255)]) (rest := [.ref (q 1)]) X hX (c_Arithmetic_resultFlags l D t q u (((x1 + x2) + x3) &&& 255)) ok_Arithmetic_resultFlags oks_Arithmetic_resultFlags tw_78 rfl hl.1 rfl (Nat.le_of_ble_eq_true rfl) ⟨rfl, rfl, Nat.le_of_ble_eq_true rfl, Nat.le_of_ble_eq_true rfl⟩ ⟨Nat.zero_le _, Nat.zero_le _⟩ d_Arithmetic_sum_33 (fun H locs hX => ?_)
  refine lv_iload (pc := 36) X.1 X.2.1 d_Arithmetic_sum_36 (lv_at hl 0 rfl) ?_
  refine lv_ior (pc := 38) X.1 X.2.1 d_Arithmetic_sum_38 ?_
  refine lv_iload (pc := 39) X.1 X.2.1 d_Arithmetic_sum_39 (lv_at hl 1 rfl) ?_
  refine lv_bipush (pc := 41) (v := 8) X.1 X.2.1 d_Arithmetic_sum_41 (by decide) ?_
  refine lv_ishr (pc := 43) X.1 X.2.1 d_Arithmetic_sum_43 ?_
  refine lv_ior (pc := 44) X.1 X.2.1 d_Arithmetic_sum_44 ?_
  refine ab_px (pc := 45) (ws' := (wC t q (stt u 0 0 (((f_Arithmetic_resultFlags u (((x1 + x2) + x3) &&& 255)) ||| ((((x1 &&& 15) + (x2 &&& 15)) + x3) &&& 16)) ||| (((x1 + x2) + x3) >>> ((8 : Int32) &&& 31)))))) X hX 1 7 2 ty_State ty_State_ok nm_State rfl rfl (Nat.le_of_ble_eq_true rfl) in_State rfl tw_62 rfl rfl rfl rfl (Nat.le_of_ble_eq_true rfl) (sf_wC_1_2 t q u (((f_Arithmetic_resultFlags u (((x1 + x2) + x3) &&& 255)) ||| ((((x1 &&& 15) + (x2 &&& 15)) + x3) &&& 16)) ||| (((x1 + x2) + x3) >>> ((8 : Int32) &&& 31)))) d_Arithmetic_sum_45 (fun H locs hX => ?_)
  refine lv_iload (pc := 48) X.1 X.2.1 d_Arithmetic_sum_48 (lv_at hl 1 rfl) ?_
  refine lv_sipush (pc := 50) (v := 255) X.1 X.2.1 d_Arithmetic_sum_50 (by decide) ?_
  refine lv_iand (pc := 53) X.1 X.2.1 d_Arithmetic_sum_53 ?_
  exact ab_ki_ret (pc := 54) X hr hk hX rfl (by rw [f_Arithmetic_sum]) d_Arithmetic_sum_54
abbrev b_Arithmetic_difference : ByteArray := prog_2_method_12_code
def y_Arithmetic_difference : MethodName := ⟨"ArcadeBoard$Arithmetic", "difference", "(III)I"⟩
theorem d_Arithmetic_difference_0 : decode b_Arithmetic_difference 0 = .ok (.iload_n 1, 1) := by decide +kernel
theorem d_Arithmetic_difference_1 : decode b_Arithmetic_difference 1 = .ok (.iload_n 2, 1) := by decide +kernel
theorem d_Arithmetic_difference_2 : decode b_Arithmetic_difference 2 = .ok (.isub, 1) := by decide +kernel
theorem d_Arithmetic_difference_3 : decode b_Arithmetic_difference 3 = .ok (.iload_n 3, 1) := by decide +kernel
theorem d_Arithmetic_difference_4 : decode b_Arithmetic_difference 4 = .ok (.isub, 1) := by decide +kernel
theorem d_Arithmetic_difference_5 : decode b_Arithmetic_difference 5 = .ok (.istore 4, 2) := by decide +kernel
theorem d_Arithmetic_difference_7 : decode b_Arithmetic_difference 7 = .ok (.iload_n 1, 1) := by decide +kernel
theorem d_Arithmetic_difference_8 : decode b_Arithmetic_difference 8 = .ok (.bipush 15, 2) := by decide +kernel
theorem d_Arithmetic_difference_10 : decode b_Arithmetic_difference 10 = .ok (.iand, 1) := by decide +kernel
theorem d_Arithmetic_difference_11 : decode b_Arithmetic_difference 11 = .ok (.iload_n 2, 1) := by decide +kernel
theorem d_Arithmetic_difference_12 : decode b_Arithmetic_difference 12 = .ok (.iconst (-1), 1) := by decide +kernel
theorem d_Arithmetic_difference_13 : decode b_Arithmetic_difference 13 = .ok (.ixor, 1) := by decide +kernel
theorem d_Arithmetic_difference_14 : decode b_Arithmetic_difference 14 = .ok (.bipush 15, 2) := by decide +kernel
theorem d_Arithmetic_difference_16 : decode b_Arithmetic_difference 16 = .ok (.iand, 1) := by decide +kernel
theorem d_Arithmetic_difference_17 : decode b_Arithmetic_difference 17 = .ok (.iadd, 1) := by decide +kernel
theorem d_Arithmetic_difference_18 : decode b_Arithmetic_difference 18 = .ok (.iconst 1, 1) := by decide +kernel
theorem d_Arithmetic_difference_19 : decode b_Arithmetic_difference 19 = .ok (.iadd, 1) := by decide +kernel
theorem d_Arithmetic_difference_20 : decode b_Arithmetic_difference 20 = .ok (.iload_n 3, 1) := by decide +kernel
theorem d_Arithmetic_difference_21 : decode b_Arithmetic_difference 21 = .ok (.isub, 1) := by decide +kernel
theorem d_Arithmetic_difference_22 : decode b_Arithmetic_difference 22 = .ok (.bipush 16, 2) := by decide +kernel
theorem d_Arithmetic_difference_24 : decode b_Arithmetic_difference 24 = .ok (.iand, 1) := by decide +kernel
theorem d_Arithmetic_difference_25 : decode b_Arithmetic_difference 25 = .ok (.istore 5, 2) := by decide +kernel
theorem d_Arithmetic_difference_27 : decode b_Arithmetic_difference 27 = .ok (.aload_n 0, 1) := by decide +kernel
theorem d_Arithmetic_difference_28 : decode b_Arithmetic_difference 28 = .ok (.getfield 9, 3) := by decide +kernel
theorem d_Arithmetic_difference_31 : decode b_Arithmetic_difference 31 = .ok (.iload 4, 2) := by decide +kernel
theorem d_Arithmetic_difference_33 : decode b_Arithmetic_difference 33 = .ok (.sipush 255, 3) := by decide +kernel
theorem d_Arithmetic_difference_36 : decode b_Arithmetic_difference 36 = .ok (.iand, 1) := by decide +kernel
theorem d_Arithmetic_difference_37 : decode b_Arithmetic_difference 37 = .ok (.invokestatic 40, 3) := by decide +kernel
theorem d_Arithmetic_difference_40 : decode b_Arithmetic_difference 40 = .ok (.iload 5, 2) := by decide +kernel
theorem d_Arithmetic_difference_42 : decode b_Arithmetic_difference 42 = .ok (.ior, 1) := by decide +kernel
theorem d_Arithmetic_difference_43 : decode b_Arithmetic_difference 43 = .ok (.iload 4, 2) := by decide +kernel
theorem d_Arithmetic_difference_45 : decode b_Arithmetic_difference 45 = .ok (.ifCond .ge 7, 3) := by decide +kernel
theorem d_Arithmetic_difference_48 : decode b_Arithmetic_difference 48 = .ok (.iconst 1, 1) := by decide +kernel
theorem d_Arithmetic_difference_49 : decode b_Arithmetic_difference 49 = .ok (.goto 4, 3) := by decide +kernel
theorem d_Arithmetic_difference_52 : decode b_Arithmetic_difference 52 = .ok (.iconst 0, 1) := by decide +kernel
theorem d_Arithmetic_difference_53 : decode b_Arithmetic_difference 53 = .ok (.ior, 1) := by decide +kernel
theorem d_Arithmetic_difference_54 : decode b_Arithmetic_difference 54 = .ok (.putfield 15, 3) := by decide +kernel
theorem d_Arithmetic_difference_57 : decode b_Arithmetic_difference 57 = .ok (.iload 4, 2) := by decide +kernel
theorem d_Arithmetic_difference_59 : decode b_Arithmetic_difference 59 = .ok (.sipush 255, 3) := by decide +kernel
theorem d_Arithmetic_difference_62 : decode b_Arithmetic_difference 62 = .ok (.iand, 1) := by decide +kernel
theorem d_Arithmetic_difference_63 : decode b_Arithmetic_difference 63 = .ok (.ireturn, 1) := by decide +kernel
theorem tw_79 : Jvm.Cond.code ⟨"ArcadeBoard$Arithmetic", "difference", "(III)I"⟩ prog_2_method_12_code 6 (Option.some Jvm.ClassFile.FieldType.int) ∈ AL := ab_in (ab_t3 (List.mem_of_getElem? (i := 97) (by decide +kernel))) rfl
theorem tw_80 : Jvm.Cond.instanceMethod ⟨"ArcadeBoard$Arithmetic", "difference", "(III)I"⟩ ∈ AL := ab_in (ab_t3 (List.mem_of_getElem? (i := 96) (by decide +kernel))) rfl
theorem tw_81 : Cond.selects "ArcadeBoard$Arithmetic" ⟨"ArcadeBoard$Arithmetic", "difference", "(III)I"⟩ ⟨"ArcadeBoard$Arithmetic", "difference", "(III)I"⟩ ∈ AL := ab_in (ab_s1 (List.mem_of_getElem? (i := 12) (by decide +kernel))) rfl
theorem ok_Arithmetic_difference : ab_yok y_Arithmetic_difference b_Arithmetic_difference 6 (some .int) 3 := ⟨tw_79, tw_58, by decide, by decide, by decide +kernel⟩
theorem okv_Arithmetic_difference : ab_yok_V y_Arithmetic_difference := ⟨tw_80, tw_81⟩
set_option maxHeartbeats 1000000 in
set_option maxRecDepth 100000 in
theorem c_Arithmetic_difference (l : Launch) (D : va_G) (t : Nat → ClassId) (q : Nat → Nat) (u : SS) (x1 : Int32) (x2 : Int32) (x3 : Int32) : ab_ki l D (tyC t) (wC t q) y_Arithmetic_difference b_Arithmetic_difference 6 .int { frames := 2, cells := 0, slots := 0, locals := 42 } [.ref (q 7), .int x1, .int x2, .int x3] u (f_Arithmetic_difference u x1 x2 x3) := by
  refine ab_ki_ofW (by decide) (Nat.le_of_ble_eq_true rfl) (fun p e s m below meth c ls A X hr hk hl hX => ?_)
  have hl : lv_has ls 6 [(0, .ref (q 7)), (1, .int x1), (2, .int x2), (3, .int x3)] := hl
  refine lv_iload_n (pc := 0) X.1 X.2.1 d_Arithmetic_difference_0 rfl (lv_at hl 1 rfl) ?_
  refine lv_iload_n (pc := 1) X.1 X.2.1 d_Arithmetic_difference_1 rfl (lv_at hl 2 rfl) ?_
  refine lv_isub (pc := 2) X.1 X.2.1 d_Arithmetic_difference_2 ?_
  refine lv_iload_n (pc := 3) X.1 X.2.1 d_Arithmetic_difference_3 rfl (lv_at hl 3 rfl) ?_
  refine lv_isub (pc := 4) X.1 X.2.1 d_Arithmetic_difference_4 ?_
  refine lv_istore (pc := 5) (lv' := [(4, .int ((x1 - x2) - x3)), (0, .ref (q 7)), (1, .int x1), (2, .int x2), (3, .int x3)]) X.1 X.2.1 d_Arithmetic_difference_5 hl (Nat.le_of_ble_eq_true rfl) rfl (fun ls hl => ?_)
  refine lv_iload_n (pc := 7) X.1 X.2.1 d_Arithmetic_difference_7 rfl (lv_at hl 2 rfl) ?_
  refine lv_bipush (pc := 8) (v := 15) X.1 X.2.1 d_Arithmetic_difference_8 (by decide) ?_
  refine lv_iand (pc := 10) X.1 X.2.1 d_Arithmetic_difference_10 ?_
  refine lv_iload_n (pc := 11) X.1 X.2.1 d_Arithmetic_difference_11 rfl (lv_at hl 3 rfl) ?_
  refine lv_iconst (pc := 12) (v := (-1)) X.1 X.2.1 d_Arithmetic_difference_12 (by decide) ?_
  refine lv_ixor (pc := 13) X.1 X.2.1 d_Arithmetic_difference_13 ?_
  refine lv_bipush (pc := 14) (v := 15) X.1 X.2.1 d_Arithmetic_difference_14 (by decide) ?_
  refine lv_iand (pc := 16) X.1 X.2.1 d_Arithmetic_difference_16 ?_
  refine lv_iadd (pc := 17) X.1 X.2.1 d_Arithmetic_difference_17 ?_
  refine lv_iconst (pc := 18) (v := 1) X.1 X.2.1 d_Arithmetic_difference_18 (by decide) ?_
  refine lv_iadd (pc := 19) X.1 X.2.1 d_Arithmetic_difference_19 ?_
  refine lv_iload_n (pc := 20) X.1 X.2.1 d_Arithmetic_difference_20 rfl (lv_at hl 4 rfl) ?_
  refine lv_isub (pc := 21) X.1 X.2.1 d_Arithmetic_difference_21 ?_
  refine lv_bipush (pc := 22) (v := 16) X.1 X.2.1 d_Arithmetic_difference_22 (by decide) ?_
  refine lv_iand (pc := 24) X.1 X.2.1 d_Arithmetic_difference_24 ?_
  refine lv_istore (pc := 25) (lv' := [(5, .int (((((x1 &&& 15) + ((x2 ^^^ (-1)) &&& 15)) + 1) - x3) &&& 16)), (4, .int ((x1 - x2) - x3)), (0, .ref (q 7)), (1, .int x1), (2, .int x2), (3, .int x3)]) X.1 X.2.1 d_Arithmetic_difference_25 hl (Nat.le_of_ble_eq_true rfl) rfl (fun ls hl => ?_)
  refine lv_aload_n (pc := 27) X.1 X.2.1 d_Arithmetic_difference_27 rfl (lv_at hl 2 rfl) ?_
  refine ab_gx (pc := 28) (v := .ref (q 1)) X hX 7 0 0 rfl rfl (Nat.le_of_ble_eq_true rfl) in_Arithmetic rfl tw_61 rfl d_Arithmetic_difference_28 ?_
  refine lv_iload (pc := 31) X.1 X.2.1 d_Arithmetic_difference_31 (lv_at hl 1 rfl) ?_
  refine lv_sipush (pc := 33) (v := 255) X.1 X.2.1 d_Arithmetic_difference_33 (by decide) ?_
  refine lv_iand (pc := 36) X.1 X.2.1 d_Arithmetic_difference_36 ?_
  refine ab_kr_callS (pc := 37) (wr := []) (w := (wC t q)) (u := u) (r := f_Arithmetic_resultFlags u (((x1 - x2) - x3) &&& 255)) (as := [.int (((x1 - x2) - x3) &&& 255)]) (rest := [.ref (q 1)]) X hX (c_Arithmetic_resultFlags l D t q u (((x1 - x2) - x3) &&& 255)) ok_Arithmetic_resultFlags oks_Arithmetic_resultFlags tw_78 rfl hl.1 rfl (Nat.le_of_ble_eq_true rfl) ⟨rfl, rfl, Nat.le_of_ble_eq_true rfl, Nat.le_of_ble_eq_true rfl⟩ ⟨Nat.zero_le _, Nat.zero_le _⟩ d_Arithmetic_difference_37 (fun H locs hX => ?_)
  refine lv_iload (pc := 40) X.1 X.2.1 d_Arithmetic_difference_40 (lv_at hl 0 rfl) ?_
  refine lv_ior (pc := 42) X.1 X.2.1 d_Arithmetic_difference_42 ?_
  refine lv_iload (pc := 43) X.1 X.2.1 d_Arithmetic_difference_43 (lv_at hl 1 rfl) ?_
  refine ab_jn (ls := ls) (rest := [.int ((f_Arithmetic_resultFlags u (((x1 - x2) - x3) &&& 255)) ||| (((((x1 &&& 15) + ((x2 ^^^ (-1)) &&& 15)) + 1) - x3) &&& 16)), .ref (q 1)]) 53 (if 0 ≤ ((x1 - x2) - x3) then 0 else 1 : Int32) ?_ (fun J => ?_)
  rotate_left
  ·
    refine lv_if_ge (pc := 45) (tgt := 52) X.1 X.2.1 d_Arithmetic_difference_45 (by decide) (fun h1 => ?_) (fun h1 => ?_)
    ·
      refine lv_iconst (pc := 52) (v := 0) X.1 X.2.1 d_Arithmetic_difference_52 (by decide) ?_
      exact ab_jt (by rw [if_pos h1]) J
    ·
      refine lv_iconst (pc := 48) (v := 1) X.1 X.2.1 d_Arithmetic_difference_48 (by decide) ?_
      refine lv_goto (pc := 49) (tgt := 53) X.1 X.2.1 d_Arithmetic_difference_49 (by decide) ?_
      exact ab_jt (by rw [if_neg h1]) J
  refine lv_ior (pc := 53) X.1 X.2.1 d_Arithmetic_difference_53 ?_
  refine ab_px (pc := 54) (ws' := (wC t q (stt u 0 0 (((f_Arithmetic_resultFlags u (((x1 - x2) - x3) &&& 255)) ||| (((((x1 &&& 15) + ((x2 ^^^ (-1)) &&& 15)) + 1) - x3) &&& 16)) ||| (if 0 ≤ ((x1 - x2) - x3) then 0 else 1 : Int32))))) X hX 1 7 2 ty_State ty_State_ok nm_State rfl rfl (Nat.le_of_ble_eq_true rfl) in_State rfl tw_62 rfl rfl rfl rfl (Nat.le_of_ble_eq_true rfl) (sf_wC_1_2 t q u (((f_Arithmetic_resultFlags u (((x1 - x2) - x3) &&& 255)) ||| (((((x1 &&& 15) + ((x2 ^^^ (-1)) &&& 15)) + 1) - x3) &&& 16)) ||| (if 0 ≤ ((x1 - x2) - x3) then 0 else 1 : Int32))) d_Arithmetic_difference_54 (fun H locs hX => ?_)
  refine lv_iload (pc := 57) X.1 X.2.1 d_Arithmetic_difference_57 (lv_at hl 1 rfl) ?_
  refine lv_sipush (pc := 59) (v := 255) X.1 X.2.1 d_Arithmetic_difference_59 (by decide) ?_
  refine lv_iand (pc := 62) X.1 X.2.1 d_Arithmetic_difference_62 ?_
  exact ab_ki_ret (pc := 63) X hr hk hX rfl (by rw [f_Arithmetic_difference]) d_Arithmetic_difference_63
abbrev b_Arithmetic_logical : ByteArray := prog_2_method_13_code
def y_Arithmetic_logical : MethodName := ⟨"ArcadeBoard$Arithmetic", "logical", "(II)I"⟩
theorem d_Arithmetic_logical_0 : decode b_Arithmetic_logical 0 = .ok (.aload_n 0, 1) := by decide +kernel
theorem d_Arithmetic_logical_1 : decode b_Arithmetic_logical 1 = .ok (.getfield 9, 3) := by decide +kernel
theorem d_Arithmetic_logical_4 : decode b_Arithmetic_logical 4 = .ok (.iload_n 1, 1) := by decide +kernel
theorem d_Arithmetic_logical_5 : decode b_Arithmetic_logical 5 = .ok (.invokestatic 40, 3) := by decide +kernel
theorem d_Arithmetic_logical_8 : decode b_Arithmetic_logical 8 = .ok (.iload_n 2, 1) := by decide +kernel
theorem d_Arithmetic_logical_9 : decode b_Arithmetic_logical 9 = .ok (.ior, 1) := by decide +kernel
theorem d_Arithmetic_logical_10 : decode b_Arithmetic_logical 10 = .ok (.putfield 15, 3) := by decide +kernel
theorem d_Arithmetic_logical_13 : decode b_Arithmetic_logical 13 = .ok (.iload_n 1, 1) := by decide +kernel
theorem d_Arithmetic_logical_14 : decode b_Arithmetic_logical 14 = .ok (.ireturn, 1) := by decide +kernel
theorem tw_82 : Jvm.Cond.code ⟨"ArcadeBoard$Arithmetic", "logical", "(II)I"⟩ prog_2_method_13_code 3 (Option.some Jvm.ClassFile.FieldType.int) ∈ AL := ab_in (ab_t3 (List.mem_of_getElem? (i := 101) (by decide +kernel))) rfl
theorem tw_83 : Jvm.Cond.instanceMethod ⟨"ArcadeBoard$Arithmetic", "logical", "(II)I"⟩ ∈ AL := ab_in (ab_t3 (List.mem_of_getElem? (i := 100) (by decide +kernel))) rfl
theorem tw_84 : Cond.selects "ArcadeBoard$Arithmetic" ⟨"ArcadeBoard$Arithmetic", "logical", "(II)I"⟩ ⟨"ArcadeBoard$Arithmetic", "logical", "(II)I"⟩ ∈ AL := ab_in (ab_s1 (List.mem_of_getElem? (i := 13) (by decide +kernel))) rfl
theorem ok_Arithmetic_logical : ab_yok y_Arithmetic_logical b_Arithmetic_logical 3 (some .int) 2 := ⟨tw_82, tw_58, by decide, by decide, by decide +kernel⟩
theorem okv_Arithmetic_logical : ab_yok_V y_Arithmetic_logical := ⟨tw_83, tw_84⟩
set_option maxHeartbeats 1000000 in
set_option maxRecDepth 100000 in
theorem c_Arithmetic_logical (l : Launch) (D : va_G) (t : Nat → ClassId) (q : Nat → Nat) (u : SS) (x1 : Int32) (x2 : Int32) : ab_ki l D (tyC t) (wC t q) y_Arithmetic_logical b_Arithmetic_logical 3 .int { frames := 2, cells := 0, slots := 0, locals := 42 } [.ref (q 7), .int x1, .int x2] u (f_Arithmetic_logical u x1 x2) := by
  refine ab_ki_ofW (by decide) (Nat.le_of_ble_eq_true rfl) (fun p e s m below meth c ls A X hr hk hl hX => ?_)
  have hl : lv_has ls 3 [(0, .ref (q 7)), (1, .int x1), (2, .int x2)] := hl
  refine lv_aload_n (pc := 0) X.1 X.2.1 d_Arithmetic_logical_0 rfl (lv_at hl 0 rfl) ?_
  refine ab_gx (pc := 1) (v := .ref (q 1)) X hX 7 0 0 rfl rfl (Nat.le_of_ble_eq_true rfl) in_Arithmetic rfl tw_61 rfl d_Arithmetic_logical_1 ?_
  refine lv_iload_n (pc := 4) X.1 X.2.1 d_Arithmetic_logical_4 rfl (lv_at hl 1 rfl) ?_
  refine ab_kr_callS (pc := 5) (wr := []) (w := (wC t q)) (u := u) (r := f_Arithmetic_resultFlags u x1) (as := [.int x1]) (rest := [.ref (q 1)]) X hX (c_Arithmetic_resultFlags l D t q u x1) ok_Arithmetic_resultFlags oks_Arithmetic_resultFlags tw_78 rfl hl.1 rfl (Nat.le_of_ble_eq_true rfl) ⟨rfl, rfl, Nat.le_of_ble_eq_true rfl, Nat.le_of_ble_eq_true rfl⟩ ⟨Nat.zero_le _, Nat.zero_le _⟩ d_Arithmetic_logical_5 (fun H locs hX => ?_)
  refine lv_iload_n (pc := 8) X.1 X.2.1 d_Arithmetic_logical_8 rfl (lv_at hl 2 rfl) ?_
  refine lv_ior (pc := 9) X.1 X.2.1 d_Arithmetic_logical_9 ?_
  refine ab_px (pc := 10) (ws' := (wC t q (stt u 0 0 ((f_Arithmetic_resultFlags u x1) ||| x2)))) X hX 1 7 2 ty_State ty_State_ok nm_State rfl rfl (Nat.le_of_ble_eq_true rfl) in_State rfl tw_62 rfl rfl rfl rfl (Nat.le_of_ble_eq_true rfl) (sf_wC_1_2 t q u ((f_Arithmetic_resultFlags u x1) ||| x2)) d_Arithmetic_logical_10 (fun H locs hX => ?_)
  refine lv_iload_n (pc := 13) X.1 X.2.1 d_Arithmetic_logical_13 rfl (lv_at hl 1 rfl) ?_
  exact ab_ki_ret (pc := 14) X hr hk hX rfl (by rw [f_Arithmetic_logical]) d_Arithmetic_logical_14
abbrev b_Arithmetic_operate : ByteArray := prog_2_method_4_code
def y_Arithmetic_operate : MethodName := ⟨"ArcadeBoard$Arithmetic", "operate", "(II)V"⟩
theorem d_Arithmetic_operate_0 : decode b_Arithmetic_operate 0 = .ok (.aload_n 0, 1) := by decide +kernel
theorem d_Arithmetic_operate_1 : decode b_Arithmetic_operate 1 = .ok (.getfield 9, 3) := by decide +kernel
theorem d_Arithmetic_operate_4 : decode b_Arithmetic_operate 4 = .ok (.getfield 21, 3) := by decide +kernel
theorem d_Arithmetic_operate_7 : decode b_Arithmetic_operate 7 = .ok (.bipush 7, 2) := by decide +kernel
theorem d_Arithmetic_operate_9 : decode b_Arithmetic_operate 9 = .ok (.iaload, 1) := by decide +kernel
theorem d_Arithmetic_operate_10 : decode b_Arithmetic_operate 10 = .ok (.istore_n 3, 1) := by decide +kernel
theorem d_Arithmetic_operate_11 : decode b_Arithmetic_operate 11 = .ok (.iload_n 1, 1) := by decide +kernel
theorem d_Arithmetic_operate_12 : decode b_Arithmetic_operate 12 = .ok (.tableswitch 200 0 6 #[44, 64, 87, 107, 130, 158, 179], 44) := by decide +kernel
theorem d_Arithmetic_operate_56 : decode b_Arithmetic_operate 56 = .ok (.aload_n 0, 1) := by decide +kernel
theorem d_Arithmetic_operate_57 : decode b_Arithmetic_operate 57 = .ok (.getfield 9, 3) := by decide +kernel
theorem d_Arithmetic_operate_60 : decode b_Arithmetic_operate 60 = .ok (.getfield 21, 3) := by decide +kernel
theorem d_Arithmetic_operate_63 : decode b_Arithmetic_operate 63 = .ok (.bipush 7, 2) := by decide +kernel
theorem d_Arithmetic_operate_65 : decode b_Arithmetic_operate 65 = .ok (.aload_n 0, 1) := by decide +kernel
theorem d_Arithmetic_operate_66 : decode b_Arithmetic_operate 66 = .ok (.iload_n 3, 1) := by decide +kernel
theorem d_Arithmetic_operate_67 : decode b_Arithmetic_operate 67 = .ok (.iload_n 2, 1) := by decide +kernel
theorem d_Arithmetic_operate_68 : decode b_Arithmetic_operate 68 = .ok (.iconst 0, 1) := by decide +kernel
theorem d_Arithmetic_operate_69 : decode b_Arithmetic_operate 69 = .ok (.invokevirtual 25, 3) := by decide +kernel
theorem d_Arithmetic_operate_72 : decode b_Arithmetic_operate 72 = .ok (.iastore, 1) := by decide +kernel
theorem d_Arithmetic_operate_73 : decode b_Arithmetic_operate 73 = .ok (.goto 147, 3) := by decide +kernel
theorem d_Arithmetic_operate_76 : decode b_Arithmetic_operate 76 = .ok (.aload_n 0, 1) := by decide +kernel
theorem d_Arithmetic_operate_77 : decode b_Arithmetic_operate 77 = .ok (.getfield 9, 3) := by decide +kernel
theorem d_Arithmetic_operate_80 : decode b_Arithmetic_operate 80 = .ok (.getfield 21, 3) := by decide +kernel
theorem d_Arithmetic_operate_83 : decode b_Arithmetic_operate 83 = .ok (.bipush 7, 2) := by decide +kernel
theorem d_Arithmetic_operate_85 : decode b_Arithmetic_operate 85 = .ok (.aload_n 0, 1) := by decide +kernel
theorem d_Arithmetic_operate_86 : decode b_Arithmetic_operate 86 = .ok (.iload_n 3, 1) := by decide +kernel
theorem d_Arithmetic_operate_87 : decode b_Arithmetic_operate 87 = .ok (.iload_n 2, 1) := by decide +kernel
theorem d_Arithmetic_operate_88 : decode b_Arithmetic_operate 88 = .ok (.aload_n 0, 1) := by decide +kernel
theorem d_Arithmetic_operate_89 : decode b_Arithmetic_operate 89 = .ok (.invokevirtual 29, 3) := by decide +kernel
theorem d_Arithmetic_operate_92 : decode b_Arithmetic_operate 92 = .ok (.invokevirtual 25, 3) := by decide +kernel
theorem d_Arithmetic_operate_95 : decode b_Arithmetic_operate 95 = .ok (.iastore, 1) := by decide +kernel
theorem d_Arithmetic_operate_96 : decode b_Arithmetic_operate 96 = .ok (.goto 124, 3) := by decide +kernel
theorem d_Arithmetic_operate_99 : decode b_Arithmetic_operate 99 = .ok (.aload_n 0, 1) := by decide +kernel
theorem d_Arithmetic_operate_100 : decode b_Arithmetic_operate 100 = .ok (.getfield 9, 3) := by decide +kernel
theorem d_Arithmetic_operate_103 : decode b_Arithmetic_operate 103 = .ok (.getfield 21, 3) := by decide +kernel
theorem d_Arithmetic_operate_106 : decode b_Arithmetic_operate 106 = .ok (.bipush 7, 2) := by decide +kernel
theorem d_Arithmetic_operate_108 : decode b_Arithmetic_operate 108 = .ok (.aload_n 0, 1) := by decide +kernel
theorem d_Arithmetic_operate_109 : decode b_Arithmetic_operate 109 = .ok (.iload_n 3, 1) := by decide +kernel
theorem d_Arithmetic_operate_110 : decode b_Arithmetic_operate 110 = .ok (.iload_n 2, 1) := by decide +kernel
theorem d_Arithmetic_operate_111 : decode b_Arithmetic_operate 111 = .ok (.iconst 0, 1) := by decide +kernel
theorem d_Arithmetic_operate_112 : decode b_Arithmetic_operate 112 = .ok (.invokevirtual 33, 3) := by decide +kernel
theorem d_Arithmetic_operate_115 : decode b_Arithmetic_operate 115 = .ok (.iastore, 1) := by decide +kernel
theorem d_Arithmetic_operate_116 : decode b_Arithmetic_operate 116 = .ok (.goto 104, 3) := by decide +kernel
theorem d_Arithmetic_operate_119 : decode b_Arithmetic_operate 119 = .ok (.aload_n 0, 1) := by decide +kernel
theorem d_Arithmetic_operate_120 : decode b_Arithmetic_operate 120 = .ok (.getfield 9, 3) := by decide +kernel
theorem d_Arithmetic_operate_123 : decode b_Arithmetic_operate 123 = .ok (.getfield 21, 3) := by decide +kernel
theorem d_Arithmetic_operate_126 : decode b_Arithmetic_operate 126 = .ok (.bipush 7, 2) := by decide +kernel
theorem d_Arithmetic_operate_128 : decode b_Arithmetic_operate 128 = .ok (.aload_n 0, 1) := by decide +kernel
theorem d_Arithmetic_operate_129 : decode b_Arithmetic_operate 129 = .ok (.iload_n 3, 1) := by decide +kernel
theorem d_Arithmetic_operate_130 : decode b_Arithmetic_operate 130 = .ok (.iload_n 2, 1) := by decide +kernel
theorem d_Arithmetic_operate_131 : decode b_Arithmetic_operate 131 = .ok (.aload_n 0, 1) := by decide +kernel
theorem d_Arithmetic_operate_132 : decode b_Arithmetic_operate 132 = .ok (.invokevirtual 29, 3) := by decide +kernel
theorem d_Arithmetic_operate_135 : decode b_Arithmetic_operate 135 = .ok (.invokevirtual 33, 3) := by decide +kernel
theorem d_Arithmetic_operate_138 : decode b_Arithmetic_operate 138 = .ok (.iastore, 1) := by decide +kernel
theorem d_Arithmetic_operate_139 : decode b_Arithmetic_operate 139 = .ok (.goto 81, 3) := by decide +kernel
theorem d_Arithmetic_operate_142 : decode b_Arithmetic_operate 142 = .ok (.aload_n 0, 1) := by decide +kernel
theorem d_Arithmetic_operate_143 : decode b_Arithmetic_operate 143 = .ok (.getfield 9, 3) := by decide +kernel
theorem d_Arithmetic_operate_146 : decode b_Arithmetic_operate 146 = .ok (.getfield 21, 3) := by decide +kernel
theorem d_Arithmetic_operate_149 : decode b_Arithmetic_operate 149 = .ok (.bipush 7, 2) := by decide +kernel
theorem d_Arithmetic_operate_151 : decode b_Arithmetic_operate 151 = .ok (.aload_n 0, 1) := by decide +kernel
theorem d_Arithmetic_operate_152 : decode b_Arithmetic_operate 152 = .ok (.iload_n 3, 1) := by decide +kernel
theorem d_Arithmetic_operate_153 : decode b_Arithmetic_operate 153 = .ok (.iload_n 2, 1) := by decide +kernel
theorem d_Arithmetic_operate_154 : decode b_Arithmetic_operate 154 = .ok (.iand, 1) := by decide +kernel
theorem d_Arithmetic_operate_155 : decode b_Arithmetic_operate 155 = .ok (.iload_n 3, 1) := by decide +kernel
theorem d_Arithmetic_operate_156 : decode b_Arithmetic_operate 156 = .ok (.iload_n 2, 1) := by decide +kernel
theorem d_Arithmetic_operate_157 : decode b_Arithmetic_operate 157 = .ok (.ior, 1) := by decide +kernel
theorem d_Arithmetic_operate_158 : decode b_Arithmetic_operate 158 = .ok (.bipush 8, 2) := by decide +kernel
theorem d_Arithmetic_operate_160 : decode b_Arithmetic_operate 160 = .ok (.iand, 1) := by decide +kernel
theorem d_Arithmetic_operate_161 : decode b_Arithmetic_operate 161 = .ok (.iconst 2, 1) := by decide +kernel
theorem d_Arithmetic_operate_162 : decode b_Arithmetic_operate 162 = .ok (.imul, 1) := by decide +kernel
theorem d_Arithmetic_operate_163 : decode b_Arithmetic_operate 163 = .ok (.invokevirtual 36, 3) := by decide +kernel
theorem d_Arithmetic_operate_166 : decode b_Arithmetic_operate 166 = .ok (.iastore, 1) := by decide +kernel
theorem d_Arithmetic_operate_167 : decode b_Arithmetic_operate 167 = .ok (.goto 53, 3) := by decide +kernel
theorem d_Arithmetic_operate_170 : decode b_Arithmetic_operate 170 = .ok (.aload_n 0, 1) := by decide +kernel
theorem d_Arithmetic_operate_171 : decode b_Arithmetic_operate 171 = .ok (.getfield 9, 3) := by decide +kernel
theorem d_Arithmetic_operate_174 : decode b_Arithmetic_operate 174 = .ok (.getfield 21, 3) := by decide +kernel
theorem d_Arithmetic_operate_177 : decode b_Arithmetic_operate 177 = .ok (.bipush 7, 2) := by decide +kernel
theorem d_Arithmetic_operate_179 : decode b_Arithmetic_operate 179 = .ok (.aload_n 0, 1) := by decide +kernel
theorem d_Arithmetic_operate_180 : decode b_Arithmetic_operate 180 = .ok (.iload_n 3, 1) := by decide +kernel
theorem d_Arithmetic_operate_181 : decode b_Arithmetic_operate 181 = .ok (.iload_n 2, 1) := by decide +kernel
theorem d_Arithmetic_operate_182 : decode b_Arithmetic_operate 182 = .ok (.ixor, 1) := by decide +kernel
theorem d_Arithmetic_operate_183 : decode b_Arithmetic_operate 183 = .ok (.iconst 0, 1) := by decide +kernel
theorem d_Arithmetic_operate_184 : decode b_Arithmetic_operate 184 = .ok (.invokevirtual 36, 3) := by decide +kernel
theorem d_Arithmetic_operate_187 : decode b_Arithmetic_operate 187 = .ok (.iastore, 1) := by decide +kernel
theorem d_Arithmetic_operate_188 : decode b_Arithmetic_operate 188 = .ok (.goto 32, 3) := by decide +kernel
theorem d_Arithmetic_operate_191 : decode b_Arithmetic_operate 191 = .ok (.aload_n 0, 1) := by decide +kernel
theorem d_Arithmetic_operate_192 : decode b_Arithmetic_operate 192 = .ok (.getfield 9, 3) := by decide +kernel
theorem d_Arithmetic_operate_195 : decode b_Arithmetic_operate 195 = .ok (.getfield 21, 3) := by decide +kernel
theorem d_Arithmetic_operate_198 : decode b_Arithmetic_operate 198 = .ok (.bipush 7, 2) := by decide +kernel
theorem d_Arithmetic_operate_200 : decode b_Arithmetic_operate 200 = .ok (.aload_n 0, 1) := by decide +kernel
theorem d_Arithmetic_operate_201 : decode b_Arithmetic_operate 201 = .ok (.iload_n 3, 1) := by decide +kernel
theorem d_Arithmetic_operate_202 : decode b_Arithmetic_operate 202 = .ok (.iload_n 2, 1) := by decide +kernel
theorem d_Arithmetic_operate_203 : decode b_Arithmetic_operate 203 = .ok (.ior, 1) := by decide +kernel
theorem d_Arithmetic_operate_204 : decode b_Arithmetic_operate 204 = .ok (.iconst 0, 1) := by decide +kernel
theorem d_Arithmetic_operate_205 : decode b_Arithmetic_operate 205 = .ok (.invokevirtual 36, 3) := by decide +kernel
theorem d_Arithmetic_operate_208 : decode b_Arithmetic_operate 208 = .ok (.iastore, 1) := by decide +kernel
theorem d_Arithmetic_operate_209 : decode b_Arithmetic_operate 209 = .ok (.goto 11, 3) := by decide +kernel
theorem d_Arithmetic_operate_212 : decode b_Arithmetic_operate 212 = .ok (.aload_n 0, 1) := by decide +kernel
theorem d_Arithmetic_operate_213 : decode b_Arithmetic_operate 213 = .ok (.iload_n 3, 1) := by decide +kernel
theorem d_Arithmetic_operate_214 : decode b_Arithmetic_operate 214 = .ok (.iload_n 2, 1) := by decide +kernel
theorem d_Arithmetic_operate_215 : decode b_Arithmetic_operate 215 = .ok (.iconst 0, 1) := by decide +kernel
theorem d_Arithmetic_operate_216 : decode b_Arithmetic_operate 216 = .ok (.invokevirtual 33, 3) := by decide +kernel
theorem d_Arithmetic_operate_219 : decode b_Arithmetic_operate 219 = .ok (.pop, 1) := by decide +kernel
theorem d_Arithmetic_operate_220 : decode b_Arithmetic_operate 220 = .ok (.return_, 1) := by decide +kernel
theorem tw_85 : Jvm.Cond.code ⟨"ArcadeBoard$Arithmetic", "operate", "(II)V"⟩ prog_2_method_4_code 4 (Option.none : Option Jvm.ClassFile.FieldType) ∈ AL := ab_in (ab_t3 (List.mem_of_getElem? (i := 89) (by decide +kernel))) rfl
theorem tw_86 : Jvm.Cond.instanceMethod ⟨"ArcadeBoard$Arithmetic", "operate", "(II)V"⟩ ∈ AL := ab_in (ab_t3 (List.mem_of_getElem? (i := 87) (by decide +kernel))) rfl
theorem tw_87 : Jvm.Cond.selects "ArcadeBoard$Arithmetic" ⟨"ArcadeBoard$Arithmetic", "operate", "(II)V"⟩ ⟨"ArcadeBoard$Arithmetic", "operate", "(II)V"⟩ ∈ AL := ab_in (ab_t3 (List.mem_of_getElem? (i := 88) (by decide +kernel))) rfl
theorem tw_88 : Jvm.Cond.fieldLink "ArcadeBoard$Arithmetic" 21 "ArcadeBoard$State" "registers" "[I" ∈ AL := ab_in (ab_t1 (List.mem_of_getElem? (i := 36) (by decide +kernel))) rfl
theorem tw_89 : Jvm.Cond.methodLink "ArcadeBoard$Arithmetic" 25 ⟨"ArcadeBoard$Arithmetic", "sum", "(III)I"⟩ ∈ AL := ab_in (ab_t3 (List.mem_of_getElem? (i := 90) (by decide +kernel))) rfl
theorem tw_90 : Jvm.Cond.methodLink "ArcadeBoard$Arithmetic" 29 ⟨"ArcadeBoard$Arithmetic", "carry", "()I"⟩ ∈ AL := ab_in (ab_t3 (List.mem_of_getElem? (i := 57) (by decide +kernel))) rfl
theorem tw_91 : Jvm.Cond.methodLink "ArcadeBoard$Arithmetic" 33 ⟨"ArcadeBoard$Arithmetic", "difference", "(III)I"⟩ ∈ AL := ab_in (ab_t3 (List.mem_of_getElem? (i := 94) (by decide +kernel))) rfl
theorem tw_92 : Jvm.Cond.methodLink "ArcadeBoard$Arithmetic" 36 ⟨"ArcadeBoard$Arithmetic", "logical", "(II)I"⟩ ∈ AL := ab_in (ab_t3 (List.mem_of_getElem? (i := 98) (by decide +kernel))) rfl
theorem ok_Arithmetic_operate : ab_yok y_Arithmetic_operate b_Arithmetic_operate 4 none 2 := ⟨tw_85, tw_58, by decide, by decide, by decide +kernel⟩
theorem okv_Arithmetic_operate : ab_yok_V y_Arithmetic_operate := ⟨tw_86, tw_87⟩
set_option maxHeartbeats 1000000 in
set_option maxRecDepth 100000 in
theorem c_Arithmetic_operate (l : Launch) (D : va_G) (t : Nat → ClassId) (q : Nat → Nat) (u : SS) (x1 : Int32) (x2 : Int32) : ab_kv l D (tyC t) (wC t q) y_Arithmetic_operate b_Arithmetic_operate 4 { frames := 3, cells := 0, slots := 0, locals := 67 } [.ref (q 7), .int x1, .int x2] u (f_Arithmetic_operate u x1 x2) := by
  refine ab_kv_ofW (by decide) (Nat.le_of_ble_eq_true rfl) (fun p e s m below meth c ls A X hr hk hl hX => ?_)
  have hl : lv_has ls 4 [(0, .ref (q 7)), (1, .int x1), (2, .int x2)] := hl
  refine lv_aload_n (pc := 0) X.1 X.2.1 d_Arithmetic_operate_0 rfl (lv_at hl 0 rfl) ?_
  refine ab_gx (pc := 1) (v := .ref (q 1)) X hX 7 0 0 rfl rfl (Nat.le_of_ble_eq_true rfl) in_Arithmetic rfl tw_61 rfl d_Arithmetic_operate_1 ?_
  refine ab_gx (pc := 4) (v := .ref (q 3)) X hX 1 7 1 rfl rfl (Nat.le_of_ble_eq_true rfl) in_State rfl tw_88 rfl d_Arithmetic_operate_4 ?_
  refine lv_bipush (pc := 7) (v := 7) X.1 X.2.1 d_Arithmetic_operate_7 (by decide) ?_
  refine ab_ald (pc := 9) (f := u 2) (j := 7) X hX 3 0 rfl rfl (ab_inc (by decide)) rfl d_Arithmetic_operate_9 ?_
  refine lv_istore_n (pc := 10) (lv' := [(3, .int (u 2 7)), (0, .ref (q 7)), (1, .int x1), (2, .int x2)]) X.1 X.2.1 d_Arithmetic_operate_10 rfl hl (Nat.le_of_ble_eq_true rfl) rfl (fun ls hl => ?_)
  refine lv_iload_n (pc := 11) X.1 X.2.1 d_Arithmetic_operate_11 rfl (lv_at hl 2 rfl) ?_
  by_cases h1 : x1 = 0
  ·
    refine ab_swIn (pc := 12) (tgt := 56) (off := 44) X.1 X.2.1 d_Arithmetic_operate_12 h1 (by decide) (by decide) (by decide) (by decide) ?_
    refine lv_aload_n (pc := 56) X.1 X.2.1 d_Arithmetic_operate_56 rfl (lv_at hl 1 rfl) ?_
    refine ab_gx (pc := 57) (v := .ref (q 1)) X hX 7 0 0 rfl rfl (Nat.le_of_ble_eq_true rfl) in_Arithmetic rfl tw_61 rfl d_Arithmetic_operate_57 ?_
    refine ab_gx (pc := 60) (v := .ref (q 3)) X hX 1 7 1 rfl rfl (Nat.le_of_ble_eq_true rfl) in_State rfl tw_88 rfl d_Arithmetic_operate_60 ?_
    refine lv_bipush (pc := 63) (v := 7) X.1 X.2.1 d_Arithmetic_operate_63 (by decide) ?_
    refine lv_aload_n (pc := 65) X.1 X.2.1 d_Arithmetic_operate_65 rfl (lv_at hl 1 rfl) ?_
    refine lv_iload_n (pc := 66) X.1 X.2.1 d_Arithmetic_operate_66 rfl (lv_at hl 0 rfl) ?_
    refine lv_iload_n (pc := 67) X.1 X.2.1 d_Arithmetic_operate_67 rfl (lv_at hl 3 rfl) ?_
    refine lv_iconst (pc := 68) (v := 0) X.1 X.2.1 d_Arithmetic_operate_68 (by decide) ?_
    refine ab_ki_callV (pc := 69) (wr := []) (w := (wC t q)) (u := u) (F := f_Arithmetic_sum u (u 2 7) x2 0) (as := [.int (u 2 7), .int x2, .int 0]) (rest := [.int 7, .ref (q 3)]) X hX (c_Arithmetic_sum l D t q u (u 2 7) x2 0) ok_Arithmetic_sum okv_Arithmetic_sum tw_89 7 0 rfl rfl rfl hl.1 rfl (Nat.le_of_ble_eq_true rfl) ⟨rfl, rfl, Nat.le_of_ble_eq_true rfl, Nat.le_of_ble_eq_true rfl⟩ ⟨Nat.zero_le _, Nat.zero_le _⟩ d_Arithmetic_operate_69 (fun H locs hX => ?_)
    refine ab_ast (pc := 72) (f := ((f_Arithmetic_sum u (u 2 7) x2 0).2) 2) (j := 7) (ws' := (wC t q (stt ((f_Arithmetic_sum u (u 2 7) x2 0).2) 2 7 ((f_Arithmetic_sum u (u 2 7) x2 0).1)))) X hX 3 0 rfl rfl (ab_inc (by decide)) rfl (sa_wC_3 t q ((f_Arithmetic_sum u (u 2 7) x2 0).2) 7 ((f_Arithmetic_sum u (u 2 7) x2 0).1)) d_Arithmetic_operate_72 (fun H locs hX => ?_)
    refine lv_goto (pc := 73) (tgt := 220) X.1 X.2.1 d_Arithmetic_operate_73 (by decide) ?_
    exact ab_kv_ret (pc := 220) X hr hk hX (by rw [f_Arithmetic_operate, if_pos h1]) d_Arithmetic_operate_220
  ·
    by_cases h2 : x1 = 1
    ·
      refine ab_swIn (pc := 12) (tgt := 76) (off := 64) X.1 X.2.1 d_Arithmetic_operate_12 h2 (by decide) (by decide) (by decide) (by decide) ?_
      refine lv_aload_n (pc := 76) X.1 X.2.1 d_Arithmetic_operate_76 rfl (lv_at hl 1 rfl) ?_
      refine ab_gx (pc := 77) (v := .ref (q 1)) X hX 7 0 0 rfl rfl (Nat.le_of_ble_eq_true rfl) in_Arithmetic rfl tw_61 rfl d_Arithmetic_operate_77 ?_
      refine ab_gx (pc := 80) (v := .ref (q 3)) X hX 1 7 1 rfl rfl (Nat.le_of_ble_eq_true rfl) in_State rfl tw_88 rfl d_Arithmetic_operate_80 ?_
      refine lv_bipush (pc := 83) (v := 7) X.1 X.2.1 d_Arithmetic_operate_83 (by decide) ?_
      refine lv_aload_n (pc := 85) X.1 X.2.1 d_Arithmetic_operate_85 rfl (lv_at hl 1 rfl) ?_
      refine lv_iload_n (pc := 86) X.1 X.2.1 d_Arithmetic_operate_86 rfl (lv_at hl 0 rfl) ?_
      refine lv_iload_n (pc := 87) X.1 X.2.1 d_Arithmetic_operate_87 rfl (lv_at hl 3 rfl) ?_
      refine lv_aload_n (pc := 88) X.1 X.2.1 d_Arithmetic_operate_88 rfl (lv_at hl 1 rfl) ?_
      refine ab_kr_callV (pc := 89) (wr := []) (w := (wC t q)) (u := u) (r := f_Arithmetic_carry u) (as := []) (rest := [.int x2, .int (u 2 7), .ref (q 7), .int 7, .ref (q 3)]) X hX (c_Arithmetic_carry l D t q u) ok_Arithmetic_carry okv_Arithmetic_carry tw_90 7 0 rfl rfl rfl hl.1 rfl (Nat.le_of_ble_eq_true rfl) ⟨rfl, rfl, Nat.le_of_ble_eq_true rfl, Nat.le_of_ble_eq_true rfl⟩ ⟨Nat.zero_le _, Nat.zero_le _⟩ d_Arithmetic_operate_89 (fun H locs hX => ?_)
      refine ab_ki_callV (pc := 92) (wr := []) (w := (wC t q)) (u := u) (F := f_Arithmetic_sum u (u 2 7) x2 (f_Arithmetic_carry u)) (as := [.int (u 2 7), .int x2, .int (f_Arithmetic_carry u)]) (rest := [.int 7, .ref (q 3)]) X hX (c_Arithmetic_sum l D t q u (u 2 7) x2 (f_Arithmetic_carry u)) ok_Arithmetic_sum okv_Arithmetic_sum tw_89 7 0 rfl rfl rfl hl.1 rfl (Nat.le_of_ble_eq_true rfl) ⟨rfl, rfl, Nat.le_of_ble_eq_true rfl, Nat.le_of_ble_eq_true rfl⟩ ⟨Nat.zero_le _, Nat.zero_le _⟩ d_Arithmetic_operate_92 (fun H locs hX => ?_)
      refine ab_ast (pc := 95) (f := ((f_Arithmetic_sum u (u 2 7) x2 (f_Arithmetic_carry u)).2) 2) (j := 7) (ws' := (wC t q (stt ((f_Arithmetic_sum u (u 2 7) x2 (f_Arithmetic_carry u)).2) 2 7 ((f_Arithmetic_sum u (u 2 7) x2 (f_Arithmetic_carry u)).1)))) X hX 3 0 rfl rfl (ab_inc (by decide)) rfl (sa_wC_3 t q ((f_Arithmetic_sum u (u 2 7) x2 (f_Arithmetic_carry u)).2) 7 ((f_Arithmetic_sum u (u 2 7) x2 (f_Arithmetic_carry u)).1)) d_Arithmetic_operate_95 (fun H locs hX => ?_)
      refine lv_goto (pc := 96) (tgt := 220) X.1 X.2.1 d_Arithmetic_operate_96 (by decide) ?_
      exact ab_kv_ret (pc := 220) X hr hk hX (by rw [f_Arithmetic_operate, if_neg h1, if_pos h2]) d_Arithmetic_operate_220
    ·
      by_cases h3 : x1 = 2
      ·
        refine ab_swIn (pc := 12) (tgt := 99) (off := 87) X.1 X.2.1 d_Arithmetic_operate_12 h3 (by decide) (by decide) (by decide) (by decide) ?_
        refine lv_aload_n (pc := 99) X.1 X.2.1 d_Arithmetic_operate_99 rfl (lv_at hl 1 rfl) ?_
        refine ab_gx (pc := 100) (v := .ref (q 1)) X hX 7 0 0 rfl rfl (Nat.le_of_ble_eq_true rfl) in_Arithmetic rfl tw_61 rfl d_Arithmetic_operate_100 ?_
        refine ab_gx (pc := 103) (v := .ref (q 3)) X hX 1 7 1 rfl rfl (Nat.le_of_ble_eq_true rfl) in_State rfl tw_88 rfl d_Arithmetic_operate_103 ?_
        refine lv_bipush (pc := 106) (v := 7) X.1 X.2.1 d_Arithmetic_operate_106 (by decide) ?_
        refine lv_aload_n (pc := 108) X.1 X.2.1 d_Arithmetic_operate_108 rfl (lv_at hl 1 rfl) ?_
        refine lv_iload_n (pc := 109) X.1 X.2.1 d_Arithmetic_operate_109 rfl (lv_at hl 0 rfl) ?_
        refine lv_iload_n (pc := 110) X.1 X.2.1 d_Arithmetic_operate_110 rfl (lv_at hl 3 rfl) ?_
        refine lv_iconst (pc := 111) (v := 0) X.1 X.2.1 d_Arithmetic_operate_111 (by decide) ?_
        refine ab_ki_callV (pc := 112) (wr := []) (w := (wC t q)) (u := u) (F := f_Arithmetic_difference u (u 2 7) x2 0) (as := [.int (u 2 7), .int x2, .int 0]) (rest := [.int 7, .ref (q 3)]) X hX (c_Arithmetic_difference l D t q u (u 2 7) x2 0) ok_Arithmetic_difference okv_Arithmetic_difference tw_91 7 0 rfl rfl rfl hl.1 rfl (Nat.le_of_ble_eq_true rfl) ⟨rfl, rfl, Nat.le_of_ble_eq_true rfl, Nat.le_of_ble_eq_true rfl⟩ ⟨Nat.zero_le _, Nat.zero_le _⟩ d_Arithmetic_operate_112 (fun H locs hX => ?_)
        refine ab_ast (pc := 115) (f := ((f_Arithmetic_difference u (u 2 7) x2 0).2) 2) (j := 7) (ws' := (wC t q (stt ((f_Arithmetic_difference u (u 2 7) x2 0).2) 2 7 ((f_Arithmetic_difference u (u 2 7) x2 0).1)))) X hX 3 0 rfl rfl (ab_inc (by decide)) rfl (sa_wC_3 t q ((f_Arithmetic_difference u (u 2 7) x2 0).2) 7 ((f_Arithmetic_difference u (u 2 7) x2 0).1)) d_Arithmetic_operate_115 (fun H locs hX => ?_)
        refine lv_goto (pc := 116) (tgt := 220) X.1 X.2.1 d_Arithmetic_operate_116 (by decide) ?_
        exact ab_kv_ret (pc := 220) X hr hk hX (by rw [f_Arithmetic_operate, if_neg h1, if_neg h2, if_pos h3]) d_Arithmetic_operate_220
      ·
        by_cases h4 : x1 = 3
        ·
          refine ab_swIn (pc := 12) (tgt := 119) (off := 107) X.1 X.2.1 d_Arithmetic_operate_12 h4 (by decide) (by decide) (by decide) (by decide) ?_
          refine lv_aload_n (pc := 119) X.1 X.2.1 d_Arithmetic_operate_119 rfl (lv_at hl 1 rfl) ?_
          refine ab_gx (pc := 120) (v := .ref (q 1)) X hX 7 0 0 rfl rfl (Nat.le_of_ble_eq_true rfl) in_Arithmetic rfl tw_61 rfl d_Arithmetic_operate_120 ?_
          refine ab_gx (pc := 123) (v := .ref (q 3)) X hX 1 7 1 rfl rfl (Nat.le_of_ble_eq_true rfl) in_State rfl tw_88 rfl d_Arithmetic_operate_123 ?_
          refine lv_bipush (pc := 126) (v := 7) X.1 X.2.1 d_Arithmetic_operate_126 (by decide) ?_
          refine lv_aload_n (pc := 128) X.1 X.2.1 d_Arithmetic_operate_128 rfl (lv_at hl 1 rfl) ?_
          refine lv_iload_n (pc := 129) X.1 X.2.1 d_Arithmetic_operate_129 rfl (lv_at hl 0 rfl) ?_
          refine lv_iload_n (pc := 130) X.1 X.2.1 d_Arithmetic_operate_130 rfl (lv_at hl 3 rfl) ?_
          refine lv_aload_n (pc := 131) X.1 X.2.1 d_Arithmetic_operate_131 rfl (lv_at hl 1 rfl) ?_
          refine ab_kr_callV (pc := 132) (wr := []) (w := (wC t q)) (u := u) (r := f_Arithmetic_carry u) (as := []) (rest := [.int x2, .int (u 2 7), .ref (q 7), .int 7, .ref (q 3)]) X hX (c_Arithmetic_carry l D t q u) ok_Arithmetic_carry okv_Arithmetic_carry tw_90 7 0 rfl rfl rfl hl.1 rfl (Nat.le_of_ble_eq_true rfl) ⟨rfl, rfl, Nat.le_of_ble_eq_true rfl, Nat.le_of_ble_eq_true rfl⟩ ⟨Nat.zero_le _, Nat.zero_le _⟩ d_Arithmetic_operate_132 (fun H locs hX => ?_)
          refine ab_ki_callV (pc := 135) (wr := []) (w := (wC t q)) (u := u) (F := f_Arithmetic_difference u (u 2 7) x2 (f_Arithmetic_carry u)) (as := [.int (u 2 7), .int x2, .int (f_Arithmetic_carry u)]) (rest := [.int 7, .ref (q 3)]) X hX (c_Arithmetic_difference l D t q u (u 2 7) x2 (f_Arithmetic_carry u)) ok_Arithmetic_difference okv_Arithmetic_difference tw_91 7 0 rfl rfl rfl hl.1 rfl (Nat.le_of_ble_eq_true rfl) ⟨rfl, rfl, Nat.le_of_ble_eq_true rfl, Nat.le_of_ble_eq_true rfl⟩ ⟨Nat.zero_le _, Nat.zero_le _⟩ d_Arithmetic_operate_135 (fun H locs hX => ?_)
          refine ab_ast (pc := 138) (f := ((f_Arithmetic_difference u (u 2 7) x2 (f_Arithmetic_carry u)).2) 2) (j := 7) (ws' := (wC t q (stt ((f_Arithmetic_difference u (u 2 7) x2 (f_Arithmetic_carry u)).2) 2 7 ((f_Arithmetic_difference u (u 2 7) x2 (f_Arithmetic_carry u)).1)))) X hX 3 0 rfl rfl (ab_inc (by decide)) rfl (sa_wC_3 t q ((f_Arithmetic_difference u (u 2 7) x2 (f_Arithmetic_carry u)).2) 7 ((f_Arithmetic_difference u (u 2 7) x2 (f_Arithmetic_carry u)).1)) d_Arithmetic_operate_138 (fun H locs hX => ?_)
          refine lv_goto (pc := 139) (tgt := 220) X.1 X.2.1 d_Arithmetic_operate_139 (by decide) ?_
          exact ab_kv_ret (pc := 220) X hr hk hX (by rw [f_Arithmetic_operate, if_neg h1, if_neg h2, if_neg h3, if_pos h4]) d_Arithmetic_operate_220
        ·
          by_cases h5 : x1 = 4
          ·
            refine ab_swIn (pc := 12) (tgt := 142) (off := 130) X.1 X.2.1 d_Arithmetic_operate_12 h5 (by decide) (by decide) (by decide) (by decide) ?_
            refine lv_aload_n (pc := 142) X.1 X.2.1 d_Arithmetic_operate_142 rfl (lv_at hl 1 rfl) ?_
            refine ab_gx (pc := 143) (v := .ref (q 1)) X hX 7 0 0 rfl rfl (Nat.le_of_ble_eq_true rfl) in_Arithmetic rfl tw_61 rfl d_Arithmetic_operate_143 ?_
            refine ab_gx (pc := 146) (v := .ref (q 3)) X hX 1 7 1 rfl rfl (Nat.le_of_ble_eq_true rfl) in_State rfl tw_88 rfl d_Arithmetic_operate_146 ?_
            refine lv_bipush (pc := 149) (v := 7) X.1 X.2.1 d_Arithmetic_operate_149 (by decide) ?_
            refine lv_aload_n (pc := 151) X.1 X.2.1 d_Arithmetic_operate_151 rfl (lv_at hl 1 rfl) ?_
            refine lv_iload_n (pc := 152) X.1 X.2.1 d_Arithmetic_operate_152 rfl (lv_at hl 0 rfl) ?_
            refine lv_iload_n (pc := 153) X.1 X.2.1 d_Arithmetic_operate_153 rfl (lv_at hl 3 rfl) ?_
            refine lv_iand (pc := 154) X.1 X.2.1 d_Arithmetic_operate_154 ?_
            refine lv_iload_n (pc := 155) X.1 X.2.1 d_Arithmetic_operate_155 rfl (lv_at hl 0 rfl) ?_
            refine lv_iload_n (pc := 156) X.1 X.2.1 d_Arithmetic_operate_156 rfl (lv_at hl 3 rfl) ?_
            refine lv_ior (pc := 157) X.1 X.2.1 d_Arithmetic_operate_157 ?_
            refine lv_bipush (pc := 158) (v := 8) X.1 X.2.1 d_Arithmetic_operate_158 (by decide) ?_
            refine lv_iand (pc := 160) X.1 X.2.1 d_Arithmetic_operate_160 ?_
            refine lv_iconst (pc := 161) (v := 2) X.1 X.2.1 d_Arithmetic_operate_161 (by decide) ?_
            refine lv_imul (pc := 162) X.1 X.2.1 d_Arithmetic_operate_162 ?_
            refine ab_ki_callV (pc := 163) (wr := []) (w := (wC t q)) (u := u) (F := f_Arithmetic_logical u ((u 2 7) &&& x2) ((((u 2 7) ||| x2) &&& 8) * 2)) (as := [.int ((u 2 7) &&& x2), .int ((((u 2 7) ||| x2) &&& 8) * 2)]) (rest := [.int 7, .ref (q 3)]) X hX (c_Arithmetic_logical l D t q u ((u 2 7) &&& x2) ((((u 2 7) ||| x2) &&& 8) * 2)) ok_Arithmetic_logical okv_Arithmetic_logical tw_92 7 0 rfl rfl rfl hl.1 rfl (Nat.le_of_ble_eq_true rfl) ⟨rfl, rfl, Nat.le_of_ble_eq_true rfl, Nat.le_of_ble_eq_true rfl⟩ ⟨Nat.zero_le _, Nat.zero_le _⟩ d_Arithmetic_operate_163 (fun H locs hX => ?_)
            refine ab_ast (pc := 166) (f := ((f_Arithmetic_logical u ((u 2 7) &&& x2) ((((u 2 7) ||| x2) &&& 8) * 2)).2) 2) (j := 7) (ws' := (wC t q (stt ((f_Arithmetic_logical u ((u 2 7) &&& x2) ((((u 2 7) ||| x2) &&& 8) * 2)).2) 2 7 ((f_Arithmetic_logical u ((u 2 7) &&& x2) ((((u 2 7) ||| x2) &&& 8) * 2)).1)))) X hX 3 0 rfl rfl (ab_inc (by decide)) rfl (sa_wC_3 t q ((f_Arithmetic_logical u ((u 2 7) &&& x2) ((((u 2 7) ||| x2) &&& 8) * 2)).2) 7 ((f_Arithmetic_logical u ((u 2 7) &&& x2) ((((u 2 7) ||| x2) &&& 8) * 2)).1)) d_Arithmetic_operate_166 (fun H locs hX => ?_)
            refine lv_goto (pc := 167) (tgt := 220) X.1 X.2.1 d_Arithmetic_operate_167 (by decide) ?_
            exact ab_kv_ret (pc := 220) X hr hk hX (by rw [f_Arithmetic_operate, if_neg h1, if_neg h2, if_neg h3, if_neg h4, if_pos h5]) d_Arithmetic_operate_220
          ·
            by_cases h6 : x1 = 5
            ·
              refine ab_swIn (pc := 12) (tgt := 170) (off := 158) X.1 X.2.1 d_Arithmetic_operate_12 h6 (by decide) (by decide) (by decide) (by decide) ?_
              refine lv_aload_n (pc := 170) X.1 X.2.1 d_Arithmetic_operate_170 rfl (lv_at hl 1 rfl) ?_
              refine ab_gx (pc := 171) (v := .ref (q 1)) X hX 7 0 0 rfl rfl (Nat.le_of_ble_eq_true rfl) in_Arithmetic rfl tw_61 rfl d_Arithmetic_operate_171 ?_
              refine ab_gx (pc := 174) (v := .ref (q 3)) X hX 1 7 1 rfl rfl (Nat.le_of_ble_eq_true rfl) in_State rfl tw_88 rfl d_Arithmetic_operate_174 ?_
              refine lv_bipush (pc := 177) (v := 7) X.1 X.2.1 d_Arithmetic_operate_177 (by decide) ?_
              refine lv_aload_n (pc := 179) X.1 X.2.1 d_Arithmetic_operate_179 rfl (lv_at hl 1 rfl) ?_
              refine lv_iload_n (pc := 180) X.1 X.2.1 d_Arithmetic_operate_180 rfl (lv_at hl 0 rfl) ?_
              refine lv_iload_n (pc := 181) X.1 X.2.1 d_Arithmetic_operate_181 rfl (lv_at hl 3 rfl) ?_
              refine lv_ixor (pc := 182) X.1 X.2.1 d_Arithmetic_operate_182 ?_
              refine lv_iconst (pc := 183) (v := 0) X.1 X.2.1 d_Arithmetic_operate_183 (by decide) ?_
              refine ab_ki_callV (pc := 184) (wr := []) (w := (wC t q)) (u := u) (F := f_Arithmetic_logical u ((u 2 7) ^^^ x2) 0) (as := [.int ((u 2 7) ^^^ x2), .int 0]) (rest := [.int 7, .ref (q 3)]) X hX (c_Arithmetic_logical l D t q u ((u 2 7) ^^^ x2) 0) ok_Arithmetic_logical okv_Arithmetic_logical tw_92 7 0 rfl rfl rfl hl.1 rfl (Nat.le_of_ble_eq_true rfl) ⟨rfl, rfl, Nat.le_of_ble_eq_true rfl, Nat.le_of_ble_eq_true rfl⟩ ⟨Nat.zero_le _, Nat.zero_le _⟩ d_Arithmetic_operate_184 (fun H locs hX => ?_)
              refine ab_ast (pc := 187) (f := ((f_Arithmetic_logical u ((u 2 7) ^^^ x2) 0).2) 2) (j := 7) (ws' := (wC t q (stt ((f_Arithmetic_logical u ((u 2 7) ^^^ x2) 0).2) 2 7 ((f_Arithmetic_logical u ((u 2 7) ^^^ x2) 0).1)))) X hX 3 0 rfl rfl (ab_inc (by decide)) rfl (sa_wC_3 t q ((f_Arithmetic_logical u ((u 2 7) ^^^ x2) 0).2) 7 ((f_Arithmetic_logical u ((u 2 7) ^^^ x2) 0).1)) d_Arithmetic_operate_187 (fun H locs hX => ?_)
              refine lv_goto (pc := 188) (tgt := 220) X.1 X.2.1 d_Arithmetic_operate_188 (by decide) ?_
              exact ab_kv_ret (pc := 220) X hr hk hX (by rw [f_Arithmetic_operate, if_neg h1, if_neg h2, if_neg h3, if_neg h4, if_neg h5, if_pos h6]) d_Arithmetic_operate_220
            ·
              by_cases h7 : x1 = 6
              ·
                refine ab_swIn (pc := 12) (tgt := 191) (off := 179) X.1 X.2.1 d_Arithmetic_operate_12 h7 (by decide) (by decide) (by decide) (by decide) ?_
                refine lv_aload_n (pc := 191) X.1 X.2.1 d_Arithmetic_operate_191 rfl (lv_at hl 1 rfl) ?_
                refine ab_gx (pc := 192) (v := .ref (q 1)) X hX 7 0 0 rfl rfl (Nat.le_of_ble_eq_true rfl) in_Arithmetic rfl tw_61 rfl d_Arithmetic_operate_192 ?_
                refine ab_gx (pc := 195) (v := .ref (q 3)) X hX 1 7 1 rfl rfl (Nat.le_of_ble_eq_true rfl) in_State rfl tw_88 rfl d_Arithmetic_operate_195 ?_
                refine lv_bipush (pc := 198) (v := 7) X.1 X.2.1 d_Arithmetic_operate_198 (by decide) ?_
                refine lv_aload_n (pc := 200) X.1 X.2.1 d_Arithmetic_operate_200 rfl (lv_at hl 1 rfl) ?_
                refine lv_iload_n (pc := 201) X.1 X.2.1 d_Arithmetic_operate_201 rfl (lv_at hl 0 rfl) ?_
                refine lv_iload_n (pc := 202) X.1 X.2.1 d_Arithmetic_operate_202 rfl (lv_at hl 3 rfl) ?_
                refine lv_ior (pc := 203) X.1 X.2.1 d_Arithmetic_operate_203 ?_
                refine lv_iconst (pc := 204) (v := 0) X.1 X.2.1 d_Arithmetic_operate_204 (by decide) ?_
                refine ab_ki_callV (pc := 205) (wr := []) (w := (wC t q)) (u := u) (F := f_Arithmetic_logical u ((u 2 7) ||| x2) 0) (as := [.int ((u 2 7) ||| x2), .int 0]) (rest := [.int 7, .ref (q 3)]) X hX (c_Arithmetic_logical l D t q u ((u 2 7) ||| x2) 0) ok_Arithmetic_logical okv_Arithmetic_logical tw_92 7 0 rfl rfl rfl hl.1 rfl (Nat.le_of_ble_eq_true rfl) ⟨rfl, rfl, Nat.le_of_ble_eq_true rfl, Nat.le_of_ble_eq_true rfl⟩ ⟨Nat.zero_le _, Nat.zero_le _⟩ d_Arithmetic_operate_205 (fun H locs hX => ?_)
                refine ab_ast (pc := 208) (f := ((f_Arithmetic_logical u ((u 2 7) ||| x2) 0).2) 2) (j := 7) (ws' := (wC t q (stt ((f_Arithmetic_logical u ((u 2 7) ||| x2) 0).2) 2 7 ((f_Arithmetic_logical u ((u 2 7) ||| x2) 0).1)))) X hX 3 0 rfl rfl (ab_inc (by decide)) rfl (sa_wC_3 t q ((f_Arithmetic_logical u ((u 2 7) ||| x2) 0).2) 7 ((f_Arithmetic_logical u ((u 2 7) ||| x2) 0).1)) d_Arithmetic_operate_208 (fun H locs hX => ?_)
                refine lv_goto (pc := 209) (tgt := 220) X.1 X.2.1 d_Arithmetic_operate_209 (by decide) ?_
                exact ab_kv_ret (pc := 220) X hr hk hX (by rw [f_Arithmetic_operate, if_neg h1, if_neg h2, if_neg h3, if_neg h4, if_neg h5, if_neg h6, if_pos h7]) d_Arithmetic_operate_220
              ·
                have hno : x1.toInt < 0 ∨ 6 < x1.toInt := by
                  have n0 := lv_neT h1 (k := 0) (a := 0) (by decide)
                  have n1 := lv_neT h2 (k := 1) (a := 1) (by decide)
                  have n2 := lv_neT h3 (k := 2) (a := 2) (by decide)
                  have n3 := lv_neT h4 (k := 3) (a := 3) (by decide)
                  have n4 := lv_neT h5 (k := 4) (a := 4) (by decide)
                  have n5 := lv_neT h6 (k := 5) (a := 5) (by decide)
                  have n6 := lv_neT h7 (k := 6) (a := 6) (by decide)
                  omega
                refine lv_tableOut (pc := 12) (tgt := 212) X.1 X.2.1 d_Arithmetic_operate_12 hno (by decide) ?_
                refine lv_aload_n (pc := 212) X.1 X.2.1 d_Arithmetic_operate_212 rfl (lv_at hl 1 rfl) ?_
                refine lv_iload_n (pc := 213) X.1 X.2.1 d_Arithmetic_operate_213 rfl (lv_at hl 0 rfl) ?_
                refine lv_iload_n (pc := 214) X.1 X.2.1 d_Arithmetic_operate_214 rfl (lv_at hl 3 rfl) ?_
                refine lv_iconst (pc := 215) (v := 0) X.1 X.2.1 d_Arithmetic_operate_215 (by decide) ?_
                refine ab_ki_callV (pc := 216) (wr := []) (w := (wC t q)) (u := u) (F := f_Arithmetic_difference u (u 2 7) x2 0) (as := [.int (u 2 7), .int x2, .int 0]) (rest := []) X hX (c_Arithmetic_difference l D t q u (u 2 7) x2 0) ok_Arithmetic_difference okv_Arithmetic_difference tw_91 7 0 rfl rfl rfl hl.1 rfl (Nat.le_of_ble_eq_true rfl) ⟨rfl, rfl, Nat.le_of_ble_eq_true rfl, Nat.le_of_ble_eq_true rfl⟩ ⟨Nat.zero_le _, Nat.zero_le _⟩ d_Arithmetic_operate_216 (fun H locs hX => ?_)
                refine lv_pop (pc := 219) X.1 X.2.1 d_Arithmetic_operate_219 rfl ?_
                exact ab_kv_ret (pc := 220) X hr hk hX (by rw [f_Arithmetic_operate, if_neg h1, if_neg h2, if_neg h3, if_neg h4, if_neg h5, if_neg h6, if_neg h7]) d_Arithmetic_operate_220
abbrev b_Arithmetic_oneMore : ByteArray := prog_2_method_5_code
def y_Arithmetic_oneMore : MethodName := ⟨"ArcadeBoard$Arithmetic", "oneMore", "(I)I"⟩
theorem d_Arithmetic_oneMore_0 : decode b_Arithmetic_oneMore 0 = .ok (.iload_n 1, 1) := by decide +kernel
theorem d_Arithmetic_oneMore_1 : decode b_Arithmetic_oneMore 1 = .ok (.iconst 1, 1) := by decide +kernel
theorem d_Arithmetic_oneMore_2 : decode b_Arithmetic_oneMore 2 = .ok (.iadd, 1) := by decide +kernel
theorem d_Arithmetic_oneMore_3 : decode b_Arithmetic_oneMore 3 = .ok (.sipush 255, 3) := by decide +kernel
theorem d_Arithmetic_oneMore_6 : decode b_Arithmetic_oneMore 6 = .ok (.iand, 1) := by decide +kernel
theorem d_Arithmetic_oneMore_7 : decode b_Arithmetic_oneMore 7 = .ok (.istore_n 2, 1) := by decide +kernel
theorem d_Arithmetic_oneMore_8 : decode b_Arithmetic_oneMore 8 = .ok (.aload_n 0, 1) := by decide +kernel
theorem d_Arithmetic_oneMore_9 : decode b_Arithmetic_oneMore 9 = .ok (.getfield 9, 3) := by decide +kernel
theorem d_Arithmetic_oneMore_12 : decode b_Arithmetic_oneMore 12 = .ok (.iload_n 2, 1) := by decide +kernel
theorem d_Arithmetic_oneMore_13 : decode b_Arithmetic_oneMore 13 = .ok (.invokestatic 40, 3) := by decide +kernel
theorem d_Arithmetic_oneMore_16 : decode b_Arithmetic_oneMore 16 = .ok (.iload_n 1, 1) := by decide +kernel
theorem d_Arithmetic_oneMore_17 : decode b_Arithmetic_oneMore 17 = .ok (.bipush 15, 2) := by decide +kernel
theorem d_Arithmetic_oneMore_19 : decode b_Arithmetic_oneMore 19 = .ok (.iand, 1) := by decide +kernel
theorem d_Arithmetic_oneMore_20 : decode b_Arithmetic_oneMore 20 = .ok (.iconst 1, 1) := by decide +kernel
theorem d_Arithmetic_oneMore_21 : decode b_Arithmetic_oneMore 21 = .ok (.iadd, 1) := by decide +kernel
theorem d_Arithmetic_oneMore_22 : decode b_Arithmetic_oneMore 22 = .ok (.bipush 16, 2) := by decide +kernel
theorem d_Arithmetic_oneMore_24 : decode b_Arithmetic_oneMore 24 = .ok (.iand, 1) := by decide +kernel
theorem d_Arithmetic_oneMore_25 : decode b_Arithmetic_oneMore 25 = .ok (.ior, 1) := by decide +kernel
theorem d_Arithmetic_oneMore_26 : decode b_Arithmetic_oneMore 26 = .ok (.aload_n 0, 1) := by decide +kernel
theorem d_Arithmetic_oneMore_27 : decode b_Arithmetic_oneMore 27 = .ok (.invokevirtual 29, 3) := by decide +kernel
theorem d_Arithmetic_oneMore_30 : decode b_Arithmetic_oneMore 30 = .ok (.ior, 1) := by decide +kernel
theorem d_Arithmetic_oneMore_31 : decode b_Arithmetic_oneMore 31 = .ok (.putfield 15, 3) := by decide +kernel
theorem d_Arithmetic_oneMore_34 : decode b_Arithmetic_oneMore 34 = .ok (.iload_n 2, 1) := by decide +kernel
theorem d_Arithmetic_oneMore_35 : decode b_Arithmetic_oneMore 35 = .ok (.ireturn, 1) := by decide +kernel
theorem tw_93 : Jvm.Cond.code ⟨"ArcadeBoard$Arithmetic", "oneMore", "(I)I"⟩ prog_2_method_5_code 3 (Option.some Jvm.ClassFile.FieldType.int) ∈ AL := ab_in (ab_t3 (List.mem_of_getElem? (i := 47) (by decide +kernel))) rfl
theorem tw_94 : Jvm.Cond.instanceMethod ⟨"ArcadeBoard$Arithmetic", "oneMore", "(I)I"⟩ ∈ AL := ab_in (ab_t3 (List.mem_of_getElem? (i := 45) (by decide +kernel))) rfl
theorem tw_95 : Jvm.Cond.selects "ArcadeBoard$Arithmetic" ⟨"ArcadeBoard$Arithmetic", "oneMore", "(I)I"⟩ ⟨"ArcadeBoard$Arithmetic", "oneMore", "(I)I"⟩ ∈ AL := ab_in (ab_t3 (List.mem_of_getElem? (i := 46) (by decide +kernel))) rfl
theorem ok_Arithmetic_oneMore : ab_yok y_Arithmetic_oneMore b_Arithmetic_oneMore 3 (some .int) 1 := ⟨tw_93, tw_58, by decide, by decide, by decide +kernel⟩
theorem okv_Arithmetic_oneMore : ab_yok_V y_Arithmetic_oneMore := ⟨tw_94, tw_95⟩
set_option maxHeartbeats 1000000 in
set_option maxRecDepth 100000 in
theorem c_Arithmetic_oneMore (l : Launch) (D : va_G) (t : Nat → ClassId) (q : Nat → Nat) (u : SS) (x1 : Int32) : ab_ki l D (tyC t) (wC t q) y_Arithmetic_oneMore b_Arithmetic_oneMore 3 .int { frames := 2, cells := 0, slots := 0, locals := 42 } [.ref (q 7), .int x1] u (f_Arithmetic_oneMore u x1) := by
  refine ab_ki_ofW (by decide) (Nat.le_of_ble_eq_true rfl) (fun p e s m below meth c ls A X hr hk hl hX => ?_)
  have hl : lv_has ls 3 [(0, .ref (q 7)), (1, .int x1)] := hl
  refine lv_iload_n (pc := 0) X.1 X.2.1 d_Arithmetic_oneMore_0 rfl (lv_at hl 1 rfl) ?_
  refine lv_iconst (pc := 1) (v := 1) X.1 X.2.1 d_Arithmetic_oneMore_1 (by decide) ?_
  refine lv_iadd (pc := 2) X.1 X.2.1 d_Arithmetic_oneMore_2 ?_
  refine lv_sipush (pc := 3) (v := 255) X.1 X.2.1 d_Arithmetic_oneMore_3 (by decide) ?_
  refine lv_iand (pc := 6) X.1 X.2.1 d_Arithmetic_oneMore_6 ?_
  refine lv_istore_n (pc := 7) (lv' := [(2, .int ((x1 + 1) &&& 255)), (0, .ref (q 7)), (1, .int x1)]) X.1 X.2.1 d_Arithmetic_oneMore_7 rfl hl (Nat.le_of_ble_eq_true rfl) rfl (fun ls hl => ?_)
  refine lv_aload_n (pc := 8) X.1 X.2.1 d_Arithmetic_oneMore_8 rfl (lv_at hl 1 rfl) ?_
  refine ab_gx (pc := 9) (v := .ref (q 1)) X hX 7 0 0 rfl rfl (Nat.le_of_ble_eq_true rfl) in_Arithmetic rfl tw_61 rfl d_Arithmetic_oneMore_9 ?_
  refine lv_iload_n (pc := 12) X.1 X.2.1 d_Arithmetic_oneMore_12 rfl (lv_at hl 0 rfl) ?_
  refine ab_kr_callS (pc := 13) (wr := []) (w := (wC t q)) (u := u) (r := f_Arithmetic_resultFlags u ((x1 + 1) &&& 255)) (as := [.int ((x1 + 1) &&& 255)]) (rest := [.ref (q 1)]) X hX (c_Arithmetic_resultFlags l D t q u ((x1 + 1) &&& 255)) ok_Arithmetic_resultFlags oks_Arithmetic_resultFlags tw_78 rfl hl.1 rfl (Nat.le_of_ble_eq_true rfl) ⟨rfl, rfl, Nat.le_of_ble_eq_true rfl, Nat.le_of_ble_eq_true rfl⟩ ⟨Nat.zero_le _, Nat.zero_le _⟩ d_Arithmetic_oneMore_13 (fun H locs hX => ?_)
  refine lv_iload_n (pc := 16) X.1 X.2.1 d_Arithmetic_oneMore_16 rfl (lv_at hl 2 rfl) ?_
  refine lv_bipush (pc := 17) (v := 15) X.1 X.2.1 d_Arithmetic_oneMore_17 (by decide) ?_
  refine lv_iand (pc := 19) X.1 X.2.1 d_Arithmetic_oneMore_19 ?_
  refine lv_iconst (pc := 20) (v := 1) X.1 X.2.1 d_Arithmetic_oneMore_20 (by decide) ?_
  refine lv_iadd (pc := 21) X.1 X.2.1 d_Arithmetic_oneMore_21 ?_
  refine lv_bipush (pc := 22) (v := 16) X.1 X.2.1 d_Arithmetic_oneMore_22 (by decide) ?_
  refine lv_iand (pc := 24) X.1 X.2.1 d_Arithmetic_oneMore_24 ?_
  refine lv_ior (pc := 25) X.1 X.2.1 d_Arithmetic_oneMore_25 ?_
  refine lv_aload_n (pc := 26) X.1 X.2.1 d_Arithmetic_oneMore_26 rfl (lv_at hl 1 rfl) ?_
  refine ab_kr_callV (pc := 27) (wr := []) (w := (wC t q)) (u := u) (r := f_Arithmetic_carry u) (as := []) (rest := [.int ((f_Arithmetic_resultFlags u ((x1 + 1) &&& 255)) ||| (((x1 &&& 15) + 1) &&& 16)), .ref (q 1)]) X hX (c_Arithmetic_carry l D t q u) ok_Arithmetic_carry okv_Arithmetic_carry tw_90 7 0 rfl rfl rfl hl.1 rfl (Nat.le_of_ble_eq_true rfl) ⟨rfl, rfl, Nat.le_of_ble_eq_true rfl, Nat.le_of_ble_eq_true rfl⟩ ⟨Nat.zero_le _, Nat.zero_le _⟩ d_Arithmetic_oneMore_27 (fun H locs hX => ?_)
  refine lv_ior (pc := 30) X.1 X.2.1 d_Arithmetic_oneMore_30 ?_
  refine ab_px (pc := 31) (ws' := (wC t q (stt u 0 0 (((f_Arithmetic_resultFlags u ((x1 + 1) &&& 255)) ||| (((x1 &&& 15) + 1) &&& 16)) ||| (f_Arithmetic_carry u))))) X hX 1 7 2 ty_State ty_State_ok nm_State rfl rfl (Nat.le_of_ble_eq_true rfl) in_State rfl tw_62 rfl rfl rfl rfl (Nat.le_of_ble_eq_true rfl) (sf_wC_1_2 t q u (((f_Arithmetic_resultFlags u ((x1 + 1) &&& 255)) ||| (((x1 &&& 15) + 1) &&& 16)) ||| (f_Arithmetic_carry u))) d_Arithmetic_oneMore_31 (fun H locs hX => ?_)
  refine lv_iload_n (pc := 34) X.1 X.2.1 d_Arithmetic_oneMore_34 rfl (lv_at hl 0 rfl) ?_
  exact ab_ki_ret (pc := 35) X hr hk hX rfl (by rw [f_Arithmetic_oneMore]) d_Arithmetic_oneMore_35
abbrev b_Arithmetic_oneLess : ByteArray := prog_2_method_6_code
def y_Arithmetic_oneLess : MethodName := ⟨"ArcadeBoard$Arithmetic", "oneLess", "(I)I"⟩
theorem d_Arithmetic_oneLess_0 : decode b_Arithmetic_oneLess 0 = .ok (.iload_n 1, 1) := by decide +kernel
theorem d_Arithmetic_oneLess_1 : decode b_Arithmetic_oneLess 1 = .ok (.iconst 1, 1) := by decide +kernel
theorem d_Arithmetic_oneLess_2 : decode b_Arithmetic_oneLess 2 = .ok (.isub, 1) := by decide +kernel
theorem d_Arithmetic_oneLess_3 : decode b_Arithmetic_oneLess 3 = .ok (.sipush 255, 3) := by decide +kernel
theorem d_Arithmetic_oneLess_6 : decode b_Arithmetic_oneLess 6 = .ok (.iand, 1) := by decide +kernel
theorem d_Arithmetic_oneLess_7 : decode b_Arithmetic_oneLess 7 = .ok (.istore_n 2, 1) := by decide +kernel
theorem d_Arithmetic_oneLess_8 : decode b_Arithmetic_oneLess 8 = .ok (.aload_n 0, 1) := by decide +kernel
theorem d_Arithmetic_oneLess_9 : decode b_Arithmetic_oneLess 9 = .ok (.getfield 9, 3) := by decide +kernel
theorem d_Arithmetic_oneLess_12 : decode b_Arithmetic_oneLess 12 = .ok (.iload_n 2, 1) := by decide +kernel
theorem d_Arithmetic_oneLess_13 : decode b_Arithmetic_oneLess 13 = .ok (.invokestatic 40, 3) := by decide +kernel
theorem d_Arithmetic_oneLess_16 : decode b_Arithmetic_oneLess 16 = .ok (.iload_n 1, 1) := by decide +kernel
theorem d_Arithmetic_oneLess_17 : decode b_Arithmetic_oneLess 17 = .ok (.bipush 15, 2) := by decide +kernel
theorem d_Arithmetic_oneLess_19 : decode b_Arithmetic_oneLess 19 = .ok (.iand, 1) := by decide +kernel
theorem d_Arithmetic_oneLess_20 : decode b_Arithmetic_oneLess 20 = .ok (.ifCond .ne 7, 3) := by decide +kernel
theorem d_Arithmetic_oneLess_23 : decode b_Arithmetic_oneLess 23 = .ok (.iconst 0, 1) := by decide +kernel
theorem d_Arithmetic_oneLess_24 : decode b_Arithmetic_oneLess 24 = .ok (.goto 5, 3) := by decide +kernel
theorem d_Arithmetic_oneLess_27 : decode b_Arithmetic_oneLess 27 = .ok (.bipush 16, 2) := by decide +kernel
theorem d_Arithmetic_oneLess_29 : decode b_Arithmetic_oneLess 29 = .ok (.ior, 1) := by decide +kernel
theorem d_Arithmetic_oneLess_30 : decode b_Arithmetic_oneLess 30 = .ok (.aload_n 0, 1) := by decide +kernel
theorem d_Arithmetic_oneLess_31 : decode b_Arithmetic_oneLess 31 = .ok (.invokevirtual 29, 3) := by decide +kernel
theorem d_Arithmetic_oneLess_34 : decode b_Arithmetic_oneLess 34 = .ok (.ior, 1) := by decide +kernel
theorem d_Arithmetic_oneLess_35 : decode b_Arithmetic_oneLess 35 = .ok (.putfield 15, 3) := by decide +kernel
theorem d_Arithmetic_oneLess_38 : decode b_Arithmetic_oneLess 38 = .ok (.iload_n 2, 1) := by decide +kernel
theorem d_Arithmetic_oneLess_39 : decode b_Arithmetic_oneLess 39 = .ok (.ireturn, 1) := by decide +kernel
theorem tw_96 : Jvm.Cond.code ⟨"ArcadeBoard$Arithmetic", "oneLess", "(I)I"⟩ prog_2_method_6_code 3 (Option.some Jvm.ClassFile.FieldType.int) ∈ AL := ab_in (ab_t3 (List.mem_of_getElem? (i := 69) (by decide +kernel))) rfl
theorem tw_97 : Jvm.Cond.instanceMethod ⟨"ArcadeBoard$Arithmetic", "oneLess", "(I)I"⟩ ∈ AL := ab_in (ab_t3 (List.mem_of_getElem? (i := 67) (by decide +kernel))) rfl
theorem tw_98 : Jvm.Cond.selects "ArcadeBoard$Arithmetic" ⟨"ArcadeBoard$Arithmetic", "oneLess", "(I)I"⟩ ⟨"ArcadeBoard$Arithmetic", "oneLess", "(I)I"⟩ ∈ AL := ab_in (ab_t3 (List.mem_of_getElem? (i := 68) (by decide +kernel))) rfl
theorem ok_Arithmetic_oneLess : ab_yok y_Arithmetic_oneLess b_Arithmetic_oneLess 3 (some .int) 1 := ⟨tw_96, tw_58, by decide, by decide, by decide +kernel⟩
theorem okv_Arithmetic_oneLess : ab_yok_V y_Arithmetic_oneLess := ⟨tw_97, tw_98⟩
set_option maxHeartbeats 1000000 in
set_option maxRecDepth 100000 in
theorem c_Arithmetic_oneLess (l : Launch) (D : va_G) (t : Nat → ClassId) (q : Nat → Nat) (u : SS) (x1 : Int32) : ab_ki l D (tyC t) (wC t q) y_Arithmetic_oneLess b_Arithmetic_oneLess 3 .int { frames := 2, cells := 0, slots := 0, locals := 42 } [.ref (q 7), .int x1] u (f_Arithmetic_oneLess u x1) := by
  refine ab_ki_ofW (by decide) (Nat.le_of_ble_eq_true rfl) (fun p e s m below meth c ls A X hr hk hl hX => ?_)
  have hl : lv_has ls 3 [(0, .ref (q 7)), (1, .int x1)] := hl
  refine lv_iload_n (pc := 0) X.1 X.2.1 d_Arithmetic_oneLess_0 rfl (lv_at hl 1 rfl) ?_
  refine lv_iconst (pc := 1) (v := 1) X.1 X.2.1 d_Arithmetic_oneLess_1 (by decide) ?_
  refine lv_isub (pc := 2) X.1 X.2.1 d_Arithmetic_oneLess_2 ?_
  refine lv_sipush (pc := 3) (v := 255) X.1 X.2.1 d_Arithmetic_oneLess_3 (by decide) ?_
  refine lv_iand (pc := 6) X.1 X.2.1 d_Arithmetic_oneLess_6 ?_
  refine lv_istore_n (pc := 7) (lv' := [(2, .int ((x1 - 1) &&& 255)), (0, .ref (q 7)), (1, .int x1)]) X.1 X.2.1 d_Arithmetic_oneLess_7 rfl hl (Nat.le_of_ble_eq_true rfl) rfl (fun ls hl => ?_)
  refine lv_aload_n (pc := 8) X.1 X.2.1 d_Arithmetic_oneLess_8 rfl (lv_at hl 1 rfl) ?_
  refine ab_gx (pc := 9) (v := .ref (q 1)) X hX 7 0 0 rfl rfl (Nat.le_of_ble_eq_true rfl) in_Arithmetic rfl tw_61 rfl d_Arithmetic_oneLess_9 ?_
  refine lv_iload_n (pc := 12) X.1 X.2.1 d_Arithmetic_oneLess_12 rfl (lv_at hl 0 rfl) ?_
  refine ab_kr_callS (pc := 13) (wr := []) (w := (wC t q)) (u := u) (r := f_Arithmetic_resultFlags u ((x1 - 1) &&& 255)) (as := [.int ((x1 - 1) &&& 255)]) (rest := [.ref (q 1)]) X hX (c_Arithmetic_resultFlags l D t q u ((x1 - 1) &&& 255)) ok_Arithmetic_resultFlags oks_Arithmetic_resultFlags tw_78 rfl hl.1 rfl (Nat.le_of_ble_eq_true rfl) ⟨rfl, rfl, Nat.le_of_ble_eq_true rfl, Nat.le_of_ble_eq_true rfl⟩ ⟨Nat.zero_le _, Nat.zero_le _⟩ d_Arithmetic_oneLess_13 (fun H locs hX => ?_)
  refine lv_iload_n (pc := 16) X.1 X.2.1 d_Arithmetic_oneLess_16 rfl (lv_at hl 2 rfl) ?_
  refine lv_bipush (pc := 17) (v := 15) X.1 X.2.1 d_Arithmetic_oneLess_17 (by decide) ?_
  refine lv_iand (pc := 19) X.1 X.2.1 d_Arithmetic_oneLess_19 ?_
  refine ab_jn (ls := ls) (rest := [.int (f_Arithmetic_resultFlags u ((x1 - 1) &&& 255)), .ref (q 1)]) 29 (if (x1 &&& 15) = 0 then 0 else 16 : Int32) ?_ (fun J => ?_)
  rotate_left
  ·
    refine lv_if_ne (pc := 20) (tgt := 27) X.1 X.2.1 d_Arithmetic_oneLess_20 (by decide) (fun h1 => ?_) (fun h1 => ?_)
    ·
      refine lv_bipush (pc := 27) (v := 16) X.1 X.2.1 d_Arithmetic_oneLess_27 (by decide) ?_
      exact ab_jt (by rw [if_neg h1]) J
    ·
      refine lv_iconst (pc := 23) (v := 0) X.1 X.2.1 d_Arithmetic_oneLess_23 (by decide) ?_
      refine lv_goto (pc := 24) (tgt := 29) X.1 X.2.1 d_Arithmetic_oneLess_24 (by decide) ?_
      exact ab_jt (by rw [if_pos h1]) J
  refine lv_ior (pc := 29) X.1 X.2.1 d_Arithmetic_oneLess_29 ?_
  refine lv_aload_n (pc := 30) X.1 X.2.1 d_Arithmetic_oneLess_30 rfl (lv_at hl 1 rfl) ?_
  refine ab_kr_callV (pc := 31) (wr := []) (w := (wC t q)) (u := u) (r := f_Arithmetic_carry u) (as := []) (rest := [.int ((f_Arithmetic_resultFlags u ((x1 - 1) &&& 255)) ||| (if (x1 &&& 15) = 0 then 0 else 16 : Int32)), .ref (q 1)]) X hX (c_Arithmetic_carry l D t q u) ok_Arithmetic_carry okv_Arithmetic_carry tw_90 7 0 rfl rfl rfl hl.1 rfl (Nat.le_of_ble_eq_true rfl) ⟨rfl, rfl, Nat.le_of_ble_eq_true rfl, Nat.le_of_ble_eq_true rfl⟩ ⟨Nat.zero_le _, Nat.zero_le _⟩ d_Arithmetic_oneLess_31 (fun H locs hX => ?_)
  refine lv_ior (pc := 34) X.1 X.2.1 d_Arithmetic_oneLess_34 ?_
  refine ab_px (pc := 35) (ws' := (wC t q (stt u 0 0 (((f_Arithmetic_resultFlags u ((x1 - 1) &&& 255)) ||| (if (x1 &&& 15) = 0 then 0 else 16 : Int32)) ||| (f_Arithmetic_carry u))))) X hX 1 7 2 ty_State ty_State_ok nm_State rfl rfl (Nat.le_of_ble_eq_true rfl) in_State rfl tw_62 rfl rfl rfl rfl (Nat.le_of_ble_eq_true rfl) (sf_wC_1_2 t q u (((f_Arithmetic_resultFlags u ((x1 - 1) &&& 255)) ||| (if (x1 &&& 15) = 0 then 0 else 16 : Int32)) ||| (f_Arithmetic_carry u))) d_Arithmetic_oneLess_35 (fun H locs hX => ?_)
  refine lv_iload_n (pc := 38) X.1 X.2.1 d_Arithmetic_oneLess_38 rfl (lv_at hl 0 rfl) ?_
  exact ab_ki_ret (pc := 39) X hr hk hX rfl (by rw [f_Arithmetic_oneLess]) d_Arithmetic_oneLess_39
abbrev b_Arithmetic_growHL : ByteArray := prog_2_method_7_code
def y_Arithmetic_growHL : MethodName := ⟨"ArcadeBoard$Arithmetic", "growHL", "(I)V"⟩
theorem d_Arithmetic_growHL_0 : decode b_Arithmetic_growHL 0 = .ok (.aload_n 0, 1) := by decide +kernel
theorem d_Arithmetic_growHL_1 : decode b_Arithmetic_growHL 1 = .ok (.getfield 9, 3) := by decide +kernel
theorem d_Arithmetic_growHL_4 : decode b_Arithmetic_growHL 4 = .ok (.getfield 21, 3) := by decide +kernel
theorem d_Arithmetic_growHL_7 : decode b_Arithmetic_growHL 7 = .ok (.iconst 4, 1) := by decide +kernel
theorem d_Arithmetic_growHL_8 : decode b_Arithmetic_growHL 8 = .ok (.iaload, 1) := by decide +kernel
theorem d_Arithmetic_growHL_9 : decode b_Arithmetic_growHL 9 = .ok (.bipush 8, 2) := by decide +kernel
theorem d_Arithmetic_growHL_11 : decode b_Arithmetic_growHL 11 = .ok (.ishl, 1) := by decide +kernel
theorem d_Arithmetic_growHL_12 : decode b_Arithmetic_growHL 12 = .ok (.aload_n 0, 1) := by decide +kernel
theorem d_Arithmetic_growHL_13 : decode b_Arithmetic_growHL 13 = .ok (.getfield 9, 3) := by decide +kernel
theorem d_Arithmetic_growHL_16 : decode b_Arithmetic_growHL 16 = .ok (.getfield 21, 3) := by decide +kernel
theorem d_Arithmetic_growHL_19 : decode b_Arithmetic_growHL 19 = .ok (.iconst 5, 1) := by decide +kernel
theorem d_Arithmetic_growHL_20 : decode b_Arithmetic_growHL 20 = .ok (.iaload, 1) := by decide +kernel
theorem d_Arithmetic_growHL_21 : decode b_Arithmetic_growHL 21 = .ok (.ior, 1) := by decide +kernel
theorem d_Arithmetic_growHL_22 : decode b_Arithmetic_growHL 22 = .ok (.iload_n 1, 1) := by decide +kernel
theorem d_Arithmetic_growHL_23 : decode b_Arithmetic_growHL 23 = .ok (.iadd, 1) := by decide +kernel
theorem d_Arithmetic_growHL_24 : decode b_Arithmetic_growHL 24 = .ok (.istore_n 2, 1) := by decide +kernel
theorem d_Arithmetic_growHL_25 : decode b_Arithmetic_growHL 25 = .ok (.aload_n 0, 1) := by decide +kernel
theorem d_Arithmetic_growHL_26 : decode b_Arithmetic_growHL 26 = .ok (.getfield 9, 3) := by decide +kernel
theorem d_Arithmetic_growHL_29 : decode b_Arithmetic_growHL 29 = .ok (.getfield 21, 3) := by decide +kernel
theorem d_Arithmetic_growHL_32 : decode b_Arithmetic_growHL 32 = .ok (.iconst 4, 1) := by decide +kernel
theorem d_Arithmetic_growHL_33 : decode b_Arithmetic_growHL 33 = .ok (.iload_n 2, 1) := by decide +kernel
theorem d_Arithmetic_growHL_34 : decode b_Arithmetic_growHL 34 = .ok (.bipush 8, 2) := by decide +kernel
theorem d_Arithmetic_growHL_36 : decode b_Arithmetic_growHL 36 = .ok (.ishr, 1) := by decide +kernel
theorem d_Arithmetic_growHL_37 : decode b_Arithmetic_growHL 37 = .ok (.sipush 255, 3) := by decide +kernel
theorem d_Arithmetic_growHL_40 : decode b_Arithmetic_growHL 40 = .ok (.iand, 1) := by decide +kernel
theorem d_Arithmetic_growHL_41 : decode b_Arithmetic_growHL 41 = .ok (.iastore, 1) := by decide +kernel
theorem d_Arithmetic_growHL_42 : decode b_Arithmetic_growHL 42 = .ok (.aload_n 0, 1) := by decide +kernel
theorem d_Arithmetic_growHL_43 : decode b_Arithmetic_growHL 43 = .ok (.getfield 9, 3) := by decide +kernel
theorem d_Arithmetic_growHL_46 : decode b_Arithmetic_growHL 46 = .ok (.getfield 21, 3) := by decide +kernel
theorem d_Arithmetic_growHL_49 : decode b_Arithmetic_growHL 49 = .ok (.iconst 5, 1) := by decide +kernel
theorem d_Arithmetic_growHL_50 : decode b_Arithmetic_growHL 50 = .ok (.iload_n 2, 1) := by decide +kernel
theorem d_Arithmetic_growHL_51 : decode b_Arithmetic_growHL 51 = .ok (.sipush 255, 3) := by decide +kernel
theorem d_Arithmetic_growHL_54 : decode b_Arithmetic_growHL 54 = .ok (.iand, 1) := by decide +kernel
theorem d_Arithmetic_growHL_55 : decode b_Arithmetic_growHL 55 = .ok (.iastore, 1) := by decide +kernel
theorem d_Arithmetic_growHL_56 : decode b_Arithmetic_growHL 56 = .ok (.aload_n 0, 1) := by decide +kernel
theorem d_Arithmetic_growHL_57 : decode b_Arithmetic_growHL 57 = .ok (.iload_n 2, 1) := by decide +kernel
theorem d_Arithmetic_growHL_58 : decode b_Arithmetic_growHL 58 = .ok (.bipush 16, 2) := by decide +kernel
theorem d_Arithmetic_growHL_60 : decode b_Arithmetic_growHL 60 = .ok (.ishr, 1) := by decide +kernel
theorem d_Arithmetic_growHL_61 : decode b_Arithmetic_growHL 61 = .ok (.invokevirtual 44, 3) := by decide +kernel
theorem d_Arithmetic_growHL_64 : decode b_Arithmetic_growHL 64 = .ok (.return_, 1) := by decide +kernel
theorem tw_99 : Jvm.Cond.code ⟨"ArcadeBoard$Arithmetic", "growHL", "(I)V"⟩ prog_2_method_7_code 3 (Option.none : Option Jvm.ClassFile.FieldType) ∈ AL := ab_in (ab_t3 (List.mem_of_getElem? (i := 24) (by decide +kernel))) rfl
theorem tw_100 : Jvm.Cond.instanceMethod ⟨"ArcadeBoard$Arithmetic", "growHL", "(I)V"⟩ ∈ AL := ab_in (ab_t3 (List.mem_of_getElem? (i := 22) (by decide +kernel))) rfl
theorem tw_101 : Jvm.Cond.selects "ArcadeBoard$Arithmetic" ⟨"ArcadeBoard$Arithmetic", "growHL", "(I)V"⟩ ⟨"ArcadeBoard$Arithmetic", "growHL", "(I)V"⟩ ∈ AL := ab_in (ab_t3 (List.mem_of_getElem? (i := 23) (by decide +kernel))) rfl
theorem tw_102 : Jvm.Cond.methodLink "ArcadeBoard$Arithmetic" 44 ⟨"ArcadeBoard$Arithmetic", "setCarry", "(I)V"⟩ ∈ AL := ab_in (ab_t3 (List.mem_of_getElem? (i := 25) (by decide +kernel))) rfl
theorem ok_Arithmetic_growHL : ab_yok y_Arithmetic_growHL b_Arithmetic_growHL 3 none 1 := ⟨tw_99, tw_58, by decide, by decide, by decide +kernel⟩
theorem okv_Arithmetic_growHL : ab_yok_V y_Arithmetic_growHL := ⟨tw_100, tw_101⟩
set_option maxHeartbeats 1000000 in
set_option maxRecDepth 100000 in
theorem c_Arithmetic_growHL (l : Launch) (D : va_G) (t : Nat → ClassId) (q : Nat → Nat) (u : SS) (x1 : Int32) : ab_kv l D (tyC t) (wC t q) y_Arithmetic_growHL b_Arithmetic_growHL 3 { frames := 1, cells := 0, slots := 0, locals := 21 } [.ref (q 7), .int x1] u (f_Arithmetic_growHL u x1) := by
  refine ab_kv_ofW (by decide) (Nat.le_of_ble_eq_true rfl) (fun p e s m below meth c ls A X hr hk hl hX => ?_)
  have hl : lv_has ls 3 [(0, .ref (q 7)), (1, .int x1)] := hl
  refine lv_aload_n (pc := 0) X.1 X.2.1 d_Arithmetic_growHL_0 rfl (lv_at hl 0 rfl) ?_
  refine ab_gx (pc := 1) (v := .ref (q 1)) X hX 7 0 0 rfl rfl (Nat.le_of_ble_eq_true rfl) in_Arithmetic rfl tw_61 rfl d_Arithmetic_growHL_1 ?_
  refine ab_gx (pc := 4) (v := .ref (q 3)) X hX 1 7 1 rfl rfl (Nat.le_of_ble_eq_true rfl) in_State rfl tw_88 rfl d_Arithmetic_growHL_4 ?_
  refine lv_iconst (pc := 7) (v := 4) X.1 X.2.1 d_Arithmetic_growHL_7 (by decide) ?_
  refine ab_ald (pc := 8) (f := u 2) (j := 4) X hX 3 0 rfl rfl (ab_inc (by decide)) rfl d_Arithmetic_growHL_8 ?_
  refine lv_bipush (pc := 9) (v := 8) X.1 X.2.1 d_Arithmetic_growHL_9 (by decide) ?_
  refine lv_ishl (pc := 11) X.1 X.2.1 d_Arithmetic_growHL_11 ?_
  refine lv_aload_n (pc := 12) X.1 X.2.1 d_Arithmetic_growHL_12 rfl (lv_at hl 0 rfl) ?_
  refine ab_gx (pc := 13) (v := .ref (q 1)) X hX 7 0 0 rfl rfl (Nat.le_of_ble_eq_true rfl) in_Arithmetic rfl tw_61 rfl d_Arithmetic_growHL_13 ?_
  refine ab_gx (pc := 16) (v := .ref (q 3)) X hX 1 7 1 rfl rfl (Nat.le_of_ble_eq_true rfl) in_State rfl tw_88 rfl d_Arithmetic_growHL_16 ?_
  refine lv_iconst (pc := 19) (v := 5) X.1 X.2.1 d_Arithmetic_growHL_19 (by decide) ?_
  refine ab_ald (pc := 20) (f := u 2) (j := 5) X hX 3 0 rfl rfl (ab_inc (by decide)) rfl d_Arithmetic_growHL_20 ?_
  refine lv_ior (pc := 21) X.1 X.2.1 d_Arithmetic_growHL_21 ?_
  refine lv_iload_n (pc := 22) X.1 X.2.1 d_Arithmetic_growHL_22 rfl (lv_at hl 1 rfl) ?_
  refine lv_iadd (pc := 23) X.1 X.2.1 d_Arithmetic_growHL_23 ?_
  refine lv_istore_n (pc := 24) (lv' := [(2, .int ((((u 2 4) <<< ((8 : Int32) &&& 31)) ||| (u 2 5)) + x1)), (0, .ref (q 7)), (1, .int x1)]) X.1 X.2.1 d_Arithmetic_growHL_24 rfl hl (Nat.le_of_ble_eq_true rfl) rfl (fun ls hl => ?_)
  refine lv_aload_n (pc := 25) X.1 X.2.1 d_Arithmetic_growHL_25 rfl (lv_at hl 1 rfl) ?_
  refine ab_gx (pc := 26) (v := .ref (q 1)) X hX 7 0 0 rfl rfl (Nat.le_of_ble_eq_true rfl) in_Arithmetic rfl tw_61 rfl d_Arithmetic_growHL_26 ?_
  refine ab_gx (pc := 29) (v := .ref (q 3)) X hX 1 7 1 rfl rfl (Nat.le_of_ble_eq_true rfl) in_State rfl tw_88 rfl d_Arithmetic_growHL_29 ?_
  refine lv_iconst (pc := 32) (v := 4) X.1 X.2.1 d_Arithmetic_growHL_32 (by decide) ?_
  refine lv_iload_n (pc := 33) X.1 X.2.1 d_Arithmetic_growHL_33 rfl (lv_at hl 0 rfl) ?_
  refine lv_bipush (pc := 34) (v := 8) X.1 X.2.1 d_Arithmetic_growHL_34 (by decide) ?_
  refine lv_ishr (pc := 36) X.1 X.2.1 d_Arithmetic_growHL_36 ?_
  refine lv_sipush (pc := 37) (v := 255) X.1 X.2.1 d_Arithmetic_growHL_37 (by decide) ?_
  refine lv_iand (pc := 40) X.1 X.2.1 d_Arithmetic_growHL_40 ?_
  refine ab_ast (pc := 41) (f := u 2) (j := 4) (ws' := (wC t q (stt u 2 4 ((((((u 2 4) <<< ((8 : Int32) &&& 31)) ||| (u 2 5)) + x1) >>> ((8 : Int32) &&& 31)) &&& 255)))) X hX 3 0 rfl rfl (ab_inc (by decide)) rfl (sa_wC_3 t q u 4 ((((((u 2 4) <<< ((8 : Int32) &&& 31)) ||| (u 2 5)) + x1) >>> ((8 : Int32) &&& 31)) &&& 255)) d_Arithmetic_growHL_41 (fun H locs hX => ?_)
  refine lv_aload_n (pc := 42) X.1 X.2.1 d_Arithmetic_growHL_42 rfl (lv_at hl 1 rfl) ?_
  refine ab_gx (pc := 43) (v := .ref (q 1)) X hX 7 0 0 rfl rfl (Nat.le_of_ble_eq_true rfl) in_Arithmetic rfl tw_61 rfl d_Arithmetic_growHL_43 ?_
  refine ab_gx (pc := 46) (v := .ref (q 3)) X hX 1 7 1 rfl rfl (Nat.le_of_ble_eq_true rfl) in_State rfl tw_88 rfl d_Arithmetic_growHL_46 ?_
  refine lv_iconst (pc := 49) (v := 5) X.1 X.2.1 d_Arithmetic_growHL_49 (by decide) ?_
  refine lv_iload_n (pc := 50) X.1 X.2.1 d_Arithmetic_growHL_50 rfl (lv_at hl 0 rfl) ?_
  refine lv_sipush (pc := 51) (v := 255) X.1 X.2.1 d_Arithmetic_growHL_51 (by decide) ?_
  refine lv_iand (pc := 54) X.1 X.2.1 d_Arithmetic_growHL_54 ?_
  refine ab_ast (pc := 55) (f := (stt u 2 4 ((((((u 2 4) <<< ((8 : Int32) &&& 31)) ||| (u 2 5)) + x1) >>> ((8 : Int32) &&& 31)) &&& 255)) 2) (j := 5) (ws' := (wC t q (stt (stt u 2 4 ((((((u 2 4) <<< ((8 : Int32) &&& 31)) ||| (u 2 5)) + x1) >>> ((8 : Int32) &&& 31)) &&& 255)) 2 5 (((((u 2 4) <<< ((8 : Int32) &&& 31)) ||| (u 2 5)) + x1) &&& 255)))) X hX 3 0 rfl rfl (ab_inc (by decide)) rfl (sa_wC_3 t q (stt u 2 4 ((((((u 2 4) <<< ((8 : Int32) &&& 31)) ||| (u 2 5)) + x1) >>> ((8 : Int32) &&& 31)) &&& 255)) 5 (((((u 2 4) <<< ((8 : Int32) &&& 31)) ||| (u 2 5)) + x1) &&& 255)) d_Arithmetic_growHL_55 (fun H locs hX => ?_)
  refine lv_aload_n (pc := 56) X.1 X.2.1 d_Arithmetic_growHL_56 rfl (lv_at hl 1 rfl) ?_
  refine lv_iload_n (pc := 57) X.1 X.2.1 d_Arithmetic_growHL_57 rfl (lv_at hl 0 rfl) ?_
  refine lv_bipush (pc := 58) (v := 16) X.1 X.2.1 d_Arithmetic_growHL_58 (by decide) ?_
  refine lv_ishr (pc := 60) X.1 X.2.1 d_Arithmetic_growHL_60 ?_
  refine ab_kv_callV (pc := 61) (wr := []) (w := (wC t q)) (u := (stt (stt u 2 4 ((((((u 2 4) <<< ((8 : Int32) &&& 31)) ||| (u 2 5)) + x1) >>> ((8 : Int32) &&& 31)) &&& 255)) 2 5 (((((u 2 4) <<< ((8 : Int32) &&& 31)) ||| (u 2 5)) + x1) &&& 255))) (F := f_Arithmetic_setCarry (stt (stt u 2 4 ((((((u 2 4) <<< ((8 : Int32) &&& 31)) ||| (u 2 5)) + x1) >>> ((8 : Int32) &&& 31)) &&& 255)) 2 5 (((((u 2 4) <<< ((8 : Int32) &&& 31)) ||| (u 2 5)) + x1) &&& 255)) (((((u 2 4) <<< ((8 : Int32) &&& 31)) ||| (u 2 5)) + x1) >>> ((16 : Int32) &&& 31))) (as := [.int (((((u 2 4) <<< ((8 : Int32) &&& 31)) ||| (u 2 5)) + x1) >>> ((16 : Int32) &&& 31))]) (rest := []) X hX (c_Arithmetic_setCarry l D t q (stt (stt u 2 4 ((((((u 2 4) <<< ((8 : Int32) &&& 31)) ||| (u 2 5)) + x1) >>> ((8 : Int32) &&& 31)) &&& 255)) 2 5 (((((u 2 4) <<< ((8 : Int32) &&& 31)) ||| (u 2 5)) + x1) &&& 255)) (((((u 2 4) <<< ((8 : Int32) &&& 31)) ||| (u 2 5)) + x1) >>> ((16 : Int32) &&& 31))) ok_Arithmetic_setCarry okv_Arithmetic_setCarry tw_102 7 0 rfl rfl rfl hl.1 rfl (Nat.le_of_ble_eq_true rfl) ⟨rfl, rfl, Nat.le_of_ble_eq_true rfl, Nat.le_of_ble_eq_true rfl⟩ ⟨Nat.zero_le _, Nat.zero_le _⟩ d_Arithmetic_growHL_61 (fun H locs hX => ?_)
  exact ab_kv_ret (pc := 64) X hr hk hX (by rw [f_Arithmetic_growHL]) d_Arithmetic_growHL_64
