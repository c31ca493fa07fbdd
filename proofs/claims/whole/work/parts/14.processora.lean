abbrev b_Processor_goWithReturn : ByteArray := prog_6_method_16_code
def y_Processor_goWithReturn : MethodName := ⟨"ArcadeBoard$Processor", "goWithReturn", "(I)V"⟩
theorem d_Processor_goWithReturn_0 : decode b_Processor_goWithReturn 0 = .ok (.aload_n 0, 1) := by decide +kernel
theorem d_Processor_goWithReturn_1 : decode b_Processor_goWithReturn 1 = .ok (.getfield 15, 3) := by decide +kernel
theorem d_Processor_goWithReturn_4 : decode b_Processor_goWithReturn 4 = .ok (.aload_n 0, 1) := by decide +kernel
theorem d_Processor_goWithReturn_5 : decode b_Processor_goWithReturn 5 = .ok (.getfield 9, 3) := by decide +kernel
theorem d_Processor_goWithReturn_8 : decode b_Processor_goWithReturn 8 = .ok (.getfield 170, 3) := by decide +kernel
theorem d_Processor_goWithReturn_11 : decode b_Processor_goWithReturn 11 = .ok (.invokevirtual 182, 3) := by decide +kernel
theorem d_Processor_goWithReturn_14 : decode b_Processor_goWithReturn 14 = .ok (.aload_n 0, 1) := by decide +kernel
theorem d_Processor_goWithReturn_15 : decode b_Processor_goWithReturn 15 = .ok (.getfield 9, 3) := by decide +kernel
theorem d_Processor_goWithReturn_18 : decode b_Processor_goWithReturn 18 = .ok (.iload_n 1, 1) := by decide +kernel
theorem d_Processor_goWithReturn_19 : decode b_Processor_goWithReturn 19 = .ok (.putfield 170, 3) := by decide +kernel
theorem d_Processor_goWithReturn_22 : decode b_Processor_goWithReturn 22 = .ok (.return_, 1) := by decide +kernel
theorem tw_169 : Jvm.Cond.code ⟨"ArcadeBoard$Processor", "goWithReturn", "(I)V"⟩ prog_6_method_16_code 2 (Option.none : Option Jvm.ClassFile.FieldType) ∈ AL := ab_in (ab_t2 (List.mem_of_getElem? (i := 224) (by decide +kernel))) rfl
theorem tw_170 : Jvm.Cond.initialized "ArcadeBoard$Processor" ∈ AL := ab_in (ab_t1 (List.mem_of_getElem? (i := 8) (by decide +kernel))) rfl
theorem tw_171 : Jvm.Cond.instanceMethod ⟨"ArcadeBoard$Processor", "goWithReturn", "(I)V"⟩ ∈ AL := ab_in (ab_t2 (List.mem_of_getElem? (i := 223) (by decide +kernel))) rfl
theorem tw_172 : Cond.selects "ArcadeBoard$Processor" ⟨"ArcadeBoard$Processor", "goWithReturn", "(I)V"⟩ ⟨"ArcadeBoard$Processor", "goWithReturn", "(I)V"⟩ ∈ AL := ab_in (ab_s1 (List.mem_of_getElem? (i := 2) (by decide +kernel))) rfl
theorem tw_173 : Jvm.Cond.fieldLink "ArcadeBoard$Processor" 15 "ArcadeBoard$Processor" "memory" "LArcadeBoard$Memory;" ∈ AL := ab_in (ab_t1 (List.mem_of_getElem? (i := 212) (by decide +kernel))) rfl
theorem tw_174 : Jvm.Cond.fieldLink "ArcadeBoard$Processor" 9 "ArcadeBoard$Processor" "state" "LArcadeBoard$State;" ∈ AL := ab_in (ab_t1 (List.mem_of_getElem? (i := 211) (by decide +kernel))) rfl
theorem tw_175 : Jvm.Cond.fieldLink "ArcadeBoard$Processor" 170 "ArcadeBoard$State" "pc" "I" ∈ AL := ab_in (ab_t1 (List.mem_of_getElem? (i := 50) (by decide +kernel))) rfl
theorem tw_176 : Jvm.Cond.methodLink "ArcadeBoard$Processor" 182 ⟨"ArcadeBoard$Memory", "push", "(I)V"⟩ ∈ AL := ab_in (ab_t2 (List.mem_of_getElem? (i := 225) (by decide +kernel))) rfl
theorem ok_Processor_goWithReturn : ab_yok y_Processor_goWithReturn b_Processor_goWithReturn 2 none 1 := ⟨tw_169, tw_170, by decide, by decide, by decide +kernel⟩
theorem okv_Processor_goWithReturn : ab_yok_V y_Processor_goWithReturn := ⟨tw_171, tw_172⟩
set_option maxHeartbeats 1000000 in
set_option maxRecDepth 100000 in
theorem c_Processor_goWithReturn (l : Launch) (D : va_G) (t : Nat → ClassId) (q : Nat → Nat) (u : SS) (x1 : Int32) : ab_kv l D (tyC t) (wC t q) y_Processor_goWithReturn b_Processor_goWithReturn 2 { frames := 2, cells := 0, slots := 0, locals := 44 } [.ref (q 0), .int x1] u (f_Processor_goWithReturn u x1) := by
  refine ab_kv_ofW (by decide) (Nat.le_of_ble_eq_true rfl) (fun p e s m below meth c ls A X hr hk hl hX => ?_)
  have hl : lv_has ls 2 [(0, .ref (q 0)), (1, .int x1)] := hl
  refine lv_aload_n (pc := 0) X.1 X.2.1 d_Processor_goWithReturn_0 rfl (lv_at hl 0 rfl) ?_
  refine ab_gx (pc := 1) (v := .ref (q 4)) X hX 0 4 1 rfl rfl (Nat.le_of_ble_eq_true rfl) in_Processor rfl tw_173 rfl d_Processor_goWithReturn_1 ?_
  refine lv_aload_n (pc := 4) X.1 X.2.1 d_Processor_goWithReturn_4 rfl (lv_at hl 0 rfl) ?_
  refine ab_gx (pc := 5) (v := .ref (q 1)) X hX 0 4 0 rfl rfl (Nat.le_of_ble_eq_true rfl) in_Processor rfl tw_174 rfl d_Processor_goWithReturn_5 ?_
  refine ab_gx (pc := 8) (v := .int (u 0 2)) X hX 1 7 4 rfl rfl (Nat.le_of_ble_eq_true rfl) in_State rfl tw_175 rfl d_Processor_goWithReturn_8 ?_
  refine ab_kv_callV (pc := 11) (wr := []) (w := (wC t q)) (u := u) (F := f_Memory_push u (u 0 2)) (as := [.int (u 0 2)]) (rest := []) X hX (c_Memory_push l D t q u (u 0 2)) ok_Memory_push okv_Memory_push tw_176 4 2 rfl rfl rfl hl.1 rfl (Nat.le_of_ble_eq_true rfl) ⟨rfl, rfl, Nat.le_of_ble_eq_true rfl, Nat.le_of_ble_eq_true rfl⟩ ⟨Nat.zero_le _, Nat.zero_le _⟩ d_Processor_goWithReturn_11 (fun H locs hX => ?_)
  refine lv_aload_n (pc := 14) X.1 X.2.1 d_Processor_goWithReturn_14 rfl (lv_at hl 0 rfl) ?_
  refine ab_gx (pc := 15) (v := .ref (q 1)) X hX 0 4 0 rfl rfl (Nat.le_of_ble_eq_true rfl) in_Processor rfl tw_174 rfl d_Processor_goWithReturn_15 ?_
  refine lv_iload_n (pc := 18) X.1 X.2.1 d_Processor_goWithReturn_18 rfl (lv_at hl 1 rfl) ?_
  refine ab_px (pc := 19) (ws' := (wC t q (stt (f_Memory_push u (u 0 2)) 0 2 x1))) X hX 1 7 4 ty_State ty_State_ok nm_State rfl rfl (Nat.le_of_ble_eq_true rfl) in_State rfl tw_175 rfl rfl rfl rfl (Nat.le_of_ble_eq_true rfl) (sf_wC_1_4 t q (f_Memory_push u (u 0 2)) x1) d_Processor_goWithReturn_19 (fun H locs hX => ?_)
  exact ab_kv_ret (pc := 22) X hr hk hX (by rw [f_Processor_goWithReturn]) d_Processor_goWithReturn_22
abbrev b_Processor_takeCall : ByteArray := prog_6_method_3_code
def y_Processor_takeCall : MethodName := ⟨"ArcadeBoard$Processor", "takeCall", "()I"⟩
theorem d_Processor_takeCall_0 : decode b_Processor_takeCall 0 = .ok (.aload_n 0, 1) := by decide +kernel
theorem d_Processor_takeCall_1 : decode b_Processor_takeCall 1 = .ok (.getfield 9, 3) := by decide +kernel
theorem d_Processor_takeCall_4 : decode b_Processor_takeCall 4 = .ok (.getfield 49, 3) := by decide +kernel
theorem d_Processor_takeCall_7 : decode b_Processor_takeCall 7 = .ok (.istore_n 1, 1) := by decide +kernel
theorem d_Processor_takeCall_8 : decode b_Processor_takeCall 8 = .ok (.aload_n 0, 1) := by decide +kernel
theorem d_Processor_takeCall_9 : decode b_Processor_takeCall 9 = .ok (.getfield 9, 3) := by decide +kernel
theorem d_Processor_takeCall_12 : decode b_Processor_takeCall 12 = .ok (.iconst 0, 1) := by decide +kernel
theorem d_Processor_takeCall_13 : decode b_Processor_takeCall 13 = .ok (.putfield 49, 3) := by decide +kernel
theorem d_Processor_takeCall_16 : decode b_Processor_takeCall 16 = .ok (.aload_n 0, 1) := by decide +kernel
theorem d_Processor_takeCall_17 : decode b_Processor_takeCall 17 = .ok (.getfield 9, 3) := by decide +kernel
theorem d_Processor_takeCall_20 : decode b_Processor_takeCall 20 = .ok (.iconst 0, 1) := by decide +kernel
theorem d_Processor_takeCall_21 : decode b_Processor_takeCall 21 = .ok (.putfield 40, 3) := by decide +kernel
theorem d_Processor_takeCall_24 : decode b_Processor_takeCall 24 = .ok (.aload_n 0, 1) := by decide +kernel
theorem d_Processor_takeCall_25 : decode b_Processor_takeCall 25 = .ok (.getfield 9, 3) := by decide +kernel
theorem d_Processor_takeCall_28 : decode b_Processor_takeCall 28 = .ok (.iconst 0, 1) := by decide +kernel
theorem d_Processor_takeCall_29 : decode b_Processor_takeCall 29 = .ok (.putfield 57, 3) := by decide +kernel
theorem d_Processor_takeCall_32 : decode b_Processor_takeCall 32 = .ok (.aload_n 0, 1) := by decide +kernel
theorem d_Processor_takeCall_33 : decode b_Processor_takeCall 33 = .ok (.bipush 8, 2) := by decide +kernel
theorem d_Processor_takeCall_35 : decode b_Processor_takeCall 35 = .ok (.iload_n 1, 1) := by decide +kernel
theorem d_Processor_takeCall_36 : decode b_Processor_takeCall 36 = .ok (.imul, 1) := by decide +kernel
theorem d_Processor_takeCall_37 : decode b_Processor_takeCall 37 = .ok (.invokevirtual 73, 3) := by decide +kernel
theorem d_Processor_takeCall_40 : decode b_Processor_takeCall 40 = .ok (.bipush 11, 2) := by decide +kernel
theorem d_Processor_takeCall_42 : decode b_Processor_takeCall 42 = .ok (.ireturn, 1) := by decide +kernel
theorem tw_177 : Jvm.Cond.code ⟨"ArcadeBoard$Processor", "takeCall", "()I"⟩ prog_6_method_3_code 2 (Option.some Jvm.ClassFile.FieldType.int) ∈ AL := ab_in (ab_t2 (List.mem_of_getElem? (i := 220) (by decide +kernel))) rfl
theorem tw_178 : Jvm.Cond.instanceMethod ⟨"ArcadeBoard$Processor", "takeCall", "()I"⟩ ∈ AL := ab_in (ab_t2 (List.mem_of_getElem? (i := 219) (by decide +kernel))) rfl
theorem tw_179 : Cond.selects "ArcadeBoard$Processor" ⟨"ArcadeBoard$Processor", "takeCall", "()I"⟩ ⟨"ArcadeBoard$Processor", "takeCall", "()I"⟩ ∈ AL := ab_in (ab_s1 (List.mem_of_getElem? (i := 1) (by decide +kernel))) rfl
theorem tw_180 : Jvm.Cond.fieldLink "ArcadeBoard$Processor" 49 "ArcadeBoard$State" "call" "I" ∈ AL := ab_in (ab_t1 (List.mem_of_getElem? (i := 62) (by decide +kernel))) rfl
theorem tw_181 : Jvm.Cond.fieldLink "ArcadeBoard$Processor" 40 "ArcadeBoard$State" "interrupts" "Z" ∈ AL := ab_in (ab_t1 (List.mem_of_getElem? (i := 52) (by decide +kernel))) rfl
theorem tw_182 : Jvm.Cond.fieldLink "ArcadeBoard$Processor" 57 "ArcadeBoard$State" "halted" "Z" ∈ AL := ab_in (ab_t1 (List.mem_of_getElem? (i := 58) (by decide +kernel))) rfl
theorem tw_183 : Jvm.Cond.methodLink "ArcadeBoard$Processor" 73 ⟨"ArcadeBoard$Processor", "goWithReturn", "(I)V"⟩ ∈ AL := ab_in (ab_t2 (List.mem_of_getElem? (i := 221) (by decide +kernel))) rfl
theorem ok_Processor_takeCall : ab_yok y_Processor_takeCall b_Processor_takeCall 2 (some .int) 0 := ⟨tw_177, tw_170, by decide, by decide, by decide +kernel⟩
theorem okv_Processor_takeCall : ab_yok_V y_Processor_takeCall := ⟨tw_178, tw_179⟩
set_option maxHeartbeats 1000000 in
set_option maxRecDepth 100000 in
theorem c_Processor_takeCall (l : Launch) (D : va_G) (t : Nat → ClassId) (q : Nat → Nat) (u : SS) : ab_ki l D (tyC t) (wC t q) y_Processor_takeCall b_Processor_takeCall 2 .int { frames := 3, cells := 0, slots := 0, locals := 65 } [.ref (q 0)] u (f_Processor_takeCall u) := by
  refine ab_ki_ofW (by decide) (Nat.le_of_ble_eq_true rfl) (fun p e s m below meth c ls A X hr hk hl hX => ?_)
  have hl : lv_has ls 2 [(0, .ref (q 0))] := hl
  refine lv_aload_n (pc := 0) X.1 X.2.1 d_Processor_takeCall_0 rfl (lv_at hl 0 rfl) ?_
  refine ab_gx (pc := 1) (v := .ref (q 1)) X hX 0 4 0 rfl rfl (Nat.le_of_ble_eq_true rfl) in_Processor rfl tw_174 rfl d_Processor_takeCall_1 ?_
  refine ab_gx (pc := 4) (v := .int (u 0 6)) X hX 1 7 8 rfl rfl (Nat.le_of_ble_eq_true rfl) in_State rfl tw_180 rfl d_Processor_takeCall_4 ?_
  refine lv_istore_n (pc := 7) (lv' := [(1, .int (u 0 6)), (0, .ref (q 0))]) X.1 X.2.1 d_Processor_takeCall_7 rfl hl (Nat.le_of_ble_eq_true rfl) rfl (fun ls hl => ?_)
  refine lv_aload_n (pc := 8) X.1 X.2.1 d_Processor_takeCall_8 rfl (lv_at hl 1 rfl) ?_
  refine ab_gx (pc := 9) (v := .ref (q 1)) X hX 0 4 0 rfl rfl (Nat.le_of_ble_eq_true rfl) in_Processor rfl tw_174 rfl d_Processor_takeCall_9 ?_
  refine lv_iconst (pc := 12) (v := 0) X.1 X.2.1 d_Processor_takeCall_12 (by decide) ?_
  refine ab_px (pc := 13) (ws' := (wC t q (stt u 0 6 0))) X hX 1 7 8 ty_State ty_State_ok nm_State rfl rfl (Nat.le_of_ble_eq_true rfl) in_State rfl tw_180 rfl rfl rfl rfl (Nat.le_of_ble_eq_true rfl) (sf_wC_1_8 t q u 0) d_Processor_takeCall_13 (fun H locs hX => ?_)
  refine lv_aload_n (pc := 16) X.1 X.2.1 d_Processor_takeCall_16 rfl (lv_at hl 1 rfl) ?_
  refine ab_gx (pc := 17) (v := .ref (q 1)) X hX 0 4 0 rfl rfl (Nat.le_of_ble_eq_true rfl) in_Processor rfl tw_174 rfl d_Processor_takeCall_17 ?_
  refine lv_iconst (pc := 20) (v := 0) X.1 X.2.1 d_Processor_takeCall_20 (by decide) ?_
  refine ab_px (pc := 21) (ws' := (wC t q (stt (stt u 0 6 0) 0 3 0))) X hX 1 7 5 ty_State ty_State_ok nm_State rfl rfl (Nat.le_of_ble_eq_true rfl) in_State rfl tw_181 rfl rfl rfl rfl (Nat.le_of_ble_eq_true rfl) (sf_wC_1_5 t q (stt u 0 6 0) 0) d_Processor_takeCall_21 (fun H locs hX => ?_)
  refine lv_aload_n (pc := 24) X.1 X.2.1 d_Processor_takeCall_24 rfl (lv_at hl 1 rfl) ?_
  refine ab_gx (pc := 25) (v := .ref (q 1)) X hX 0 4 0 rfl rfl (Nat.le_of_ble_eq_true rfl) in_Processor rfl tw_174 rfl d_Processor_takeCall_25 ?_
  refine lv_iconst (pc := 28) (v := 0) X.1 X.2.1 d_Processor_takeCall_28 (by decide) ?_
  refine ab_px (pc := 29) (ws' := (wC t q (stt (stt (stt u 0 6 0) 0 3 0) 0 5 0))) X hX 1 7 7 ty_State ty_State_ok nm_State rfl rfl (Nat.le_of_ble_eq_true rfl) in_State rfl tw_182 rfl rfl rfl rfl (Nat.le_of_ble_eq_true rfl) (sf_wC_1_7 t q (stt (stt u 0 6 0) 0 3 0) 0) d_Processor_takeCall_29 (fun H locs hX => ?_)
  refine lv_aload_n (pc := 32) X.1 X.2.1 d_Processor_takeCall_32 rfl (lv_at hl 1 rfl) ?_
  refine lv_bipush (pc := 33) (v := 8) X.1 X.2.1 d_Processor_takeCall_33 (by decide) ?_
  refine lv_iload_n (pc := 35) X.1 X.2.1 d_Processor_takeCall_35 rfl (lv_at hl 0 rfl) ?_
  refine lv_imul (pc := 36) X.1 X.2.1 d_Processor_takeCall_36 ?_
  refine ab_kv_callV (pc := 37) (wr := []) (w := (wC t q)) (u := (stt (stt (stt u 0 6 0) 0 3 0) 0 5 0)) (F := f_Processor_goWithReturn (stt (stt (stt u 0 6 0) 0 3 0) 0 5 0) (8 * (u 0 6))) (as := [.int (8 * (u 0 6))]) (rest := []) X hX (c_Processor_goWithReturn l D t q (stt (stt (stt u 0 6 0) 0 3 0) 0 5 0) (8 * (u 0 6))) ok_Processor_goWithReturn okv_Processor_goWithReturn tw_183 0 4 rfl rfl rfl hl.1 rfl (Nat.le_of_ble_eq_true rfl) ⟨rfl, rfl, Nat.le_of_ble_eq_true rfl, Nat.le_of_ble_eq_true rfl⟩ ⟨Nat.zero_le _, Nat.zero_le _⟩ d_Processor_takeCall_37 (fun H locs hX => ?_)
  refine lv_bipush (pc := 40) (v := 11) X.1 X.2.1 d_Processor_takeCall_40 (by decide) ?_
  exact ab_ki_ret (pc := 42) X hr hk hX rfl (by rw [f_Processor_takeCall]) d_Processor_takeCall_42
abbrev b_Processor_nextByte : ByteArray := prog_6_method_19_code
def y_Processor_nextByte : MethodName := ⟨"ArcadeBoard$Processor", "nextByte", "()I"⟩
theorem d_Processor_nextByte_0 : decode b_Processor_nextByte 0 = .ok (.aload_n 0, 1) := by decide +kernel
theorem d_Processor_nextByte_1 : decode b_Processor_nextByte 1 = .ok (.getfield 15, 3) := by decide +kernel
theorem d_Processor_nextByte_4 : decode b_Processor_nextByte 4 = .ok (.aload_n 0, 1) := by decide +kernel
theorem d_Processor_nextByte_5 : decode b_Processor_nextByte 5 = .ok (.getfield 9, 3) := by decide +kernel
theorem d_Processor_nextByte_8 : decode b_Processor_nextByte 8 = .ok (.getfield 170, 3) := by decide +kernel
theorem d_Processor_nextByte_11 : decode b_Processor_nextByte 11 = .ok (.invokevirtual 135, 3) := by decide +kernel
theorem d_Processor_nextByte_14 : decode b_Processor_nextByte 14 = .ok (.istore_n 1, 1) := by decide +kernel
theorem d_Processor_nextByte_15 : decode b_Processor_nextByte 15 = .ok (.aload_n 0, 1) := by decide +kernel
theorem d_Processor_nextByte_16 : decode b_Processor_nextByte 16 = .ok (.getfield 9, 3) := by decide +kernel
theorem d_Processor_nextByte_19 : decode b_Processor_nextByte 19 = .ok (.aload_n 0, 1) := by decide +kernel
theorem d_Processor_nextByte_20 : decode b_Processor_nextByte 20 = .ok (.getfield 9, 3) := by decide +kernel
theorem d_Processor_nextByte_23 : decode b_Processor_nextByte 23 = .ok (.getfield 170, 3) := by decide +kernel
theorem d_Processor_nextByte_26 : decode b_Processor_nextByte 26 = .ok (.iconst 1, 1) := by decide +kernel
theorem d_Processor_nextByte_27 : decode b_Processor_nextByte 27 = .ok (.iadd, 1) := by decide +kernel
theorem d_Processor_nextByte_28 : decode b_Processor_nextByte 28 = .ok (.ldc 193, 2) := by decide +kernel
theorem d_Processor_nextByte_30 : decode b_Processor_nextByte 30 = .ok (.iand, 1) := by decide +kernel
theorem d_Processor_nextByte_31 : decode b_Processor_nextByte 31 = .ok (.putfield 170, 3) := by decide +kernel
theorem d_Processor_nextByte_34 : decode b_Processor_nextByte 34 = .ok (.iload_n 1, 1) := by decide +kernel
theorem d_Processor_nextByte_35 : decode b_Processor_nextByte 35 = .ok (.ireturn, 1) := by decide +kernel
theorem tw_184 : Jvm.Cond.code ⟨"ArcadeBoard$Processor", "nextByte", "()I"⟩ prog_6_method_19_code 2 (Option.some Jvm.ClassFile.FieldType.int) ∈ AL := ab_in (ab_t2 (List.mem_of_getElem? (i := 236) (by decide +kernel))) rfl
theorem tw_185 : Jvm.Cond.instanceMethod ⟨"ArcadeBoard$Processor", "nextByte", "()I"⟩ ∈ AL := ab_in (ab_t2 (List.mem_of_getElem? (i := 235) (by decide +kernel))) rfl
theorem tw_186 : Cond.selects "ArcadeBoard$Processor" ⟨"ArcadeBoard$Processor", "nextByte", "()I"⟩ ⟨"ArcadeBoard$Processor", "nextByte", "()I"⟩ ∈ AL := ab_in (ab_s1 (List.mem_of_getElem? (i := 3) (by decide +kernel))) rfl
theorem tw_187 : Jvm.Cond.methodLink "ArcadeBoard$Processor" 135 ⟨"ArcadeBoard$Memory", "at", "(I)I"⟩ ∈ AL := ab_in (ab_t2 (List.mem_of_getElem? (i := 237) (by decide +kernel))) rfl
theorem tw_188 : Jvm.Cond.constant "ArcadeBoard$Processor" 193 (65535 : Int32) ∈ AL := ab_in (ab_t2 (List.mem_of_getElem? (i := 238) (by decide +kernel))) rfl
theorem ok_Processor_nextByte : ab_yok y_Processor_nextByte b_Processor_nextByte 2 (some .int) 0 := ⟨tw_184, tw_170, by decide, by decide, by decide +kernel⟩
theorem okv_Processor_nextByte : ab_yok_V y_Processor_nextByte := ⟨tw_185, tw_186⟩
set_option maxHeartbeats 1000000 in
set_option maxRecDepth 100000 in
theorem c_Processor_nextByte (l : Launch) (D : va_G) (t : Nat → ClassId) (q : Nat → Nat) (u : SS) : ab_ki l D (tyC t) (wC t q) y_Processor_nextByte b_Processor_nextByte 2 .int { frames := 1, cells := 0, slots := 0, locals := 22 } [.ref (q 0)] u (f_Processor_nextByte u) := by
  refine ab_ki_ofW (by decide) (Nat.le_of_ble_eq_true rfl) (fun p e s m below meth c ls A X hr hk hl hX => ?_)
  have hl : lv_has ls 2 [(0, .ref (q 0))] := hl
  refine lv_aload_n (pc := 0) X.1 X.2.1 d_Processor_nextByte_0 rfl (lv_at hl 0 rfl) ?_
  refine ab_gx (pc := 1) (v := .ref (q 4)) X hX 0 4 1 rfl rfl (Nat.le_of_ble_eq_true rfl) in_Processor rfl tw_173 rfl d_Processor_nextByte_1 ?_
  refine lv_aload_n (pc := 4) X.1 X.2.1 d_Processor_nextByte_4 rfl (lv_at hl 0 rfl) ?_
  refine ab_gx (pc := 5) (v := .ref (q 1)) X hX 0 4 0 rfl rfl (Nat.le_of_ble_eq_true rfl) in_Processor rfl tw_174 rfl d_Processor_nextByte_5 ?_
  refine ab_gx (pc := 8) (v := .int (u 0 2)) X hX 1 7 4 rfl rfl (Nat.le_of_ble_eq_true rfl) in_State rfl tw_175 rfl d_Processor_nextByte_8 ?_
  refine ab_kr_callV (pc := 11) (wr := []) (w := (wC t q)) (u := u) (r := f_Memory_at u (u 0 2)) (as := [.int (u 0 2)]) (rest := []) X hX (c_Memory_at l D t q u (u 0 2)) ok_Memory_at okv_Memory_at tw_187 4 2 rfl rfl rfl hl.1 rfl (Nat.le_of_ble_eq_true rfl) ⟨rfl, rfl, Nat.le_of_ble_eq_true rfl, Nat.le_of_ble_eq_true rfl⟩ ⟨Nat.zero_le _, Nat.zero_le _⟩ d_Processor_nextByte_11 (fun H locs hX => ?_)
  refine lv_istore_n (pc := 14) (lv' := [(1, .int (f_Memory_at u (u 0 2))), (0, .ref (q 0))]) X.1 X.2.1 d_Processor_nextByte_14 rfl hl (Nat.le_of_ble_eq_true rfl) rfl (fun ls hl => ?_)
  refine lv_aload_n (pc := 15) X.1 X.2.1 d_Processor_nextByte_15 rfl (lv_at hl 1 rfl) ?_
  refine ab_gx (pc := 16) (v := .ref (q 1)) X hX 0 4 0 rfl rfl (Nat.le_of_ble_eq_true rfl) in_Processor rfl tw_174 rfl d_Processor_nextByte_16 ?_
  refine lv_aload_n (pc := 19) X.1 X.2.1 d_Processor_nextByte_19 rfl (lv_at hl 1 rfl) ?_
  refine ab_gx (pc := 20) (v := .ref (q 1)) X hX 0 4 0 rfl rfl (Nat.le_of_ble_eq_true rfl) in_Processor rfl tw_174 rfl d_Processor_nextByte_20 ?_
  refine ab_gx (pc := 23) (v := .int (u 0 2)) X hX 1 7 4 rfl rfl (Nat.le_of_ble_eq_true rfl) in_State rfl tw_175 rfl d_Processor_nextByte_23 ?_
  refine lv_iconst (pc := 26) (v := 1) X.1 X.2.1 d_Processor_nextByte_26 (by decide) ?_
  refine lv_iadd (pc := 27) X.1 X.2.1 d_Processor_nextByte_27 ?_
  refine lv_ldc (pc := 28) (v := 65535) X.1 X.2.1 X.2.2.2.1 (X.2.2.2.2.1 _ tw_188) d_Processor_nextByte_28 ?_
  refine lv_iand (pc := 30) X.1 X.2.1 d_Processor_nextByte_30 ?_
  refine ab_px (pc := 31) (ws' := (wC t q (stt u 0 2 (((u 0 2) + 1) &&& 65535)))) X hX 1 7 4 ty_State ty_State_ok nm_State rfl rfl (Nat.le_of_ble_eq_true rfl) in_State rfl tw_175 rfl rfl rfl rfl (Nat.le_of_ble_eq_true rfl) (sf_wC_1_4 t q u (((u 0 2) + 1) &&& 65535)) d_Processor_nextByte_31 (fun H locs hX => ?_)
  refine lv_iload_n (pc := 34) X.1 X.2.1 d_Processor_nextByte_34 rfl (lv_at hl 0 rfl) ?_
  exact ab_ki_ret (pc := 35) X hr hk hX rfl (by rw [f_Processor_nextByte]) d_Processor_nextByte_35
abbrev b_Processor_nextWord : ByteArray := prog_6_method_20_code
def y_Processor_nextWord : MethodName := ⟨"ArcadeBoard$Processor", "nextWord", "()I"⟩
theorem d_Processor_nextWord_0 : decode b_Processor_nextWord 0 = .ok (.aload_n 0, 1) := by decide +kernel
theorem d_Processor_nextWord_1 : decode b_Processor_nextWord 1 = .ok (.getfield 15, 3) := by decide +kernel
theorem d_Processor_nextWord_4 : decode b_Processor_nextWord 4 = .ok (.aload_n 0, 1) := by decide +kernel
theorem d_Processor_nextWord_5 : decode b_Processor_nextWord 5 = .ok (.getfield 9, 3) := by decide +kernel
theorem d_Processor_nextWord_8 : decode b_Processor_nextWord 8 = .ok (.getfield 170, 3) := by decide +kernel
theorem d_Processor_nextWord_11 : decode b_Processor_nextWord 11 = .ok (.invokevirtual 135, 3) := by decide +kernel
theorem d_Processor_nextWord_14 : decode b_Processor_nextWord 14 = .ok (.aload_n 0, 1) := by decide +kernel
theorem d_Processor_nextWord_15 : decode b_Processor_nextWord 15 = .ok (.getfield 15, 3) := by decide +kernel
theorem d_Processor_nextWord_18 : decode b_Processor_nextWord 18 = .ok (.aload_n 0, 1) := by decide +kernel
theorem d_Processor_nextWord_19 : decode b_Processor_nextWord 19 = .ok (.getfield 9, 3) := by decide +kernel
theorem d_Processor_nextWord_22 : decode b_Processor_nextWord 22 = .ok (.getfield 170, 3) := by decide +kernel
theorem d_Processor_nextWord_25 : decode b_Processor_nextWord 25 = .ok (.iconst 1, 1) := by decide +kernel
theorem d_Processor_nextWord_26 : decode b_Processor_nextWord 26 = .ok (.iadd, 1) := by decide +kernel
theorem d_Processor_nextWord_27 : decode b_Processor_nextWord 27 = .ok (.invokevirtual 135, 3) := by decide +kernel
theorem d_Processor_nextWord_30 : decode b_Processor_nextWord 30 = .ok (.bipush 8, 2) := by decide +kernel
theorem d_Processor_nextWord_32 : decode b_Processor_nextWord 32 = .ok (.ishl, 1) := by decide +kernel
theorem d_Processor_nextWord_33 : decode b_Processor_nextWord 33 = .ok (.ior, 1) := by decide +kernel
theorem d_Processor_nextWord_34 : decode b_Processor_nextWord 34 = .ok (.istore_n 1, 1) := by decide +kernel
theorem d_Processor_nextWord_35 : decode b_Processor_nextWord 35 = .ok (.aload_n 0, 1) := by decide +kernel
theorem d_Processor_nextWord_36 : decode b_Processor_nextWord 36 = .ok (.getfield 9, 3) := by decide +kernel
theorem d_Processor_nextWord_39 : decode b_Processor_nextWord 39 = .ok (.aload_n 0, 1) := by decide +kernel
theorem d_Processor_nextWord_40 : decode b_Processor_nextWord 40 = .ok (.getfield 9, 3) := by decide +kernel
theorem d_Processor_nextWord_43 : decode b_Processor_nextWord 43 = .ok (.getfield 170, 3) := by decide +kernel
theorem d_Processor_nextWord_46 : decode b_Processor_nextWord 46 = .ok (.iconst 2, 1) := by decide +kernel
theorem d_Processor_nextWord_47 : decode b_Processor_nextWord 47 = .ok (.iadd, 1) := by decide +kernel
theorem d_Processor_nextWord_48 : decode b_Processor_nextWord 48 = .ok (.ldc 193, 2) := by decide +kernel
theorem d_Processor_nextWord_50 : decode b_Processor_nextWord 50 = .ok (.iand, 1) := by decide +kernel
theorem d_Processor_nextWord_51 : decode b_Processor_nextWord 51 = .ok (.putfield 170, 3) := by decide +kernel
theorem d_Processor_nextWord_54 : decode b_Processor_nextWord 54 = .ok (.iload_n 1, 1) := by decide +kernel
theorem d_Processor_nextWord_55 : decode b_Processor_nextWord 55 = .ok (.ireturn, 1) := by decide +kernel
theorem tw_189 : Jvm.Cond.code ⟨"ArcadeBoard$Processor", "nextWord", "()I"⟩ prog_6_method_20_code 2 (Option.some Jvm.ClassFile.FieldType.int) ∈ AL := ab_in (ab_t3 (List.mem_of_getElem? (i := 14) (by decide +kernel))) rfl
theorem tw_190 : Jvm.Cond.instanceMethod ⟨"ArcadeBoard$Processor", "nextWord", "()I"⟩ ∈ AL := ab_in (ab_t3 (List.mem_of_getElem? (i := 13) (by decide +kernel))) rfl
theorem tw_191 : Cond.selects "ArcadeBoard$Processor" ⟨"ArcadeBoard$Processor", "nextWord", "()I"⟩ ⟨"ArcadeBoard$Processor", "nextWord", "()I"⟩ ∈ AL := ab_in (ab_s1 (List.mem_of_getElem? (i := 7) (by decide +kernel))) rfl
theorem ok_Processor_nextWord : ab_yok y_Processor_nextWord b_Processor_nextWord 2 (some .int) 0 := ⟨tw_189, tw_170, by decide, by decide, by decide +kernel⟩
theorem okv_Processor_nextWord : ab_yok_V y_Processor_nextWord := ⟨tw_190, tw_191⟩
set_option maxHeartbeats 1000000 in
set_option maxRecDepth 100000 in
theorem c_Processor_nextWord (l : Launch) (D : va_G) (t : Nat → ClassId) (q : Nat → Nat) (u : SS) : ab_ki l D (tyC t) (wC t q) y_Processor_nextWord b_Processor_nextWord 2 .int { frames := 1, cells := 0, slots := 0, locals := 22 } [.ref (q 0)] u (f_Processor_nextWord u) := by
  refine ab_ki_ofW (by decide) (Nat.le_of_ble_eq_true rfl) (fun p e s m below meth c ls A X hr hk hl hX => ?_)
  have hl : lv_has ls 2 [(0, .ref (q 0))] := hl
  refine lv_aload_n (pc := 0) X.1 X.2.1 d_Processor_nextWord_0 rfl (lv_at hl 0 rfl) ?_
  refine ab_gx (pc := 1) (v := .ref (q 4)) X hX 0 4 1 rfl rfl (Nat.le_of_ble_eq_true rfl) in_Processor rfl tw_173 rfl d_Processor_nextWord_1 ?_
  refine lv_aload_n (pc := 4) X.1 X.2.1 d_Processor_nextWord_4 rfl (lv_at hl 0 rfl) ?_
  refine ab_gx (pc := 5) (v := .ref (q 1)) X hX 0 4 0 rfl rfl (Nat.le_of_ble_eq_true rfl) in_Processor rfl tw_174 rfl d_Processor_nextWord_5 ?_
  refine ab_gx (pc := 8) (v := .int (u 0 2)) X hX 1 7 4 rfl rfl (Nat.le_of_ble_eq_true rfl) in_State rfl tw_175 rfl d_Processor_nextWord_8 ?_
  refine ab_kr_callV (pc := 11) (wr := []) (w := (wC t q)) (u := u) (r := f_Memory_at u (u 0 2)) (as := [.int (u 0 2)]) (rest := []) X hX (c_Memory_at l D t q u (u 0 2)) ok_Memory_at okv_Memory_at tw_187 4 2 rfl rfl rfl hl.1 rfl (Nat.le_of_ble_eq_true rfl) ⟨rfl, rfl, Nat.le_of_ble_eq_true rfl, Nat.le_of_ble_eq_true rfl⟩ ⟨Nat.zero_le _, Nat.zero_le _⟩ d_Processor_nextWord_11 (fun H locs hX => ?_)
  refine lv_aload_n (pc := 14) X.1 X.2.1 d_Processor_nextWord_14 rfl (lv_at hl 0 rfl) ?_
  refine ab_gx (pc := 15) (v := .ref (q 4)) X hX 0 4 1 rfl rfl (Nat.le_of_ble_eq_true rfl) in_Processor rfl tw_173 rfl d_Processor_nextWord_15 ?_
  refine lv_aload_n (pc := 18) X.1 X.2.1 d_Processor_nextWord_18 rfl (lv_at hl 0 rfl) ?_
  refine ab_gx (pc := 19) (v := .ref (q 1)) X hX 0 4 0 rfl rfl (Nat.le_of_ble_eq_true rfl) in_Processor rfl tw_174 rfl d_Processor_nextWord_19 ?_
  refine ab_gx (pc := 22) (v := .int (u 0 2)) X hX 1 7 4 rfl rfl (Nat.le_of_ble_eq_true rfl) in_State rfl tw_175 rfl d_Processor_nextWord_22 ?_
  refine lv_iconst (pc := 25) (v := 1) X.1 X.2.1 d_Processor_nextWord_25 (by decide) ?_
  refine lv_iadd (pc := 26) X.1 X.2.1 d_Processor_nextWord_26 ?_
  refine ab_kr_callV (pc := 27) (wr := []) (w := (wC t q)) (u := u) (r := f_Memory_at u ((u 0 2) + 1)) (as := [.int ((u 0 2) + 1)]) (rest := [.int (f_Memory_at u (u 0 2))]) X hX (c_Memory_at l D t q u ((u 0 2) + 1)) ok_Memory_at okv_Memory_at tw_187 4 2 rfl rfl rfl hl.1 rfl (Nat.le_of_ble_eq_true rfl) ⟨rfl, rfl, Nat.le_of_ble_eq_true rfl, Nat.le_of_ble_eq_true rfl⟩ ⟨Nat.zero_le _, Nat.zero_le _⟩ d_Processor_nextWord_27 (fun H locs hX => ?_)
  refine lv_bipush (pc := 30) (v := 8) X.1 X.2.1 d_Processor_nextWord_30 (by decide) ?_
  refine lv_ishl (pc := 32) X.1 X.2.1 d_Processor_nextWord_32 ?_
  refine lv_ior (pc := 33) X.1 X.2.1 d_Processor_nextWord_33 ?_
  refine lv_istore_n (pc := 34) (lv' := [(1, .int ((f_Memory_at u (u 0 2)) ||| ((f_Memory_at u ((u 0 2) + 1)) <<< ((8 : Int32) &&& 31)))), (0, .ref (q 0))]) X.1 X.2.1 d_Processor_nextWord_34 rfl hl (Nat.le_of_ble_eq_true rfl) rfl (fun ls hl => ?_)
  refine lv_aload_n (pc := 35) X.1 X.2.1 d_Processor_nextWord_35 rfl (lv_at hl 1 rfl) ?_
  refine ab_gx (pc := 36) (v := .ref (q 1)) X hX 0 4 0 rfl rfl (Nat.le_of_ble_eq_true rfl) in_Processor rfl tw_174 rfl d_Processor_nextWord_36 ?_
  refine lv_aload_n (pc := 39) X.1 X.2.1 d_Processor_nextWord_39 rfl (lv_at hl 1 rfl) ?_
  refine ab_gx (pc := 40) (v := .ref (q 1)) X hX 0 4 0 rfl rfl (Nat.le_of_ble_eq_true rfl) in_Processor rfl tw_174 rfl d_Processor_nextWord_40 ?_
  refine ab_gx (pc := 43) (v := .int (u 0 2)) X hX 1 7 4 rfl rfl (Nat.le_of_ble_eq_true rfl) in_State rfl tw_175 rfl d_Processor_nextWord_43 ?_
  refine lv_iconst (pc := 46) (v := 2) X.1 X.2.1 d_Processor_nextWord_46 (by decide) ?_
  refine lv_iadd (pc := 47) X.1 X.2.1 d_Processor_nextWord_47 ?_
  refine lv_ldc (pc := 48) (v := 65535) X.1 X.2.1 X.2.2.2.1 (X.2.2.2.2.1 _ tw_188) d_Processor_nextWord_48 ?_
  refine lv_iand (pc := 50) X.1 X.2.1 d_Processor_nextWord_50 ?_
  refine ab_px (pc := 51) (ws' := (wC t q (stt u 0 2 (((u 0 2) + 2) &&& 65535)))) X hX 1 7 4 ty_State ty_State_ok nm_State rfl rfl (Nat.le_of_ble_eq_true rfl) in_State rfl tw_175 rfl rfl rfl rfl (Nat.le_of_ble_eq_true rfl) (sf_wC_1_4 t q u (((u 0 2) + 2) &&& 65535)) d_Processor_nextWord_51 (fun H locs hX => ?_)
  refine lv_iload_n (pc := 54) X.1 X.2.1 d_Processor_nextWord_54 rfl (lv_at hl 0 rfl) ?_
  exact ab_ki_ret (pc := 55) X hr hk hX rfl (by rw [f_Processor_nextWord]) d_Processor_nextWord_55
abbrev b_Processor_setOrAddPair : ByteArray := prog_6_method_7_code
def y_Processor_setOrAddPair : MethodName := ⟨"ArcadeBoard$Processor", "setOrAddPair", "(I)I"⟩
theorem d_Processor_setOrAddPair_0 : decode b_Processor_setOrAddPair 0 = .ok (.iload_n 1, 1) := by decide +kernel
theorem d_Processor_setOrAddPair_1 : decode b_Processor_setOrAddPair 1 = .ok (.iconst 2, 1) := by decide +kernel
theorem d_Processor_setOrAddPair_2 : decode b_Processor_setOrAddPair 2 = .ok (.irem, 1) := by decide +kernel
theorem d_Processor_setOrAddPair_3 : decode b_Processor_setOrAddPair 3 = .ok (.ifCond .ne 20, 3) := by decide +kernel
theorem d_Processor_setOrAddPair_6 : decode b_Processor_setOrAddPair 6 = .ok (.aload_n 0, 1) := by decide +kernel
theorem d_Processor_setOrAddPair_7 : decode b_Processor_setOrAddPair 7 = .ok (.getfield 19, 3) := by decide +kernel
theorem d_Processor_setOrAddPair_10 : decode b_Processor_setOrAddPair 10 = .ok (.iload_n 1, 1) := by decide +kernel
theorem d_Processor_setOrAddPair_11 : decode b_Processor_setOrAddPair 11 = .ok (.iconst 2, 1) := by decide +kernel
theorem d_Processor_setOrAddPair_12 : decode b_Processor_setOrAddPair 12 = .ok (.idiv, 1) := by decide +kernel
theorem d_Processor_setOrAddPair_13 : decode b_Processor_setOrAddPair 13 = .ok (.aload_n 0, 1) := by decide +kernel
theorem d_Processor_setOrAddPair_14 : decode b_Processor_setOrAddPair 14 = .ok (.invokevirtual 121, 3) := by decide +kernel
theorem d_Processor_setOrAddPair_17 : decode b_Processor_setOrAddPair 17 = .ok (.invokevirtual 106, 3) := by decide +kernel
theorem d_Processor_setOrAddPair_20 : decode b_Processor_setOrAddPair 20 = .ok (.goto 20, 3) := by decide +kernel
theorem d_Processor_setOrAddPair_23 : decode b_Processor_setOrAddPair 23 = .ok (.aload_n 0, 1) := by decide +kernel
theorem d_Processor_setOrAddPair_24 : decode b_Processor_setOrAddPair 24 = .ok (.getfield 28, 3) := by decide +kernel
theorem d_Processor_setOrAddPair_27 : decode b_Processor_setOrAddPair 27 = .ok (.aload_n 0, 1) := by decide +kernel
theorem d_Processor_setOrAddPair_28 : decode b_Processor_setOrAddPair 28 = .ok (.getfield 19, 3) := by decide +kernel
theorem d_Processor_setOrAddPair_31 : decode b_Processor_setOrAddPair 31 = .ok (.iload_n 1, 1) := by decide +kernel
theorem d_Processor_setOrAddPair_32 : decode b_Processor_setOrAddPair 32 = .ok (.iconst 2, 1) := by decide +kernel
theorem d_Processor_setOrAddPair_33 : decode b_Processor_setOrAddPair 33 = .ok (.idiv, 1) := by decide +kernel
theorem d_Processor_setOrAddPair_34 : decode b_Processor_setOrAddPair 34 = .ok (.invokevirtual 103, 3) := by decide +kernel
theorem d_Processor_setOrAddPair_37 : decode b_Processor_setOrAddPair 37 = .ok (.invokevirtual 124, 3) := by decide +kernel
theorem d_Processor_setOrAddPair_40 : decode b_Processor_setOrAddPair 40 = .ok (.bipush 10, 2) := by decide +kernel
theorem d_Processor_setOrAddPair_42 : decode b_Processor_setOrAddPair 42 = .ok (.ireturn, 1) := by decide +kernel
theorem tw_192 : Jvm.Cond.code ⟨"ArcadeBoard$Processor", "setOrAddPair", "(I)I"⟩ prog_6_method_7_code 2 (Option.some Jvm.ClassFile.FieldType.int) ∈ AL := ab_in (ab_t3 (List.mem_of_getElem? (i := 10) (by decide +kernel))) rfl
theorem tw_193 : Jvm.Cond.instanceMethod ⟨"ArcadeBoard$Processor", "setOrAddPair", "(I)I"⟩ ∈ AL := ab_in (ab_t3 (List.mem_of_getElem? (i := 9) (by decide +kernel))) rfl
theorem tw_194 : Cond.selects "ArcadeBoard$Processor" ⟨"ArcadeBoard$Processor", "setOrAddPair", "(I)I"⟩ ⟨"ArcadeBoard$Processor", "setOrAddPair", "(I)I"⟩ ∈ AL := ab_in (ab_s1 (List.mem_of_getElem? (i := 6) (by decide +kernel))) rfl
theorem tw_195 : Jvm.Cond.fieldLink "ArcadeBoard$Processor" 28 "ArcadeBoard$Processor" "arithmetic" "LArcadeBoard$Arithmetic;" ∈ AL := ab_in (ab_t1 (List.mem_of_getElem? (i := 214) (by decide +kernel))) rfl
theorem tw_196 : Jvm.Cond.fieldLink "ArcadeBoard$Processor" 19 "ArcadeBoard$Processor" "registers" "LArcadeBoard$Registers;" ∈ AL := ab_in (ab_t1 (List.mem_of_getElem? (i := 213) (by decide +kernel))) rfl
theorem tw_197 : Jvm.Cond.methodLink "ArcadeBoard$Processor" 103 ⟨"ArcadeBoard$Registers", "pair", "(I)I"⟩ ∈ AL := ab_in (ab_t3 (List.mem_of_getElem? (i := 20) (by decide +kernel))) rfl
theorem tw_198 : Jvm.Cond.methodLink "ArcadeBoard$Processor" 124 ⟨"ArcadeBoard$Arithmetic", "growHL", "(I)V"⟩ ∈ AL := ab_in (ab_t3 (List.mem_of_getElem? (i := 21) (by decide +kernel))) rfl
theorem tw_199 : Jvm.Cond.methodLink "ArcadeBoard$Processor" 121 ⟨"ArcadeBoard$Processor", "nextWord", "()I"⟩ ∈ AL := ab_in (ab_t3 (List.mem_of_getElem? (i := 11) (by decide +kernel))) rfl
theorem tw_200 : Jvm.Cond.methodLink "ArcadeBoard$Processor" 106 ⟨"ArcadeBoard$Registers", "setPair", "(II)V"⟩ ∈ AL := ab_in (ab_t3 (List.mem_of_getElem? (i := 15) (by decide +kernel))) rfl
theorem ok_Processor_setOrAddPair : ab_yok y_Processor_setOrAddPair b_Processor_setOrAddPair 2 (some .int) 1 := ⟨tw_192, tw_170, by decide, by decide, by decide +kernel⟩
theorem okv_Processor_setOrAddPair : ab_yok_V y_Processor_setOrAddPair := ⟨tw_193, tw_194⟩
set_option maxHeartbeats 1000000 in
set_option maxRecDepth 100000 in
theorem c_Processor_setOrAddPair (l : Launch) (D : va_G) (t : Nat → ClassId) (q : Nat → Nat) (u : SS) (x1 : Int32) : ab_ki l D (tyC t) (wC t q) y_Processor_setOrAddPair b_Processor_setOrAddPair 2 .int { frames := 2, cells := 0, slots := 0, locals := 43 } [.ref (q 0), .int x1] u (f_Processor_setOrAddPair u x1) := by
  refine ab_ki_ofW (by decide) (Nat.le_of_ble_eq_true rfl) (fun p e s m below meth c ls A X hr hk hl hX => ?_)
  have hl : lv_has ls 2 [(0, .ref (q 0)), (1, .int x1)] := hl
  refine lv_iload_n (pc := 0) X.1 X.2.1 d_Processor_setOrAddPair_0 rfl (lv_at hl 1 rfl) ?_
  refine lv_iconst (pc := 1) (v := 2) X.1 X.2.1 d_Processor_setOrAddPair_1 (by decide) ?_
  refine lv_irem (pc := 2) X.1 X.2.1 d_Processor_setOrAddPair_2 (by decide) ?_
  refine lv_if_ne (pc := 3) (tgt := 23) X.1 X.2.1 d_Processor_setOrAddPair_3 (by decide) (fun h1 => ?_) (fun h1 => ?_)
  ·
    refine lv_aload_n (pc := 23) X.1 X.2.1 d_Processor_setOrAddPair_23 rfl (lv_at hl 0 rfl) ?_
    refine ab_gx (pc := 24) (v := .ref (q 7)) X hX 0 4 3 rfl rfl (Nat.le_of_ble_eq_true rfl) in_Processor rfl tw_195 rfl d_Processor_setOrAddPair_24 ?_
    refine lv_aload_n (pc := 27) X.1 X.2.1 d_Processor_setOrAddPair_27 rfl (lv_at hl 0 rfl) ?_
    refine ab_gx (pc := 28) (v := .ref (q 6)) X hX 0 4 2 rfl rfl (Nat.le_of_ble_eq_true rfl) in_Processor rfl tw_196 rfl d_Processor_setOrAddPair_28 ?_
    refine lv_iload_n (pc := 31) X.1 X.2.1 d_Processor_setOrAddPair_31 rfl (lv_at hl 1 rfl) ?_
    refine lv_iconst (pc := 32) (v := 2) X.1 X.2.1 d_Processor_setOrAddPair_32 (by decide) ?_
    refine lv_idiv (pc := 33) X.1 X.2.1 d_Processor_setOrAddPair_33 (by decide) ?_
    refine ab_kr_callV (pc := 34) (wr := []) (w := (wC t q)) (u := u) (r := f_Registers_pair u (x1 / 2)) (as := [.int (x1 / 2)]) (rest := [.ref (q 7)]) X hX (c_Registers_pair l D t q u (x1 / 2)) ok_Registers_pair okv_Registers_pair tw_197 6 5 rfl rfl rfl hl.1 rfl (Nat.le_of_ble_eq_true rfl) ⟨rfl, rfl, Nat.le_of_ble_eq_true rfl, Nat.le_of_ble_eq_true rfl⟩ ⟨Nat.zero_le _, Nat.zero_le _⟩ d_Processor_setOrAddPair_34 (fun H locs hX => ?_)
    refine ab_kv_callV (pc := 37) (wr := []) (w := (wC t q)) (u := u) (F := f_Arithmetic_growHL u (f_Registers_pair u (x1 / 2))) (as := [.int (f_Registers_pair u (x1 / 2))]) (rest := []) X hX (c_Arithmetic_growHL l D t q u (f_Registers_pair u (x1 / 2))) ok_Arithmetic_growHL okv_Arithmetic_growHL tw_198 7 0 rfl rfl rfl hl.1 rfl (Nat.le_of_ble_eq_true rfl) ⟨rfl, rfl, Nat.le_of_ble_eq_true rfl, Nat.le_of_ble_eq_true rfl⟩ ⟨Nat.zero_le _, Nat.zero_le _⟩ d_Processor_setOrAddPair_37 (fun H locs hX => ?_)
    refine lv_bipush (pc := 40) (v := 10) X.1 X.2.1 d_Processor_setOrAddPair_40 (by decide) ?_
    exact ab_ki_ret (pc := 42) X hr hk hX rfl (by rw [f_Processor_setOrAddPair, if_neg h1]) d_Processor_setOrAddPair_42
  ·
    refine lv_aload_n (pc := 6) X.1 X.2.1 d_Processor_setOrAddPair_6 rfl (lv_at hl 0 rfl) ?_
    refine ab_gx (pc := 7) (v := .ref (q 6)) X hX 0 4 2 rfl rfl (Nat.le_of_ble_eq_true rfl) in_Processor rfl tw_196 rfl d_Processor_setOrAddPair_7 ?_
    refine lv_iload_n (pc := 10) X.1 X.2.1 d_Processor_setOrAddPair_10 rfl (lv_at hl 1 rfl) ?_
    refine lv_iconst (pc := 11) (v := 2) X.1 X.2.1 d_Processor_setOrAddPair_11 (by decide) ?_
    refine lv_idiv (pc := 12) X.1 X.2.1 d_Processor_setOrAddPair_12 (by decide) ?_
    refine lv_aload_n (pc := 13) X.1 X.2.1 d_Processor_setOrAddPair_13 rfl (lv_at hl 0 rfl) ?_
    refine ab_ki_callV (pc := 14) (wr := []) (w := (wC t q)) (u := u) (F := f_Processor_nextWord u) (as := []) (rest := [.int (x1 / 2), .ref (q 6)]) X hX (c_Processor_nextWord l D t q u) ok_Processor_nextWord okv_Processor_nextWord tw_199 0 4 rfl rfl rfl hl.1 rfl (Nat.le_of_ble_eq_true rfl) ⟨rfl, rfl, Nat.le_of_ble_eq_true rfl, Nat.le_of_ble_eq_true rfl⟩ ⟨Nat.zero_le _, Nat.zero_le _⟩ d_Processor_setOrAddPair_14 (fun H locs hX => ?_)
    refine ab_kv_callV (pc := 17) (wr := []) (w := (wC t q)) (u := ((f_Processor_nextWord u).2)) (F := f_Registers_setPair ((f_Processor_nextWord u).2) (x1 / 2) ((f_Processor_nextWord u).1)) (as := [.int (x1 / 2), .int ((f_Processor_nextWord u).1)]) (rest := []) X hX (c_Registers_setPair l D t q ((f_Processor_nextWord u).2) (x1 / 2) ((f_Processor_nextWord u).1)) ok_Registers_setPair okv_Registers_setPair tw_200 6 5 rfl rfl rfl hl.1 rfl (Nat.le_of_ble_eq_true rfl) ⟨rfl, rfl, Nat.le_of_ble_eq_true rfl, Nat.le_of_ble_eq_true rfl⟩ ⟨Nat.zero_le _, Nat.zero_le _⟩ d_Processor_setOrAddPair_17 (fun H locs hX => ?_)
    refine lv_goto (pc := 20) (tgt := 40) X.1 X.2.1 d_Processor_setOrAddPair_20 (by decide) ?_
    refine lv_bipush (pc := 40) (v := 10) X.1 X.2.1 d_Processor_setOrAddPair_40 (by decide) ?_
    exact ab_ki_ret (pc := 42) X hr hk hX rfl (by rw [f_Processor_setOrAddPair, if_pos h1]) d_Processor_setOrAddPair_42
abbrev b_Processor_moveByAddress : ByteArray := prog_6_method_8_code
def y_Processor_moveByAddress : MethodName := ⟨"ArcadeBoard$Processor", "moveByAddress", "(I)I"⟩
theorem d_Processor_moveByAddress_0 : decode b_Processor_moveByAddress 0 = .ok (.iload_n 1, 1) := by decide +kernel
theorem d_Processor_moveByAddress_1 : decode b_Processor_moveByAddress 1 = .ok (.tableswitch 171 0 6 #[43, 73, 43, 73, 103, 125, 147], 43) := by decide +kernel
theorem d_Processor_moveByAddress_44 : decode b_Processor_moveByAddress 44 = .ok (.aload_n 0, 1) := by decide +kernel
theorem d_Processor_moveByAddress_45 : decode b_Processor_moveByAddress 45 = .ok (.getfield 15, 3) := by decide +kernel
theorem d_Processor_moveByAddress_48 : decode b_Processor_moveByAddress 48 = .ok (.aload_n 0, 1) := by decide +kernel
theorem d_Processor_moveByAddress_49 : decode b_Processor_moveByAddress 49 = .ok (.getfield 19, 3) := by decide +kernel
theorem d_Processor_moveByAddress_52 : decode b_Processor_moveByAddress 52 = .ok (.iload_n 1, 1) := by decide +kernel
theorem d_Processor_moveByAddress_53 : decode b_Processor_moveByAddress 53 = .ok (.iconst 2, 1) := by decide +kernel
theorem d_Processor_moveByAddress_54 : decode b_Processor_moveByAddress 54 = .ok (.idiv, 1) := by decide +kernel
theorem d_Processor_moveByAddress_55 : decode b_Processor_moveByAddress 55 = .ok (.invokevirtual 103, 3) := by decide +kernel
theorem d_Processor_moveByAddress_58 : decode b_Processor_moveByAddress 58 = .ok (.aload_n 0, 1) := by decide +kernel
theorem d_Processor_moveByAddress_59 : decode b_Processor_moveByAddress 59 = .ok (.getfield 9, 3) := by decide +kernel
theorem d_Processor_moveByAddress_62 : decode b_Processor_moveByAddress 62 = .ok (.getfield 127, 3) := by decide +kernel
theorem d_Processor_moveByAddress_65 : decode b_Processor_moveByAddress 65 = .ok (.bipush 7, 2) := by decide +kernel
theorem d_Processor_moveByAddress_67 : decode b_Processor_moveByAddress 67 = .ok (.iaload, 1) := by decide +kernel
theorem d_Processor_moveByAddress_68 : decode b_Processor_moveByAddress 68 = .ok (.invokevirtual 130, 3) := by decide +kernel
theorem d_Processor_moveByAddress_71 : decode b_Processor_moveByAddress 71 = .ok (.bipush 7, 2) := by decide +kernel
theorem d_Processor_moveByAddress_73 : decode b_Processor_moveByAddress 73 = .ok (.ireturn, 1) := by decide +kernel
theorem d_Processor_moveByAddress_74 : decode b_Processor_moveByAddress 74 = .ok (.aload_n 0, 1) := by decide +kernel
theorem d_Processor_moveByAddress_75 : decode b_Processor_moveByAddress 75 = .ok (.getfield 9, 3) := by decide +kernel
theorem d_Processor_moveByAddress_78 : decode b_Processor_moveByAddress 78 = .ok (.getfield 127, 3) := by decide +kernel
theorem d_Processor_moveByAddress_81 : decode b_Processor_moveByAddress 81 = .ok (.bipush 7, 2) := by decide +kernel
theorem d_Processor_moveByAddress_83 : decode b_Processor_moveByAddress 83 = .ok (.aload_n 0, 1) := by decide +kernel
theorem d_Processor_moveByAddress_84 : decode b_Processor_moveByAddress 84 = .ok (.getfield 15, 3) := by decide +kernel
theorem d_Processor_moveByAddress_87 : decode b_Processor_moveByAddress 87 = .ok (.aload_n 0, 1) := by decide +kernel
theorem d_Processor_moveByAddress_88 : decode b_Processor_moveByAddress 88 = .ok (.getfield 19, 3) := by decide +kernel
theorem d_Processor_moveByAddress_91 : decode b_Processor_moveByAddress 91 = .ok (.iload_n 1, 1) := by decide +kernel
theorem d_Processor_moveByAddress_92 : decode b_Processor_moveByAddress 92 = .ok (.iconst 2, 1) := by decide +kernel
theorem d_Processor_moveByAddress_93 : decode b_Processor_moveByAddress 93 = .ok (.idiv, 1) := by decide +kernel
theorem d_Processor_moveByAddress_94 : decode b_Processor_moveByAddress 94 = .ok (.invokevirtual 103, 3) := by decide +kernel
theorem d_Processor_moveByAddress_97 : decode b_Processor_moveByAddress 97 = .ok (.invokevirtual 135, 3) := by decide +kernel
theorem d_Processor_moveByAddress_100 : decode b_Processor_moveByAddress 100 = .ok (.iastore, 1) := by decide +kernel
theorem d_Processor_moveByAddress_101 : decode b_Processor_moveByAddress 101 = .ok (.bipush 7, 2) := by decide +kernel
theorem d_Processor_moveByAddress_103 : decode b_Processor_moveByAddress 103 = .ok (.ireturn, 1) := by decide +kernel
theorem d_Processor_moveByAddress_104 : decode b_Processor_moveByAddress 104 = .ok (.aload_n 0, 1) := by decide +kernel
theorem d_Processor_moveByAddress_105 : decode b_Processor_moveByAddress 105 = .ok (.getfield 15, 3) := by decide +kernel
theorem d_Processor_moveByAddress_108 : decode b_Processor_moveByAddress 108 = .ok (.aload_n 0, 1) := by decide +kernel
theorem d_Processor_moveByAddress_109 : decode b_Processor_moveByAddress 109 = .ok (.invokevirtual 121, 3) := by decide +kernel
theorem d_Processor_moveByAddress_112 : decode b_Processor_moveByAddress 112 = .ok (.aload_n 0, 1) := by decide +kernel
theorem d_Processor_moveByAddress_113 : decode b_Processor_moveByAddress 113 = .ok (.getfield 19, 3) := by decide +kernel
theorem d_Processor_moveByAddress_116 : decode b_Processor_moveByAddress 116 = .ok (.iconst 2, 1) := by decide +kernel
theorem d_Processor_moveByAddress_117 : decode b_Processor_moveByAddress 117 = .ok (.invokevirtual 103, 3) := by decide +kernel
theorem d_Processor_moveByAddress_120 : decode b_Processor_moveByAddress 120 = .ok (.invokevirtual 138, 3) := by decide +kernel
theorem d_Processor_moveByAddress_123 : decode b_Processor_moveByAddress 123 = .ok (.bipush 16, 2) := by decide +kernel
theorem d_Processor_moveByAddress_125 : decode b_Processor_moveByAddress 125 = .ok (.ireturn, 1) := by decide +kernel
theorem d_Processor_moveByAddress_126 : decode b_Processor_moveByAddress 126 = .ok (.aload_n 0, 1) := by decide +kernel
theorem d_Processor_moveByAddress_127 : decode b_Processor_moveByAddress 127 = .ok (.getfield 19, 3) := by decide +kernel
theorem d_Processor_moveByAddress_130 : decode b_Processor_moveByAddress 130 = .ok (.iconst 2, 1) := by decide +kernel
theorem d_Processor_moveByAddress_131 : decode b_Processor_moveByAddress 131 = .ok (.aload_n 0, 1) := by decide +kernel
theorem d_Processor_moveByAddress_132 : decode b_Processor_moveByAddress 132 = .ok (.getfield 15, 3) := by decide +kernel
theorem d_Processor_moveByAddress_135 : decode b_Processor_moveByAddress 135 = .ok (.aload_n 0, 1) := by decide +kernel
theorem d_Processor_moveByAddress_136 : decode b_Processor_moveByAddress 136 = .ok (.invokevirtual 121, 3) := by decide +kernel
theorem d_Processor_moveByAddress_139 : decode b_Processor_moveByAddress 139 = .ok (.invokevirtual 141, 3) := by decide +kernel
theorem d_Processor_moveByAddress_142 : decode b_Processor_moveByAddress 142 = .ok (.invokevirtual 106, 3) := by decide +kernel
theorem d_Processor_moveByAddress_145 : decode b_Processor_moveByAddress 145 = .ok (.bipush 16, 2) := by decide +kernel
theorem d_Processor_moveByAddress_147 : decode b_Processor_moveByAddress 147 = .ok (.ireturn, 1) := by decide +kernel
theorem d_Processor_moveByAddress_148 : decode b_Processor_moveByAddress 148 = .ok (.aload_n 0, 1) := by decide +kernel
theorem d_Processor_moveByAddress_149 : decode b_Processor_moveByAddress 149 = .ok (.getfield 15, 3) := by decide +kernel
theorem d_Processor_moveByAddress_152 : decode b_Processor_moveByAddress 152 = .ok (.aload_n 0, 1) := by decide +kernel
theorem d_Processor_moveByAddress_153 : decode b_Processor_moveByAddress 153 = .ok (.invokevirtual 121, 3) := by decide +kernel
theorem d_Processor_moveByAddress_156 : decode b_Processor_moveByAddress 156 = .ok (.aload_n 0, 1) := by decide +kernel
theorem d_Processor_moveByAddress_157 : decode b_Processor_moveByAddress 157 = .ok (.getfield 9, 3) := by decide +kernel
theorem d_Processor_moveByAddress_160 : decode b_Processor_moveByAddress 160 = .ok (.getfield 127, 3) := by decide +kernel
theorem d_Processor_moveByAddress_163 : decode b_Processor_moveByAddress 163 = .ok (.bipush 7, 2) := by decide +kernel
theorem d_Processor_moveByAddress_165 : decode b_Processor_moveByAddress 165 = .ok (.iaload, 1) := by decide +kernel
theorem d_Processor_moveByAddress_166 : decode b_Processor_moveByAddress 166 = .ok (.invokevirtual 130, 3) := by decide +kernel
theorem d_Processor_moveByAddress_169 : decode b_Processor_moveByAddress 169 = .ok (.bipush 13, 2) := by decide +kernel
theorem d_Processor_moveByAddress_171 : decode b_Processor_moveByAddress 171 = .ok (.ireturn, 1) := by decide +kernel
theorem d_Processor_moveByAddress_172 : decode b_Processor_moveByAddress 172 = .ok (.aload_n 0, 1) := by decide +kernel
theorem d_Processor_moveByAddress_173 : decode b_Processor_moveByAddress 173 = .ok (.getfield 9, 3) := by decide +kernel
theorem d_Processor_moveByAddress_176 : decode b_Processor_moveByAddress 176 = .ok (.getfield 127, 3) := by decide +kernel
theorem d_Processor_moveByAddress_179 : decode b_Processor_moveByAddress 179 = .ok (.bipush 7, 2) := by decide +kernel
theorem d_Processor_moveByAddress_181 : decode b_Processor_moveByAddress 181 = .ok (.aload_n 0, 1) := by decide +kernel
theorem d_Processor_moveByAddress_182 : decode b_Processor_moveByAddress 182 = .ok (.getfield 15, 3) := by decide +kernel
theorem d_Processor_moveByAddress_185 : decode b_Processor_moveByAddress 185 = .ok (.aload_n 0, 1) := by decide +kernel
theorem d_Processor_moveByAddress_186 : decode b_Processor_moveByAddress 186 = .ok (.invokevirtual 121, 3) := by decide +kernel
theorem d_Processor_moveByAddress_189 : decode b_Processor_moveByAddress 189 = .ok (.invokevirtual 135, 3) := by decide +kernel
theorem d_Processor_moveByAddress_192 : decode b_Processor_moveByAddress 192 = .ok (.iastore, 1) := by decide +kernel
theorem d_Processor_moveByAddress_193 : decode b_Processor_moveByAddress 193 = .ok (.bipush 13, 2) := by decide +kernel
theorem d_Processor_moveByAddress_195 : decode b_Processor_moveByAddress 195 = .ok (.ireturn, 1) := by decide +kernel
theorem tw_201 : Jvm.Cond.code ⟨"ArcadeBoard$Processor", "moveByAddress", "(I)I"⟩ prog_6_method_8_code 2 (Option.some Jvm.ClassFile.FieldType.int) ∈ AL := ab_in (ab_t3 (List.mem_of_getElem? (i := 32) (by decide +kernel))) rfl
theorem tw_202 : Jvm.Cond.instanceMethod ⟨"ArcadeBoard$Processor", "moveByAddress", "(I)I"⟩ ∈ AL := ab_in (ab_t3 (List.mem_of_getElem? (i := 31) (by decide +kernel))) rfl
theorem tw_203 : Cond.selects "ArcadeBoard$Processor" ⟨"ArcadeBoard$Processor", "moveByAddress", "(I)I"⟩ ⟨"ArcadeBoard$Processor", "moveByAddress", "(I)I"⟩ ∈ AL := ab_in (ab_s1 (List.mem_of_getElem? (i := 8) (by decide +kernel))) rfl
theorem tw_204 : Jvm.Cond.fieldLink "ArcadeBoard$Processor" 127 "ArcadeBoard$State" "registers" "[I" ∈ AL := ab_in (ab_t1 (List.mem_of_getElem? (i := 37) (by decide +kernel))) rfl
theorem tw_205 : Jvm.Cond.methodLink "ArcadeBoard$Processor" 130 ⟨"ArcadeBoard$Memory", "put", "(II)V"⟩ ∈ AL := ab_in (ab_t3 (List.mem_of_getElem? (i := 33) (by decide +kernel))) rfl
theorem tw_206 : Jvm.Cond.methodLink "ArcadeBoard$Processor" 138 ⟨"ArcadeBoard$Memory", "putWord", "(II)V"⟩ ∈ AL := ab_in (ab_t3 (List.mem_of_getElem? (i := 34) (by decide +kernel))) rfl
theorem tw_207 : Jvm.Cond.methodLink "ArcadeBoard$Processor" 141 ⟨"ArcadeBoard$Memory", "wordAt", "(I)I"⟩ ∈ AL := ab_in (ab_t3 (List.mem_of_getElem? (i := 38) (by decide +kernel))) rfl
theorem ok_Processor_moveByAddress : ab_yok y_Processor_moveByAddress b_Processor_moveByAddress 2 (some .int) 1 := ⟨tw_201, tw_170, by decide, by decide, by decide +kernel⟩
theorem okv_Processor_moveByAddress : ab_yok_V y_Processor_moveByAddress := ⟨tw_202, tw_203⟩
set_option maxHeartbeats 1000000 in
set_option maxRecDepth 100000 in
theorem c_Processor_moveByAddress (l : Launch) (D : va_G) (t : Nat → ClassId) (q : Nat → Nat) (u : SS) (x1 : Int32) : ab_ki l D (tyC t) (wC t q) y_Processor_moveByAddress b_Processor_moveByAddress 2 .int { frames := 2, cells := 0, slots := 0, locals := 45 } [.ref (q 0), .int x1] u (f_Processor_moveByAddress u x1) := by
  refine ab_ki_ofW (by decide) (Nat.le_of_ble_eq_true rfl) (fun p e s m below meth c ls A X hr hk hl hX => ?_)
  have hl : lv_has ls 2 [(0, .ref (q 0)), (1, .int x1)] := hl
  refine lv_iload_n (pc := 0) X.1 X.2.1 d_Processor_moveByAddress_0 rfl (lv_at hl 1 rfl) ?_
  by_cases h1 : x1 = 0
  ·
    refine ab_swIn (pc := 1) (tgt := 44) (off := 43) X.1 X.2.1 d_Processor_moveByAddress_1 h1 (by decide) (by decide) (by decide) (by decide) ?_
    refine lv_aload_n (pc := 44) X.1 X.2.1 d_Processor_moveByAddress_44 rfl (lv_at hl 0 rfl) ?_
    refine ab_gx (pc := 45) (v := .ref (q 4)) X hX 0 4 1 rfl rfl (Nat.le_of_ble_eq_true rfl) in_Processor rfl tw_173 rfl d_Processor_moveByAddress_45 ?_
    refine lv_aload_n (pc := 48) X.1 X.2.1 d_Processor_moveByAddress_48 rfl (lv_at hl 0 rfl) ?_
    refine ab_gx (pc := 49) (v := .ref (q 6)) X hX 0 4 2 rfl rfl (Nat.le_of_ble_eq_true rfl) in_Processor rfl tw_196 rfl d_Processor_moveByAddress_49 ?_
    refine lv_iload_n (pc := 52) X.1 X.2.1 d_Processor_moveByAddress_52 rfl (lv_at hl 1 rfl) ?_
    refine lv_iconst (pc := 53) (v := 2) X.1 X.2.1 d_Processor_moveByAddress_53 (by decide) ?_
    refine lv_idiv (pc := 54) X.1 X.2.1 d_Processor_moveByAddress_54 (by decide) ?_
    refine ab_kr_callV (pc := 55) (wr := []) (w := (wC t q)) (u := u) (r := f_Registers_pair u (x1 / 2)) (as := [.int (x1 / 2)]) (rest := [.ref (q 4)]) X hX (c_Registers_pair l D t q u (x1 / 2)) ok_Registers_pair okv_Registers_pair tw_197 6 5 rfl rfl rfl hl.1 rfl (Nat.le_of_ble_eq_true rfl) ⟨rfl, rfl, Nat.le_of_ble_eq_true rfl, Nat.le_of_ble_eq_true rfl⟩ ⟨Nat.zero_le _, Nat.zero_le _⟩ d_Processor_moveByAddress_55 (fun H locs hX => ?_)
    refine lv_aload_n (pc := 58) X.1 X.2.1 d_Processor_moveByAddress_58 rfl (lv_at hl 0 rfl) ?_
    refine ab_gx (pc := 59) (v := .ref (q 1)) X hX 0 4 0 rfl rfl (Nat.le_of_ble_eq_true rfl) in_Processor rfl tw_174 rfl d_Processor_moveByAddress_59 ?_
    refine ab_gx (pc := 62) (v := .ref (q 3)) X hX 1 7 1 rfl rfl (Nat.le_of_ble_eq_true rfl) in_State rfl tw_204 rfl d_Processor_moveByAddress_62 ?_
    refine lv_bipush (pc := 65) (v := 7) X.1 X.2.1 d_Processor_moveByAddress_65 (by decide) ?_
    refine ab_ald (pc := 67) (f := u 2) (j := 7) X hX 3 0 rfl rfl (ab_inc (by decide)) rfl d_Processor_moveByAddress_67 ?_
    refine ab_kv_callV (pc := 68) (wr := []) (w := (wC t q)) (u := u) (F := f_Memory_put u (f_Registers_pair u (x1 / 2)) (u 2 7)) (as := [.int (f_Registers_pair u (x1 / 2)), .int (u 2 7)]) (rest := []) X hX (c_Memory_put l D t q u (f_Registers_pair u (x1 / 2)) (u 2 7)) ok_Memory_put okv_Memory_put tw_205 4 2 rfl rfl rfl hl.1 rfl (Nat.le_of_ble_eq_true rfl) ⟨rfl, rfl, Nat.le_of_ble_eq_true rfl, Nat.le_of_ble_eq_true rfl⟩ ⟨Nat.zero_le _, Nat.zero_le _⟩ d_Processor_moveByAddress_68 (fun H locs hX => ?_)
    refine lv_bipush (pc := 71) (v := 7) X.1 X.2.1 d_Processor_moveByAddress_71 (by decide) ?_
    exact ab_ki_ret (pc := 73) X hr hk hX rfl (by rw [f_Processor_moveByAddress, if_pos h1]) d_Processor_moveByAddress_73
  ·
    by_cases h2 : x1 = 1
    ·
      refine ab_swIn (pc := 1) (tgt := 74) (off := 73) X.1 X.2.1 d_Processor_moveByAddress_1 h2 (by decide) (by decide) (by decide) (by decide) ?_
      refine lv_aload_n (pc := 74) X.1 X.2.1 d_Processor_moveByAddress_74 rfl (lv_at hl 0 rfl) ?_
      refine ab_gx (pc := 75) (v := .ref (q 1)) X hX 0 4 0 rfl rfl (Nat.le_of_ble_eq_true rfl) in_Processor rfl tw_174 rfl d_Processor_moveByAddress_75 ?_
      refine ab_gx (pc := 78) (v := .ref (q 3)) X hX 1 7 1 rfl rfl (Nat.le_of_ble_eq_true rfl) in_State rfl tw_204 rfl d_Processor_moveByAddress_78 ?_
      refine lv_bipush (pc := 81) (v := 7) X.1 X.2.1 d_Processor_moveByAddress_81 (by decide) ?_
      refine lv_aload_n (pc := 83) X.1 X.2.1 d_Processor_moveByAddress_83 rfl (lv_at hl 0 rfl) ?_
      refine ab_gx (pc := 84) (v := .ref (q 4)) X hX 0 4 1 rfl rfl (Nat.le_of_ble_eq_true rfl) in_Processor rfl tw_173 rfl d_Processor_moveByAddress_84 ?_
      refine lv_aload_n (pc := 87) X.1 X.2.1 d_Processor_moveByAddress_87 rfl (lv_at hl 0 rfl) ?_
      refine ab_gx (pc := 88) (v := .ref (q 6)) X hX 0 4 2 rfl rfl (Nat.le_of_ble_eq_true rfl) in_Processor rfl tw_196 rfl d_Processor_moveByAddress_88 ?_
      refine lv_iload_n (pc := 91) X.1 X.2.1 d_Processor_moveByAddress_91 rfl (lv_at hl 1 rfl) ?_
      refine lv_iconst (pc := 92) (v := 2) X.1 X.2.1 d_Processor_moveByAddress_92 (by decide) ?_
      refine lv_idiv (pc := 93) X.1 X.2.1 d_Processor_moveByAddress_93 (by decide) ?_
      refine ab_kr_callV (pc := 94) (wr := []) (w := (wC t q)) (u := u) (r := f_Registers_pair u (x1 / 2)) (as := [.int (x1 / 2)]) (rest := [.ref (q 4), .int 7, .ref (q 3)]) X hX (c_Registers_pair l D t q u (x1 / 2)) ok_Registers_pair okv_Registers_pair tw_197 6 5 rfl rfl rfl hl.1 rfl (Nat.le_of_ble_eq_true rfl) ⟨rfl, rfl, Nat.le_of_ble_eq_true rfl, Nat.le_of_ble_eq_true rfl⟩ ⟨Nat.zero_le _, Nat.zero_le _⟩ d_Processor_moveByAddress_94 (fun H locs hX => ?_)
      refine ab_kr_callV (pc := 97) (wr := []) (w := (wC t q)) (u := u) (r := f_Memory_at u (f_Registers_pair u (x1 / 2))) (as := [.int (f_Registers_pair u (x1 / 2))]) (rest := [.int 7, .ref (q 3)]) X hX (c_Memory_at l D t q u (f_Registers_pair u (x1 / 2))) ok_Memory_at okv_Memory_at tw_187 4 2 rfl rfl rfl hl.1 rfl (Nat.le_of_ble_eq_true rfl) ⟨rfl, rfl, Nat.le_of_ble_eq_true rfl, Nat.le_of_ble_eq_true rfl⟩ ⟨Nat.zero_le _, Nat.zero_le _⟩ d_Processor_moveByAddress_97 (fun H locs hX => ?_)
      refine ab_ast (pc := 100) (f := u 2) (j := 7) (ws' := (wC t q (stt u 2 7 (f_Memory_at u (f_Registers_pair u (x1 / 2)))))) X hX 3 0 rfl rfl (ab_inc (by decide)) rfl (sa_wC_3 t q u 7 (f_Memory_at u (f_Registers_pair u (x1 / 2)))) d_Processor_moveByAddress_100 (fun H locs hX => ?_)
      refine lv_bipush (pc := 101) (v := 7) X.1 X.2.1 d_Processor_moveByAddress_101 (by decide) ?_
      exact ab_ki_ret (pc := 103) X hr hk hX rfl (by rw [f_Processor_moveByAddress, if_neg h1, if_pos h2]) d_Processor_moveByAddress_103
    ·
      by_cases h3 : x1 = 2
      ·
        refine ab_swIn (pc := 1) (tgt := 44) (off := 43) X.1 X.2.1 d_Processor_moveByAddress_1 h3 (by decide) (by decide) (by decide) (by decide) ?_
        refine lv_aload_n (pc := 44) X.1 X.2.1 d_Processor_moveByAddress_44 rfl (lv_at hl 0 rfl) ?_
        refine ab_gx (pc := 45) (v := .ref (q 4)) X hX 0 4 1 rfl rfl (Nat.le_of_ble_eq_true rfl) in_Processor rfl tw_173 rfl d_Processor_moveByAddress_45 ?_
        refine lv_aload_n (pc := 48) X.1 X.2.1 d_Processor_moveByAddress_48 rfl (lv_at hl 0 rfl) ?_
        refine ab_gx (pc := 49) (v := .ref (q 6)) X hX 0 4 2 rfl rfl (Nat.le_of_ble_eq_true rfl) in_Processor rfl tw_196 rfl d_Processor_moveByAddress_49 ?_
        refine lv_iload_n (pc := 52) X.1 X.2.1 d_Processor_moveByAddress_52 rfl (lv_at hl 1 rfl) ?_
        refine lv_iconst (pc := 53) (v := 2) X.1 X.2.1 d_Processor_moveByAddress_53 (by decide) ?_
        refine lv_idiv (pc := 54) X.1 X.2.1 d_Processor_moveByAddress_54 (by decide) ?_
        refine ab_kr_callV (pc := 55) (wr := []) (w := (wC t q)) (u := u) (r := f_Registers_pair u (x1 / 2)) (as := [.int (x1 / 2)]) (rest := [.ref (q 4)]) X hX (c_Registers_pair l D t q u (x1 / 2)) ok_Registers_pair okv_Registers_pair tw_197 6 5 rfl rfl rfl hl.1 rfl (Nat.le_of_ble_eq_true rfl) ⟨rfl, rfl, Nat.le_of_ble_eq_true rfl, Nat.le_of_ble_eq_true rfl⟩ ⟨Nat.zero_le _, Nat.zero_le _⟩ d_Processor_moveByAddress_55 (fun H locs hX => ?_)
        refine lv_aload_n (pc := 58) X.1 X.2.1 d_Processor_moveByAddress_58 rfl (lv_at hl 0 rfl) ?_
        refine ab_gx (pc := 59) (v := .ref (q 1)) X hX 0 4 0 rfl rfl (Nat.le_of_ble_eq_true rfl) in_Processor rfl tw_174 rfl d_Processor_moveByAddress_59 ?_
        refine ab_gx (pc := 62) (v := .ref (q 3)) X hX 1 7 1 rfl rfl (Nat.le_of_ble_eq_true rfl) in_State rfl tw_204 rfl d_Processor_moveByAddress_62 ?_
        refine lv_bipush (pc := 65) (v := 7) X.1 X.2.1 d_Processor_moveByAddress_65 (by decide) ?_
        refine ab_ald (pc := 67) (f := u 2) (j := 7) X hX 3 0 rfl rfl (ab_inc (by decide)) rfl d_Processor_moveByAddress_67 ?_
        refine ab_kv_callV (pc := 68) (wr := []) (w := (wC t q)) (u := u) (F := f_Memory_put u (f_Registers_pair u (x1 / 2)) (u 2 7)) (as := [.int (f_Registers_pair u (x1 / 2)), .int (u 2 7)]) (rest := []) X hX (c_Memory_put l D t q u (f_Registers_pair u (x1 / 2)) (u 2 7)) ok_Memory_put okv_Memory_put tw_205 4 2 rfl rfl rfl hl.1 rfl (Nat.le_of_ble_eq_true rfl) ⟨rfl, rfl, Nat.le_of_ble_eq_true rfl, Nat.le_of_ble_eq_true rfl⟩ ⟨Nat.zero_le _, Nat.zero_le _⟩ d_Processor_moveByAddress_68 (fun H locs hX => ?_)
        refine lv_bipush (pc := 71) (v := 7) X.1 X.2.1 d_Processor_moveByAddress_71 (by decide) ?_
        exact ab_ki_ret (pc := 73) X hr hk hX rfl (by rw [f_Processor_moveByAddress, if_neg h1, if_neg h2, if_pos h3]) d_Processor_moveByAddress_73
      ·
        by_cases h4 : x1 = 3
        ·
          refine ab_swIn (pc := 1) (tgt := 74) (off := 73) X.1 X.2.1 d_Processor_moveByAddress_1 h4 (by decide) (by decide) (by decide) (by decide) ?_
          refine lv_aload_n (pc := 74) X.1 X.2.1 d_Processor_moveByAddress_74 rfl (lv_at hl 0 rfl) ?_
          refine ab_gx (pc := 75) (v := .ref (q 1)) X hX 0 4 0 rfl rfl (Nat.le_of_ble_eq_true rfl) in_Processor rfl tw_174 rfl d_Processor_moveByAddress_75 ?_
          refine ab_gx (pc := 78) (v := .ref (q 3)) X hX 1 7 1 rfl rfl (Nat.le_of_ble_eq_true rfl) in_State rfl tw_204 rfl d_Processor_moveByAddress_78 ?_
          refine lv_bipush (pc := 81) (v := 7) X.1 X.2.1 d_Processor_moveByAddress_81 (by decide) ?_
          refine lv_aload_n (pc := 83) X.1 X.2.1 d_Processor_moveByAddress_83 rfl (lv_at hl 0 rfl) ?_
          refine ab_gx (pc := 84) (v := .ref (q 4)) X hX 0 4 1 rfl rfl (Nat.le_of_ble_eq_true rfl) in_Processor rfl tw_173 rfl d_Processor_moveByAddress_84 ?_
          refine lv_aload_n (pc := 87) X.1 X.2.1 d_Processor_moveByAddress_87 rfl (lv_at hl 0 rfl) ?_
          refine ab_gx (pc := 88) (v := .ref (q 6)) X hX 0 4 2 rfl rfl (Nat.le_of_ble_eq_true rfl) in_Processor rfl tw_196 rfl d_Processor_moveByAddress_88 ?_
          refine lv_iload_n (pc := 91) X.1 X.2.1 d_Processor_moveByAddress_91 rfl (lv_at hl 1 rfl) ?_
          refine lv_iconst (pc := 92) (v := 2) X.1 X.2.1 d_Processor_moveByAddress_92 (by decide) ?_
          refine lv_idiv (pc := 93) X.1 X.2.1 d_Processor_moveByAddress_93 (by decide) ?_
          refine ab_kr_callV (pc := 94) (wr := []) (w := (wC t q)) (u := u) (r := f_Registers_pair u (x1 / 2)) (as := [.int (x1 / 2)]) (rest := [.ref (q 4), .int 7, .ref (q 3)]) X hX (c_Registers_pair l D t q u (x1 / 2)) ok_Registers_pair okv_Registers_pair tw_197 6 5 rfl rfl rfl hl.1 rfl (Nat.le_of_ble_eq_true rfl) ⟨rfl, rfl, Nat.le_of_ble_eq_true rfl, Nat.le_of_ble_eq_true rfl⟩ ⟨Nat.zero_le _, Nat.zero_le _⟩ d_Processor_moveByAddress_94 (fun H locs hX => ?_)
          refine ab_kr_callV (pc := 97) (wr := []) (w := (wC t q)) (u := u) (r := f_Memory_at u (f_Registers_pair u (x1 / 2))) (as := [.int (f_Registers_pair u (x1 / 2))]) (rest := [.int 7, .ref (q 3)]) X hX (c_Memory_at l D t q u (f_Registers_pair u (x1 / 2))) ok_Memory_at okv_Memory_at tw_187 4 2 rfl rfl rfl hl.1 rfl (Nat.le_of_ble_eq_true rfl) ⟨rfl, rfl, Nat.le_of_ble_eq_true rfl, Nat.le_of_ble_eq_true rfl⟩ ⟨Nat.zero_le _, Nat.zero_le _⟩ d_Processor_moveByAddress_97 (fun H locs hX => ?_)
          refine ab_ast (pc := 100) (f := u 2) (j := 7) (ws' := (wC t q (stt u 2 7 (f_Memory_at u (f_Registers_pair u (x1 / 2)))))) X hX 3 0 rfl rfl (ab_inc (by decide)) rfl (sa_wC_3 t q u 7 (f_Memory_at u (f_Registers_pair u (x1 / 2)))) d_Processor_moveByAddress_100 (fun H locs hX => ?_)
          refine lv_bipush (pc := 101) (v := 7) X.1 X.2.1 d_Processor_moveByAddress_101 (by decide) ?_
          exact ab_ki_ret (pc := 103) X hr hk hX rfl (by rw [f_Processor_moveByAddress, if_neg h1, if_neg h2, if_neg h3, if_pos h4]) d_Processor_moveByAddress_103
        ·
          by_cases h5 : x1 = 4
          ·
            refine ab_swIn (pc := 1) (tgt := 104) (off := 103) X.1 X.2.1 d_Processor_moveByAddress_1 h5 (by decide) (by decide) (by decide) (by decide) ?_
            refine lv_aload_n (pc := 104) X.1 X.2.1 d_Processor_moveByAddress_104 rfl (lv_at hl 0 rfl) ?_
            refine ab_gx (pc := 105) (v := .ref (q 4)) X hX 0 4 1 rfl rfl (Nat.le_of_ble_eq_true rfl) in_Processor rfl tw_173 rfl d_Processor_moveByAddress_105 ?_
            refine lv_aload_n (pc := 108) X.1 X.2.1 d_Processor_moveByAddress_108 rfl (lv_at hl 0 rfl) ?_
            refine ab_ki_callV (pc := 109) (wr := []) (w := (wC t q)) (u := u) (F := f_Processor_nextWord u) (as := []) (rest := [.ref (q 4)]) X hX (c_Processor_nextWord l D t q u) ok_Processor_nextWord okv_Processor_nextWord tw_199 0 4 rfl rfl rfl hl.1 rfl (Nat.le_of_ble_eq_true rfl) ⟨rfl, rfl, Nat.le_of_ble_eq_true rfl, Nat.le_of_ble_eq_true rfl⟩ ⟨Nat.zero_le _, Nat.zero_le _⟩ d_Processor_moveByAddress_109 (fun H locs hX => ?_)
            refine lv_aload_n (pc := 112) X.1 X.2.1 d_Processor_moveByAddress_112 rfl (lv_at hl 0 rfl) ?_
            refine ab_gx (pc := 113) (v := .ref (q 6)) X hX 0 4 2 rfl rfl (Nat.le_of_ble_eq_true rfl) in_Processor rfl tw_196 rfl d_Processor_moveByAddress_113 ?_
            refine lv_iconst (pc := 116) (v := 2) X.1 X.2.1 d_Processor_moveByAddress_116 (by decide) ?_
            refine ab_kr_callV (pc := 117) (wr := []) (w := (wC t q)) (u := ((f_Processor_nextWord u).2)) (r := f_Registers_pair ((f_Processor_nextWord u).2) 2) (as := [.int 2]) (rest := [.int ((f_Processor_nextWord u).1), .ref (q 4)]) X hX (c_Registers_pair l D t q ((f_Processor_nextWord u).2) 2) ok_Registers_pair okv_Registers_pair tw_197 6 5 rfl rfl rfl hl.1 rfl (Nat.le_of_ble_eq_true rfl) ⟨rfl, rfl, Nat.le_of_ble_eq_true rfl, Nat.le_of_ble_eq_true rfl⟩ ⟨Nat.zero_le _, Nat.zero_le _⟩ d_Processor_moveByAddress_117 (fun H locs hX => ?_)
            refine ab_kv_callV (pc := 120) (wr := []) (w := (wC t q)) (u := ((f_Processor_nextWord u).2)) (F := f_Memory_putWord ((f_Processor_nextWord u).2) ((f_Processor_nextWord u).1) (f_Registers_pair ((f_Processor_nextWord u).2) 2)) (as := [.int ((f_Processor_nextWord u).1), .int (f_Registers_pair ((f_Processor_nextWord u).2) 2)]) (rest := []) X hX (c_Memory_putWord l D t q ((f_Processor_nextWord u).2) ((f_Processor_nextWord u).1) (f_Registers_pair ((f_Processor_nextWord u).2) 2)) ok_Memory_putWord okv_Memory_putWord tw_206 4 2 rfl rfl rfl hl.1 rfl (Nat.le_of_ble_eq_true rfl) ⟨rfl, rfl, Nat.le_of_ble_eq_true rfl, Nat.le_of_ble_eq_true rfl⟩ ⟨Nat.zero_le _, Nat.zero_le _⟩ d_Processor_moveByAddress_120 (fun H locs hX => ?_)
            refine lv_bipush (pc := 123) (v := 16) X.1 X.2.1 d_Processor_moveByAddress_123 (by decide) ?_
            exact ab_ki_ret (pc := 125) X hr hk hX rfl (by rw [f_Processor_moveByAddress, if_neg h1, if_neg h2, if_neg h3, if_neg h4, if_pos h5]) d_Processor_moveByAddress_125
          ·
            by_cases h6 : x1 = 5
            ·
              refine ab_swIn (pc := 1) (tgt := 126) (off := 125) X.1 X.2.1 d_Processor_moveByAddress_1 h6 (by decide) (by decide) (by decide) (by decide) ?_
              refine lv_aload_n (pc := 126) X.1 X.2.1 d_Processor_moveByAddress_126 rfl (lv_at hl 0 rfl) ?_
              refine ab_gx (pc := 127) (v := .ref (q 6)) X hX 0 4 2 rfl rfl (Nat.le_of_ble_eq_true rfl) in_Processor rfl tw_196 rfl d_Processor_moveByAddress_127 ?_
              refine lv_iconst (pc := 130) (v := 2) X.1 X.2.1 d_Processor_moveByAddress_130 (by decide) ?_
              refine lv_aload_n (pc := 131) X.1 X.2.1 d_Processor_moveByAddress_131 rfl (lv_at hl 0 rfl) ?_
              refine ab_gx (pc := 132) (v := .ref (q 4)) X hX 0 4 1 rfl rfl (Nat.le_of_ble_eq_true rfl) in_Processor rfl tw_173 rfl d_Processor_moveByAddress_132 ?_
              refine lv_aload_n (pc := 135) X.1 X.2.1 d_Processor_moveByAddress_135 rfl (lv_at hl 0 rfl) ?_
              refine ab_ki_callV (pc := 136) (wr := []) (w := (wC t q)) (u := u) (F := f_Processor_nextWord u) (as := []) (rest := [.ref (q 4), .int 2, .ref (q 6)]) X hX (c_Processor_nextWord l D t q u) ok_Processor_nextWord okv_Processor_nextWord tw_199 0 4 rfl rfl rfl hl.1 rfl (Nat.le_of_ble_eq_true rfl) ⟨rfl, rfl, Nat.le_of_ble_eq_true rfl, Nat.le_of_ble_eq_true rfl⟩ ⟨Nat.zero_le _, Nat.zero_le _⟩ d_Processor_moveByAddress_136 (fun H locs hX => ?_)
              refine ab_kr_callV (pc := 139) (wr := []) (w := (wC t q)) (u := ((f_Processor_nextWord u).2)) (r := f_Memory_wordAt ((f_Processor_nextWord u).2) ((f_Processor_nextWord u).1)) (as := [.int ((f_Processor_nextWord u).1)]) (rest := [.int 2, .ref (q 6)]) X hX (c_Memory_wordAt l D t q ((f_Processor_nextWord u).2) ((f_Processor_nextWord u).1)) ok_Memory_wordAt okv_Memory_wordAt tw_207 4 2 rfl rfl rfl hl.1 rfl (Nat.le_of_ble_eq_true rfl) ⟨rfl, rfl, Nat.le_of_ble_eq_true rfl, Nat.le_of_ble_eq_true rfl⟩ ⟨Nat.zero_le _, Nat.zero_le _⟩ d_Processor_moveByAddress_139 (fun H locs hX => ?_)
              refine ab_kv_callV (pc := 142) (wr := []) (w := (wC t q)) (u := ((f_Processor_nextWord u).2)) (F := f_Registers_setPair ((f_Processor_nextWord u).2) 2 (f_Memory_wordAt ((f_Processor_nextWord u).2) ((f_Processor_nextWord u).1))) (as := [.int 2, .int (f_Memory_wordAt ((f_Processor_nextWord u).2) ((f_Processor_nextWord u).1))]) (rest := []) X hX (c_Registers_setPair l D t q ((f_Processor_nextWord u).2) 2 (f_Memory_wordAt ((f_Processor_nextWord u).2) ((f_Processor_nextWord u).1))) ok_Registers_setPair okv_Registers_setPair tw_200 6 5 rfl rfl rfl hl.1 rfl (Nat.le_of_ble_eq_true rfl) ⟨rfl, rfl, Nat.le_of_ble_eq_true rfl, Nat.le_of_ble_eq_true rfl⟩ ⟨Nat.zero_le _, Nat.zero_le _⟩ d_Processor_moveByAddress_142 (fun H locs hX => ?_)
              refine lv_bipush (pc := 145) (v := 16) X.1 X.2.1 d_Processor_moveByAddress_145 (by decide) ?_
              exact ab_ki_ret (pc := 147) X hr hk hX rfl (by rw [f_Processor_moveByAddress, if_neg h1, if_neg h2, if_neg h3, if_neg h4, if_neg h5, if_pos h6]) d_Processor_moveByAddress_147
            ·
              by_cases h7 : x1 = 6
              ·
                refine ab_swIn (pc := 1) (tgt := 148) (off := 147) X.1 X.2.1 d_Processor_moveByAddress_1 h7 (by decide) (by decide) (by decide) (by decide) ?_
                refine lv_aload_n (pc := 148) X.1 X.2.1 d_Processor_moveByAddress_148 rfl (lv_at hl 0 rfl) ?_
                refine ab_gx (pc := 149) (v := .ref (q 4)) X hX 0 4 1 rfl rfl (Nat.le_of_ble_eq_true rfl) in_Processor rfl tw_173 rfl d_Processor_moveByAddress_149 ?_
                refine lv_aload_n (pc := 152) X.1 X.2.1 d_Processor_moveByAddress_152 rfl (lv_at hl 0 rfl) ?_
                refine ab_ki_callV (pc := 153) (wr := []) (w := (wC t q)) (u := u) (F := f_Processor_nextWord u) (as := []) (rest := [.ref (q 4)]) X hX (c_Processor_nextWord l D t q u) ok_Processor_nextWord okv_Processor_nextWord tw_199 0 4 rfl rfl rfl hl.1 rfl (Nat.le_of_ble_eq_true rfl) ⟨rfl, rfl, Nat.le_of_ble_eq_true rfl, Nat.le_of_ble_eq_true rfl⟩ ⟨Nat.zero_le _, Nat.zero_le _⟩ d_Processor_moveByAddress_153 (fun H locs hX => ?_)
                refine lv_aload_n (pc := 156) X.1 X.2.1 d_Processor_moveByAddress_156 rfl (lv_at hl 0 rfl) ?_
                refine ab_gx (pc := 157) (v := .ref (q 1)) X hX 0 4 0 rfl rfl (Nat.le_of_ble_eq_true rfl) in_Processor rfl tw_174 rfl d_Processor_moveByAddress_157 ?_
                refine ab_gx (pc := 160) (v := .ref (q 3)) X hX 1 7 1 rfl rfl (Nat.le_of_ble_eq_true rfl) in_State rfl tw_204 rfl d_Processor_moveByAddress_160 ?_
                refine lv_bipush (pc := 163) (v := 7) X.1 X.2.1 d_Processor_moveByAddress_163 (by decide) ?_
                refine ab_ald (pc := 165) (f := ((f_Processor_nextWord u).2) 2) (j := 7) X hX 3 0 rfl rfl (ab_inc (by decide)) rfl d_Processor_moveByAddress_165 ?_
                refine ab_kv_callV (pc := 166) (wr := []) (w := (wC t q)) (u := ((f_Processor_nextWord u).2)) (F := f_Memory_put ((f_Processor_nextWord u).2) ((f_Processor_nextWord u).1) (((f_Processor_nextWord u).2) 2 7)) (as := [.int ((f_Processor_nextWord u).1), .int (((f_Processor_nextWord u).2) 2 7)]) (rest := []) X hX (c_Memory_put l D t q ((f_Processor_nextWord u).2) ((f_Processor_nextWord u).1) (((f_Processor_nextWord u).2) 2 7)) ok_Memory_put okv_Memory_put tw_205 4 2 rfl rfl rfl hl.1 rfl (Nat.le_of_ble_eq_true rfl) ⟨rfl, rfl, Nat.le_of_ble_eq_true rfl, Nat.le_of_ble_eq_true rfl⟩ ⟨Nat.zero_le _, Nat.zero_le _⟩ d_Processor_moveByAddress_166 (fun H locs hX => ?_)
                refine lv_bipush (pc := 169) (v := 13) X.1 X.2.1 d_Processor_moveByAddress_169 (by decide) ?_
                exact ab_ki_ret (pc := 171) X hr hk hX rfl (by rw [f_Processor_moveByAddress, if_neg h1, if_neg h2, if_neg h3, if_neg h4, if_neg h5, if_neg h6, if_pos h7]) d_Processor_moveByAddress_171
              ·
                have hno : x1.toInt < 0 ∨ 6 < x1.toInt := by
                  have n0 := lv_neT h1 (k := 0) (a := 0) (by decide)
                  have n1 := lv_neT h2 (k := 1) (a := 1) (by decide)
                  have n2 := lv_neT h3 (k := 2) (a := 2) (by decide)
                  have n3 := lv_neT h4 (k := 3) (a := 3) (by decide)
                  have n4 := lv_neT h5 (k := 4) (a := 4) (by decide)
                  have n5 := lv_neT h6 (k := 5) (a := 5) (by decide)
                  have n6 := lv_neT h7 (k := 6) (a := 6) (by decide)
                  omega
                refine lv_tableOut (pc := 1) (tgt := 172) X.1 X.2.1 d_Processor_moveByAddress_1 hno (by decide) ?_
                refine lv_aload_n (pc := 172) X.1 X.2.1 d_Processor_moveByAddress_172 rfl (lv_at hl 0 rfl) ?_
                refine ab_gx (pc := 173) (v := .ref (q 1)) X hX 0 4 0 rfl rfl (Nat.le_of_ble_eq_true rfl) in_Processor rfl tw_174 rfl d_Processor_moveByAddress_173 ?_
                refine ab_gx (pc := 176) (v := .ref (q 3)) X hX 1 7 1 rfl rfl (Nat.le_of_ble_eq_true rfl) in_State rfl tw_204 rfl d_Processor_moveByAddress_176 ?_
                refine lv_bipush (pc := 179) (v := 7) X.1 X.2.1 d_Processor_moveByAddress_179 (by decide) ?_
                refine lv_aload_n (pc := 181) X.1 X.2.1 d_Processor_moveByAddress_181 rfl (lv_at hl 0 rfl) ?_
                refine ab_gx (pc := 182) (v := .ref (q 4)) X hX 0 4 1 rfl rfl (Nat.le_of_ble_eq_true rfl) in_Processor rfl tw_173 rfl d_Processor_moveByAddress_182 ?_
                refine lv_aload_n (pc := 185) X.1 X.2.1 d_Processor_moveByAddress_185 rfl (lv_at hl 0 rfl) ?_
                refine ab_ki_callV (pc := 186) (wr := []) (w := (wC t q)) (u := u) (F := f_Processor_nextWord u) (as := []) (rest := [.ref (q 4), .int 7, .ref (q 3)]) X hX (c_Processor_nextWord l D t q u) ok_Processor_nextWord okv_Processor_nextWord tw_199 0 4 rfl rfl rfl hl.1 rfl (Nat.le_of_ble_eq_true rfl) ⟨rfl, rfl, Nat.le_of_ble_eq_true rfl, Nat.le_of_ble_eq_true rfl⟩ ⟨Nat.zero_le _, Nat.zero_le _⟩ d_Processor_moveByAddress_186 (fun H locs hX => ?_)
                refine ab_kr_callV (pc := 189) (wr := []) (w := (wC t q)) (u := ((f_Processor_nextWord u).2)) (r := f_Memory_at ((f_Processor_nextWord u).2) ((f_Processor_nextWord u).1)) (as := [.int ((f_Processor_nextWord u).1)]) (rest := [.int 7, .ref (q 3)]) X hX (c_Memory_at l D t q ((f_Processor_nextWord u).2) ((f_Processor_nextWord u).1)) ok_Memory_at okv_Memory_at tw_187 4 2 rfl rfl rfl hl.1 rfl (Nat.le_of_ble_eq_true rfl) ⟨rfl, rfl, Nat.le_of_ble_eq_true rfl, Nat.le_of_ble_eq_true rfl⟩ ⟨Nat.zero_le _, Nat.zero_le _⟩ d_Processor_moveByAddress_189 (fun H locs hX => ?_)
                refine ab_ast (pc := 192) (f := ((f_Processor_nextWord u).2) 2) (j := 7) (ws' := (wC t q (stt ((f_Processor_nextWord u).2) 2 7 (f_Memory_at ((f_Processor_nextWord u).2) ((f_Processor_nextWord u).1))))) X hX 3 0 rfl rfl (ab_inc (by decide)) rfl (sa_wC_3 t q ((f_Processor_nextWord u).2) 7 (f_Memory_at ((f_Processor_nextWord u).2) ((f_Processor_nextWord u).1))) d_Processor_moveByAddress_192 (fun H locs hX => ?_)
                refine lv_bipush (pc := 193) (v := 13) X.1 X.2.1 d_Processor_moveByAddress_193 (by decide) ?_
                exact ab_ki_ret (pc := 195) X hr hk hX rfl (by rw [f_Processor_moveByAddress, if_neg h1, if_neg h2, if_neg h3, if_neg h4, if_neg h5, if_neg h6, if_neg h7]) d_Processor_moveByAddress_195
abbrev b_Processor_operateOnData : ByteArray := prog_6_method_6_code
def y_Processor_operateOnData : MethodName := ⟨"ArcadeBoard$Processor", "operateOnData", "(II)I"⟩
theorem d_Processor_operateOnData_0 : decode b_Processor_operateOnData 0 = .ok (.iload_n 2, 1) := by decide +kernel
theorem d_Processor_operateOnData_1 : decode b_Processor_operateOnData 1 = .ok (.tableswitch 189 0 6 #[43, 45, 51, 57, 91, 127, 163], 43) := by decide +kernel
theorem d_Processor_operateOnData_44 : decode b_Processor_operateOnData 44 = .ok (.iconst 4, 1) := by decide +kernel
theorem d_Processor_operateOnData_45 : decode b_Processor_operateOnData 45 = .ok (.ireturn, 1) := by decide +kernel
theorem d_Processor_operateOnData_46 : decode b_Processor_operateOnData 46 = .ok (.aload_n 0, 1) := by decide +kernel
theorem d_Processor_operateOnData_47 : decode b_Processor_operateOnData 47 = .ok (.iload_n 1, 1) := by decide +kernel
theorem d_Processor_operateOnData_48 : decode b_Processor_operateOnData 48 = .ok (.invokevirtual 97, 3) := by decide +kernel
theorem d_Processor_operateOnData_51 : decode b_Processor_operateOnData 51 = .ok (.ireturn, 1) := by decide +kernel
theorem d_Processor_operateOnData_52 : decode b_Processor_operateOnData 52 = .ok (.aload_n 0, 1) := by decide +kernel
theorem d_Processor_operateOnData_53 : decode b_Processor_operateOnData 53 = .ok (.iload_n 1, 1) := by decide +kernel
theorem d_Processor_operateOnData_54 : decode b_Processor_operateOnData 54 = .ok (.invokevirtual 100, 3) := by decide +kernel
theorem d_Processor_operateOnData_57 : decode b_Processor_operateOnData 57 = .ok (.ireturn, 1) := by decide +kernel
theorem d_Processor_operateOnData_58 : decode b_Processor_operateOnData 58 = .ok (.aload_n 0, 1) := by decide +kernel
theorem d_Processor_operateOnData_59 : decode b_Processor_operateOnData 59 = .ok (.getfield 19, 3) := by decide +kernel
theorem d_Processor_operateOnData_62 : decode b_Processor_operateOnData 62 = .ok (.iload_n 1, 1) := by decide +kernel
theorem d_Processor_operateOnData_63 : decode b_Processor_operateOnData 63 = .ok (.iconst 2, 1) := by decide +kernel
theorem d_Processor_operateOnData_64 : decode b_Processor_operateOnData 64 = .ok (.idiv, 1) := by decide +kernel
theorem d_Processor_operateOnData_65 : decode b_Processor_operateOnData 65 = .ok (.aload_n 0, 1) := by decide +kernel
theorem d_Processor_operateOnData_66 : decode b_Processor_operateOnData 66 = .ok (.getfield 19, 3) := by decide +kernel
theorem d_Processor_operateOnData_69 : decode b_Processor_operateOnData 69 = .ok (.iload_n 1, 1) := by decide +kernel
theorem d_Processor_operateOnData_70 : decode b_Processor_operateOnData 70 = .ok (.iconst 2, 1) := by decide +kernel
theorem d_Processor_operateOnData_71 : decode b_Processor_operateOnData 71 = .ok (.idiv, 1) := by decide +kernel
theorem d_Processor_operateOnData_72 : decode b_Processor_operateOnData 72 = .ok (.invokevirtual 103, 3) := by decide +kernel
theorem d_Processor_operateOnData_75 : decode b_Processor_operateOnData 75 = .ok (.iload_n 1, 1) := by decide +kernel
theorem d_Processor_operateOnData_76 : decode b_Processor_operateOnData 76 = .ok (.iconst 2, 1) := by decide +kernel
theorem d_Processor_operateOnData_77 : decode b_Processor_operateOnData 77 = .ok (.irem, 1) := by decide +kernel
theorem d_Processor_operateOnData_78 : decode b_Processor_operateOnData 78 = .ok (.ifCond .ne 7, 3) := by decide +kernel
theorem d_Processor_operateOnData_81 : decode b_Processor_operateOnData 81 = .ok (.iconst 1, 1) := by decide +kernel
theorem d_Processor_operateOnData_82 : decode b_Processor_operateOnData 82 = .ok (.goto 4, 3) := by decide +kernel
theorem d_Processor_operateOnData_85 : decode b_Processor_operateOnData 85 = .ok (.iconst (-1), 1) := by decide +kernel
theorem d_Processor_operateOnData_86 : decode b_Processor_operateOnData 86 = .ok (.iadd, 1) := by decide +kernel
theorem d_Processor_operateOnData_87 : decode b_Processor_operateOnData 87 = .ok (.invokevirtual 106, 3) := by decide +kernel
theorem d_Processor_operateOnData_90 : decode b_Processor_operateOnData 90 = .ok (.iconst 5, 1) := by decide +kernel
theorem d_Processor_operateOnData_91 : decode b_Processor_operateOnData 91 = .ok (.ireturn, 1) := by decide +kernel
theorem d_Processor_operateOnData_92 : decode b_Processor_operateOnData 92 = .ok (.aload_n 0, 1) := by decide +kernel
theorem d_Processor_operateOnData_93 : decode b_Processor_operateOnData 93 = .ok (.getfield 19, 3) := by decide +kernel
theorem d_Processor_operateOnData_96 : decode b_Processor_operateOnData 96 = .ok (.iload_n 1, 1) := by decide +kernel
theorem d_Processor_operateOnData_97 : decode b_Processor_operateOnData 97 = .ok (.aload_n 0, 1) := by decide +kernel
theorem d_Processor_operateOnData_98 : decode b_Processor_operateOnData 98 = .ok (.getfield 28, 3) := by decide +kernel
theorem d_Processor_operateOnData_101 : decode b_Processor_operateOnData 101 = .ok (.aload_n 0, 1) := by decide +kernel
theorem d_Processor_operateOnData_102 : decode b_Processor_operateOnData 102 = .ok (.getfield 19, 3) := by decide +kernel
theorem d_Processor_operateOnData_105 : decode b_Processor_operateOnData 105 = .ok (.iload_n 1, 1) := by decide +kernel
theorem d_Processor_operateOnData_106 : decode b_Processor_operateOnData 106 = .ok (.invokevirtual 83, 3) := by decide +kernel
theorem d_Processor_operateOnData_109 : decode b_Processor_operateOnData 109 = .ok (.invokevirtual 109, 3) := by decide +kernel
theorem d_Processor_operateOnData_112 : decode b_Processor_operateOnData 112 = .ok (.invokevirtual 94, 3) := by decide +kernel
theorem d_Processor_operateOnData_115 : decode b_Processor_operateOnData 115 = .ok (.iload_n 1, 1) := by decide +kernel
theorem d_Processor_operateOnData_116 : decode b_Processor_operateOnData 116 = .ok (.bipush 6, 2) := by decide +kernel
theorem d_Processor_operateOnData_118 : decode b_Processor_operateOnData 118 = .ok (.if_icmp .ne 8, 3) := by decide +kernel
theorem d_Processor_operateOnData_121 : decode b_Processor_operateOnData 121 = .ok (.bipush 10, 2) := by decide +kernel
theorem d_Processor_operateOnData_123 : decode b_Processor_operateOnData 123 = .ok (.goto 4, 3) := by decide +kernel
theorem d_Processor_operateOnData_126 : decode b_Processor_operateOnData 126 = .ok (.iconst 5, 1) := by decide +kernel
theorem d_Processor_operateOnData_127 : decode b_Processor_operateOnData 127 = .ok (.ireturn, 1) := by decide +kernel
theorem d_Processor_operateOnData_128 : decode b_Processor_operateOnData 128 = .ok (.aload_n 0, 1) := by decide +kernel
theorem d_Processor_operateOnData_129 : decode b_Processor_operateOnData 129 = .ok (.getfield 19, 3) := by decide +kernel
theorem d_Processor_operateOnData_132 : decode b_Processor_operateOnData 132 = .ok (.iload_n 1, 1) := by decide +kernel
theorem d_Processor_operateOnData_133 : decode b_Processor_operateOnData 133 = .ok (.aload_n 0, 1) := by decide +kernel
theorem d_Processor_operateOnData_134 : decode b_Processor_operateOnData 134 = .ok (.getfield 28, 3) := by decide +kernel
theorem d_Processor_operateOnData_137 : decode b_Processor_operateOnData 137 = .ok (.aload_n 0, 1) := by decide +kernel
theorem d_Processor_operateOnData_138 : decode b_Processor_operateOnData 138 = .ok (.getfield 19, 3) := by decide +kernel
theorem d_Processor_operateOnData_141 : decode b_Processor_operateOnData 141 = .ok (.iload_n 1, 1) := by decide +kernel
theorem d_Processor_operateOnData_142 : decode b_Processor_operateOnData 142 = .ok (.invokevirtual 83, 3) := by decide +kernel
theorem d_Processor_operateOnData_145 : decode b_Processor_operateOnData 145 = .ok (.invokevirtual 112, 3) := by decide +kernel
theorem d_Processor_operateOnData_148 : decode b_Processor_operateOnData 148 = .ok (.invokevirtual 94, 3) := by decide +kernel
theorem d_Processor_operateOnData_151 : decode b_Processor_operateOnData 151 = .ok (.iload_n 1, 1) := by decide +kernel
theorem d_Processor_operateOnData_152 : decode b_Processor_operateOnData 152 = .ok (.bipush 6, 2) := by decide +kernel
theorem d_Processor_operateOnData_154 : decode b_Processor_operateOnData 154 = .ok (.if_icmp .ne 8, 3) := by decide +kernel
theorem d_Processor_operateOnData_157 : decode b_Processor_operateOnData 157 = .ok (.bipush 10, 2) := by decide +kernel
theorem d_Processor_operateOnData_159 : decode b_Processor_operateOnData 159 = .ok (.goto 4, 3) := by decide +kernel
theorem d_Processor_operateOnData_162 : decode b_Processor_operateOnData 162 = .ok (.iconst 5, 1) := by decide +kernel
theorem d_Processor_operateOnData_163 : decode b_Processor_operateOnData 163 = .ok (.ireturn, 1) := by decide +kernel
theorem d_Processor_operateOnData_164 : decode b_Processor_operateOnData 164 = .ok (.aload_n 0, 1) := by decide +kernel
theorem d_Processor_operateOnData_165 : decode b_Processor_operateOnData 165 = .ok (.getfield 19, 3) := by decide +kernel
theorem d_Processor_operateOnData_168 : decode b_Processor_operateOnData 168 = .ok (.iload_n 1, 1) := by decide +kernel
theorem d_Processor_operateOnData_169 : decode b_Processor_operateOnData 169 = .ok (.aload_n 0, 1) := by decide +kernel
theorem d_Processor_operateOnData_170 : decode b_Processor_operateOnData 170 = .ok (.invokevirtual 60, 3) := by decide +kernel
theorem d_Processor_operateOnData_173 : decode b_Processor_operateOnData 173 = .ok (.invokevirtual 94, 3) := by decide +kernel
theorem d_Processor_operateOnData_176 : decode b_Processor_operateOnData 176 = .ok (.iload_n 1, 1) := by decide +kernel
theorem d_Processor_operateOnData_177 : decode b_Processor_operateOnData 177 = .ok (.bipush 6, 2) := by decide +kernel
theorem d_Processor_operateOnData_179 : decode b_Processor_operateOnData 179 = .ok (.if_icmp .ne 8, 3) := by decide +kernel
theorem d_Processor_operateOnData_182 : decode b_Processor_operateOnData 182 = .ok (.bipush 10, 2) := by decide +kernel
theorem d_Processor_operateOnData_184 : decode b_Processor_operateOnData 184 = .ok (.goto 5, 3) := by decide +kernel
theorem d_Processor_operateOnData_187 : decode b_Processor_operateOnData 187 = .ok (.bipush 7, 2) := by decide +kernel
theorem d_Processor_operateOnData_189 : decode b_Processor_operateOnData 189 = .ok (.ireturn, 1) := by decide +kernel
theorem d_Processor_operateOnData_190 : decode b_Processor_operateOnData 190 = .ok (.iload_n 1, 1) := by decide +kernel
theorem d_Processor_operateOnData_191 : decode b_Processor_operateOnData 191 = .ok (.iconst 4, 1) := by decide +kernel
theorem d_Processor_operateOnData_192 : decode b_Processor_operateOnData 192 = .ok (.if_icmp .ne 13, 3) := by decide +kernel
theorem d_Processor_operateOnData_195 : decode b_Processor_operateOnData 195 = .ok (.aload_n 0, 1) := by decide +kernel
theorem d_Processor_operateOnData_196 : decode b_Processor_operateOnData 196 = .ok (.getfield 28, 3) := by decide +kernel
theorem d_Processor_operateOnData_199 : decode b_Processor_operateOnData 199 = .ok (.invokevirtual 115, 3) := by decide +kernel
theorem d_Processor_operateOnData_202 : decode b_Processor_operateOnData 202 = .ok (.goto 11, 3) := by decide +kernel
theorem d_Processor_operateOnData_205 : decode b_Processor_operateOnData 205 = .ok (.aload_n 0, 1) := by decide +kernel
theorem d_Processor_operateOnData_206 : decode b_Processor_operateOnData 206 = .ok (.getfield 28, 3) := by decide +kernel
theorem d_Processor_operateOnData_209 : decode b_Processor_operateOnData 209 = .ok (.iload_n 1, 1) := by decide +kernel
theorem d_Processor_operateOnData_210 : decode b_Processor_operateOnData 210 = .ok (.invokevirtual 118, 3) := by decide +kernel
theorem d_Processor_operateOnData_213 : decode b_Processor_operateOnData 213 = .ok (.iconst 4, 1) := by decide +kernel
theorem d_Processor_operateOnData_214 : decode b_Processor_operateOnData 214 = .ok (.ireturn, 1) := by decide +kernel
theorem tw_208 : Jvm.Cond.code ⟨"ArcadeBoard$Processor", "operateOnData", "(II)I"⟩ prog_6_method_6_code 3 (Option.some Jvm.ClassFile.FieldType.int) ∈ AL := ab_in (ab_t3 (List.mem_of_getElem? (i := 6) (by decide +kernel))) rfl
theorem tw_209 : Jvm.Cond.instanceMethod ⟨"ArcadeBoard$Processor", "operateOnData", "(II)I"⟩ ∈ AL := ab_in (ab_t3 (List.mem_of_getElem? (i := 5) (by decide +kernel))) rfl
theorem tw_210 : Cond.selects "ArcadeBoard$Processor" ⟨"ArcadeBoard$Processor", "operateOnData", "(II)I"⟩ ⟨"ArcadeBoard$Processor", "operateOnData", "(II)I"⟩ ∈ AL := ab_in (ab_s1 (List.mem_of_getElem? (i := 5) (by decide +kernel))) rfl
theorem tw_211 : Jvm.Cond.methodLink "ArcadeBoard$Processor" 97 ⟨"ArcadeBoard$Processor", "setOrAddPair", "(I)I"⟩ ∈ AL := ab_in (ab_t3 (List.mem_of_getElem? (i := 7) (by decide +kernel))) rfl
theorem tw_212 : Jvm.Cond.methodLink "ArcadeBoard$Processor" 100 ⟨"ArcadeBoard$Processor", "moveByAddress", "(I)I"⟩ ∈ AL := ab_in (ab_t3 (List.mem_of_getElem? (i := 29) (by decide +kernel))) rfl
theorem tw_213 : Jvm.Cond.methodLink "ArcadeBoard$Processor" 83 ⟨"ArcadeBoard$Registers", "value", "(I)I"⟩ ∈ AL := ab_in (ab_t3 (List.mem_of_getElem? (i := 43) (by decide +kernel))) rfl
theorem tw_214 : Jvm.Cond.methodLink "ArcadeBoard$Processor" 109 ⟨"ArcadeBoard$Arithmetic", "oneMore", "(I)I"⟩ ∈ AL := ab_in (ab_t3 (List.mem_of_getElem? (i := 44) (by decide +kernel))) rfl
theorem tw_215 : Jvm.Cond.methodLink "ArcadeBoard$Processor" 94 ⟨"ArcadeBoard$Registers", "set", "(II)V"⟩ ∈ AL := ab_in (ab_t3 (List.mem_of_getElem? (i := 61) (by decide +kernel))) rfl
theorem tw_216 : Jvm.Cond.methodLink "ArcadeBoard$Processor" 112 ⟨"ArcadeBoard$Arithmetic", "oneLess", "(I)I"⟩ ∈ AL := ab_in (ab_t3 (List.mem_of_getElem? (i := 66) (by decide +kernel))) rfl
theorem tw_217 : Jvm.Cond.methodLink "ArcadeBoard$Processor" 60 ⟨"ArcadeBoard$Processor", "nextByte", "()I"⟩ ∈ AL := ab_in (ab_t2 (List.mem_of_getElem? (i := 233) (by decide +kernel))) rfl
theorem tw_218 : Jvm.Cond.methodLink "ArcadeBoard$Processor" 118 ⟨"ArcadeBoard$Arithmetic", "turn", "(I)V"⟩ ∈ AL := ab_in (ab_t3 (List.mem_of_getElem? (i := 74) (by decide +kernel))) rfl
theorem tw_219 : Jvm.Cond.methodLink "ArcadeBoard$Processor" 115 ⟨"ArcadeBoard$Arithmetic", "adjust", "()V"⟩ ∈ AL := ab_in (ab_t3 (List.mem_of_getElem? (i := 70) (by decide +kernel))) rfl
theorem ok_Processor_operateOnData : ab_yok y_Processor_operateOnData b_Processor_operateOnData 3 (some .int) 2 := ⟨tw_208, tw_170, by decide, by decide, by decide +kernel⟩
theorem okv_Processor_operateOnData : ab_yok_V y_Processor_operateOnData := ⟨tw_209, tw_210⟩
set_option maxHeartbeats 1000000 in
set_option maxRecDepth 100000 in
theorem c_Processor_operateOnData (l : Launch) (D : va_G) (t : Nat → ClassId) (q : Nat → Nat) (u : SS) (x1 : Int32) (x2 : Int32) : ab_ki l D (tyC t) (wC t q) y_Processor_operateOnData b_Processor_operateOnData 3 .int { frames := 3, cells := 0, slots := 0, locals := 66 } [.ref (q 0), .int x1, .int x2] u (f_Processor_operateOnData u x1 x2) := by
  refine ab_ki_ofW (by decide) (Nat.le_of_ble_eq_true rfl) (fun p e s m below meth c ls A X hr hk hl hX => ?_)
  have hl : lv_has ls 3 [(0, .ref (q 0)), (1, .int x1), (2, .int x2)] := hl
  refine lv_iload_n (pc := 0) X.1 X.2.1 d_Processor_operateOnData_0 rfl (lv_at hl 2 rfl) ?_
  by_cases h1 : x2 = 0
  ·
    refine ab_swIn (pc := 1) (tgt := 44) (off := 43) X.1 X.2.1 d_Processor_operateOnData_1 h1 (by decide) (by decide) (by decide) (by decide) ?_
    refine lv_iconst (pc := 44) (v := 4) X.1 X.2.1 d_Processor_operateOnData_44 (by decide) ?_
    exact ab_ki_ret (pc := 45) X hr hk hX rfl (by rw [f_Processor_operateOnData, if_pos h1]) d_Processor_operateOnData_45
  ·
    by_cases h2 : x2 = 1
    ·
      refine ab_swIn (pc := 1) (tgt := 46) (off := 45) X.1 X.2.1 d_Processor_operateOnData_1 h2 (by decide) (by decide) (by decide) (by decide) ?_
      refine lv_aload_n (pc := 46) X.1 X.2.1 d_Processor_operateOnData_46 rfl (lv_at hl 0 rfl) ?_
      refine lv_iload_n (pc := 47) X.1 X.2.1 d_Processor_operateOnData_47 rfl (lv_at hl 1 rfl) ?_
      refine ab_ki_callV (pc := 48) (wr := []) (w := (wC t q)) (u := u) (F := f_Processor_setOrAddPair u x1) (as := [.int x1]) (rest := []) X hX (c_Processor_setOrAddPair l D t q u x1) ok_Processor_setOrAddPair okv_Processor_setOrAddPair tw_211 0 4 rfl rfl rfl hl.1 rfl (Nat.le_of_ble_eq_true rfl) ⟨rfl, rfl, Nat.le_of_ble_eq_true rfl, Nat.le_of_ble_eq_true rfl⟩ ⟨Nat.zero_le _, Nat.zero_le _⟩ d_Processor_operateOnData_48 (fun H locs hX => ?_)
      exact ab_ki_ret (pc := 51) X hr hk hX rfl (by rw [f_Processor_operateOnData, if_neg h1, if_pos h2]) d_Processor_operateOnData_51
    ·
      by_cases h3 : x2 = 2
      ·
        refine ab_swIn (pc := 1) (tgt := 52) (off := 51) X.1 X.2.1 d_Processor_operateOnData_1 h3 (by decide) (by decide) (by decide) (by decide) ?_
        refine lv_aload_n (pc := 52) X.1 X.2.1 d_Processor_operateOnData_52 rfl (lv_at hl 0 rfl) ?_
        refine lv_iload_n (pc := 53) X.1 X.2.1 d_Processor_operateOnData_53 rfl (lv_at hl 1 rfl) ?_
        refine ab_ki_callV (pc := 54) (wr := []) (w := (wC t q)) (u := u) (F := f_Processor_moveByAddress u x1) (as := [.int x1]) (rest := []) X hX (c_Processor_moveByAddress l D t q u x1) ok_Processor_moveByAddress okv_Processor_moveByAddress tw_212 0 4 rfl rfl rfl hl.1 rfl (Nat.le_of_ble_eq_true rfl) ⟨rfl, rfl, Nat.le_of_ble_eq_true rfl, Nat.le_of_ble_eq_true rfl⟩ ⟨Nat.zero_le _, Nat.zero_le _⟩ d_Processor_operateOnData_54 (fun H locs hX => ?_)
        exact ab_ki_ret (pc := 57) X hr hk hX rfl (by rw [f_Processor_operateOnData, if_neg h1, if_neg h2, if_pos h3]) d_Processor_operateOnData_57
      ·
        by_cases h4 : x2 = 3
        ·
          refine ab_swIn (pc := 1) (tgt := 58) (off := 57) X.1 X.2.1 d_Processor_operateOnData_1 h4 (by decide) (by decide) (by decide) (by decide) ?_
          refine lv_aload_n (pc := 58) X.1 X.2.1 d_Processor_operateOnData_58 rfl (lv_at hl 0 rfl) ?_
          refine ab_gx (pc := 59) (v := .ref (q 6)) X hX 0 4 2 rfl rfl (Nat.le_of_ble_eq_true rfl) in_Processor rfl tw_196 rfl d_Processor_operateOnData_59 ?_
          refine lv_iload_n (pc := 62) X.1 X.2.1 d_Processor_operateOnData_62 rfl (lv_at hl 1 rfl) ?_
          refine lv_iconst (pc := 63) (v := 2) X.1 X.2.1 d_Processor_operateOnData_63 (by decide) ?_
          refine lv_idiv (pc := 64) X.1 X.2.1 d_Processor_operateOnData_64 (by decide) ?_
          refine lv_aload_n (pc := 65) X.1 X.2.1 d_Processor_operateOnData_65 rfl (lv_at hl 0 rfl) ?_
          refine ab_gx (pc := 66) (v := .ref (q 6)) X hX 0 4 2 rfl rfl (Nat.le_of_ble_eq_true rfl) in_Processor rfl tw_196 rfl d_Processor_operateOnData_66 ?_
          refine lv_iload_n (pc := 69) X.1 X.2.1 d_Processor_operateOnData_69 rfl (lv_at hl 1 rfl) ?_
          refine lv_iconst (pc := 70) (v := 2) X.1 X.2.1 d_Processor_operateOnData_70 (by decide) ?_
          refine lv_idiv (pc := 71) X.1 X.2.1 d_Processor_operateOnData_71 (by decide) ?_
          refine ab_kr_callV (pc := 72) (wr := []) (w := (wC t q)) (u := u) (r := f_Registers_pair u (x1 / 2)) (as := [.int (x1 / 2)]) (rest := [.int (x1 / 2), .ref (q 6)]) X hX (c_Registers_pair l D t q u (x1 / 2)) ok_Registers_pair okv_Registers_pair tw_197 6 5 rfl rfl rfl hl.1 rfl (Nat.le_of_ble_eq_true rfl) ⟨rfl, rfl, Nat.le_of_ble_eq_true rfl, Nat.le_of_ble_eq_true rfl⟩ ⟨Nat.zero_le _, Nat.zero_le _⟩ d_Processor_operateOnData_72 (fun H locs hX => ?_)
          refine lv_iload_n (pc := 75) X.1 X.2.1 d_Processor_operateOnData_75 rfl (lv_at hl 1 rfl) ?_
          refine lv_iconst (pc := 76) (v := 2) X.1 X.2.1 d_Processor_operateOnData_76 (by decide) ?_
          refine lv_irem (pc := 77) X.1 X.2.1 d_Processor_operateOnData_77 (by decide) ?_
          refine ab_jn (ls := ls) (rest := [.int (f_Registers_pair u (x1 / 2)), .int (x1 / 2), .ref (q 6)]) 86 (if (x1 - x1 / 2 * 2) = 0 then 1 else (-1) : Int32) ?_ (fun J => ?_)
          rotate_left
          ·
            refine lv_if_ne (pc := 78) (tgt := 85) X.1 X.2.1 d_Processor_operateOnData_78 (by decide) (fun h5 => ?_) (fun h5 => ?_)
            ·
              refine lv_iconst (pc := 85) (v := (-1)) X.1 X.2.1 d_Processor_operateOnData_85 (by decide) ?_
              exact ab_jt (by rw [if_neg h5]) J
            ·
              refine lv_iconst (pc := 81) (v := 1) X.1 X.2.1 d_Processor_operateOnData_81 (by decide) ?_
              refine lv_goto (pc := 82) (tgt := 86) X.1 X.2.1 d_Processor_operateOnData_82 (by decide) ?_
              exact ab_jt (by rw [if_pos h5]) J
          refine lv_iadd (pc := 86) X.1 X.2.1 d_Processor_operateOnData_86 ?_
          refine ab_kv_callV (pc := 87) (wr := []) (w := (wC t q)) (u := u) (F := f_Registers_setPair u (x1 / 2) ((f_Registers_pair u (x1 / 2)) + (if (x1 - x1 / 2 * 2) = 0 then 1 else (-1) : Int32))) (as := [.int (x1 / 2), .int ((f_Registers_pair u (x1 / 2)) + (if (x1 - x1 / 2 * 2) = 0 then 1 else (-1) : Int32))]) (rest := []) X hX (c_Registers_setPair l D t q u (x1 / 2) ((f_Registers_pair u (x1 / 2)) + (if (x1 - x1 / 2 * 2) = 0 then 1 else (-1) : Int32))) ok_Registers_setPair okv_Registers_setPair tw_200 6 5 rfl rfl rfl hl.1 rfl (Nat.le_of_ble_eq_true rfl) ⟨rfl, rfl, Nat.le_of_ble_eq_true rfl, Nat.le_of_ble_eq_true rfl⟩ ⟨Nat.zero_le _, Nat.zero_le _⟩ d_Processor_operateOnData_87 (fun H locs hX => ?_)
          refine lv_iconst (pc := 90) (v := 5) X.1 X.2.1 d_Processor_operateOnData_90 (by decide) ?_
          exact ab_ki_ret (pc := 91) X hr hk hX rfl (by rw [f_Processor_operateOnData, if_neg h1, if_neg h2, if_neg h3, if_pos h4]) d_Processor_operateOnData_91
        ·
          by_cases h6 : x2 = 4
          ·
            refine ab_swIn (pc := 1) (tgt := 92) (off := 91) X.1 X.2.1 d_Processor_operateOnData_1 h6 (by decide) (by decide) (by decide) (by decide) ?_
            refine lv_aload_n (pc := 92) X.1 X.2.1 d_Processor_operateOnData_92 rfl (lv_at hl 0 rfl) ?_
            refine ab_gx (pc := 93) (v := .ref (q 6)) X hX 0 4 2 rfl rfl (Nat.le_of_ble_eq_true rfl) in_Processor rfl tw_196 rfl d_Processor_operateOnData_93 ?_
            refine lv_iload_n (pc := 96) X.1 X.2.1 d_Processor_operateOnData_96 rfl (lv_at hl 1 rfl) ?_
            refine lv_aload_n (pc := 97) X.1 X.2.1 d_Processor_operateOnData_97 rfl (lv_at hl 0 rfl) ?_
            refine ab_gx (pc := 98) (v := .ref (q 7)) X hX 0 4 3 rfl rfl (Nat.le_of_ble_eq_true rfl) in_Processor rfl tw_195 rfl d_Processor_operateOnData_98 ?_
            refine lv_aload_n (pc := 101) X.1 X.2.1 d_Processor_operateOnData_101 rfl (lv_at hl 0 rfl) ?_
            refine ab_gx (pc := 102) (v := .ref (q 6)) X hX 0 4 2 rfl rfl (Nat.le_of_ble_eq_true rfl) in_Processor rfl tw_196 rfl d_Processor_operateOnData_102 ?_
            refine lv_iload_n (pc := 105) X.1 X.2.1 d_Processor_operateOnData_105 rfl (lv_at hl 1 rfl) ?_
            refine ab_kr_callV (pc := 106) (wr := []) (w := (wC t q)) (u := u) (r := f_Registers_value u x1) (as := [.int x1]) (rest := [.ref (q 7), .int x1, .ref (q 6)]) X hX (c_Registers_value l D t q u x1) ok_Registers_value okv_Registers_value tw_213 6 5 rfl rfl rfl hl.1 rfl (Nat.le_of_ble_eq_true rfl) ⟨rfl, rfl, Nat.le_of_ble_eq_true rfl, Nat.le_of_ble_eq_true rfl⟩ ⟨Nat.zero_le _, Nat.zero_le _⟩ d_Processor_operateOnData_106 (fun H locs hX => ?_)
            refine ab_ki_callV (pc := 109) (wr := []) (w := (wC t q)) (u := u) (F := f_Arithmetic_oneMore u (f_Registers_value u x1)) (as := [.int (f_Registers_value u x1)]) (rest := [.int x1, .ref (q 6)]) X hX (c_Arithmetic_oneMore l D t q u (f_Registers_value u x1)) ok_Arithmetic_oneMore okv_Arithmetic_oneMore tw_214 7 0 rfl rfl rfl hl.1 rfl (Nat.le_of_ble_eq_true rfl) ⟨rfl, rfl, Nat.le_of_ble_eq_true rfl, Nat.le_of_ble_eq_true rfl⟩ ⟨Nat.zero_le _, Nat.zero_le _⟩ d_Processor_operateOnData_109 (fun H locs hX => ?_)
            refine ab_kv_callV (pc := 112) (wr := []) (w := (wC t q)) (u := ((f_Arithmetic_oneMore u (f_Registers_value u x1)).2)) (F := f_Registers_set ((f_Arithmetic_oneMore u (f_Registers_value u x1)).2) x1 ((f_Arithmetic_oneMore u (f_Registers_value u x1)).1)) (as := [.int x1, .int ((f_Arithmetic_oneMore u (f_Registers_value u x1)).1)]) (rest := []) X hX (c_Registers_set l D t q ((f_Arithmetic_oneMore u (f_Registers_value u x1)).2) x1 ((f_Arithmetic_oneMore u (f_Registers_value u x1)).1)) ok_Registers_set okv_Registers_set tw_215 6 5 rfl rfl rfl hl.1 rfl (Nat.le_of_ble_eq_true rfl) ⟨rfl, rfl, Nat.le_of_ble_eq_true rfl, Nat.le_of_ble_eq_true rfl⟩ ⟨Nat.zero_le _, Nat.zero_le _⟩ d_Processor_operateOnData_112 (fun H locs hX => ?_)
            refine lv_iload_n (pc := 115) X.1 X.2.1 d_Processor_operateOnData_115 rfl (lv_at hl 1 rfl) ?_
            refine lv_bipush (pc := 116) (v := 6) X.1 X.2.1 d_Processor_operateOnData_116 (by decide) ?_
            refine ab_jn (ls := ls) (rest := []) 127 (if x1 = 6 then 10 else 5 : Int32) ?_ (fun J => ?_)
            rotate_left
            ·
              refine lv_icmp_ne (pc := 118) (tgt := 126) X.1 X.2.1 d_Processor_operateOnData_118 (by decide) (fun h7 => ?_) (fun h7 => ?_)
              ·
                refine lv_iconst (pc := 126) (v := 5) X.1 X.2.1 d_Processor_operateOnData_126 (by decide) ?_
                exact ab_jt (by rw [if_neg h7]) J
              ·
                refine lv_bipush (pc := 121) (v := 10) X.1 X.2.1 d_Processor_operateOnData_121 (by decide) ?_
                refine lv_goto (pc := 123) (tgt := 127) X.1 X.2.1 d_Processor_operateOnData_123 (by decide) ?_
                exact ab_jt (by rw [if_pos h7]) J
            exact ab_ki_ret (pc := 127) X hr hk hX rfl (by rw [f_Processor_operateOnData, if_neg h1, if_neg h2, if_neg h3, if_neg h4, if_pos h6]) d_Processor_operateOnData_127
          ·
            by_cases h8 : x2 = 5
            ·
              refine ab_swIn (pc := 1) (tgt := 128) (off := 127) X.1 X.2.1 d_Processor_operateOnData_1 h8 (by decide) (by decide) (by decide) (by decide) ?_
              refine lv_aload_n (pc := 128) X.1 X.2.1 d_Processor_operateOnData_128 rfl (lv_at hl 0 rfl) ?_
              refine ab_gx (pc := 129) (v := .ref (q 6)) X hX 0 4 2 rfl rfl (Nat.le_of_ble_eq_true rfl) in_Processor rfl tw_196 rfl d_Processor_operateOnData_129 ?_
              refine lv_iload_n (pc := 132) X.1 X.2.1 d_Processor_operateOnData_132 rfl (lv_at hl 1 rfl) ?_
              refine lv_aload_n (pc := 133) X.1 X.2.1 d_Processor_operateOnData_133 rfl (lv_at hl 0 rfl) ?_
              refine ab_gx (pc := 134) (v := .ref (q 7)) X hX 0 4 3 rfl rfl (Nat.le_of_ble_eq_true rfl) in_Processor rfl tw_195 rfl d_Processor_operateOnData_134 ?_
              refine lv_aload_n (pc := 137) X.1 X.2.1 d_Processor_operateOnData_137 rfl (lv_at hl 0 rfl) ?_
              refine ab_gx (pc := 138) (v := .ref (q 6)) X hX 0 4 2 rfl rfl (Nat.le_of_ble_eq_true rfl) in_Processor rfl tw_196 rfl d_Processor_operateOnData_138 ?_
              refine lv_iload_n (pc := 141) X.1 X.2.1 d_Processor_operateOnData_141 rfl (lv_at hl 1 rfl) ?_
              refine ab_kr_callV (pc := 142) (wr := []) (w := (wC t q)) (u := u) (r := f_Registers_value u x1) (as := [.int x1]) (rest := [.ref (q 7), .int x1, .ref (q 6)]) X hX (c_Registers_value l D t q u x1) ok_Registers_value okv_Registers_value tw_213 6 5 rfl rfl rfl hl.1 rfl (Nat.le_of_ble_eq_true rfl) ⟨rfl, rfl, Nat.le_of_ble_eq_true rfl, Nat.le_of_ble_eq_true rfl⟩ ⟨Nat.zero_le _, Nat.zero_le _⟩ d_Processor_operateOnData_142 (fun H locs hX => ?_)
              refine ab_ki_callV (pc := 145) (wr := []) (w := (wC t q)) (u := u) (F := f_Arithmetic_oneLess u (f_Registers_value u x1)) (as := [.int (f_Registers_value u x1)]) (rest := [.int x1, .ref (q 6)]) X hX (c_Arithmetic_oneLess l D t q u (f_Registers_value u x1)) ok_Arithmetic_oneLess okv_Arithmetic_oneLess tw_216 7 0 rfl rfl rfl hl.1 rfl (Nat.le_of_ble_eq_true rfl) ⟨rfl, rfl, Nat.le_of_ble_eq_true rfl, Nat.le_of_ble_eq_true rfl⟩ ⟨Nat.zero_le _, Nat.zero_le _⟩ d_Processor_operateOnData_145 (fun H locs hX => ?_)
              refine ab_kv_callV (pc := 148) (wr := []) (w := (wC t q)) (u := ((f_Arithmetic_oneLess u (f_Registers_value u x1)).2)) (F := f_Registers_set ((f_Arithmetic_oneLess u (f_Registers_value u x1)).2) x1 ((f_Arithmetic_oneLess u (f_Registers_value u x1)).1)) (as := [.int x1, .int ((f_Arithmetic_oneLess u (f_Registers_value u x1)).1)]) (rest := []) X hX (c_Registers_set l D t q ((f_Arithmetic_oneLess u (f_Registers_value u x1)).2) x1 ((f_Arithmetic_oneLess u (f_Registers_value u x1)).1)) ok_Registers_set okv_Registers_set tw_215 6 5 rfl rfl rfl hl.1 rfl (Nat.le_of_ble_eq_true rfl) ⟨rfl, rfl, Nat.le_of_ble_eq_true rfl, Nat.le_of_ble_eq_true rfl⟩ ⟨Nat.zero_le _, Nat.zero_le _⟩ d_Processor_operateOnData_148 (fun H locs hX => ?_)
              refine lv_iload_n (pc := 151) X.1 X.2.1 d_Processor_operateOnData_151 rfl (lv_at hl 1 rfl) ?_
              refine lv_bipush (pc := 152) (v := 6) X.1 X.2.1 d_Processor_operateOnData_152 (by decide) ?_
              refine ab_jn (ls := ls) (rest := []) 163 (if x1 = 6 then 10 else 5 : Int32) ?_ (fun J => ?_)
              rotate_left
              ·
                refine lv_icmp_ne (pc := 154) (tgt := 162) X.1 X.2.1 d_Processor_operateOnData_154 (by decide) (fun h9 => ?_) (fun h9 => ?_)
                ·
                  refine lv_iconst (pc := 162) (v := 5) X.1 X.2.1 d_Processor_operateOnData_162 (by decide) ?_
                  exact ab_jt (by rw [if_neg h9]) J
                ·
                  refine lv_bipush (pc := 157) (v := 10) X.1 X.2.1 d_Processor_operateOnData_157 (by decide) ?_
                  refine lv_goto (pc := 159) (tgt := 163) X.1 X.2.1 d_Processor_operateOnData_159 (by decide) ?_
                  exact ab_jt (by rw [if_pos h9]) J
              exact ab_ki_ret (pc := 163) X hr hk hX rfl (by rw [f_Processor_operateOnData, if_neg h1, if_neg h2, if_neg h3, if_neg h4, if_neg h6, if_pos h8]) d_Processor_operateOnData_163
            ·
              by_cases h10 : x2 = 6
              ·
                refine ab_swIn (pc := 1) (tgt := 164) (off := 163) X.1 X.2.1 d_Processor_operateOnData_1 h10 (by decide) (by decide) (by decide) (by decide) ?_
                refine lv_aload_n (pc := 164) X.1 X.2.1 d_Processor_operateOnData_164 rfl (lv_at hl 0 rfl) ?_
                refine ab_gx (pc := 165) (v := .ref (q 6)) X hX 0 4 2 rfl rfl (Nat.le_of_ble_eq_true rfl) in_Processor rfl tw_196 rfl d_Processor_operateOnData_165 ?_
                refine lv_iload_n (pc := 168) X.1 X.2.1 d_Processor_operateOnData_168 rfl (lv_at hl 1 rfl) ?_
                refine lv_aload_n (pc := 169) X.1 X.2.1 d_Processor_operateOnData_169 rfl (lv_at hl 0 rfl) ?_
                refine ab_ki_callV (pc := 170) (wr := []) (w := (wC t q)) (u := u) (F := f_Processor_nextByte u) (as := []) (rest := [.int x1, .ref (q 6)]) X hX (c_Processor_nextByte l D t q u) ok_Processor_nextByte okv_Processor_nextByte tw_217 0 4 rfl rfl rfl hl.1 rfl (Nat.le_of_ble_eq_true rfl) ⟨rfl, rfl, Nat.le_of_ble_eq_true rfl, Nat.le_of_ble_eq_true rfl⟩ ⟨Nat.zero_le _, Nat.zero_le _⟩ d_Processor_operateOnData_170 (fun H locs hX => ?_)
                refine ab_kv_callV (pc := 173) (wr := []) (w := (wC t q)) (u := ((f_Processor_nextByte u).2)) (F := f_Registers_set ((f_Processor_nextByte u).2) x1 ((f_Processor_nextByte u).1)) (as := [.int x1, .int ((f_Processor_nextByte u).1)]) (rest := []) X hX (c_Registers_set l D t q ((f_Processor_nextByte u).2) x1 ((f_Processor_nextByte u).1)) ok_Registers_set okv_Registers_set tw_215 6 5 rfl rfl rfl hl.1 rfl (Nat.le_of_ble_eq_true rfl) ⟨rfl, rfl, Nat.le_of_ble_eq_true rfl, Nat.le_of_ble_eq_true rfl⟩ ⟨Nat.zero_le _, Nat.zero_le _⟩ d_Processor_operateOnData_173 (fun H locs hX => ?_)
                refine lv_iload_n (pc := 176) X.1 X.2.1 d_Processor_operateOnData_176 rfl (lv_at hl 1 rfl) ?_
                refine lv_bipush (pc := 177) (v := 6) X.1 X.2.1 d_Processor_operateOnData_177 (by decide) ?_
                refine ab_jn (ls := ls) (rest := []) 189 (if x1 = 6 then 10 else 7 : Int32) ?_ (fun J => ?_)
                rotate_left
                ·
                  refine lv_icmp_ne (pc := 179) (tgt := 187) X.1 X.2.1 d_Processor_operateOnData_179 (by decide) (fun h11 => ?_) (fun h11 => ?_)
                  ·
                    refine lv_bipush (pc := 187) (v := 7) X.1 X.2.1 d_Processor_operateOnData_187 (by decide) ?_
                    exact ab_jt (by rw [if_neg h11]) J
                  ·
                    refine lv_bipush (pc := 182) (v := 10) X.1 X.2.1 d_Processor_operateOnData_182 (by decide) ?_
                    refine lv_goto (pc := 184) (tgt := 189) X.1 X.2.1 d_Processor_operateOnData_184 (by decide) ?_
                    exact ab_jt (by rw [if_pos h11]) J
                exact ab_ki_ret (pc := 189) X hr hk hX rfl (by rw [f_Processor_operateOnData, if_neg h1, if_neg h2, if_neg h3, if_neg h4, if_neg h6, if_neg h8, if_pos h10]) d_Processor_operateOnData_189
              ·
                have hno : x2.toInt < 0 ∨ 6 < x2.toInt := by
                  have n0 := lv_neT h1 (k := 0) (a := 0) (by decide)
                  have n1 := lv_neT h2 (k := 1) (a := 1) (by decide)
                  have n2 := lv_neT h3 (k := 2) (a := 2) (by decide)
                  have n3 := lv_neT h4 (k := 3) (a := 3) (by decide)
                  have n4 := lv_neT h6 (k := 4) (a := 4) (by decide)
                  have n5 := lv_neT h8 (k := 5) (a := 5) (by decide)
                  have n6 := lv_neT h10 (k := 6) (a := 6) (by decide)
                  omega
                refine lv_tableOut (pc := 1) (tgt := 190) X.1 X.2.1 d_Processor_operateOnData_1 hno (by decide) ?_
                refine lv_iload_n (pc := 190) X.1 X.2.1 d_Processor_operateOnData_190 rfl (lv_at hl 1 rfl) ?_
                refine lv_iconst (pc := 191) (v := 4) X.1 X.2.1 d_Processor_operateOnData_191 (by decide) ?_
                refine lv_icmp_ne (pc := 192) (tgt := 205) X.1 X.2.1 d_Processor_operateOnData_192 (by decide) (fun h12 => ?_) (fun h12 => ?_)
                ·
                  refine lv_aload_n (pc := 205) X.1 X.2.1 d_Processor_operateOnData_205 rfl (lv_at hl 0 rfl) ?_
                  refine ab_gx (pc := 206) (v := .ref (q 7)) X hX 0 4 3 rfl rfl (Nat.le_of_ble_eq_true rfl) in_Processor rfl tw_195 rfl d_Processor_operateOnData_206 ?_
                  refine lv_iload_n (pc := 209) X.1 X.2.1 d_Processor_operateOnData_209 rfl (lv_at hl 1 rfl) ?_
                  refine ab_kv_callV (pc := 210) (wr := []) (w := (wC t q)) (u := u) (F := f_Arithmetic_turn u x1) (as := [.int x1]) (rest := []) X hX (c_Arithmetic_turn l D t q u x1) ok_Arithmetic_turn okv_Arithmetic_turn tw_218 7 0 rfl rfl rfl hl.1 rfl (Nat.le_of_ble_eq_true rfl) ⟨rfl, rfl, Nat.le_of_ble_eq_true rfl, Nat.le_of_ble_eq_true rfl⟩ ⟨Nat.zero_le _, Nat.zero_le _⟩ d_Processor_operateOnData_210 (fun H locs hX => ?_)
                  refine lv_iconst (pc := 213) (v := 4) X.1 X.2.1 d_Processor_operateOnData_213 (by decide) ?_
                  exact ab_ki_ret (pc := 214) X hr hk hX rfl (by rw [f_Processor_operateOnData, if_neg h1, if_neg h2, if_neg h3, if_neg h4, if_neg h6, if_neg h8, if_neg h10, if_neg h12]) d_Processor_operateOnData_214
                ·
                  refine lv_aload_n (pc := 195) X.1 X.2.1 d_Processor_operateOnData_195 rfl (lv_at hl 0 rfl) ?_
                  refine ab_gx (pc := 196) (v := .ref (q 7)) X hX 0 4 3 rfl rfl (Nat.le_of_ble_eq_true rfl) in_Processor rfl tw_195 rfl d_Processor_operateOnData_196 ?_
                  refine ab_kv_callV (pc := 199) (wr := []) (w := (wC t q)) (u := u) (F := f_Arithmetic_adjust u) (as := []) (rest := []) X hX (c_Arithmetic_adjust l D t q u) ok_Arithmetic_adjust okv_Arithmetic_adjust tw_219 7 0 rfl rfl rfl hl.1 rfl (Nat.le_of_ble_eq_true rfl) ⟨rfl, rfl, Nat.le_of_ble_eq_true rfl, Nat.le_of_ble_eq_true rfl⟩ ⟨Nat.zero_le _, Nat.zero_le _⟩ d_Processor_operateOnData_199 (fun H locs hX => ?_)
                  refine lv_goto (pc := 202) (tgt := 213) X.1 X.2.1 d_Processor_operateOnData_202 (by decide) ?_
                  refine lv_iconst (pc := 213) (v := 4) X.1 X.2.1 d_Processor_operateOnData_213 (by decide) ?_
                  exact ab_ki_ret (pc := 214) X hr hk hX rfl (by rw [f_Processor_operateOnData, if_neg h1, if_neg h2, if_neg h3, if_neg h4, if_neg h6, if_neg h8, if_neg h10, if_pos h12]) d_Processor_operateOnData_214
