abbrev b_Clock_reset : ByteArray := prog_3_method_3_code
def y_Clock_reset : MethodName := ⟨"ArcadeBoard$Clock", "reset", "()V"⟩
theorem d_Clock_reset_0 : decode b_Clock_reset 0 = .ok (.aload_n 0, 1) := by decide +kernel
theorem d_Clock_reset_1 : decode b_Clock_reset 1 = .ok (.getfield 7, 3) := by decide +kernel
theorem d_Clock_reset_4 : decode b_Clock_reset 4 = .ok (.iconst 0, 1) := by decide +kernel
theorem d_Clock_reset_5 : decode b_Clock_reset 5 = .ok (.putfield 25, 3) := by decide +kernel
theorem d_Clock_reset_8 : decode b_Clock_reset 8 = .ok (.aload_n 0, 1) := by decide +kernel
theorem d_Clock_reset_9 : decode b_Clock_reset 9 = .ok (.getfield 7, 3) := by decide +kernel
theorem d_Clock_reset_12 : decode b_Clock_reset 12 = .ok (.iconst 0, 1) := by decide +kernel
theorem d_Clock_reset_13 : decode b_Clock_reset 13 = .ok (.putfield 28, 3) := by decide +kernel
theorem d_Clock_reset_16 : decode b_Clock_reset 16 = .ok (.aload_n 0, 1) := by decide +kernel
theorem d_Clock_reset_17 : decode b_Clock_reset 17 = .ok (.getfield 7, 3) := by decide +kernel
theorem d_Clock_reset_20 : decode b_Clock_reset 20 = .ok (.iconst 0, 1) := by decide +kernel
theorem d_Clock_reset_21 : decode b_Clock_reset 21 = .ok (.putfield 31, 3) := by decide +kernel
theorem d_Clock_reset_24 : decode b_Clock_reset 24 = .ok (.aload_n 0, 1) := by decide +kernel
theorem d_Clock_reset_25 : decode b_Clock_reset 25 = .ok (.getfield 7, 3) := by decide +kernel
theorem d_Clock_reset_28 : decode b_Clock_reset 28 = .ok (.iconst 0, 1) := by decide +kernel
theorem d_Clock_reset_29 : decode b_Clock_reset 29 = .ok (.putfield 34, 3) := by decide +kernel
theorem d_Clock_reset_32 : decode b_Clock_reset 32 = .ok (.aload_n 0, 1) := by decide +kernel
theorem d_Clock_reset_33 : decode b_Clock_reset 33 = .ok (.getfield 7, 3) := by decide +kernel
theorem d_Clock_reset_36 : decode b_Clock_reset 36 = .ok (.iconst 0, 1) := by decide +kernel
theorem d_Clock_reset_37 : decode b_Clock_reset 37 = .ok (.putfield 37, 3) := by decide +kernel
theorem d_Clock_reset_40 : decode b_Clock_reset 40 = .ok (.aload_n 0, 1) := by decide +kernel
theorem d_Clock_reset_41 : decode b_Clock_reset 41 = .ok (.getfield 7, 3) := by decide +kernel
theorem d_Clock_reset_44 : decode b_Clock_reset 44 = .ok (.iconst 0, 1) := by decide +kernel
theorem d_Clock_reset_45 : decode b_Clock_reset 45 = .ok (.putfield 41, 3) := by decide +kernel
theorem d_Clock_reset_48 : decode b_Clock_reset 48 = .ok (.aload_n 0, 1) := by decide +kernel
theorem d_Clock_reset_49 : decode b_Clock_reset 49 = .ok (.getfield 7, 3) := by decide +kernel
theorem d_Clock_reset_52 : decode b_Clock_reset 52 = .ok (.iconst 0, 1) := by decide +kernel
theorem d_Clock_reset_53 : decode b_Clock_reset 53 = .ok (.putfield 19, 3) := by decide +kernel
theorem d_Clock_reset_56 : decode b_Clock_reset 56 = .ok (.return_, 1) := by decide +kernel
theorem tw_113 : Jvm.Cond.code ⟨"ArcadeBoard$Clock", "reset", "()V"⟩ prog_3_method_3_code 1 (Option.none : Option Jvm.ClassFile.FieldType) ∈ AL := ab_in (ab_t2 (List.mem_of_getElem? (i := 203) (by decide +kernel))) rfl
theorem tw_114 : Jvm.Cond.initialized "ArcadeBoard$Clock" ∈ AL := ab_in (ab_t1 (List.mem_of_getElem? (i := 7) (by decide +kernel))) rfl
theorem tw_115 : Jvm.Cond.instanceMethod ⟨"ArcadeBoard$Clock", "reset", "()V"⟩ ∈ AL := ab_in (ab_t2 (List.mem_of_getElem? (i := 201) (by decide +kernel))) rfl
theorem tw_116 : Jvm.Cond.selects "ArcadeBoard$Clock" ⟨"ArcadeBoard$Clock", "reset", "()V"⟩ ⟨"ArcadeBoard$Clock", "reset", "()V"⟩ ∈ AL := ab_in (ab_t2 (List.mem_of_getElem? (i := 202) (by decide +kernel))) rfl
theorem tw_117 : Jvm.Cond.fieldLink "ArcadeBoard$Clock" 7 "ArcadeBoard$Clock" "state" "LArcadeBoard$State;" ∈ AL := ab_in (ab_t1 (List.mem_of_getElem? (i := 191) (by decide +kernel))) rfl
theorem tw_118 : Jvm.Cond.fieldLink "ArcadeBoard$Clock" 25 "ArcadeBoard$State" "pc" "I" ∈ AL := ab_in (ab_t1 (List.mem_of_getElem? (i := 48) (by decide +kernel))) rfl
theorem tw_119 : Jvm.Cond.fieldLink "ArcadeBoard$Clock" 28 "ArcadeBoard$State" "shift" "I" ∈ AL := ab_in (ab_t1 (List.mem_of_getElem? (i := 66) (by decide +kernel))) rfl
theorem tw_120 : Jvm.Cond.fieldLink "ArcadeBoard$Clock" 31 "ArcadeBoard$State" "offset" "I" ∈ AL := ab_in (ab_t1 (List.mem_of_getElem? (i := 70) (by decide +kernel))) rfl
theorem tw_121 : Jvm.Cond.fieldLink "ArcadeBoard$Clock" 34 "ArcadeBoard$State" "watch" "I" ∈ AL := ab_in (ab_t1 (List.mem_of_getElem? (i := 74) (by decide +kernel))) rfl
theorem tw_122 : Jvm.Cond.fieldLink "ArcadeBoard$Clock" 37 "ArcadeBoard$State" "interrupts" "Z" ∈ AL := ab_in (ab_t1 (List.mem_of_getElem? (i := 53) (by decide +kernel))) rfl
theorem tw_123 : Jvm.Cond.fieldLink "ArcadeBoard$Clock" 41 "ArcadeBoard$State" "halted" "Z" ∈ AL := ab_in (ab_t1 (List.mem_of_getElem? (i := 59) (by decide +kernel))) rfl
theorem tw_124 : Jvm.Cond.fieldLink "ArcadeBoard$Clock" 19 "ArcadeBoard$State" "call" "I" ∈ AL := ab_in (ab_t1 (List.mem_of_getElem? (i := 63) (by decide +kernel))) rfl
theorem ok_Clock_reset : ab_yok y_Clock_reset b_Clock_reset 1 none 0 := ⟨tw_113, tw_114, by decide, by decide, by decide +kernel⟩
theorem okv_Clock_reset : ab_yok_V y_Clock_reset := ⟨tw_115, tw_116⟩
set_option maxHeartbeats 1000000 in
set_option maxRecDepth 100000 in
theorem c_Clock_reset (l : Launch) (D : va_G) (t : Nat → ClassId) (q : Nat → Nat) (u : SS) : ab_kv l D (tyC t) (wC t q) y_Clock_reset b_Clock_reset 1 { frames := 0, cells := 0, slots := 0, locals := 0 } [.ref (q 11)] u (f_Clock_reset u) := by
  refine ab_kv_ofW (by decide) (Nat.le_of_ble_eq_true rfl) (fun p e s m below meth c ls A X hr hk hl hX => ?_)
  have hl : lv_has ls 1 [(0, .ref (q 11))] := hl
  refine lv_aload_n (pc := 0) X.1 X.2.1 d_Clock_reset_0 rfl (lv_at hl 0 rfl) ?_
  refine ab_gx (pc := 1) (v := .ref (q 1)) X hX 11 1 0 rfl rfl (Nat.le_of_ble_eq_true rfl) in_Clock rfl tw_117 rfl d_Clock_reset_1 ?_
  refine lv_iconst (pc := 4) (v := 0) X.1 X.2.1 d_Clock_reset_4 (by decide) ?_
  refine ab_px (pc := 5) (ws' := (wC t q (stt u 0 2 0))) X hX 1 7 4 ty_State ty_State_ok nm_State rfl rfl (Nat.le_of_ble_eq_true rfl) in_State rfl tw_118 rfl rfl rfl rfl (Nat.le_of_ble_eq_true rfl) (sf_wC_1_4 t q u 0) d_Clock_reset_5 (fun H locs hX => ?_)
  refine lv_aload_n (pc := 8) X.1 X.2.1 d_Clock_reset_8 rfl (lv_at hl 0 rfl) ?_
  refine ab_gx (pc := 9) (v := .ref (q 1)) X hX 11 1 0 rfl rfl (Nat.le_of_ble_eq_true rfl) in_Clock rfl tw_117 rfl d_Clock_reset_9 ?_
  refine lv_iconst (pc := 12) (v := 0) X.1 X.2.1 d_Clock_reset_12 (by decide) ?_
  refine ab_px (pc := 13) (ws' := (wC t q (stt (stt u 0 2 0) 0 7 0))) X hX 1 7 9 ty_State ty_State_ok nm_State rfl rfl (Nat.le_of_ble_eq_true rfl) in_State rfl tw_119 rfl rfl rfl rfl (Nat.le_of_ble_eq_true rfl) (sf_wC_1_9 t q (stt u 0 2 0) 0) d_Clock_reset_13 (fun H locs hX => ?_)
  refine lv_aload_n (pc := 16) X.1 X.2.1 d_Clock_reset_16 rfl (lv_at hl 0 rfl) ?_
  refine ab_gx (pc := 17) (v := .ref (q 1)) X hX 11 1 0 rfl rfl (Nat.le_of_ble_eq_true rfl) in_Clock rfl tw_117 rfl d_Clock_reset_17 ?_
  refine lv_iconst (pc := 20) (v := 0) X.1 X.2.1 d_Clock_reset_20 (by decide) ?_
  refine ab_px (pc := 21) (ws' := (wC t q (stt (stt (stt u 0 2 0) 0 7 0) 0 8 0))) X hX 1 7 10 ty_State ty_State_ok nm_State rfl rfl (Nat.le_of_ble_eq_true rfl) in_State rfl tw_120 rfl rfl rfl rfl (Nat.le_of_ble_eq_true rfl) (sf_wC_1_10 t q (stt (stt u 0 2 0) 0 7 0) 0) d_Clock_reset_21 (fun H locs hX => ?_)
  refine lv_aload_n (pc := 24) X.1 X.2.1 d_Clock_reset_24 rfl (lv_at hl 0 rfl) ?_
  refine ab_gx (pc := 25) (v := .ref (q 1)) X hX 11 1 0 rfl rfl (Nat.le_of_ble_eq_true rfl) in_Clock rfl tw_117 rfl d_Clock_reset_25 ?_
  refine lv_iconst (pc := 28) (v := 0) X.1 X.2.1 d_Clock_reset_28 (by decide) ?_
  refine ab_px (pc := 29) (ws' := (wC t q (stt (stt (stt (stt u 0 2 0) 0 7 0) 0 8 0) 0 9 0))) X hX 1 7 11 ty_State ty_State_ok nm_State rfl rfl (Nat.le_of_ble_eq_true rfl) in_State rfl tw_121 rfl rfl rfl rfl (Nat.le_of_ble_eq_true rfl) (sf_wC_1_11 t q (stt (stt (stt u 0 2 0) 0 7 0) 0 8 0) 0) d_Clock_reset_29 (fun H locs hX => ?_)
  refine lv_aload_n (pc := 32) X.1 X.2.1 d_Clock_reset_32 rfl (lv_at hl 0 rfl) ?_
  refine ab_gx (pc := 33) (v := .ref (q 1)) X hX 11 1 0 rfl rfl (Nat.le_of_ble_eq_true rfl) in_Clock rfl tw_117 rfl d_Clock_reset_33 ?_
  refine lv_iconst (pc := 36) (v := 0) X.1 X.2.1 d_Clock_reset_36 (by decide) ?_
  refine ab_px (pc := 37) (ws' := (wC t q (stt (stt (stt (stt (stt u 0 2 0) 0 7 0) 0 8 0) 0 9 0) 0 3 0))) X hX 1 7 5 ty_State ty_State_ok nm_State rfl rfl (Nat.le_of_ble_eq_true rfl) in_State rfl tw_122 rfl rfl rfl rfl (Nat.le_of_ble_eq_true rfl) (sf_wC_1_5 t q (stt (stt (stt (stt u 0 2 0) 0 7 0) 0 8 0) 0 9 0) 0) d_Clock_reset_37 (fun H locs hX => ?_)
  refine lv_aload_n (pc := 40) X.1 X.2.1 d_Clock_reset_40 rfl (lv_at hl 0 rfl) ?_
  refine ab_gx (pc := 41) (v := .ref (q 1)) X hX 11 1 0 rfl rfl (Nat.le_of_ble_eq_true rfl) in_Clock rfl tw_117 rfl d_Clock_reset_41 ?_
  refine lv_iconst (pc := 44) (v := 0) X.1 X.2.1 d_Clock_reset_44 (by decide) ?_
  refine ab_px (pc := 45) (ws' := (wC t q (stt (stt (stt (stt (stt (stt u 0 2 0) 0 7 0) 0 8 0) 0 9 0) 0 3 0) 0 5 0))) X hX 1 7 7 ty_State ty_State_ok nm_State rfl rfl (Nat.le_of_ble_eq_true rfl) in_State rfl tw_123 rfl rfl rfl rfl (Nat.le_of_ble_eq_true rfl) (sf_wC_1_7 t q (stt (stt (stt (stt (stt u 0 2 0) 0 7 0) 0 8 0) 0 9 0) 0 3 0) 0) d_Clock_reset_45 (fun H locs hX => ?_)
  refine lv_aload_n (pc := 48) X.1 X.2.1 d_Clock_reset_48 rfl (lv_at hl 0 rfl) ?_
  refine ab_gx (pc := 49) (v := .ref (q 1)) X hX 11 1 0 rfl rfl (Nat.le_of_ble_eq_true rfl) in_Clock rfl tw_117 rfl d_Clock_reset_49 ?_
  refine lv_iconst (pc := 52) (v := 0) X.1 X.2.1 d_Clock_reset_52 (by decide) ?_
  refine ab_px (pc := 53) (ws' := (wC t q (stt (stt (stt (stt (stt (stt (stt u 0 2 0) 0 7 0) 0 8 0) 0 9 0) 0 3 0) 0 5 0) 0 6 0))) X hX 1 7 8 ty_State ty_State_ok nm_State rfl rfl (Nat.le_of_ble_eq_true rfl) in_State rfl tw_124 rfl rfl rfl rfl (Nat.le_of_ble_eq_true rfl) (sf_wC_1_8 t q (stt (stt (stt (stt (stt (stt u 0 2 0) 0 7 0) 0 8 0) 0 9 0) 0 3 0) 0 5 0) 0) d_Clock_reset_53 (fun H locs hX => ?_)
  exact ab_kv_ret (pc := 56) X hr hk hX (by rw [f_Clock_reset]) d_Clock_reset_56
abbrev b_Clock_endFrame : ByteArray := prog_3_method_4_code
def y_Clock_endFrame : MethodName := ⟨"ArcadeBoard$Clock", "endFrame", "()V"⟩
theorem d_Clock_endFrame_0 : decode b_Clock_endFrame 0 = .ok (.aload_n 0, 1) := by decide +kernel
theorem d_Clock_endFrame_1 : decode b_Clock_endFrame 1 = .ok (.getfield 7, 3) := by decide +kernel
theorem d_Clock_endFrame_4 : decode b_Clock_endFrame 4 = .ok (.dup, 1) := by decide +kernel
theorem d_Clock_endFrame_5 : decode b_Clock_endFrame 5 = .ok (.getfield 13, 3) := by decide +kernel
theorem d_Clock_endFrame_8 : decode b_Clock_endFrame 8 = .ok (.sipush 2560, 3) := by decide +kernel
theorem d_Clock_endFrame_11 : decode b_Clock_endFrame 11 = .ok (.isub, 1) := by decide +kernel
theorem d_Clock_endFrame_12 : decode b_Clock_endFrame 12 = .ok (.putfield 13, 3) := by decide +kernel
theorem d_Clock_endFrame_15 : decode b_Clock_endFrame 15 = .ok (.aload_n 0, 1) := by decide +kernel
theorem d_Clock_endFrame_16 : decode b_Clock_endFrame 16 = .ok (.getfield 7, 3) := by decide +kernel
theorem d_Clock_endFrame_19 : decode b_Clock_endFrame 19 = .ok (.dup, 1) := by decide +kernel
theorem d_Clock_endFrame_20 : decode b_Clock_endFrame 20 = .ok (.getfield 44, 3) := by decide +kernel
theorem d_Clock_endFrame_23 : decode b_Clock_endFrame 23 = .ok (.iconst 1, 1) := by decide +kernel
theorem d_Clock_endFrame_24 : decode b_Clock_endFrame 24 = .ok (.iadd, 1) := by decide +kernel
theorem d_Clock_endFrame_25 : decode b_Clock_endFrame 25 = .ok (.putfield 44, 3) := by decide +kernel
theorem d_Clock_endFrame_28 : decode b_Clock_endFrame 28 = .ok (.aload_n 0, 1) := by decide +kernel
theorem d_Clock_endFrame_29 : decode b_Clock_endFrame 29 = .ok (.getfield 7, 3) := by decide +kernel
theorem d_Clock_endFrame_32 : decode b_Clock_endFrame 32 = .ok (.getfield 47, 3) := by decide +kernel
theorem d_Clock_endFrame_35 : decode b_Clock_endFrame 35 = .ok (.ifCond .le 16, 3) := by decide +kernel
theorem d_Clock_endFrame_38 : decode b_Clock_endFrame 38 = .ok (.aload_n 0, 1) := by decide +kernel
theorem d_Clock_endFrame_39 : decode b_Clock_endFrame 39 = .ok (.getfield 7, 3) := by decide +kernel
theorem d_Clock_endFrame_42 : decode b_Clock_endFrame 42 = .ok (.dup, 1) := by decide +kernel
theorem d_Clock_endFrame_43 : decode b_Clock_endFrame 43 = .ok (.getfield 47, 3) := by decide +kernel
theorem d_Clock_endFrame_46 : decode b_Clock_endFrame 46 = .ok (.iconst 1, 1) := by decide +kernel
theorem d_Clock_endFrame_47 : decode b_Clock_endFrame 47 = .ok (.isub, 1) := by decide +kernel
theorem d_Clock_endFrame_48 : decode b_Clock_endFrame 48 = .ok (.putfield 47, 3) := by decide +kernel
theorem d_Clock_endFrame_51 : decode b_Clock_endFrame 51 = .ok (.aload_n 0, 1) := by decide +kernel
theorem d_Clock_endFrame_52 : decode b_Clock_endFrame 52 = .ok (.getfield 7, 3) := by decide +kernel
theorem d_Clock_endFrame_55 : decode b_Clock_endFrame 55 = .ok (.dup, 1) := by decide +kernel
theorem d_Clock_endFrame_56 : decode b_Clock_endFrame 56 = .ok (.getfield 34, 3) := by decide +kernel
theorem d_Clock_endFrame_59 : decode b_Clock_endFrame 59 = .ok (.iconst 1, 1) := by decide +kernel
theorem d_Clock_endFrame_60 : decode b_Clock_endFrame 60 = .ok (.iadd, 1) := by decide +kernel
theorem d_Clock_endFrame_61 : decode b_Clock_endFrame 61 = .ok (.putfield 34, 3) := by decide +kernel
theorem d_Clock_endFrame_64 : decode b_Clock_endFrame 64 = .ok (.aload_n 0, 1) := by decide +kernel
theorem d_Clock_endFrame_65 : decode b_Clock_endFrame 65 = .ok (.getfield 7, 3) := by decide +kernel
theorem d_Clock_endFrame_68 : decode b_Clock_endFrame 68 = .ok (.getfield 34, 3) := by decide +kernel
theorem d_Clock_endFrame_71 : decode b_Clock_endFrame 71 = .ok (.iconst 4, 1) := by decide +kernel
theorem d_Clock_endFrame_72 : decode b_Clock_endFrame 72 = .ok (.if_icmp .lt 7, 3) := by decide +kernel
theorem d_Clock_endFrame_75 : decode b_Clock_endFrame 75 = .ok (.aload_n 0, 1) := by decide +kernel
theorem d_Clock_endFrame_76 : decode b_Clock_endFrame 76 = .ok (.invokevirtual 50, 3) := by decide +kernel
theorem d_Clock_endFrame_79 : decode b_Clock_endFrame 79 = .ok (.return_, 1) := by decide +kernel
theorem tw_125 : Jvm.Cond.code ⟨"ArcadeBoard$Clock", "endFrame", "()V"⟩ prog_3_method_4_code 1 (Option.none : Option Jvm.ClassFile.FieldType) ∈ AL := ab_in (ab_t3 (List.mem_of_getElem? (i := 161) (by decide +kernel))) rfl
theorem tw_126 : Jvm.Cond.instanceMethod ⟨"ArcadeBoard$Clock", "endFrame", "()V"⟩ ∈ AL := ab_in (ab_t3 (List.mem_of_getElem? (i := 160) (by decide +kernel))) rfl
theorem tw_127 : Cond.selects "ArcadeBoard$Clock" ⟨"ArcadeBoard$Clock", "endFrame", "()V"⟩ ⟨"ArcadeBoard$Clock", "endFrame", "()V"⟩ ∈ AL := ab_in (ab_s2 (List.mem_of_getElem? (i := 7) (by decide +kernel))) rfl
theorem tw_128 : Jvm.Cond.fieldLink "ArcadeBoard$Clock" 13 "ArcadeBoard$State" "time" "I" ∈ AL := ab_in (ab_t1 (List.mem_of_getElem? (i := 78) (by decide +kernel))) rfl
theorem tw_129 : Jvm.Cond.fieldLink "ArcadeBoard$Clock" 44 "ArcadeBoard$State" "frames" "I" ∈ AL := ab_in (ab_t1 (List.mem_of_getElem? (i := 81) (by decide +kernel))) rfl
theorem tw_130 : Jvm.Cond.fieldLink "ArcadeBoard$Clock" 47 "ArcadeBoard$State" "coinCount" "I" ∈ AL := ab_in (ab_t1 (List.mem_of_getElem? (i := 85) (by decide +kernel))) rfl
theorem tw_131 : Jvm.Cond.methodLink "ArcadeBoard$Clock" 50 ⟨"ArcadeBoard$Clock", "reset", "()V"⟩ ∈ AL := ab_in (ab_t3 (List.mem_of_getElem? (i := 162) (by decide +kernel))) rfl
theorem ok_Clock_endFrame : ab_yok y_Clock_endFrame b_Clock_endFrame 1 none 0 := ⟨tw_125, tw_114, by decide, by decide, by decide +kernel⟩
theorem okv_Clock_endFrame : ab_yok_V y_Clock_endFrame := ⟨tw_126, tw_127⟩
set_option maxHeartbeats 1000000 in
set_option maxRecDepth 100000 in
theorem k_Clock_endFrame_51 {p : Program} {l : Launch} {e : Env} {s : State} {m : MethodId} {args : Array Value} {below : List Frame} {meth : Method} {c : Code} {A : Nat → Prop} {D : va_G} {t : Nat → ClassId} {q : Nat → Nat} (X : ab_cx p s m args c b_Clock_endFrame 1 y_Clock_endFrame.cls D (tyC t)) (hr : meth.sig.returnType = none) (hk : meth.locks = false) (u : SS) {H : Heap} {locs : List Loc} {ls : Array Slot} (hX : ab_hx D (wC t q u) A s.heap H locs) (hl : lv_has ls 1 [(0, .ref (q 11))]) :
    W p l e { frames := 1, cells := 0, slots := 0, locals := 20 } s m args below meth c H locs 0 0 (ab_kv_E below args s D (tyC t) (wC t q) A (g_Clock_endFrame_51 u)) (F0 m 51 ls []) := by
  refine lv_aload_n (pc := 51) X.1 X.2.1 d_Clock_endFrame_51 rfl (lv_at hl 0 rfl) ?_
  refine ab_gx (pc := 52) (v := .ref (q 1)) X hX 11 1 0 rfl rfl (Nat.le_of_ble_eq_true rfl) in_Clock rfl tw_117 rfl d_Clock_endFrame_52 ?_
  refine lv_dup (pc := 55) X.1 X.2.1 d_Clock_endFrame_55 rfl ?_
  refine ab_gx (pc := 56) (v := .int (u 0 9)) X hX 1 7 11 rfl rfl (Nat.le_of_ble_eq_true rfl) in_State rfl tw_121 rfl d_Clock_endFrame_56 ?_
  refine lv_iconst (pc := 59) (v := 1) X.1 X.2.1 d_Clock_endFrame_59 (by decide) ?_
  refine lv_iadd (pc := 60) X.1 X.2.1 d_Clock_endFrame_60 ?_
  refine ab_px (pc := 61) (ws' := (wC t q (stt u 0 9 ((u 0 9) + 1)))) X hX 1 7 11 ty_State ty_State_ok nm_State rfl rfl (Nat.le_of_ble_eq_true rfl) in_State rfl tw_121 rfl rfl rfl rfl (Nat.le_of_ble_eq_true rfl) (sf_wC_1_11 t q u ((u 0 9) + 1)) d_Clock_endFrame_61 (fun H locs hX => ?_)
  refine lv_aload_n (pc := 64) X.1 X.2.1 d_Clock_endFrame_64 rfl (lv_at hl 0 rfl) ?_
  refine ab_gx (pc := 65) (v := .ref (q 1)) X hX 11 1 0 rfl rfl (Nat.le_of_ble_eq_true rfl) in_Clock rfl tw_117 rfl d_Clock_endFrame_65 ?_
  refine ab_gx (pc := 68) (v := .int ((u 0 9) + 1)) X hX 1 7 11 rfl rfl (Nat.le_of_ble_eq_true rfl) in_State rfl tw_121 rfl d_Clock_endFrame_68 ?_
  refine lv_iconst (pc := 71) (v := 4) X.1 X.2.1 d_Clock_endFrame_71 (by decide) ?_
  refine lv_icmp_lt (pc := 72) (tgt := 79) X.1 X.2.1 d_Clock_endFrame_72 (by decide) (fun h2 => ?_) (fun h2 => ?_)
  ·
    exact ab_kv_ret (pc := 79) X hr hk hX (by rw [g_Clock_endFrame_51, if_pos h2]) d_Clock_endFrame_79
  ·
    refine lv_aload_n (pc := 75) X.1 X.2.1 d_Clock_endFrame_75 rfl (lv_at hl 0 rfl) ?_
    refine ab_kv_callV (pc := 76) (wr := []) (w := (wC t q)) (u := (stt u 0 9 ((u 0 9) + 1))) (F := f_Clock_reset (stt u 0 9 ((u 0 9) + 1))) (as := []) (rest := []) X hX (c_Clock_reset l D t q (stt u 0 9 ((u 0 9) + 1))) ok_Clock_reset okv_Clock_reset tw_131 11 1 rfl rfl rfl hl.1 rfl (Nat.le_of_ble_eq_true rfl) ⟨rfl, rfl, Nat.le_of_ble_eq_true rfl, Nat.le_of_ble_eq_true rfl⟩ ⟨Nat.zero_le _, Nat.zero_le _⟩ d_Clock_endFrame_76 (fun H locs hX => ?_)
    exact ab_kv_ret (pc := 79) X hr hk hX (by rw [g_Clock_endFrame_51, if_neg h2]) d_Clock_endFrame_79
set_option maxHeartbeats 1000000 in
set_option maxRecDepth 100000 in
theorem c_Clock_endFrame (l : Launch) (D : va_G) (t : Nat → ClassId) (q : Nat → Nat) (u : SS) : ab_kv l D (tyC t) (wC t q) y_Clock_endFrame b_Clock_endFrame 1 { frames := 1, cells := 0, slots := 0, locals := 20 } [.ref (q 11)] u (f_Clock_endFrame u) := by
  refine ab_kv_ofW (by decide) (Nat.le_of_ble_eq_true rfl) (fun p e s m below meth c ls A X hr hk hl hX => ?_)
  have hl : lv_has ls 1 [(0, .ref (q 11))] := hl
  refine lv_aload_n (pc := 0) X.1 X.2.1 d_Clock_endFrame_0 rfl (lv_at hl 0 rfl) ?_
  refine ab_gx (pc := 1) (v := .ref (q 1)) X hX 11 1 0 rfl rfl (Nat.le_of_ble_eq_true rfl) in_Clock rfl tw_117 rfl d_Clock_endFrame_1 ?_
  refine lv_dup (pc := 4) X.1 X.2.1 d_Clock_endFrame_4 rfl ?_
  refine ab_gx (pc := 5) (v := .int (u 0 10)) X hX 1 7 12 rfl rfl (Nat.le_of_ble_eq_true rfl) in_State rfl tw_128 rfl d_Clock_endFrame_5 ?_
  refine lv_sipush (pc := 8) (v := 2560) X.1 X.2.1 d_Clock_endFrame_8 (by decide) ?_
  refine lv_isub (pc := 11) X.1 X.2.1 d_Clock_endFrame_11 ?_
  refine ab_px (pc := 12) (ws' := (wC t q (stt u 0 10 ((u 0 10) - 2560)))) X hX 1 7 12 ty_State ty_State_ok nm_State rfl rfl (Nat.le_of_ble_eq_true rfl) in_State rfl tw_128 rfl rfl rfl rfl (Nat.le_of_ble_eq_true rfl) (sf_wC_1_12 t q u ((u 0 10) - 2560)) d_Clock_endFrame_12 (fun H locs hX => ?_)
  refine lv_aload_n (pc := 15) X.1 X.2.1 d_Clock_endFrame_15 rfl (lv_at hl 0 rfl) ?_
  refine ab_gx (pc := 16) (v := .ref (q 1)) X hX 11 1 0 rfl rfl (Nat.le_of_ble_eq_true rfl) in_Clock rfl tw_117 rfl d_Clock_endFrame_16 ?_
  refine lv_dup (pc := 19) X.1 X.2.1 d_Clock_endFrame_19 rfl ?_
  refine ab_gx (pc := 20) (v := .int (u 0 11)) X hX 1 7 13 rfl rfl (Nat.le_of_ble_eq_true rfl) in_State rfl tw_129 rfl d_Clock_endFrame_20 ?_
  refine lv_iconst (pc := 23) (v := 1) X.1 X.2.1 d_Clock_endFrame_23 (by decide) ?_
  refine lv_iadd (pc := 24) X.1 X.2.1 d_Clock_endFrame_24 ?_
  refine ab_px (pc := 25) (ws' := (wC t q (stt (stt u 0 10 ((u 0 10) - 2560)) 0 11 ((u 0 11) + 1)))) X hX 1 7 13 ty_State ty_State_ok nm_State rfl rfl (Nat.le_of_ble_eq_true rfl) in_State rfl tw_129 rfl rfl rfl rfl (Nat.le_of_ble_eq_true rfl) (sf_wC_1_13 t q (stt u 0 10 ((u 0 10) - 2560)) ((u 0 11) + 1)) d_Clock_endFrame_25 (fun H locs hX => ?_)
  refine lv_aload_n (pc := 28) X.1 X.2.1 d_Clock_endFrame_28 rfl (lv_at hl 0 rfl) ?_
  refine ab_gx (pc := 29) (v := .ref (q 1)) X hX 11 1 0 rfl rfl (Nat.le_of_ble_eq_true rfl) in_Clock rfl tw_117 rfl d_Clock_endFrame_29 ?_
  refine ab_gx (pc := 32) (v := .int (u 0 12)) X hX 1 7 14 rfl rfl (Nat.le_of_ble_eq_true rfl) in_State rfl tw_130 rfl d_Clock_endFrame_32 ?_
  refine lv_if_le (pc := 35) (tgt := 51) X.1 X.2.1 d_Clock_endFrame_35 (by decide) (fun h1 => ?_) (fun h1 => ?_)
  ·
    rw [show f_Clock_endFrame u = g_Clock_endFrame_51 (stt (stt u 0 10 ((u 0 10) - 2560)) 0 11 ((u 0 11) + 1)) from by rw [f_Clock_endFrame, if_pos h1]]
    exact k_Clock_endFrame_51 X hr hk (stt (stt u 0 10 ((u 0 10) - 2560)) 0 11 ((u 0 11) + 1))  hX (lv_sub hl [0] rfl)
  ·
    refine lv_aload_n (pc := 38) X.1 X.2.1 d_Clock_endFrame_38 rfl (lv_at hl 0 rfl) ?_
    refine ab_gx (pc := 39) (v := .ref (q 1)) X hX 11 1 0 rfl rfl (Nat.le_of_ble_eq_true rfl) in_Clock rfl tw_117 rfl d_Clock_endFrame_39 ?_
    refine lv_dup (pc := 42) X.1 X.2.1 d_Clock_endFrame_42 rfl ?_
    refine ab_gx (pc := 43) (v := .int (u 0 12)) X hX 1 7 14 rfl rfl (Nat.le_of_ble_eq_true rfl) in_State rfl tw_130 rfl d_Clock_endFrame_43 ?_
    refine lv_iconst (pc := 46) (v := 1) X.1 X.2.1 d_Clock_endFrame_46 (by decide) ?_
    refine lv_isub (pc := 47) X.1 X.2.1 d_Clock_endFrame_47 ?_
    refine ab_px (pc := 48) (ws' := (wC t q (stt (stt (stt u 0 10 ((u 0 10) - 2560)) 0 11 ((u 0 11) + 1)) 0 12 ((u 0 12) - 1)))) X hX 1 7 14 ty_State ty_State_ok nm_State rfl rfl (Nat.le_of_ble_eq_true rfl) in_State rfl tw_130 rfl rfl rfl rfl (Nat.le_of_ble_eq_true rfl) (sf_wC_1_14 t q (stt (stt u 0 10 ((u 0 10) - 2560)) 0 11 ((u 0 11) + 1)) ((u 0 12) - 1)) d_Clock_endFrame_48 (fun H locs hX => ?_)
    rw [show f_Clock_endFrame u = g_Clock_endFrame_51 (stt (stt (stt u 0 10 ((u 0 10) - 2560)) 0 11 ((u 0 11) + 1)) 0 12 ((u 0 12) - 1)) from by rw [f_Clock_endFrame, if_neg h1]]
    exact k_Clock_endFrame_51 X hr hk (stt (stt (stt u 0 10 ((u 0 10) - 2560)) 0 11 ((u 0 11) + 1)) 0 12 ((u 0 12) - 1))  hX (lv_sub hl [0] rfl)
abbrev b_Clock_pass : ByteArray := prog_3_method_2_code
def y_Clock_pass : MethodName := ⟨"ArcadeBoard$Clock", "pass", "(I)V"⟩
theorem d_Clock_pass_0 : decode b_Clock_pass 0 = .ok (.aload_n 0, 1) := by decide +kernel
theorem d_Clock_pass_1 : decode b_Clock_pass 1 = .ok (.getfield 7, 3) := by decide +kernel
theorem d_Clock_pass_4 : decode b_Clock_pass 4 = .ok (.getfield 13, 3) := by decide +kernel
theorem d_Clock_pass_7 : decode b_Clock_pass 7 = .ok (.istore_n 2, 1) := by decide +kernel
theorem d_Clock_pass_8 : decode b_Clock_pass 8 = .ok (.aload_n 0, 1) := by decide +kernel
theorem d_Clock_pass_9 : decode b_Clock_pass 9 = .ok (.getfield 7, 3) := by decide +kernel
theorem d_Clock_pass_12 : decode b_Clock_pass 12 = .ok (.iload_n 2, 1) := by decide +kernel
theorem d_Clock_pass_13 : decode b_Clock_pass 13 = .ok (.iload_n 1, 1) := by decide +kernel
theorem d_Clock_pass_14 : decode b_Clock_pass 14 = .ok (.iadd, 1) := by decide +kernel
theorem d_Clock_pass_15 : decode b_Clock_pass 15 = .ok (.putfield 13, 3) := by decide +kernel
theorem d_Clock_pass_18 : decode b_Clock_pass 18 = .ok (.iload_n 2, 1) := by decide +kernel
theorem d_Clock_pass_19 : decode b_Clock_pass 19 = .ok (.sipush 1024, 3) := by decide +kernel
theorem d_Clock_pass_22 : decode b_Clock_pass 22 = .ok (.if_icmp .ge 24, 3) := by decide +kernel
theorem d_Clock_pass_25 : decode b_Clock_pass 25 = .ok (.aload_n 0, 1) := by decide +kernel
theorem d_Clock_pass_26 : decode b_Clock_pass 26 = .ok (.getfield 7, 3) := by decide +kernel
theorem d_Clock_pass_29 : decode b_Clock_pass 29 = .ok (.getfield 13, 3) := by decide +kernel
theorem d_Clock_pass_32 : decode b_Clock_pass 32 = .ok (.sipush 1024, 3) := by decide +kernel
theorem d_Clock_pass_35 : decode b_Clock_pass 35 = .ok (.if_icmp .lt 11, 3) := by decide +kernel
theorem d_Clock_pass_38 : decode b_Clock_pass 38 = .ok (.aload_n 0, 1) := by decide +kernel
theorem d_Clock_pass_39 : decode b_Clock_pass 39 = .ok (.getfield 7, 3) := by decide +kernel
theorem d_Clock_pass_42 : decode b_Clock_pass 42 = .ok (.iconst 1, 1) := by decide +kernel
theorem d_Clock_pass_43 : decode b_Clock_pass 43 = .ok (.putfield 19, 3) := by decide +kernel
theorem d_Clock_pass_46 : decode b_Clock_pass 46 = .ok (.iload_n 2, 1) := by decide +kernel
theorem d_Clock_pass_47 : decode b_Clock_pass 47 = .ok (.sipush 2048, 3) := by decide +kernel
theorem d_Clock_pass_50 : decode b_Clock_pass 50 = .ok (.if_icmp .ge 24, 3) := by decide +kernel
theorem d_Clock_pass_53 : decode b_Clock_pass 53 = .ok (.aload_n 0, 1) := by decide +kernel
theorem d_Clock_pass_54 : decode b_Clock_pass 54 = .ok (.getfield 7, 3) := by decide +kernel
theorem d_Clock_pass_57 : decode b_Clock_pass 57 = .ok (.getfield 13, 3) := by decide +kernel
theorem d_Clock_pass_60 : decode b_Clock_pass 60 = .ok (.sipush 2048, 3) := by decide +kernel
theorem d_Clock_pass_63 : decode b_Clock_pass 63 = .ok (.if_icmp .lt 11, 3) := by decide +kernel
theorem d_Clock_pass_66 : decode b_Clock_pass 66 = .ok (.aload_n 0, 1) := by decide +kernel
theorem d_Clock_pass_67 : decode b_Clock_pass 67 = .ok (.getfield 7, 3) := by decide +kernel
theorem d_Clock_pass_70 : decode b_Clock_pass 70 = .ok (.iconst 2, 1) := by decide +kernel
theorem d_Clock_pass_71 : decode b_Clock_pass 71 = .ok (.putfield 19, 3) := by decide +kernel
theorem d_Clock_pass_74 : decode b_Clock_pass 74 = .ok (.aload_n 0, 1) := by decide +kernel
theorem d_Clock_pass_75 : decode b_Clock_pass 75 = .ok (.getfield 7, 3) := by decide +kernel
theorem d_Clock_pass_78 : decode b_Clock_pass 78 = .ok (.getfield 13, 3) := by decide +kernel
theorem d_Clock_pass_81 : decode b_Clock_pass 81 = .ok (.sipush 2560, 3) := by decide +kernel
theorem d_Clock_pass_84 : decode b_Clock_pass 84 = .ok (.if_icmp .lt 7, 3) := by decide +kernel
theorem d_Clock_pass_87 : decode b_Clock_pass 87 = .ok (.aload_n 0, 1) := by decide +kernel
theorem d_Clock_pass_88 : decode b_Clock_pass 88 = .ok (.invokevirtual 22, 3) := by decide +kernel
theorem d_Clock_pass_91 : decode b_Clock_pass 91 = .ok (.return_, 1) := by decide +kernel
theorem tw_132 : Jvm.Cond.code ⟨"ArcadeBoard$Clock", "pass", "(I)V"⟩ prog_3_method_2_code 3 (Option.none : Option Jvm.ClassFile.FieldType) ∈ AL := ab_in (ab_t3 (List.mem_of_getElem? (i := 157) (by decide +kernel))) rfl
theorem tw_133 : Jvm.Cond.instanceMethod ⟨"ArcadeBoard$Clock", "pass", "(I)V"⟩ ∈ AL := ab_in (ab_t3 (List.mem_of_getElem? (i := 155) (by decide +kernel))) rfl
theorem tw_134 : Jvm.Cond.selects "ArcadeBoard$Clock" ⟨"ArcadeBoard$Clock", "pass", "(I)V"⟩ ⟨"ArcadeBoard$Clock", "pass", "(I)V"⟩ ∈ AL := ab_in (ab_t3 (List.mem_of_getElem? (i := 156) (by decide +kernel))) rfl
theorem tw_135 : Jvm.Cond.methodLink "ArcadeBoard$Clock" 22 ⟨"ArcadeBoard$Clock", "endFrame", "()V"⟩ ∈ AL := ab_in (ab_t3 (List.mem_of_getElem? (i := 158) (by decide +kernel))) rfl
theorem ok_Clock_pass : ab_yok y_Clock_pass b_Clock_pass 3 none 1 := ⟨tw_132, tw_114, by decide, by decide, by decide +kernel⟩
theorem okv_Clock_pass : ab_yok_V y_Clock_pass := ⟨tw_133, tw_134⟩
set_option maxHeartbeats 1000000 in
set_option maxRecDepth 100000 in
theorem k_Clock_pass_74 {p : Program} {l : Launch} {e : Env} {s : State} {m : MethodId} {args : Array Value} {below : List Frame} {meth : Method} {c : Code} {A : Nat → Prop} {D : va_G} {t : Nat → ClassId} {q : Nat → Nat} (X : ab_cx p s m args c b_Clock_pass 3 y_Clock_pass.cls D (tyC t)) (hr : meth.sig.returnType = none) (hk : meth.locks = false) (u : SS) {H : Heap} {locs : List Loc} {ls : Array Slot} (hX : ab_hx D (wC t q u) A s.heap H locs) (hl : lv_has ls 3 [(0, .ref (q 11))]) :
    W p l e { frames := 2, cells := 0, slots := 0, locals := 40 } s m args below meth c H locs 0 0 (ab_kv_E below args s D (tyC t) (wC t q) A (g_Clock_pass_74 u)) (F0 m 74 ls []) := by
  refine lv_aload_n (pc := 74) X.1 X.2.1 d_Clock_pass_74 rfl (lv_at hl 0 rfl) ?_
  refine ab_gx (pc := 75) (v := .ref (q 1)) X hX 11 1 0 rfl rfl (Nat.le_of_ble_eq_true rfl) in_Clock rfl tw_117 rfl d_Clock_pass_75 ?_
  refine ab_gx (pc := 78) (v := .int (u 0 10)) X hX 1 7 12 rfl rfl (Nat.le_of_ble_eq_true rfl) in_State rfl tw_128 rfl d_Clock_pass_78 ?_
  refine lv_sipush (pc := 81) (v := 2560) X.1 X.2.1 d_Clock_pass_81 (by decide) ?_
  refine lv_icmp_lt (pc := 84) (tgt := 91) X.1 X.2.1 d_Clock_pass_84 (by decide) (fun h5 => ?_) (fun h5 => ?_)
  ·
    exact ab_kv_ret (pc := 91) X hr hk hX (by rw [g_Clock_pass_74, if_pos h5]) d_Clock_pass_91
  ·
    refine lv_aload_n (pc := 87) X.1 X.2.1 d_Clock_pass_87 rfl (lv_at hl 0 rfl) ?_
    refine ab_kv_callV (pc := 88) (wr := []) (w := (wC t q)) (u := u) (F := f_Clock_endFrame u) (as := []) (rest := []) X hX (c_Clock_endFrame l D t q u) ok_Clock_endFrame okv_Clock_endFrame tw_135 11 1 rfl rfl rfl hl.1 rfl (Nat.le_of_ble_eq_true rfl) ⟨rfl, rfl, Nat.le_of_ble_eq_true rfl, Nat.le_of_ble_eq_true rfl⟩ ⟨Nat.zero_le _, Nat.zero_le _⟩ d_Clock_pass_88 (fun H locs hX => ?_)
    exact ab_kv_ret (pc := 91) X hr hk hX (by rw [g_Clock_pass_74, if_neg h5]) d_Clock_pass_91
set_option maxHeartbeats 1000000 in
set_option maxRecDepth 100000 in
theorem k_Clock_pass_46 {p : Program} {l : Launch} {e : Env} {s : State} {m : MethodId} {args : Array Value} {below : List Frame} {meth : Method} {c : Code} {A : Nat → Prop} {D : va_G} {t : Nat → ClassId} {q : Nat → Nat} (X : ab_cx p s m args c b_Clock_pass 3 y_Clock_pass.cls D (tyC t)) (hr : meth.sig.returnType = none) (hk : meth.locks = false) (u : SS) (v2 : Int32) {H : Heap} {locs : List Loc} {ls : Array Slot} (hX : ab_hx D (wC t q u) A s.heap H locs) (hl : lv_has ls 3 [(0, .ref (q 11)), (2, .int v2)]) :
    W p l e { frames := 2, cells := 0, slots := 0, locals := 40 } s m args below meth c H locs 0 0 (ab_kv_E below args s D (tyC t) (wC t q) A (g_Clock_pass_46 u v2)) (F0 m 46 ls []) := by
  refine lv_iload_n (pc := 46) X.1 X.2.1 d_Clock_pass_46 rfl (lv_at hl 1 rfl) ?_
  refine lv_sipush (pc := 47) (v := 2048) X.1 X.2.1 d_Clock_pass_47 (by decide) ?_
  refine lv_icmp_ge (pc := 50) (tgt := 74) X.1 X.2.1 d_Clock_pass_50 (by decide) (fun h3 => ?_) (fun h3 => ?_)
  ·
    rw [show g_Clock_pass_46 u v2 = g_Clock_pass_74 u from by rw [g_Clock_pass_46, if_pos h3]]
    exact k_Clock_pass_74 X hr hk u  hX (lv_sub hl [0] rfl)
  ·
    refine lv_aload_n (pc := 53) X.1 X.2.1 d_Clock_pass_53 rfl (lv_at hl 0 rfl) ?_
    refine ab_gx (pc := 54) (v := .ref (q 1)) X hX 11 1 0 rfl rfl (Nat.le_of_ble_eq_true rfl) in_Clock rfl tw_117 rfl d_Clock_pass_54 ?_
    refine ab_gx (pc := 57) (v := .int (u 0 10)) X hX 1 7 12 rfl rfl (Nat.le_of_ble_eq_true rfl) in_State rfl tw_128 rfl d_Clock_pass_57 ?_
    refine lv_sipush (pc := 60) (v := 2048) X.1 X.2.1 d_Clock_pass_60 (by decide) ?_
    refine lv_icmp_lt (pc := 63) (tgt := 74) X.1 X.2.1 d_Clock_pass_63 (by decide) (fun h4 => ?_) (fun h4 => ?_)
    ·
      rw [show g_Clock_pass_46 u v2 = g_Clock_pass_74 u from by rw [g_Clock_pass_46, if_neg h3, if_pos h4]]
      exact k_Clock_pass_74 X hr hk u  hX (lv_sub hl [0] rfl)
    ·
      refine lv_aload_n (pc := 66) X.1 X.2.1 d_Clock_pass_66 rfl (lv_at hl 0 rfl) ?_
      refine ab_gx (pc := 67) (v := .ref (q 1)) X hX 11 1 0 rfl rfl (Nat.le_of_ble_eq_true rfl) in_Clock rfl tw_117 rfl d_Clock_pass_67 ?_
      refine lv_iconst (pc := 70) (v := 2) X.1 X.2.1 d_Clock_pass_70 (by decide) ?_
      refine ab_px (pc := 71) (ws' := (wC t q (stt u 0 6 2))) X hX 1 7 8 ty_State ty_State_ok nm_State rfl rfl (Nat.le_of_ble_eq_true rfl) in_State rfl tw_124 rfl rfl rfl rfl (Nat.le_of_ble_eq_true rfl) (sf_wC_1_8 t q u 2) d_Clock_pass_71 (fun H locs hX => ?_)
      rw [show g_Clock_pass_46 u v2 = g_Clock_pass_74 (stt u 0 6 2) from by rw [g_Clock_pass_46, if_neg h3, if_neg h4]]
      exact k_Clock_pass_74 X hr hk (stt u 0 6 2)  hX (lv_sub hl [0] rfl)
set_option maxHeartbeats 1000000 in
set_option maxRecDepth 100000 in
theorem c_Clock_pass (l : Launch) (D : va_G) (t : Nat → ClassId) (q : Nat → Nat) (u : SS) (x1 : Int32) : ab_kv l D (tyC t) (wC t q) y_Clock_pass b_Clock_pass 3 { frames := 2, cells := 0, slots := 0, locals := 40 } [.ref (q 11), .int x1] u (f_Clock_pass u x1) := by
  refine ab_kv_ofW (by decide) (Nat.le_of_ble_eq_true rfl) (fun p e s m below meth c ls A X hr hk hl hX => ?_)
  have hl : lv_has ls 3 [(0, .ref (q 11)), (1, .int x1)] := hl
  refine lv_aload_n (pc := 0) X.1 X.2.1 d_Clock_pass_0 rfl (lv_at hl 0 rfl) ?_
  refine ab_gx (pc := 1) (v := .ref (q 1)) X hX 11 1 0 rfl rfl (Nat.le_of_ble_eq_true rfl) in_Clock rfl tw_117 rfl d_Clock_pass_1 ?_
  refine ab_gx (pc := 4) (v := .int (u 0 10)) X hX 1 7 12 rfl rfl (Nat.le_of_ble_eq_true rfl) in_State rfl tw_128 rfl d_Clock_pass_4 ?_
  refine lv_istore_n (pc := 7) (lv' := [(2, .int (u 0 10)), (0, .ref (q 11)), (1, .int x1)]) X.1 X.2.1 d_Clock_pass_7 rfl hl (Nat.le_of_ble_eq_true rfl) rfl (fun ls hl => ?_)
  refine lv_aload_n (pc := 8) X.1 X.2.1 d_Clock_pass_8 rfl (lv_at hl 1 rfl) ?_
  refine ab_gx (pc := 9) (v := .ref (q 1)) X hX 11 1 0 rfl rfl (Nat.le_of_ble_eq_true rfl) in_Clock rfl tw_117 rfl d_Clock_pass_9 ?_
  refine lv_iload_n (pc := 12) X.1 X.2.1 d_Clock_pass_12 rfl (lv_at hl 0 rfl) ?_
  refine lv_iload_n (pc := 13) X.1 X.2.1 d_Clock_pass_13 rfl (lv_at hl 2 rfl) ?_
  refine lv_iadd (pc := 14) X.1 X.2.1 d_Clock_pass_14 ?_
  refine ab_px (pc := 15) (ws' := (wC t q (stt u 0 10 ((u 0 10) + x1)))) X hX 1 7 12 ty_State ty_State_ok nm_State rfl rfl (Nat.le_of_ble_eq_true rfl) in_State rfl tw_128 rfl rfl rfl rfl (Nat.le_of_ble_eq_true rfl) (sf_wC_1_12 t q u ((u 0 10) + x1)) d_Clock_pass_15 (fun H locs hX => ?_)
  refine lv_iload_n (pc := 18) X.1 X.2.1 d_Clock_pass_18 rfl (lv_at hl 0 rfl) ?_
  refine lv_sipush (pc := 19) (v := 1024) X.1 X.2.1 d_Clock_pass_19 (by decide) ?_
  refine lv_icmp_ge (pc := 22) (tgt := 46) X.1 X.2.1 d_Clock_pass_22 (by decide) (fun h1 => ?_) (fun h1 => ?_)
  ·
    rw [show f_Clock_pass u x1 = g_Clock_pass_46 (stt u 0 10 ((u 0 10) + x1)) (u 0 10) from by rw [f_Clock_pass, if_pos h1]]
    exact k_Clock_pass_46 X hr hk (stt u 0 10 ((u 0 10) + x1)) (u 0 10)  hX (lv_sub hl [1, 0] rfl)
  ·
    refine lv_aload_n (pc := 25) X.1 X.2.1 d_Clock_pass_25 rfl (lv_at hl 1 rfl) ?_
    refine ab_gx (pc := 26) (v := .ref (q 1)) X hX 11 1 0 rfl rfl (Nat.le_of_ble_eq_true rfl) in_Clock rfl tw_117 rfl d_Clock_pass_26 ?_
    refine ab_gx (pc := 29) (v := .int ((u 0 10) + x1)) X hX 1 7 12 rfl rfl (Nat.le_of_ble_eq_true rfl) in_State rfl tw_128 rfl d_Clock_pass_29 ?_
    refine lv_sipush (pc := 32) (v := 1024) X.1 X.2.1 d_Clock_pass_32 (by decide) ?_
    refine lv_icmp_lt (pc := 35) (tgt := 46) X.1 X.2.1 d_Clock_pass_35 (by decide) (fun h2 => ?_) (fun h2 => ?_)
    ·
      rw [show f_Clock_pass u x1 = g_Clock_pass_46 (stt u 0 10 ((u 0 10) + x1)) (u 0 10) from by rw [f_Clock_pass, if_neg h1, if_pos h2]]
      exact k_Clock_pass_46 X hr hk (stt u 0 10 ((u 0 10) + x1)) (u 0 10)  hX (lv_sub hl [1, 0] rfl)
    ·
      refine lv_aload_n (pc := 38) X.1 X.2.1 d_Clock_pass_38 rfl (lv_at hl 1 rfl) ?_
      refine ab_gx (pc := 39) (v := .ref (q 1)) X hX 11 1 0 rfl rfl (Nat.le_of_ble_eq_true rfl) in_Clock rfl tw_117 rfl d_Clock_pass_39 ?_
      refine lv_iconst (pc := 42) (v := 1) X.1 X.2.1 d_Clock_pass_42 (by decide) ?_
      refine ab_px (pc := 43) (ws' := (wC t q (stt (stt u 0 10 ((u 0 10) + x1)) 0 6 1))) X hX 1 7 8 ty_State ty_State_ok nm_State rfl rfl (Nat.le_of_ble_eq_true rfl) in_State rfl tw_124 rfl rfl rfl rfl (Nat.le_of_ble_eq_true rfl) (sf_wC_1_8 t q (stt u 0 10 ((u 0 10) + x1)) 1) d_Clock_pass_43 (fun H locs hX => ?_)
      rw [show f_Clock_pass u x1 = g_Clock_pass_46 (stt (stt u 0 10 ((u 0 10) + x1)) 0 6 1) (u 0 10) from by rw [f_Clock_pass, if_neg h1, if_neg h2]]
      exact k_Clock_pass_46 X hr hk (stt (stt u 0 10 ((u 0 10) + x1)) 0 6 1) (u 0 10)  hX (lv_sub hl [1, 0] rfl)
abbrev b_Ports_setSwitches : ByteArray := prog_5_method_2_code
def y_Ports_setSwitches : MethodName := ⟨"ArcadeBoard$Ports", "setSwitches", "(II)Z"⟩
theorem d_Ports_setSwitches_0 : decode b_Ports_setSwitches 0 = .ok (.iload_n 1, 1) := by decide +kernel
theorem d_Ports_setSwitches_1 : decode b_Ports_setSwitches 1 = .ok (.ifCond .ne 14, 3) := by decide +kernel
theorem d_Ports_setSwitches_4 : decode b_Ports_setSwitches 4 = .ok (.aload_n 0, 1) := by decide +kernel
theorem d_Ports_setSwitches_5 : decode b_Ports_setSwitches 5 = .ok (.iload_n 2, 1) := by decide +kernel
theorem d_Ports_setSwitches_6 : decode b_Ports_setSwitches 6 = .ok (.sipush 255, 3) := by decide +kernel
theorem d_Ports_setSwitches_9 : decode b_Ports_setSwitches 9 = .ok (.iand, 1) := by decide +kernel
theorem d_Ports_setSwitches_10 : decode b_Ports_setSwitches 10 = .ok (.putfield 9, 3) := by decide +kernel
theorem d_Ports_setSwitches_13 : decode b_Ports_setSwitches 13 = .ok (.iconst 1, 1) := by decide +kernel
theorem d_Ports_setSwitches_14 : decode b_Ports_setSwitches 14 = .ok (.ireturn, 1) := by decide +kernel
theorem d_Ports_setSwitches_15 : decode b_Ports_setSwitches 15 = .ok (.iload_n 1, 1) := by decide +kernel
theorem d_Ports_setSwitches_16 : decode b_Ports_setSwitches 16 = .ok (.iconst 1, 1) := by decide +kernel
theorem d_Ports_setSwitches_17 : decode b_Ports_setSwitches 17 = .ok (.if_icmp .ne 14, 3) := by decide +kernel
theorem d_Ports_setSwitches_20 : decode b_Ports_setSwitches 20 = .ok (.aload_n 0, 1) := by decide +kernel
theorem d_Ports_setSwitches_21 : decode b_Ports_setSwitches 21 = .ok (.iload_n 2, 1) := by decide +kernel
theorem d_Ports_setSwitches_22 : decode b_Ports_setSwitches 22 = .ok (.sipush 254, 3) := by decide +kernel
theorem d_Ports_setSwitches_25 : decode b_Ports_setSwitches 25 = .ok (.iand, 1) := by decide +kernel
theorem d_Ports_setSwitches_26 : decode b_Ports_setSwitches 26 = .ok (.putfield 15, 3) := by decide +kernel
theorem d_Ports_setSwitches_29 : decode b_Ports_setSwitches 29 = .ok (.iconst 1, 1) := by decide +kernel
theorem d_Ports_setSwitches_30 : decode b_Ports_setSwitches 30 = .ok (.ireturn, 1) := by decide +kernel
theorem d_Ports_setSwitches_31 : decode b_Ports_setSwitches 31 = .ok (.iconst 0, 1) := by decide +kernel
theorem d_Ports_setSwitches_32 : decode b_Ports_setSwitches 32 = .ok (.ireturn, 1) := by decide +kernel
theorem tw_136 : Jvm.Cond.code ⟨"ArcadeBoard$Ports", "setSwitches", "(II)Z"⟩ prog_5_method_2_code 3 (Option.some Jvm.ClassFile.FieldType.boolean) ∈ AL := ab_in (ab_t2 (List.mem_of_getElem? (i := 55) (by decide +kernel))) rfl
theorem tw_137 : Jvm.Cond.initialized "ArcadeBoard$Ports" ∈ AL := ab_in (ab_t1 (List.mem_of_getElem? (i := 6) (by decide +kernel))) rfl
theorem tw_138 : Jvm.Cond.instanceMethod ⟨"ArcadeBoard$Ports", "setSwitches", "(II)Z"⟩ ∈ AL := ab_in (ab_t2 (List.mem_of_getElem? (i := 53) (by decide +kernel))) rfl
theorem tw_139 : Jvm.Cond.selects "ArcadeBoard$Ports" ⟨"ArcadeBoard$Ports", "setSwitches", "(II)Z"⟩ ⟨"ArcadeBoard$Ports", "setSwitches", "(II)Z"⟩ ∈ AL := ab_in (ab_t2 (List.mem_of_getElem? (i := 54) (by decide +kernel))) rfl
theorem tw_140 : Jvm.Cond.fieldLink "ArcadeBoard$Ports" 15 "ArcadeBoard$Ports" "inputs" "I" ∈ AL := ab_in (ab_t1 (List.mem_of_getElem? (i := 175) (by decide +kernel))) rfl
theorem tw_141 : Jvm.Cond.fieldLink "ArcadeBoard$Ports" 9 "ArcadeBoard$Ports" "dips" "I" ∈ AL := ab_in (ab_t1 (List.mem_of_getElem? (i := 174) (by decide +kernel))) rfl
theorem ok_Ports_setSwitches : ab_yok y_Ports_setSwitches b_Ports_setSwitches 3 (some .boolean) 2 := ⟨tw_136, tw_137, by decide, by decide, by decide +kernel⟩
theorem okv_Ports_setSwitches : ab_yok_V y_Ports_setSwitches := ⟨tw_138, tw_139⟩
set_option maxHeartbeats 1000000 in
set_option maxRecDepth 100000 in
theorem c_Ports_setSwitches (l : Launch) (D : va_G) (t : Nat → ClassId) (q : Nat → Nat) (u : SS) (x1 : Int32) (x2 : Int32) : ab_ki l D (tyC t) (wC t q) y_Ports_setSwitches b_Ports_setSwitches 3 .boolean { frames := 0, cells := 0, slots := 0, locals := 0 } [.ref (q 8), .int x1, .int x2] u (f_Ports_setSwitches u x1 x2) := by
  refine ab_ki_ofW (by decide) (Nat.le_of_ble_eq_true rfl) (fun p e s m below meth c ls A X hr hk hl hX => ?_)
  have hl : lv_has ls 3 [(0, .ref (q 8)), (1, .int x1), (2, .int x2)] := hl
  refine lv_iload_n (pc := 0) X.1 X.2.1 d_Ports_setSwitches_0 rfl (lv_at hl 1 rfl) ?_
  refine lv_if_ne (pc := 1) (tgt := 15) X.1 X.2.1 d_Ports_setSwitches_1 (by decide) (fun h1 => ?_) (fun h1 => ?_)
  ·
    refine lv_iload_n (pc := 15) X.1 X.2.1 d_Ports_setSwitches_15 rfl (lv_at hl 1 rfl) ?_
    refine lv_iconst (pc := 16) (v := 1) X.1 X.2.1 d_Ports_setSwitches_16 (by decide) ?_
    refine lv_icmp_ne (pc := 17) (tgt := 31) X.1 X.2.1 d_Ports_setSwitches_17 (by decide) (fun h2 => ?_) (fun h2 => ?_)
    ·
      refine lv_iconst (pc := 31) (v := 0) X.1 X.2.1 d_Ports_setSwitches_31 (by decide) ?_
      exact ab_ki_ret (pc := 32) X hr hk hX rfl (by rw [f_Ports_setSwitches, if_neg h1, if_neg h2]) d_Ports_setSwitches_32
    ·
      refine lv_aload_n (pc := 20) X.1 X.2.1 d_Ports_setSwitches_20 rfl (lv_at hl 0 rfl) ?_
      refine lv_iload_n (pc := 21) X.1 X.2.1 d_Ports_setSwitches_21 rfl (lv_at hl 2 rfl) ?_
      refine lv_sipush (pc := 22) (v := 254) X.1 X.2.1 d_Ports_setSwitches_22 (by decide) ?_
      refine lv_iand (pc := 25) X.1 X.2.1 d_Ports_setSwitches_25 ?_
      refine ab_px (pc := 26) (ws' := (wC t q (stt u 0 16 (x2 &&& 254)))) X hX 8 3 3 ty_Ports ty_Ports_ok nm_Ports rfl rfl (Nat.le_of_ble_eq_true rfl) in_Ports rfl tw_140 rfl rfl rfl rfl (Nat.le_of_ble_eq_true rfl) (sf_wC_8_3 t q u (x2 &&& 254)) d_Ports_setSwitches_26 (fun H locs hX => ?_)
      refine lv_iconst (pc := 29) (v := 1) X.1 X.2.1 d_Ports_setSwitches_29 (by decide) ?_
      exact ab_ki_ret (pc := 30) X hr hk hX rfl (by rw [f_Ports_setSwitches, if_neg h1, if_pos h2]) d_Ports_setSwitches_30
  ·
    refine lv_aload_n (pc := 4) X.1 X.2.1 d_Ports_setSwitches_4 rfl (lv_at hl 0 rfl) ?_
    refine lv_iload_n (pc := 5) X.1 X.2.1 d_Ports_setSwitches_5 rfl (lv_at hl 2 rfl) ?_
    refine lv_sipush (pc := 6) (v := 255) X.1 X.2.1 d_Ports_setSwitches_6 (by decide) ?_
    refine lv_iand (pc := 9) X.1 X.2.1 d_Ports_setSwitches_9 ?_
    refine ab_px (pc := 10) (ws' := (wC t q (stt u 0 15 (x2 &&& 255)))) X hX 8 3 2 ty_Ports ty_Ports_ok nm_Ports rfl rfl (Nat.le_of_ble_eq_true rfl) in_Ports rfl tw_141 rfl rfl rfl rfl (Nat.le_of_ble_eq_true rfl) (sf_wC_8_2 t q u (x2 &&& 255)) d_Ports_setSwitches_10 (fun H locs hX => ?_)
    refine lv_iconst (pc := 13) (v := 1) X.1 X.2.1 d_Ports_setSwitches_13 (by decide) ?_
    exact ab_ki_ret (pc := 14) X hr hk hX rfl (by rw [f_Ports_setSwitches, if_pos h1]) d_Ports_setSwitches_14
abbrev b_Ports_in : ByteArray := prog_5_method_3_code
def y_Ports_in : MethodName := ⟨"ArcadeBoard$Ports", "in", "(I)I"⟩
theorem d_Ports_in_0 : decode b_Ports_in 0 = .ok (.iload_n 1, 1) := by decide +kernel
theorem d_Ports_in_1 : decode b_Ports_in 1 = .ok (.tableswitch 83 0 3 #[31, 36, 83, 60], 31) := by decide +kernel
theorem d_Ports_in_32 : decode b_Ports_in 32 = .ok (.aload_n 0, 1) := by decide +kernel
theorem d_Ports_in_33 : decode b_Ports_in 33 = .ok (.getfield 9, 3) := by decide +kernel
theorem d_Ports_in_36 : decode b_Ports_in 36 = .ok (.ireturn, 1) := by decide +kernel
theorem d_Ports_in_37 : decode b_Ports_in 37 = .ok (.aload_n 0, 1) := by decide +kernel
theorem d_Ports_in_38 : decode b_Ports_in 38 = .ok (.getfield 18, 3) := by decide +kernel
theorem d_Ports_in_41 : decode b_Ports_in 41 = .ok (.getfield 26, 3) := by decide +kernel
theorem d_Ports_in_44 : decode b_Ports_in 44 = .ok (.ifCond .le 12, 3) := by decide +kernel
theorem d_Ports_in_47 : decode b_Ports_in 47 = .ok (.aload_n 0, 1) := by decide +kernel
theorem d_Ports_in_48 : decode b_Ports_in 48 = .ok (.getfield 15, 3) := by decide +kernel
theorem d_Ports_in_51 : decode b_Ports_in 51 = .ok (.iconst 1, 1) := by decide +kernel
theorem d_Ports_in_52 : decode b_Ports_in 52 = .ok (.iadd, 1) := by decide +kernel
theorem d_Ports_in_53 : decode b_Ports_in 53 = .ok (.goto 7, 3) := by decide +kernel
theorem d_Ports_in_56 : decode b_Ports_in 56 = .ok (.aload_n 0, 1) := by decide +kernel
theorem d_Ports_in_57 : decode b_Ports_in 57 = .ok (.getfield 15, 3) := by decide +kernel
theorem d_Ports_in_60 : decode b_Ports_in 60 = .ok (.ireturn, 1) := by decide +kernel
theorem d_Ports_in_61 : decode b_Ports_in 61 = .ok (.aload_n 0, 1) := by decide +kernel
theorem d_Ports_in_62 : decode b_Ports_in 62 = .ok (.getfield 18, 3) := by decide +kernel
theorem d_Ports_in_65 : decode b_Ports_in 65 = .ok (.getfield 31, 3) := by decide +kernel
theorem d_Ports_in_68 : decode b_Ports_in 68 = .ok (.aload_n 0, 1) := by decide +kernel
theorem d_Ports_in_69 : decode b_Ports_in 69 = .ok (.getfield 18, 3) := by decide +kernel
theorem d_Ports_in_72 : decode b_Ports_in 72 = .ok (.getfield 34, 3) := by decide +kernel
theorem d_Ports_in_75 : decode b_Ports_in 75 = .ok (.ishl, 1) := by decide +kernel
theorem d_Ports_in_76 : decode b_Ports_in 76 = .ok (.bipush 8, 2) := by decide +kernel
theorem d_Ports_in_78 : decode b_Ports_in 78 = .ok (.ishr, 1) := by decide +kernel
theorem d_Ports_in_79 : decode b_Ports_in 79 = .ok (.sipush 255, 3) := by decide +kernel
theorem d_Ports_in_82 : decode b_Ports_in 82 = .ok (.iand, 1) := by decide +kernel
theorem d_Ports_in_83 : decode b_Ports_in 83 = .ok (.ireturn, 1) := by decide +kernel
theorem d_Ports_in_84 : decode b_Ports_in 84 = .ok (.iconst 0, 1) := by decide +kernel
theorem d_Ports_in_85 : decode b_Ports_in 85 = .ok (.ireturn, 1) := by decide +kernel
theorem tw_142 : Jvm.Cond.code ⟨"ArcadeBoard$Ports", "in", "(I)I"⟩ prog_5_method_3_code 2 (Option.some Jvm.ClassFile.FieldType.int) ∈ AL := ab_in (ab_t3 (List.mem_of_getElem? (i := 145) (by decide +kernel))) rfl
theorem tw_143 : Jvm.Cond.instanceMethod ⟨"ArcadeBoard$Ports", "in", "(I)I"⟩ ∈ AL := ab_in (ab_t3 (List.mem_of_getElem? (i := 143) (by decide +kernel))) rfl
theorem tw_144 : Jvm.Cond.selects "ArcadeBoard$Ports" ⟨"ArcadeBoard$Ports", "in", "(I)I"⟩ ⟨"ArcadeBoard$Ports", "in", "(I)I"⟩ ∈ AL := ab_in (ab_t3 (List.mem_of_getElem? (i := 144) (by decide +kernel))) rfl
theorem tw_145 : Jvm.Cond.fieldLink "ArcadeBoard$Ports" 18 "ArcadeBoard$Ports" "state" "LArcadeBoard$State;" ∈ AL := ab_in (ab_t1 (List.mem_of_getElem? (i := 172) (by decide +kernel))) rfl
theorem tw_146 : Jvm.Cond.fieldLink "ArcadeBoard$Ports" 26 "ArcadeBoard$State" "coinCount" "I" ∈ AL := ab_in (ab_t1 (List.mem_of_getElem? (i := 84) (by decide +kernel))) rfl
theorem tw_147 : Jvm.Cond.fieldLink "ArcadeBoard$Ports" 31 "ArcadeBoard$State" "shift" "I" ∈ AL := ab_in (ab_t1 (List.mem_of_getElem? (i := 67) (by decide +kernel))) rfl
theorem tw_148 : Jvm.Cond.fieldLink "ArcadeBoard$Ports" 34 "ArcadeBoard$State" "offset" "I" ∈ AL := ab_in (ab_t1 (List.mem_of_getElem? (i := 71) (by decide +kernel))) rfl
theorem ok_Ports_in : ab_yok y_Ports_in b_Ports_in 2 (some .int) 1 := ⟨tw_142, tw_137, by decide, by decide, by decide +kernel⟩
theorem okv_Ports_in : ab_yok_V y_Ports_in := ⟨tw_143, tw_144⟩
set_option maxHeartbeats 1000000 in
set_option maxRecDepth 100000 in
theorem c_Ports_in (l : Launch) (D : va_G) (t : Nat → ClassId) (q : Nat → Nat) (u : SS) (x1 : Int32) : ab_ki l D (tyC t) (wC t q) y_Ports_in b_Ports_in 2 .int { frames := 0, cells := 0, slots := 0, locals := 0 } [.ref (q 8), .int x1] u ((f_Ports_in u x1, u)) := by
  refine ab_ki_ofW (by decide) (Nat.le_of_ble_eq_true rfl) (fun p e s m below meth c ls A X hr hk hl hX => ?_)
  have hl : lv_has ls 2 [(0, .ref (q 8)), (1, .int x1)] := hl
  refine lv_iload_n (pc := 0) X.1 X.2.1 d_Ports_in_0 rfl (lv_at hl 1 rfl) ?_
  by_cases h1 : x1 = 0
  ·
    refine ab_swIn (pc := 1) (tgt := 32) (off := 31) X.1 X.2.1 d_Ports_in_1 h1 (by decide) (by decide) (by decide) (by decide) ?_
    refine lv_aload_n (pc := 32) X.1 X.2.1 d_Ports_in_32 rfl (lv_at hl 0 rfl) ?_
    refine ab_gx (pc := 33) (v := .int (u 0 15)) X hX 8 3 2 rfl rfl (Nat.le_of_ble_eq_true rfl) in_Ports rfl tw_141 rfl d_Ports_in_33 ?_
    exact ab_ki_ret (pc := 36) X hr hk hX rfl (by rw [f_Ports_in, if_pos h1]) d_Ports_in_36
  ·
    by_cases h2 : x1 = 1
    ·
      refine ab_swIn (pc := 1) (tgt := 37) (off := 36) X.1 X.2.1 d_Ports_in_1 h2 (by decide) (by decide) (by decide) (by decide) ?_
      refine lv_aload_n (pc := 37) X.1 X.2.1 d_Ports_in_37 rfl (lv_at hl 0 rfl) ?_
      refine ab_gx (pc := 38) (v := .ref (q 1)) X hX 8 3 0 rfl rfl (Nat.le_of_ble_eq_true rfl) in_Ports rfl tw_145 rfl d_Ports_in_38 ?_
      refine ab_gx (pc := 41) (v := .int (u 0 12)) X hX 1 7 14 rfl rfl (Nat.le_of_ble_eq_true rfl) in_State rfl tw_146 rfl d_Ports_in_41 ?_
      refine ab_jn (ls := ls) (rest := []) 60 (if (u 0 12) ≤ 0 then (u 0 16) else ((u 0 16) + 1) : Int32) ?_ (fun J => ?_)
      rotate_left
      ·
        refine lv_if_le (pc := 44) (tgt := 56) X.1 X.2.1 d_Ports_in_44 (by decide) (fun h3 => ?_) (fun h3 => ?_)
        ·
          refine lv_aload_n (pc := 56) X.1 X.2.1 d_Ports_in_56 rfl (lv_at hl 0 rfl) ?_
          refine ab_gx (pc := 57) (v := .int (u 0 16)) X hX 8 3 3 rfl rfl (Nat.le_of_ble_eq_true rfl) in_Ports rfl tw_140 rfl d_Ports_in_57 ?_
          exact ab_jt (by rw [if_pos h3]) J
        ·
          refine lv_aload_n (pc := 47) X.1 X.2.1 d_Ports_in_47 rfl (lv_at hl 0 rfl) ?_
          refine ab_gx (pc := 48) (v := .int (u 0 16)) X hX 8 3 3 rfl rfl (Nat.le_of_ble_eq_true rfl) in_Ports rfl tw_140 rfl d_Ports_in_48 ?_
          refine lv_iconst (pc := 51) (v := 1) X.1 X.2.1 d_Ports_in_51 (by decide) ?_
          refine lv_iadd (pc := 52) X.1 X.2.1 d_Ports_in_52 ?_
          refine lv_goto (pc := 53) (tgt := 60) X.1 X.2.1 d_Ports_in_53 (by decide) ?_
          exact ab_jt (by rw [if_neg h3]) J
      exact ab_ki_ret (pc := 60) X hr hk hX rfl (by rw [f_Ports_in, if_neg h1, if_pos h2]) d_Ports_in_60
    ·
      by_cases h4 : x1 = 2
      ·
        refine ab_swIn (pc := 1) (tgt := 84) (off := 83) X.1 X.2.1 d_Ports_in_1 h4 (by decide) (by decide) (by decide) (by decide) ?_
        refine lv_iconst (pc := 84) (v := 0) X.1 X.2.1 d_Ports_in_84 (by decide) ?_
        exact ab_ki_ret (pc := 85) X hr hk hX rfl (by rw [f_Ports_in, if_neg h1, if_neg h2, if_pos h4]) d_Ports_in_85
      ·
        by_cases h5 : x1 = 3
        ·
          refine ab_swIn (pc := 1) (tgt := 61) (off := 60) X.1 X.2.1 d_Ports_in_1 h5 (by decide) (by decide) (by decide) (by decide) ?_
          refine lv_aload_n (pc := 61) X.1 X.2.1 d_Ports_in_61 rfl (lv_at hl 0 rfl) ?_
          refine ab_gx (pc := 62) (v := .ref (q 1)) X hX 8 3 0 rfl rfl (Nat.le_of_ble_eq_true rfl) in_Ports rfl tw_145 rfl d_Ports_in_62 ?_
          refine ab_gx (pc := 65) (v := .int (u 0 7)) X hX 1 7 9 rfl rfl (Nat.le_of_ble_eq_true rfl) in_State rfl tw_147 rfl d_Ports_in_65 ?_
          refine lv_aload_n (pc := 68) X.1 X.2.1 d_Ports_in_68 rfl (lv_at hl 0 rfl) ?_
          refine ab_gx (pc := 69) (v := .ref (q 1)) X hX 8 3 0 rfl rfl (Nat.le_of_ble_eq_true rfl) in_Ports rfl tw_145 rfl d_Ports_in_69 ?_
          refine ab_gx (pc := 72) (v := .int (u 0 8)) X hX 1 7 10 rfl rfl (Nat.le_of_ble_eq_true rfl) in_State rfl tw_148 rfl d_Ports_in_72 ?_
          refine lv_ishl (pc := 75) X.1 X.2.1 d_Ports_in_75 ?_
          refine lv_bipush (pc := 76) (v := 8) X.1 X.2.1 d_Ports_in_76 (by decide) ?_
          refine lv_ishr (pc := 78) X.1 X.2.1 d_Ports_in_78 ?_
          refine lv_sipush (pc := 79) (v := 255) X.1 X.2.1 d_Ports_in_79 (by decide) ?_
          refine lv_iand (pc := 82) X.1 X.2.1 d_Ports_in_82 ?_
          exact ab_ki_ret (pc := 83) X hr hk hX rfl (by rw [f_Ports_in, if_neg h1, if_neg h2, if_neg h4, if_pos h5]) d_Ports_in_83
        ·
          have hno : x1.toInt < 0 ∨ 3 < x1.toInt := by
            have n0 := lv_neT h1 (k := 0) (a := 0) (by decide)
            have n1 := lv_neT h2 (k := 1) (a := 1) (by decide)
            have n2 := lv_neT h4 (k := 2) (a := 2) (by decide)
            have n3 := lv_neT h5 (k := 3) (a := 3) (by decide)
            omega
          refine lv_tableOut (pc := 1) (tgt := 84) X.1 X.2.1 d_Ports_in_1 hno (by decide) ?_
          refine lv_iconst (pc := 84) (v := 0) X.1 X.2.1 d_Ports_in_84 (by decide) ?_
          exact ab_ki_ret (pc := 85) X hr hk hX rfl (by rw [f_Ports_in, if_neg h1, if_neg h2, if_neg h4, if_neg h5]) d_Ports_in_85
abbrev b_Sounds_trigger : ByteArray := prog_8_method_4_code
def y_Sounds_trigger : MethodName := ⟨"ArcadeBoard$Sounds", "trigger", "(II)V"⟩
theorem d_Sounds_trigger_0 : decode b_Sounds_trigger 0 = .ok (.iconst 0, 1) := by decide +kernel
theorem d_Sounds_trigger_1 : decode b_Sounds_trigger 1 = .ok (.istore_n 3, 1) := by decide +kernel
theorem d_Sounds_trigger_2 : decode b_Sounds_trigger 2 = .ok (.iload_n 3, 1) := by decide +kernel
theorem d_Sounds_trigger_3 : decode b_Sounds_trigger 3 = .ok (.bipush 8, 2) := by decide +kernel
theorem d_Sounds_trigger_5 : decode b_Sounds_trigger 5 = .ok (.if_icmp .ge 46, 3) := by decide +kernel
theorem d_Sounds_trigger_8 : decode b_Sounds_trigger 8 = .ok (.iload_n 2, 1) := by decide +kernel
theorem d_Sounds_trigger_9 : decode b_Sounds_trigger 9 = .ok (.iload_n 3, 1) := by decide +kernel
theorem d_Sounds_trigger_10 : decode b_Sounds_trigger 10 = .ok (.ishr, 1) := by decide +kernel
theorem d_Sounds_trigger_11 : decode b_Sounds_trigger 11 = .ok (.iconst 1, 1) := by decide +kernel
theorem d_Sounds_trigger_12 : decode b_Sounds_trigger 12 = .ok (.iand, 1) := by decide +kernel
theorem d_Sounds_trigger_13 : decode b_Sounds_trigger 13 = .ok (.iconst 1, 1) := by decide +kernel
theorem d_Sounds_trigger_14 : decode b_Sounds_trigger 14 = .ok (.if_icmp .ne 31, 3) := by decide +kernel
theorem d_Sounds_trigger_17 : decode b_Sounds_trigger 17 = .ok (.aload_n 0, 1) := by decide +kernel
theorem d_Sounds_trigger_18 : decode b_Sounds_trigger 18 = .ok (.getfield 9, 3) := by decide +kernel
theorem d_Sounds_trigger_21 : decode b_Sounds_trigger 21 = .ok (.aload_n 0, 1) := by decide +kernel
theorem d_Sounds_trigger_22 : decode b_Sounds_trigger 22 = .ok (.getfield 15, 3) := by decide +kernel
theorem d_Sounds_trigger_25 : decode b_Sounds_trigger 25 = .ok (.bipush 7, 2) := by decide +kernel
theorem d_Sounds_trigger_27 : decode b_Sounds_trigger 27 = .ok (.iand, 1) := by decide +kernel
theorem d_Sounds_trigger_28 : decode b_Sounds_trigger 28 = .ok (.bipush 8, 2) := by decide +kernel
theorem d_Sounds_trigger_30 : decode b_Sounds_trigger 30 = .ok (.iload_n 1, 1) := by decide +kernel
theorem d_Sounds_trigger_31 : decode b_Sounds_trigger 31 = .ok (.imul, 1) := by decide +kernel
theorem d_Sounds_trigger_32 : decode b_Sounds_trigger 32 = .ok (.iload_n 3, 1) := by decide +kernel
theorem d_Sounds_trigger_33 : decode b_Sounds_trigger 33 = .ok (.iadd, 1) := by decide +kernel
theorem d_Sounds_trigger_34 : decode b_Sounds_trigger 34 = .ok (.iastore, 1) := by decide +kernel
theorem d_Sounds_trigger_35 : decode b_Sounds_trigger 35 = .ok (.aload_n 0, 1) := by decide +kernel
theorem d_Sounds_trigger_36 : decode b_Sounds_trigger 36 = .ok (.dup, 1) := by decide +kernel
theorem d_Sounds_trigger_37 : decode b_Sounds_trigger 37 = .ok (.getfield 15, 3) := by decide +kernel
theorem d_Sounds_trigger_40 : decode b_Sounds_trigger 40 = .ok (.iconst 1, 1) := by decide +kernel
theorem d_Sounds_trigger_41 : decode b_Sounds_trigger 41 = .ok (.iadd, 1) := by decide +kernel
theorem d_Sounds_trigger_42 : decode b_Sounds_trigger 42 = .ok (.putfield 15, 3) := by decide +kernel
theorem d_Sounds_trigger_45 : decode b_Sounds_trigger 45 = .ok (.iinc 3 1, 3) := by decide +kernel
theorem d_Sounds_trigger_48 : decode b_Sounds_trigger 48 = .ok (.goto (-46), 3) := by decide +kernel
theorem d_Sounds_trigger_51 : decode b_Sounds_trigger 51 = .ok (.return_, 1) := by decide +kernel
theorem tw_149 : Jvm.Cond.code ⟨"ArcadeBoard$Sounds", "trigger", "(II)V"⟩ prog_8_method_4_code 4 (Option.none : Option Jvm.ClassFile.FieldType) ∈ AL := ab_in (ab_t3 (List.mem_of_getElem? (i := 141) (by decide +kernel))) rfl
theorem tw_150 : Jvm.Cond.initialized "ArcadeBoard$Sounds" ∈ AL := ab_in (ab_t1 (List.mem_of_getElem? (i := 5) (by decide +kernel))) rfl
theorem tw_151 : Jvm.Cond.instanceMethod ⟨"ArcadeBoard$Sounds", "trigger", "(II)V"⟩ ∈ AL := ab_in (ab_t3 (List.mem_of_getElem? (i := 139) (by decide +kernel))) rfl
theorem tw_152 : Jvm.Cond.selects "ArcadeBoard$Sounds" ⟨"ArcadeBoard$Sounds", "trigger", "(II)V"⟩ ⟨"ArcadeBoard$Sounds", "trigger", "(II)V"⟩ ∈ AL := ab_in (ab_t3 (List.mem_of_getElem? (i := 140) (by decide +kernel))) rfl
theorem tw_153 : Jvm.Cond.fieldLink "ArcadeBoard$Sounds" 9 "ArcadeBoard$Sounds" "latest" "[I" ∈ AL := ab_in (ab_t1 (List.mem_of_getElem? (i := 159) (by decide +kernel))) rfl
theorem tw_154 : Jvm.Cond.fieldLink "ArcadeBoard$Sounds" 15 "ArcadeBoard$Sounds" "count" "I" ∈ AL := ab_in (ab_t1 (List.mem_of_getElem? (i := 160) (by decide +kernel))) rfl
theorem ok_Sounds_trigger : ab_yok y_Sounds_trigger b_Sounds_trigger 4 none 2 := ⟨tw_149, tw_150, by decide, by decide, by decide +kernel⟩
theorem okv_Sounds_trigger : ab_yok_V y_Sounds_trigger := ⟨tw_151, tw_152⟩
set_option maxHeartbeats 1000000 in
set_option maxRecDepth 100000 in
theorem k_Sounds_trigger_2 {p : Program} {l : Launch} {e : Env} {s : State} {m : MethodId} {args : Array Value} {below : List Frame} {meth : Method} {c : Code} {A : Nat → Prop} {D : va_G} {t : Nat → ClassId} {q : Nat → Nat} (X : ab_cx p s m args c b_Sounds_trigger 4 y_Sounds_trigger.cls D (tyC t)) (hr : meth.sig.returnType = none) (hk : meth.locks = false) (k : Nat) (u : SS) (v1 : Int32) (v2 : Int32) (v3 : Int32) (j : Nat) (hi : v3 = nI j) (hj : j ≤ 8) (hf : 8 < j + k) {H : Heap} {locs : List Loc} {ls : Array Slot} (hX : ab_hx D (wC t q u) A s.heap H locs) (hl : lv_has ls 4 [(0, .ref (q 9)), (1, .int v1), (2, .int v2), (3, .int v3)]) :
    W p l e { frames := 0, cells := 0, slots := 0, locals := 0 } s m args below meth c H locs 0 0 (ab_kv_E below args s D (tyC t) (wC t q) A (g_Sounds_trigger_2 k u v1 v2 v3)) (F0 m 2 ls []) := by
  induction k generalizing u v1 v2 v3 j H locs ls with
  | zero => exact absurd hf (by omega)
  | succ k ih =>
    refine lv_iload_n (pc := 2) X.1 X.2.1 d_Sounds_trigger_2 rfl (lv_at hl 3 rfl) ?_
    refine lv_bipush (pc := 3) (v := 8) X.1 X.2.1 d_Sounds_trigger_3 (by decide) ?_
    refine lv_icmp_ge (pc := 5) (tgt := 51) X.1 X.2.1 d_Sounds_trigger_5 (by decide) (fun h1 => ?_) (fun h1 => ?_)
    ·
      exact ab_kv_ret (pc := 51) X hr hk hX (by rw [g_Sounds_trigger_2, if_pos h1]) d_Sounds_trigger_51
    ·
      refine lv_iload_n (pc := 8) X.1 X.2.1 d_Sounds_trigger_8 rfl (lv_at hl 2 rfl) ?_
      refine lv_iload_n (pc := 9) X.1 X.2.1 d_Sounds_trigger_9 rfl (lv_at hl 3 rfl) ?_
      refine lv_ishr (pc := 10) X.1 X.2.1 d_Sounds_trigger_10 ?_
      refine lv_iconst (pc := 11) (v := 1) X.1 X.2.1 d_Sounds_trigger_11 (by decide) ?_
      refine lv_iand (pc := 12) X.1 X.2.1 d_Sounds_trigger_12 ?_
      refine lv_iconst (pc := 13) (v := 1) X.1 X.2.1 d_Sounds_trigger_13 (by decide) ?_
      refine lv_icmp_ne (pc := 14) (tgt := 45) X.1 X.2.1 d_Sounds_trigger_14 (by decide) (fun h2 => ?_) (fun h2 => ?_)
      ·
        refine lv_iinc (pc := 45) (k := 3) (v := v3 + 1) (lv' := [(3, .int (v3 + 1)), (0, .ref (q 9)), (1, .int v1), (2, .int v2)]) X.1 X.2.1 d_Sounds_trigger_45 hl rfl rfl (Nat.le_of_ble_eq_true rfl) rfl (fun ls hl => ?_)
        refine lv_goto (pc := 48) (tgt := 2) X.1 X.2.1 d_Sounds_trigger_48 (by decide) ?_
        rw [show g_Sounds_trigger_2 (k + 1) u v1 v2 v3 = g_Sounds_trigger_2 k u v1 v2 (v3 + 1) from by rw [g_Sounds_trigger_2, if_neg h1, if_neg h2]]
        exact ih u v1 v2 (v3 + 1) (j + 1) (by rw [hi]; exact nI_1 j) (ab_ltN h1 hi hj rfl (by decide)) (by have := ab_ltN h1 hi hj (N := 8) rfl (by decide); omega) hX (lv_sub hl [1, 2, 3, 0] rfl)
      ·
        refine lv_aload_n (pc := 17) X.1 X.2.1 d_Sounds_trigger_17 rfl (lv_at hl 0 rfl) ?_
        refine ab_gx (pc := 18) (v := .ref (q 10)) X hX 9 6 0 rfl rfl (Nat.le_of_ble_eq_true rfl) in_Sounds rfl tw_153 rfl d_Sounds_trigger_18 ?_
        refine lv_aload_n (pc := 21) X.1 X.2.1 d_Sounds_trigger_21 rfl (lv_at hl 0 rfl) ?_
        refine ab_gx (pc := 22) (v := .int (u 0 17)) X hX 9 6 1 rfl rfl (Nat.le_of_ble_eq_true rfl) in_Sounds rfl tw_154 rfl d_Sounds_trigger_22 ?_
        refine lv_bipush (pc := 25) (v := 7) X.1 X.2.1 d_Sounds_trigger_25 (by decide) ?_
        refine lv_iand (pc := 27) X.1 X.2.1 d_Sounds_trigger_27 ?_
        refine lv_bipush (pc := 28) (v := 8) X.1 X.2.1 d_Sounds_trigger_28 (by decide) ?_
        refine lv_iload_n (pc := 30) X.1 X.2.1 d_Sounds_trigger_30 rfl (lv_at hl 1 rfl) ?_
        refine lv_imul (pc := 31) X.1 X.2.1 d_Sounds_trigger_31 ?_
        refine lv_iload_n (pc := 32) X.1 X.2.1 d_Sounds_trigger_32 rfl (lv_at hl 3 rfl) ?_
        refine lv_iadd (pc := 33) X.1 X.2.1 d_Sounds_trigger_33 ?_
        refine ab_ast (pc := 34) (f := u 4) (j := ((u 0 17) &&& 7).toNatClampNeg) (ws' := (wC t q (stt u 4 (((u 0 17) &&& 7).toNatClampNeg) ((8 * v1) + v3)))) X hX 10 0 rfl rfl (ab_inm _ 3 rfl (by decide)) rfl (sa_wC_10 t q u (((u 0 17) &&& 7).toNatClampNeg) ((8 * v1) + v3)) d_Sounds_trigger_34 (fun H locs hX => ?_)
        refine lv_aload_n (pc := 35) X.1 X.2.1 d_Sounds_trigger_35 rfl (lv_at hl 0 rfl) ?_
        refine lv_dup (pc := 36) X.1 X.2.1 d_Sounds_trigger_36 rfl ?_
        refine ab_gx (pc := 37) (v := .int (u 0 17)) X hX 9 6 1 rfl rfl (Nat.le_of_ble_eq_true rfl) in_Sounds rfl tw_154 rfl d_Sounds_trigger_37 ?_
        refine lv_iconst (pc := 40) (v := 1) X.1 X.2.1 d_Sounds_trigger_40 (by decide) ?_
        refine lv_iadd (pc := 41) X.1 X.2.1 d_Sounds_trigger_41 ?_
        refine ab_px (pc := 42) (ws' := (wC t q (stt (stt u 4 (((u 0 17) &&& 7).toNatClampNeg) ((8 * v1) + v3)) 0 17 ((u 0 17) + 1)))) X hX 9 6 1 ty_Sounds ty_Sounds_ok nm_Sounds rfl rfl (Nat.le_of_ble_eq_true rfl) in_Sounds rfl tw_154 rfl rfl rfl rfl (Nat.le_of_ble_eq_true rfl) (sf_wC_9_1 t q (stt u 4 (((u 0 17) &&& 7).toNatClampNeg) ((8 * v1) + v3)) ((u 0 17) + 1)) d_Sounds_trigger_42 (fun H locs hX => ?_)
        refine lv_iinc (pc := 45) (k := 3) (v := v3 + 1) (lv' := [(3, .int (v3 + 1)), (0, .ref (q 9)), (1, .int v1), (2, .int v2)]) X.1 X.2.1 d_Sounds_trigger_45 hl rfl rfl (Nat.le_of_ble_eq_true rfl) rfl (fun ls hl => ?_)
        refine lv_goto (pc := 48) (tgt := 2) X.1 X.2.1 d_Sounds_trigger_48 (by decide) ?_
        rw [show g_Sounds_trigger_2 (k + 1) u v1 v2 v3 = g_Sounds_trigger_2 k (stt (stt u 4 (((u 0 17) &&& 7).toNatClampNeg) ((8 * v1) + v3)) 0 17 ((u 0 17) + 1)) v1 v2 (v3 + 1) from by rw [g_Sounds_trigger_2, if_neg h1, if_pos h2]]
        exact ih (stt (stt u 4 (((u 0 17) &&& 7).toNatClampNeg) ((8 * v1) + v3)) 0 17 ((u 0 17) + 1)) v1 v2 (v3 + 1) (j + 1) (by rw [hi]; exact nI_1 j) (ab_ltN h1 hi hj rfl (by decide)) (by have := ab_ltN h1 hi hj (N := 8) rfl (by decide); omega) hX (lv_sub hl [1, 2, 3, 0] rfl)
set_option maxHeartbeats 1000000 in
set_option maxRecDepth 100000 in
theorem c_Sounds_trigger (l : Launch) (D : va_G) (t : Nat → ClassId) (q : Nat → Nat) (u : SS) (x1 : Int32) (x2 : Int32) : ab_kv l D (tyC t) (wC t q) y_Sounds_trigger b_Sounds_trigger 4 { frames := 0, cells := 0, slots := 0, locals := 0 } [.ref (q 9), .int x1, .int x2] u (f_Sounds_trigger u x1 x2) := by
  refine ab_kv_ofW (by decide) (Nat.le_of_ble_eq_true rfl) (fun p e s m below meth c ls A X hr hk hl hX => ?_)
  have hl : lv_has ls 4 [(0, .ref (q 9)), (1, .int x1), (2, .int x2)] := hl
  refine lv_iconst (pc := 0) (v := 0) X.1 X.2.1 d_Sounds_trigger_0 (by decide) ?_
  refine lv_istore_n (pc := 1) (lv' := [(3, .int 0), (0, .ref (q 9)), (1, .int x1), (2, .int x2)]) X.1 X.2.1 d_Sounds_trigger_1 rfl hl (Nat.le_of_ble_eq_true rfl) rfl (fun ls hl => ?_)
  rw [show f_Sounds_trigger u x1 x2 = g_Sounds_trigger_2 9 u x1 x2 0 from by rw [f_Sounds_trigger]]
  exact k_Sounds_trigger_2 X hr hk 9 u x1 x2 0 0 rfl (Nat.zero_le _) (by decide) hX (lv_sub hl [1, 2, 3, 0] rfl)
abbrev b_Ports_out : ByteArray := prog_5_method_4_code
def y_Ports_out : MethodName := ⟨"ArcadeBoard$Ports", "out", "(II)V"⟩
theorem d_Ports_out_0 : decode b_Ports_out 0 = .ok (.iload_n 1, 1) := by decide +kernel
theorem d_Ports_out_1 : decode b_Ports_out 1 = .ok (.tableswitch 145 2 6 #[35, 49, 79, 104, 134], 35) := by decide +kernel
theorem d_Ports_out_36 : decode b_Ports_out 36 = .ok (.aload_n 0, 1) := by decide +kernel
theorem d_Ports_out_37 : decode b_Ports_out 37 = .ok (.getfield 18, 3) := by decide +kernel
theorem d_Ports_out_40 : decode b_Ports_out 40 = .ok (.iload_n 2, 1) := by decide +kernel
theorem d_Ports_out_41 : decode b_Ports_out 41 = .ok (.bipush 7, 2) := by decide +kernel
theorem d_Ports_out_43 : decode b_Ports_out 43 = .ok (.iand, 1) := by decide +kernel
theorem d_Ports_out_44 : decode b_Ports_out 44 = .ok (.putfield 34, 3) := by decide +kernel
theorem d_Ports_out_47 : decode b_Ports_out 47 = .ok (.goto 99, 3) := by decide +kernel
theorem d_Ports_out_50 : decode b_Ports_out 50 = .ok (.aload_n 0, 1) := by decide +kernel
theorem d_Ports_out_51 : decode b_Ports_out 51 = .ok (.getfield 22, 3) := by decide +kernel
theorem d_Ports_out_54 : decode b_Ports_out 54 = .ok (.iconst 3, 1) := by decide +kernel
theorem d_Ports_out_55 : decode b_Ports_out 55 = .ok (.iload_n 2, 1) := by decide +kernel
theorem d_Ports_out_56 : decode b_Ports_out 56 = .ok (.aload_n 0, 1) := by decide +kernel
theorem d_Ports_out_57 : decode b_Ports_out 57 = .ok (.getfield 18, 3) := by decide +kernel
theorem d_Ports_out_60 : decode b_Ports_out 60 = .ok (.getfield 37, 3) := by decide +kernel
theorem d_Ports_out_63 : decode b_Ports_out 63 = .ok (.iconst (-1), 1) := by decide +kernel
theorem d_Ports_out_64 : decode b_Ports_out 64 = .ok (.ixor, 1) := by decide +kernel
theorem d_Ports_out_65 : decode b_Ports_out 65 = .ok (.iand, 1) := by decide +kernel
theorem d_Ports_out_66 : decode b_Ports_out 66 = .ok (.invokevirtual 40, 3) := by decide +kernel
theorem d_Ports_out_69 : decode b_Ports_out 69 = .ok (.aload_n 0, 1) := by decide +kernel
theorem d_Ports_out_70 : decode b_Ports_out 70 = .ok (.getfield 18, 3) := by decide +kernel
theorem d_Ports_out_73 : decode b_Ports_out 73 = .ok (.iload_n 2, 1) := by decide +kernel
theorem d_Ports_out_74 : decode b_Ports_out 74 = .ok (.putfield 37, 3) := by decide +kernel
theorem d_Ports_out_77 : decode b_Ports_out 77 = .ok (.goto 69, 3) := by decide +kernel
theorem d_Ports_out_80 : decode b_Ports_out 80 = .ok (.aload_n 0, 1) := by decide +kernel
theorem d_Ports_out_81 : decode b_Ports_out 81 = .ok (.getfield 18, 3) := by decide +kernel
theorem d_Ports_out_84 : decode b_Ports_out 84 = .ok (.aload_n 0, 1) := by decide +kernel
theorem d_Ports_out_85 : decode b_Ports_out 85 = .ok (.getfield 18, 3) := by decide +kernel
theorem d_Ports_out_88 : decode b_Ports_out 88 = .ok (.getfield 31, 3) := by decide +kernel
theorem d_Ports_out_91 : decode b_Ports_out 91 = .ok (.bipush 8, 2) := by decide +kernel
theorem d_Ports_out_93 : decode b_Ports_out 93 = .ok (.ishr, 1) := by decide +kernel
theorem d_Ports_out_94 : decode b_Ports_out 94 = .ok (.iload_n 2, 1) := by decide +kernel
theorem d_Ports_out_95 : decode b_Ports_out 95 = .ok (.bipush 8, 2) := by decide +kernel
theorem d_Ports_out_97 : decode b_Ports_out 97 = .ok (.ishl, 1) := by decide +kernel
theorem d_Ports_out_98 : decode b_Ports_out 98 = .ok (.ior, 1) := by decide +kernel
theorem d_Ports_out_99 : decode b_Ports_out 99 = .ok (.putfield 31, 3) := by decide +kernel
theorem d_Ports_out_102 : decode b_Ports_out 102 = .ok (.goto 44, 3) := by decide +kernel
theorem d_Ports_out_105 : decode b_Ports_out 105 = .ok (.aload_n 0, 1) := by decide +kernel
theorem d_Ports_out_106 : decode b_Ports_out 106 = .ok (.getfield 22, 3) := by decide +kernel
theorem d_Ports_out_109 : decode b_Ports_out 109 = .ok (.iconst 5, 1) := by decide +kernel
theorem d_Ports_out_110 : decode b_Ports_out 110 = .ok (.iload_n 2, 1) := by decide +kernel
theorem d_Ports_out_111 : decode b_Ports_out 111 = .ok (.aload_n 0, 1) := by decide +kernel
theorem d_Ports_out_112 : decode b_Ports_out 112 = .ok (.getfield 18, 3) := by decide +kernel
theorem d_Ports_out_115 : decode b_Ports_out 115 = .ok (.getfield 46, 3) := by decide +kernel
theorem d_Ports_out_118 : decode b_Ports_out 118 = .ok (.iconst (-1), 1) := by decide +kernel
theorem d_Ports_out_119 : decode b_Ports_out 119 = .ok (.ixor, 1) := by decide +kernel
theorem d_Ports_out_120 : decode b_Ports_out 120 = .ok (.iand, 1) := by decide +kernel
theorem d_Ports_out_121 : decode b_Ports_out 121 = .ok (.invokevirtual 40, 3) := by decide +kernel
theorem d_Ports_out_124 : decode b_Ports_out 124 = .ok (.aload_n 0, 1) := by decide +kernel
theorem d_Ports_out_125 : decode b_Ports_out 125 = .ok (.getfield 18, 3) := by decide +kernel
theorem d_Ports_out_128 : decode b_Ports_out 128 = .ok (.iload_n 2, 1) := by decide +kernel
theorem d_Ports_out_129 : decode b_Ports_out 129 = .ok (.putfield 46, 3) := by decide +kernel
theorem d_Ports_out_132 : decode b_Ports_out 132 = .ok (.goto 14, 3) := by decide +kernel
theorem d_Ports_out_135 : decode b_Ports_out 135 = .ok (.aload_n 0, 1) := by decide +kernel
theorem d_Ports_out_136 : decode b_Ports_out 136 = .ok (.getfield 18, 3) := by decide +kernel
theorem d_Ports_out_139 : decode b_Ports_out 139 = .ok (.iconst 0, 1) := by decide +kernel
theorem d_Ports_out_140 : decode b_Ports_out 140 = .ok (.putfield 49, 3) := by decide +kernel
theorem d_Ports_out_143 : decode b_Ports_out 143 = .ok (.goto 3, 3) := by decide +kernel
theorem d_Ports_out_146 : decode b_Ports_out 146 = .ok (.return_, 1) := by decide +kernel
theorem tw_155 : Jvm.Cond.code ⟨"ArcadeBoard$Ports", "out", "(II)V"⟩ prog_5_method_4_code 3 (Option.none : Option Jvm.ClassFile.FieldType) ∈ AL := ab_in (ab_t3 (List.mem_of_getElem? (i := 137) (by decide +kernel))) rfl
theorem tw_156 : Jvm.Cond.instanceMethod ⟨"ArcadeBoard$Ports", "out", "(II)V"⟩ ∈ AL := ab_in (ab_t3 (List.mem_of_getElem? (i := 135) (by decide +kernel))) rfl
theorem tw_157 : Jvm.Cond.selects "ArcadeBoard$Ports" ⟨"ArcadeBoard$Ports", "out", "(II)V"⟩ ⟨"ArcadeBoard$Ports", "out", "(II)V"⟩ ∈ AL := ab_in (ab_t3 (List.mem_of_getElem? (i := 136) (by decide +kernel))) rfl
theorem tw_158 : Jvm.Cond.fieldLink "ArcadeBoard$Ports" 22 "ArcadeBoard$Ports" "sounds" "LArcadeBoard$Sounds;" ∈ AL := ab_in (ab_t1 (List.mem_of_getElem? (i := 173) (by decide +kernel))) rfl
theorem tw_159 : Jvm.Cond.fieldLink "ArcadeBoard$Ports" 37 "ArcadeBoard$State" "lastTo3" "I" ∈ AL := ab_in (ab_t1 (List.mem_of_getElem? (i := 88) (by decide +kernel))) rfl
theorem tw_160 : Jvm.Cond.methodLink "ArcadeBoard$Ports" 40 ⟨"ArcadeBoard$Sounds", "trigger", "(II)V"⟩ ∈ AL := ab_in (ab_t3 (List.mem_of_getElem? (i := 138) (by decide +kernel))) rfl
theorem tw_161 : Jvm.Cond.fieldLink "ArcadeBoard$Ports" 46 "ArcadeBoard$State" "lastTo5" "I" ∈ AL := ab_in (ab_t1 (List.mem_of_getElem? (i := 90) (by decide +kernel))) rfl
theorem tw_162 : Jvm.Cond.fieldLink "ArcadeBoard$Ports" 49 "ArcadeBoard$State" "watch" "I" ∈ AL := ab_in (ab_t1 (List.mem_of_getElem? (i := 75) (by decide +kernel))) rfl
theorem ok_Ports_out : ab_yok y_Ports_out b_Ports_out 3 none 2 := ⟨tw_155, tw_137, by decide, by decide, by decide +kernel⟩
theorem okv_Ports_out : ab_yok_V y_Ports_out := ⟨tw_156, tw_157⟩
set_option maxHeartbeats 1000000 in
set_option maxRecDepth 100000 in
theorem c_Ports_out (l : Launch) (D : va_G) (t : Nat → ClassId) (q : Nat → Nat) (u : SS) (x1 : Int32) (x2 : Int32) : ab_kv l D (tyC t) (wC t q) y_Ports_out b_Ports_out 3 { frames := 1, cells := 0, slots := 0, locals := 23 } [.ref (q 8), .int x1, .int x2] u (f_Ports_out u x1 x2) := by
  refine ab_kv_ofW (by decide) (Nat.le_of_ble_eq_true rfl) (fun p e s m below meth c ls A X hr hk hl hX => ?_)
  have hl : lv_has ls 3 [(0, .ref (q 8)), (1, .int x1), (2, .int x2)] := hl
  refine lv_iload_n (pc := 0) X.1 X.2.1 d_Ports_out_0 rfl (lv_at hl 1 rfl) ?_
  by_cases h1 : x1 = 2
  ·
    refine ab_swIn (pc := 1) (tgt := 36) (off := 35) X.1 X.2.1 d_Ports_out_1 h1 (by decide) (by decide) (by decide) (by decide) ?_
    refine lv_aload_n (pc := 36) X.1 X.2.1 d_Ports_out_36 rfl (lv_at hl 0 rfl) ?_
    refine ab_gx (pc := 37) (v := .ref (q 1)) X hX 8 3 0 rfl rfl (Nat.le_of_ble_eq_true rfl) in_Ports rfl tw_145 rfl d_Ports_out_37 ?_
    refine lv_iload_n (pc := 40) X.1 X.2.1 d_Ports_out_40 rfl (lv_at hl 2 rfl) ?_
    refine lv_bipush (pc := 41) (v := 7) X.1 X.2.1 d_Ports_out_41 (by decide) ?_
    refine lv_iand (pc := 43) X.1 X.2.1 d_Ports_out_43 ?_
    refine ab_px (pc := 44) (ws' := (wC t q (stt u 0 8 (x2 &&& 7)))) X hX 1 7 10 ty_State ty_State_ok nm_State rfl rfl (Nat.le_of_ble_eq_true rfl) in_State rfl tw_148 rfl rfl rfl rfl (Nat.le_of_ble_eq_true rfl) (sf_wC_1_10 t q u (x2 &&& 7)) d_Ports_out_44 (fun H locs hX => ?_)
    refine lv_goto (pc := 47) (tgt := 146) X.1 X.2.1 d_Ports_out_47 (by decide) ?_
    exact ab_kv_ret (pc := 146) X hr hk hX (by rw [f_Ports_out, if_pos h1]) d_Ports_out_146
  ·
    by_cases h2 : x1 = 3
    ·
      refine ab_swIn (pc := 1) (tgt := 50) (off := 49) X.1 X.2.1 d_Ports_out_1 h2 (by decide) (by decide) (by decide) (by decide) ?_
      refine lv_aload_n (pc := 50) X.1 X.2.1 d_Ports_out_50 rfl (lv_at hl 0 rfl) ?_
      refine ab_gx (pc := 51) (v := .ref (q 9)) X hX 8 3 1 rfl rfl (Nat.le_of_ble_eq_true rfl) in_Ports rfl tw_158 rfl d_Ports_out_51 ?_
      refine lv_iconst (pc := 54) (v := 3) X.1 X.2.1 d_Ports_out_54 (by decide) ?_
      refine lv_iload_n (pc := 55) X.1 X.2.1 d_Ports_out_55 rfl (lv_at hl 2 rfl) ?_
      refine lv_aload_n (pc := 56) X.1 X.2.1 d_Ports_out_56 rfl (lv_at hl 0 rfl) ?_
      refine ab_gx (pc := 57) (v := .ref (q 1)) X hX 8 3 0 rfl rfl (Nat.le_of_ble_eq_true rfl) in_Ports rfl tw_145 rfl d_Ports_out_57 ?_
      refine ab_gx (pc := 60) (v := .int (u 0 13)) X hX 1 7 15 rfl rfl (Nat.le_of_ble_eq_true rfl) in_State rfl tw_159 rfl d_Ports_out_60 ?_
      refine lv_iconst (pc := 63) (v := (-1)) X.1 X.2.1 d_Ports_out_63 (by decide) ?_
      refine lv_ixor (pc := 64) X.1 X.2.1 d_Ports_out_64 ?_
      refine lv_iand (pc := 65) X.1 X.2.1 d_Ports_out_65 ?_
      refine ab_kv_callV (pc := 66) (wr := []) (w := (wC t q)) (u := u) (F := f_Sounds_trigger u 3 (x2 &&& ((u 0 13) ^^^ (-1)))) (as := [.int 3, .int (x2 &&& ((u 0 13) ^^^ (-1)))]) (rest := []) X hX (c_Sounds_trigger l D t q u 3 (x2 &&& ((u 0 13) ^^^ (-1)))) ok_Sounds_trigger okv_Sounds_trigger tw_160 9 6 rfl rfl rfl hl.1 rfl (Nat.le_of_ble_eq_true rfl) ⟨rfl, rfl, Nat.le_of_ble_eq_true rfl, Nat.le_of_ble_eq_true rfl⟩ ⟨Nat.zero_le _, Nat.zero_le _⟩ d_Ports_out_66 (fun H locs hX => ?_)
      refine lv_aload_n (pc := 69) X.1 X.2.1 d_Ports_out_69 rfl (lv_at hl 0 rfl) ?_
      refine ab_gx (pc := 70) (v := .ref (q 1)) X hX 8 3 0 rfl rfl (Nat.le_of_ble_eq_true rfl) in_Ports rfl tw_145 rfl d_Ports_out_70 ?_
      refine lv_iload_n (pc := 73) X.1 X.2.1 d_Ports_out_73 rfl (lv_at hl 2 rfl) ?_
      refine ab_px (pc := 74) (ws' := (wC t q (stt (f_Sounds_trigger u 3 (x2 &&& ((u 0 13) ^^^ (-1)))) 0 13 x2))) X hX 1 7 15 ty_State ty_State_ok nm_State rfl rfl (Nat.le_of_ble_eq_true rfl) in_State rfl tw_159 rfl rfl rfl rfl (Nat.le_of_ble_eq_true rfl) (sf_wC_1_15 t q (f_Sounds_trigger u 3 (x2 &&& ((u 0 13) ^^^ (-1)))) x2) d_Ports_out_74 (fun H locs hX => ?_)
      refine lv_goto (pc := 77) (tgt := 146) X.1 X.2.1 d_Ports_out_77 (by decide) ?_
      exact ab_kv_ret (pc := 146) X hr hk hX (by rw [f_Ports_out, if_neg h1, if_pos h2]) d_Ports_out_146
    ·
      by_cases h3 : x1 = 4
      ·
        refine ab_swIn (pc := 1) (tgt := 80) (off := 79) X.1 X.2.1 d_Ports_out_1 h3 (by decide) (by decide) (by decide) (by decide) ?_
        refine lv_aload_n (pc := 80) X.1 X.2.1 d_Ports_out_80 rfl (lv_at hl 0 rfl) ?_
        refine ab_gx (pc := 81) (v := .ref (q 1)) X hX 8 3 0 rfl rfl (Nat.le_of_ble_eq_true rfl) in_Ports rfl tw_145 rfl d_Ports_out_81 ?_
        refine lv_aload_n (pc := 84) X.1 X.2.1 d_Ports_out_84 rfl (lv_at hl 0 rfl) ?_
        refine ab_gx (pc := 85) (v := .ref (q 1)) X hX 8 3 0 rfl rfl (Nat.le_of_ble_eq_true rfl) in_Ports rfl tw_145 rfl d_Ports_out_85 ?_
        refine ab_gx (pc := 88) (v := .int (u 0 7)) X hX 1 7 9 rfl rfl (Nat.le_of_ble_eq_true rfl) in_State rfl tw_147 rfl d_Ports_out_88 ?_
        refine lv_bipush (pc := 91) (v := 8) X.1 X.2.1 d_Ports_out_91 (by decide) ?_
        refine lv_ishr (pc := 93) X.1 X.2.1 d_Ports_out_93 ?_
        refine lv_iload_n (pc := 94) X.1 X.2.1 d_Ports_out_94 rfl (lv_at hl 2 rfl) ?_
        refine lv_bipush (pc := 95) (v := 8) X.1 X.2.1 d_Ports_out_95 (by decide) ?_
        refine lv_ishl (pc := 97) X.1 X.2.1 d_Ports_out_97 ?_
        refine lv_ior (pc := 98) X.1 X.2.1 d_Ports_out_98 ?_
        refine ab_px (pc := 99) (ws' := (wC t q (stt u 0 7 (((u 0 7) >>> ((8 : Int32) &&& 31)) ||| (x2 <<< ((8 : Int32) &&& 31)))))) X hX 1 7 9 ty_State ty_State_ok nm_State rfl rfl (Nat.le_of_ble_eq_true rfl) in_State rfl tw_147 rfl rfl rfl rfl (Nat.le_of_ble_eq_true rfl) (sf_wC_1_9 t q u (((u 0 7) >>> ((8 : Int32) &&& 31)) ||| (x2 <<< ((8 : Int32) &&& 31)))) d_Ports_out_99 (fun H locs hX => ?_)
        refine lv_goto (pc := 102) (tgt := 146) X.1 X.2.1 d_Ports_out_102 (by decide) ?_
        exact ab_kv_ret (pc := 146) X hr hk hX (by rw [f_Ports_out, if_neg h1, if_neg h2, if_pos h3]) d_Ports_out_146
      ·
        by_cases h4 : x1 = 5
        ·
          refine ab_swIn (pc := 1) (tgt := 105) (off := 104) X.1 X.2.1 d_Ports_out_1 h4 (by decide) (by decide) (by decide) (by decide) ?_
          refine lv_aload_n (pc := 105) X.1 X.2.1 d_Ports_out_105 rfl (lv_at hl 0 rfl) ?_
          refine ab_gx (pc := 106) (v := .ref (q 9)) X hX 8 3 1 rfl rfl (Nat.le_of_ble_eq_true rfl) in_Ports rfl tw_158 rfl d_Ports_out_106 ?_
          refine lv_iconst (pc := 109) (v := 5) X.1 X.2.1 d_Ports_out_109 (by decide) ?_
          refine lv_iload_n (pc := 110) X.1 X.2.1 d_Ports_out_110 rfl (lv_at hl 2 rfl) ?_
          refine lv_aload_n (pc := 111) X.1 X.2.1 d_Ports_out_111 rfl (lv_at hl 0 rfl) ?_
          refine ab_gx (pc := 112) (v := .ref (q 1)) X hX 8 3 0 rfl rfl (Nat.le_of_ble_eq_true rfl) in_Ports rfl tw_145 rfl d_Ports_out_112 ?_
          refine ab_gx (pc := 115) (v := .int (u 0 14)) X hX 1 7 16 rfl rfl (Nat.le_of_ble_eq_true rfl) in_State rfl tw_161 rfl d_Ports_out_115 ?_
          refine lv_iconst (pc := 118) (v := (-1)) X.1 X.2.1 d_Ports_out_118 (by decide) ?_
          refine lv_ixor (pc := 119) X.1 X.2.1 d_Ports_out_119 ?_
          refine lv_iand (pc := 120) X.1 X.2.1 d_Ports_out_120 ?_
          refine ab_kv_callV (pc := 121) (wr := []) (w := (wC t q)) (u := u) (F := f_Sounds_trigger u 5 (x2 &&& ((u 0 14) ^^^ (-1)))) (as := [.int 5, .int (x2 &&& ((u 0 14) ^^^ (-1)))]) (rest := []) X hX (c_Sounds_trigger l D t q u 5 (x2 &&& ((u 0 14) ^^^ (-1)))) ok_Sounds_trigger okv_Sounds_trigger tw_160 9 6 rfl rfl rfl hl.1 rfl (Nat.le_of_ble_eq_true rfl) ⟨rfl, rfl, Nat.le_of_ble_eq_true rfl, Nat.le_of_ble_eq_true rfl⟩ ⟨Nat.zero_le _, Nat.zero_le _⟩ d_Ports_out_121 (fun H locs hX => ?_)
          refine lv_aload_n (pc := 124) X.1 X.2.1 d_Ports_out_124 rfl (lv_at hl 0 rfl) ?_
          refine ab_gx (pc := 125) (v := .ref (q 1)) X hX 8 3 0 rfl rfl (Nat.le_of_ble_eq_true rfl) in_Ports rfl tw_145 rfl d_Ports_out_125 ?_
          refine lv_iload_n (pc := 128) X.1 X.2.1 d_Ports_out_128 rfl (lv_at hl 2 rfl) ?_
          refine ab_px (pc := 129) (ws' := (wC t q (stt (f_Sounds_trigger u 5 (x2 &&& ((u 0 14) ^^^ (-1)))) 0 14 x2))) X hX 1 7 16 ty_State ty_State_ok nm_State rfl rfl (Nat.le_of_ble_eq_true rfl) in_State rfl tw_161 rfl rfl rfl rfl (Nat.le_of_ble_eq_true rfl) (sf_wC_1_16 t q (f_Sounds_trigger u 5 (x2 &&& ((u 0 14) ^^^ (-1)))) x2) d_Ports_out_129 (fun H locs hX => ?_)
          refine lv_goto (pc := 132) (tgt := 146) X.1 X.2.1 d_Ports_out_132 (by decide) ?_
          exact ab_kv_ret (pc := 146) X hr hk hX (by rw [f_Ports_out, if_neg h1, if_neg h2, if_neg h3, if_pos h4]) d_Ports_out_146
        ·
          by_cases h5 : x1 = 6
          ·
            refine ab_swIn (pc := 1) (tgt := 135) (off := 134) X.1 X.2.1 d_Ports_out_1 h5 (by decide) (by decide) (by decide) (by decide) ?_
            refine lv_aload_n (pc := 135) X.1 X.2.1 d_Ports_out_135 rfl (lv_at hl 0 rfl) ?_
            refine ab_gx (pc := 136) (v := .ref (q 1)) X hX 8 3 0 rfl rfl (Nat.le_of_ble_eq_true rfl) in_Ports rfl tw_145 rfl d_Ports_out_136 ?_
            refine lv_iconst (pc := 139) (v := 0) X.1 X.2.1 d_Ports_out_139 (by decide) ?_
            refine ab_px (pc := 140) (ws' := (wC t q (stt u 0 9 0))) X hX 1 7 11 ty_State ty_State_ok nm_State rfl rfl (Nat.le_of_ble_eq_true rfl) in_State rfl tw_162 rfl rfl rfl rfl (Nat.le_of_ble_eq_true rfl) (sf_wC_1_11 t q u 0) d_Ports_out_140 (fun H locs hX => ?_)
            refine lv_goto (pc := 143) (tgt := 146) X.1 X.2.1 d_Ports_out_143 (by decide) ?_
            exact ab_kv_ret (pc := 146) X hr hk hX (by rw [f_Ports_out, if_neg h1, if_neg h2, if_neg h3, if_neg h4, if_pos h5]) d_Ports_out_146
          ·
            have hno : x1.toInt < 2 ∨ 6 < x1.toInt := by
              have n0 := lv_neT h1 (k := 2) (a := 2) (by decide)
              have n1 := lv_neT h2 (k := 3) (a := 3) (by decide)
              have n2 := lv_neT h3 (k := 4) (a := 4) (by decide)
              have n3 := lv_neT h4 (k := 5) (a := 5) (by decide)
              have n4 := lv_neT h5 (k := 6) (a := 6) (by decide)
              omega
            refine lv_tableOut (pc := 1) (tgt := 146) X.1 X.2.1 d_Ports_out_1 hno (by decide) ?_
            exact ab_kv_ret (pc := 146) X hr hk hX (by rw [f_Ports_out, if_neg h1, if_neg h2, if_neg h3, if_neg h4, if_neg h5]) d_Ports_out_146
abbrev b_Sounds_count : ByteArray := prog_8_method_2_code
def y_Sounds_count : MethodName := ⟨"ArcadeBoard$Sounds", "count", "()I"⟩
theorem d_Sounds_count_0 : decode b_Sounds_count 0 = .ok (.aload_n 0, 1) := by decide +kernel
theorem d_Sounds_count_1 : decode b_Sounds_count 1 = .ok (.getfield 15, 3) := by decide +kernel
theorem d_Sounds_count_4 : decode b_Sounds_count 4 = .ok (.ireturn, 1) := by decide +kernel
theorem tw_163 : Jvm.Cond.code ⟨"ArcadeBoard$Sounds", "count", "()I"⟩ prog_8_method_2_code 1 (Option.some Jvm.ClassFile.FieldType.int) ∈ AL := ab_in (ab_t2 (List.mem_of_getElem? (i := 92) (by decide +kernel))) rfl
theorem tw_164 : Jvm.Cond.instanceMethod ⟨"ArcadeBoard$Sounds", "count", "()I"⟩ ∈ AL := ab_in (ab_t2 (List.mem_of_getElem? (i := 90) (by decide +kernel))) rfl
theorem tw_165 : Jvm.Cond.selects "ArcadeBoard$Sounds" ⟨"ArcadeBoard$Sounds", "count", "()I"⟩ ⟨"ArcadeBoard$Sounds", "count", "()I"⟩ ∈ AL := ab_in (ab_t2 (List.mem_of_getElem? (i := 91) (by decide +kernel))) rfl
theorem ok_Sounds_count : ab_yok y_Sounds_count b_Sounds_count 1 (some .int) 0 := ⟨tw_163, tw_150, by decide, by decide, by decide +kernel⟩
theorem okv_Sounds_count : ab_yok_V y_Sounds_count := ⟨tw_164, tw_165⟩
set_option maxHeartbeats 1000000 in
set_option maxRecDepth 100000 in
theorem c_Sounds_count (l : Launch) (D : va_G) (t : Nat → ClassId) (q : Nat → Nat) (u : SS) : ab_ki l D (tyC t) (wC t q) y_Sounds_count b_Sounds_count 1 .int { frames := 0, cells := 0, slots := 0, locals := 0 } [.ref (q 9)] u ((f_Sounds_count u, u)) := by
  refine ab_ki_ofW (by decide) (Nat.le_of_ble_eq_true rfl) (fun p e s m below meth c ls A X hr hk hl hX => ?_)
  have hl : lv_has ls 1 [(0, .ref (q 9))] := hl
  refine lv_aload_n (pc := 0) X.1 X.2.1 d_Sounds_count_0 rfl (lv_at hl 0 rfl) ?_
  refine ab_gx (pc := 1) (v := .int (u 0 17)) X hX 9 6 1 rfl rfl (Nat.le_of_ble_eq_true rfl) in_Sounds rfl tw_154 rfl d_Sounds_count_1 ?_
  exact ab_ki_ret (pc := 4) X hr hk hX rfl (by rw [f_Sounds_count]) d_Sounds_count_4
abbrev b_Sounds_latestBut : ByteArray := prog_8_method_3_code
def y_Sounds_latestBut : MethodName := ⟨"ArcadeBoard$Sounds", "latestBut", "(I)I"⟩
theorem d_Sounds_latestBut_0 : decode b_Sounds_latestBut 0 = .ok (.iload_n 1, 1) := by decide +kernel
theorem d_Sounds_latestBut_1 : decode b_Sounds_latestBut 1 = .ok (.ifCond .lt 17, 3) := by decide +kernel
theorem d_Sounds_latestBut_4 : decode b_Sounds_latestBut 4 = .ok (.iload_n 1, 1) := by decide +kernel
theorem d_Sounds_latestBut_5 : decode b_Sounds_latestBut 5 = .ok (.bipush 7, 2) := by decide +kernel
theorem d_Sounds_latestBut_7 : decode b_Sounds_latestBut 7 = .ok (.if_icmp .gt 11, 3) := by decide +kernel
theorem d_Sounds_latestBut_10 : decode b_Sounds_latestBut 10 = .ok (.iload_n 1, 1) := by decide +kernel
theorem d_Sounds_latestBut_11 : decode b_Sounds_latestBut 11 = .ok (.aload_n 0, 1) := by decide +kernel
theorem d_Sounds_latestBut_12 : decode b_Sounds_latestBut 12 = .ok (.getfield 15, 3) := by decide +kernel
theorem d_Sounds_latestBut_15 : decode b_Sounds_latestBut 15 = .ok (.if_icmp .lt 5, 3) := by decide +kernel
theorem d_Sounds_latestBut_18 : decode b_Sounds_latestBut 18 = .ok (.iconst (-1), 1) := by decide +kernel
theorem d_Sounds_latestBut_19 : decode b_Sounds_latestBut 19 = .ok (.ireturn, 1) := by decide +kernel
theorem d_Sounds_latestBut_20 : decode b_Sounds_latestBut 20 = .ok (.aload_n 0, 1) := by decide +kernel
theorem d_Sounds_latestBut_21 : decode b_Sounds_latestBut 21 = .ok (.getfield 9, 3) := by decide +kernel
theorem d_Sounds_latestBut_24 : decode b_Sounds_latestBut 24 = .ok (.aload_n 0, 1) := by decide +kernel
theorem d_Sounds_latestBut_25 : decode b_Sounds_latestBut 25 = .ok (.getfield 15, 3) := by decide +kernel
theorem d_Sounds_latestBut_28 : decode b_Sounds_latestBut 28 = .ok (.iconst 1, 1) := by decide +kernel
theorem d_Sounds_latestBut_29 : decode b_Sounds_latestBut 29 = .ok (.isub, 1) := by decide +kernel
theorem d_Sounds_latestBut_30 : decode b_Sounds_latestBut 30 = .ok (.iload_n 1, 1) := by decide +kernel
theorem d_Sounds_latestBut_31 : decode b_Sounds_latestBut 31 = .ok (.isub, 1) := by decide +kernel
theorem d_Sounds_latestBut_32 : decode b_Sounds_latestBut 32 = .ok (.bipush 7, 2) := by decide +kernel
theorem d_Sounds_latestBut_34 : decode b_Sounds_latestBut 34 = .ok (.iand, 1) := by decide +kernel
theorem d_Sounds_latestBut_35 : decode b_Sounds_latestBut 35 = .ok (.iaload, 1) := by decide +kernel
theorem d_Sounds_latestBut_36 : decode b_Sounds_latestBut 36 = .ok (.ireturn, 1) := by decide +kernel
theorem tw_166 : Jvm.Cond.code ⟨"ArcadeBoard$Sounds", "latestBut", "(I)I"⟩ prog_8_method_3_code 2 (Option.some Jvm.ClassFile.FieldType.int) ∈ AL := ab_in (ab_t2 (List.mem_of_getElem? (i := 96) (by decide +kernel))) rfl
theorem tw_167 : Jvm.Cond.instanceMethod ⟨"ArcadeBoard$Sounds", "latestBut", "(I)I"⟩ ∈ AL := ab_in (ab_t2 (List.mem_of_getElem? (i := 94) (by decide +kernel))) rfl
theorem tw_168 : Jvm.Cond.selects "ArcadeBoard$Sounds" ⟨"ArcadeBoard$Sounds", "latestBut", "(I)I"⟩ ⟨"ArcadeBoard$Sounds", "latestBut", "(I)I"⟩ ∈ AL := ab_in (ab_t2 (List.mem_of_getElem? (i := 95) (by decide +kernel))) rfl
theorem ok_Sounds_latestBut : ab_yok y_Sounds_latestBut b_Sounds_latestBut 2 (some .int) 1 := ⟨tw_166, tw_150, by decide, by decide, by decide +kernel⟩
theorem okv_Sounds_latestBut : ab_yok_V y_Sounds_latestBut := ⟨tw_167, tw_168⟩
set_option maxHeartbeats 1000000 in
set_option maxRecDepth 100000 in
theorem c_Sounds_latestBut (l : Launch) (D : va_G) (t : Nat → ClassId) (q : Nat → Nat) (u : SS) (x1 : Int32) : ab_ki l D (tyC t) (wC t q) y_Sounds_latestBut b_Sounds_latestBut 2 .int { frames := 0, cells := 0, slots := 0, locals := 0 } [.ref (q 9), .int x1] u ((f_Sounds_latestBut u x1, u)) := by
  refine ab_ki_ofW (by decide) (Nat.le_of_ble_eq_true rfl) (fun p e s m below meth c ls A X hr hk hl hX => ?_)
  have hl : lv_has ls 2 [(0, .ref (q 9)), (1, .int x1)] := hl
  refine lv_iload_n (pc := 0) X.1 X.2.1 d_Sounds_latestBut_0 rfl (lv_at hl 1 rfl) ?_
  refine lv_if_lt (pc := 1) (tgt := 18) X.1 X.2.1 d_Sounds_latestBut_1 (by decide) (fun h1 => ?_) (fun h1 => ?_)
  ·
    refine lv_iconst (pc := 18) (v := (-1)) X.1 X.2.1 d_Sounds_latestBut_18 (by decide) ?_
    exact ab_ki_ret (pc := 19) X hr hk hX rfl (by rw [f_Sounds_latestBut, if_pos h1]) d_Sounds_latestBut_19
  ·
    refine lv_iload_n (pc := 4) X.1 X.2.1 d_Sounds_latestBut_4 rfl (lv_at hl 1 rfl) ?_
    refine lv_bipush (pc := 5) (v := 7) X.1 X.2.1 d_Sounds_latestBut_5 (by decide) ?_
    refine lv_icmp_gt (pc := 7) (tgt := 18) X.1 X.2.1 d_Sounds_latestBut_7 (by decide) (fun h2 => ?_) (fun h2 => ?_)
    ·
      refine lv_iconst (pc := 18) (v := (-1)) X.1 X.2.1 d_Sounds_latestBut_18 (by decide) ?_
      exact ab_ki_ret (pc := 19) X hr hk hX rfl (by rw [f_Sounds_latestBut, if_neg h1, if_pos h2]) d_Sounds_latestBut_19
    ·
      refine lv_iload_n (pc := 10) X.1 X.2.1 d_Sounds_latestBut_10 rfl (lv_at hl 1 rfl) ?_
      refine lv_aload_n (pc := 11) X.1 X.2.1 d_Sounds_latestBut_11 rfl (lv_at hl 0 rfl) ?_
      refine ab_gx (pc := 12) (v := .int (u 0 17)) X hX 9 6 1 rfl rfl (Nat.le_of_ble_eq_true rfl) in_Sounds rfl tw_154 rfl d_Sounds_latestBut_12 ?_
      refine lv_icmp_lt (pc := 15) (tgt := 20) X.1 X.2.1 d_Sounds_latestBut_15 (by decide) (fun h3 => ?_) (fun h3 => ?_)
      ·
        refine lv_aload_n (pc := 20) X.1 X.2.1 d_Sounds_latestBut_20 rfl (lv_at hl 0 rfl) ?_
        refine ab_gx (pc := 21) (v := .ref (q 10)) X hX 9 6 0 rfl rfl (Nat.le_of_ble_eq_true rfl) in_Sounds rfl tw_153 rfl d_Sounds_latestBut_21 ?_
        refine lv_aload_n (pc := 24) X.1 X.2.1 d_Sounds_latestBut_24 rfl (lv_at hl 0 rfl) ?_
        refine ab_gx (pc := 25) (v := .int (u 0 17)) X hX 9 6 1 rfl rfl (Nat.le_of_ble_eq_true rfl) in_Sounds rfl tw_154 rfl d_Sounds_latestBut_25 ?_
        refine lv_iconst (pc := 28) (v := 1) X.1 X.2.1 d_Sounds_latestBut_28 (by decide) ?_
        refine lv_isub (pc := 29) X.1 X.2.1 d_Sounds_latestBut_29 ?_
        refine lv_iload_n (pc := 30) X.1 X.2.1 d_Sounds_latestBut_30 rfl (lv_at hl 1 rfl) ?_
        refine lv_isub (pc := 31) X.1 X.2.1 d_Sounds_latestBut_31 ?_
        refine lv_bipush (pc := 32) (v := 7) X.1 X.2.1 d_Sounds_latestBut_32 (by decide) ?_
        refine lv_iand (pc := 34) X.1 X.2.1 d_Sounds_latestBut_34 ?_
        refine ab_ald (pc := 35) (f := u 4) (j := ((((u 0 17) - 1) - x1) &&& 7).toNatClampNeg) X hX 10 0 rfl rfl (ab_inm _ 3 rfl (by decide)) rfl d_Sounds_latestBut_35 ?_
        exact ab_ki_ret (pc := 36) X hr hk hX rfl (by rw [f_Sounds_latestBut, if_neg h1, if_neg h2, if_pos h3]) d_Sounds_latestBut_36
      ·
        refine lv_iconst (pc := 18) (v := (-1)) X.1 X.2.1 d_Sounds_latestBut_18 (by decide) ?_
        exact ab_ki_ret (pc := 19) X hr hk hX rfl (by rw [f_Sounds_latestBut, if_neg h1, if_neg h2, if_neg h3]) d_Sounds_latestBut_19
