abbrev b_Arithmetic_adjust : ByteArray := prog_2_method_8_code
def y_Arithmetic_adjust : MethodName := ⟨"ArcadeBoard$Arithmetic", "adjust", "()V"⟩
theorem d_Arithmetic_adjust_0 : decode b_Arithmetic_adjust 0 = .ok (.aload_n 0, 1) := by decide +kernel
theorem d_Arithmetic_adjust_1 : decode b_Arithmetic_adjust 1 = .ok (.getfield 9, 3) := by decide +kernel
theorem d_Arithmetic_adjust_4 : decode b_Arithmetic_adjust 4 = .ok (.getfield 21, 3) := by decide +kernel
theorem d_Arithmetic_adjust_7 : decode b_Arithmetic_adjust 7 = .ok (.bipush 7, 2) := by decide +kernel
theorem d_Arithmetic_adjust_9 : decode b_Arithmetic_adjust 9 = .ok (.iaload, 1) := by decide +kernel
theorem d_Arithmetic_adjust_10 : decode b_Arithmetic_adjust 10 = .ok (.istore_n 1, 1) := by decide +kernel
theorem d_Arithmetic_adjust_11 : decode b_Arithmetic_adjust 11 = .ok (.aload_n 0, 1) := by decide +kernel
theorem d_Arithmetic_adjust_12 : decode b_Arithmetic_adjust 12 = .ok (.invokevirtual 29, 3) := by decide +kernel
theorem d_Arithmetic_adjust_15 : decode b_Arithmetic_adjust 15 = .ok (.istore_n 2, 1) := by decide +kernel
theorem d_Arithmetic_adjust_16 : decode b_Arithmetic_adjust 16 = .ok (.iconst 0, 1) := by decide +kernel
theorem d_Arithmetic_adjust_17 : decode b_Arithmetic_adjust 17 = .ok (.istore_n 3, 1) := by decide +kernel
theorem d_Arithmetic_adjust_18 : decode b_Arithmetic_adjust 18 = .ok (.iload_n 1, 1) := by decide +kernel
theorem d_Arithmetic_adjust_19 : decode b_Arithmetic_adjust 19 = .ok (.bipush 15, 2) := by decide +kernel
theorem d_Arithmetic_adjust_21 : decode b_Arithmetic_adjust 21 = .ok (.iand, 1) := by decide +kernel
theorem d_Arithmetic_adjust_22 : decode b_Arithmetic_adjust 22 = .ok (.bipush 9, 2) := by decide +kernel
theorem d_Arithmetic_adjust_24 : decode b_Arithmetic_adjust 24 = .ok (.if_icmp .gt 16, 3) := by decide +kernel
theorem d_Arithmetic_adjust_27 : decode b_Arithmetic_adjust 27 = .ok (.aload_n 0, 1) := by decide +kernel
theorem d_Arithmetic_adjust_28 : decode b_Arithmetic_adjust 28 = .ok (.getfield 9, 3) := by decide +kernel
theorem d_Arithmetic_adjust_31 : decode b_Arithmetic_adjust 31 = .ok (.getfield 15, 3) := by decide +kernel
theorem d_Arithmetic_adjust_34 : decode b_Arithmetic_adjust 34 = .ok (.bipush 16, 2) := by decide +kernel
theorem d_Arithmetic_adjust_36 : decode b_Arithmetic_adjust 36 = .ok (.iand, 1) := by decide +kernel
theorem d_Arithmetic_adjust_37 : decode b_Arithmetic_adjust 37 = .ok (.ifCond .eq 6, 3) := by decide +kernel
theorem d_Arithmetic_adjust_40 : decode b_Arithmetic_adjust 40 = .ok (.bipush 6, 2) := by decide +kernel
theorem d_Arithmetic_adjust_42 : decode b_Arithmetic_adjust 42 = .ok (.istore_n 3, 1) := by decide +kernel
theorem d_Arithmetic_adjust_43 : decode b_Arithmetic_adjust 43 = .ok (.iload_n 1, 1) := by decide +kernel
theorem d_Arithmetic_adjust_44 : decode b_Arithmetic_adjust 44 = .ok (.sipush 153, 3) := by decide +kernel
theorem d_Arithmetic_adjust_47 : decode b_Arithmetic_adjust 47 = .ok (.if_icmp .gt 8, 3) := by decide +kernel
theorem d_Arithmetic_adjust_50 : decode b_Arithmetic_adjust 50 = .ok (.iload_n 2, 1) := by decide +kernel
theorem d_Arithmetic_adjust_51 : decode b_Arithmetic_adjust 51 = .ok (.iconst 1, 1) := by decide +kernel
theorem d_Arithmetic_adjust_52 : decode b_Arithmetic_adjust 52 = .ok (.if_icmp .ne 8, 3) := by decide +kernel
theorem d_Arithmetic_adjust_55 : decode b_Arithmetic_adjust 55 = .ok (.iinc 3 96, 3) := by decide +kernel
theorem d_Arithmetic_adjust_58 : decode b_Arithmetic_adjust 58 = .ok (.iconst 1, 1) := by decide +kernel
theorem d_Arithmetic_adjust_59 : decode b_Arithmetic_adjust 59 = .ok (.istore_n 2, 1) := by decide +kernel
theorem d_Arithmetic_adjust_60 : decode b_Arithmetic_adjust 60 = .ok (.iload_n 1, 1) := by decide +kernel
theorem d_Arithmetic_adjust_61 : decode b_Arithmetic_adjust 61 = .ok (.iload_n 3, 1) := by decide +kernel
theorem d_Arithmetic_adjust_62 : decode b_Arithmetic_adjust 62 = .ok (.iadd, 1) := by decide +kernel
theorem d_Arithmetic_adjust_63 : decode b_Arithmetic_adjust 63 = .ok (.sipush 255, 3) := by decide +kernel
theorem d_Arithmetic_adjust_66 : decode b_Arithmetic_adjust 66 = .ok (.iand, 1) := by decide +kernel
theorem d_Arithmetic_adjust_67 : decode b_Arithmetic_adjust 67 = .ok (.istore 4, 2) := by decide +kernel
theorem d_Arithmetic_adjust_69 : decode b_Arithmetic_adjust 69 = .ok (.aload_n 0, 1) := by decide +kernel
theorem d_Arithmetic_adjust_70 : decode b_Arithmetic_adjust 70 = .ok (.getfield 9, 3) := by decide +kernel
theorem d_Arithmetic_adjust_73 : decode b_Arithmetic_adjust 73 = .ok (.getfield 21, 3) := by decide +kernel
theorem d_Arithmetic_adjust_76 : decode b_Arithmetic_adjust 76 = .ok (.bipush 7, 2) := by decide +kernel
theorem d_Arithmetic_adjust_78 : decode b_Arithmetic_adjust 78 = .ok (.iload 4, 2) := by decide +kernel
theorem d_Arithmetic_adjust_80 : decode b_Arithmetic_adjust 80 = .ok (.iastore, 1) := by decide +kernel
theorem d_Arithmetic_adjust_81 : decode b_Arithmetic_adjust 81 = .ok (.aload_n 0, 1) := by decide +kernel
theorem d_Arithmetic_adjust_82 : decode b_Arithmetic_adjust 82 = .ok (.getfield 9, 3) := by decide +kernel
theorem d_Arithmetic_adjust_85 : decode b_Arithmetic_adjust 85 = .ok (.iload 4, 2) := by decide +kernel
theorem d_Arithmetic_adjust_87 : decode b_Arithmetic_adjust 87 = .ok (.invokestatic 40, 3) := by decide +kernel
theorem d_Arithmetic_adjust_90 : decode b_Arithmetic_adjust 90 = .ok (.iload_n 1, 1) := by decide +kernel
theorem d_Arithmetic_adjust_91 : decode b_Arithmetic_adjust 91 = .ok (.bipush 15, 2) := by decide +kernel
theorem d_Arithmetic_adjust_93 : decode b_Arithmetic_adjust 93 = .ok (.iand, 1) := by decide +kernel
theorem d_Arithmetic_adjust_94 : decode b_Arithmetic_adjust 94 = .ok (.iload_n 3, 1) := by decide +kernel
theorem d_Arithmetic_adjust_95 : decode b_Arithmetic_adjust 95 = .ok (.bipush 15, 2) := by decide +kernel
theorem d_Arithmetic_adjust_97 : decode b_Arithmetic_adjust 97 = .ok (.iand, 1) := by decide +kernel
theorem d_Arithmetic_adjust_98 : decode b_Arithmetic_adjust 98 = .ok (.iadd, 1) := by decide +kernel
theorem d_Arithmetic_adjust_99 : decode b_Arithmetic_adjust 99 = .ok (.bipush 16, 2) := by decide +kernel
theorem d_Arithmetic_adjust_101 : decode b_Arithmetic_adjust 101 = .ok (.iand, 1) := by decide +kernel
theorem d_Arithmetic_adjust_102 : decode b_Arithmetic_adjust 102 = .ok (.ior, 1) := by decide +kernel
theorem d_Arithmetic_adjust_103 : decode b_Arithmetic_adjust 103 = .ok (.iload_n 2, 1) := by decide +kernel
theorem d_Arithmetic_adjust_104 : decode b_Arithmetic_adjust 104 = .ok (.ior, 1) := by decide +kernel
theorem d_Arithmetic_adjust_105 : decode b_Arithmetic_adjust 105 = .ok (.putfield 15, 3) := by decide +kernel
theorem d_Arithmetic_adjust_108 : decode b_Arithmetic_adjust 108 = .ok (.return_, 1) := by decide +kernel
theorem tw_103 : Jvm.Cond.code ⟨"ArcadeBoard$Arithmetic", "adjust", "()V"⟩ prog_2_method_8_code 5 (Option.none : Option Jvm.ClassFile.FieldType) ∈ AL := ab_in (ab_t3 (List.mem_of_getElem? (i := 73) (by decide +kernel))) rfl
theorem tw_104 : Jvm.Cond.instanceMethod ⟨"ArcadeBoard$Arithmetic", "adjust", "()V"⟩ ∈ AL := ab_in (ab_t3 (List.mem_of_getElem? (i := 71) (by decide +kernel))) rfl
theorem tw_105 : Jvm.Cond.selects "ArcadeBoard$Arithmetic" ⟨"ArcadeBoard$Arithmetic", "adjust", "()V"⟩ ⟨"ArcadeBoard$Arithmetic", "adjust", "()V"⟩ ∈ AL := ab_in (ab_t3 (List.mem_of_getElem? (i := 72) (by decide +kernel))) rfl
theorem ok_Arithmetic_adjust : ab_yok y_Arithmetic_adjust b_Arithmetic_adjust 5 none 0 := ⟨tw_103, tw_58, by decide, by decide, by decide +kernel⟩
theorem okv_Arithmetic_adjust : ab_yok_V y_Arithmetic_adjust := ⟨tw_104, tw_105⟩
set_option maxHeartbeats 1000000 in
set_option maxRecDepth 100000 in
theorem k_Arithmetic_adjust_60 {p : Program} {l : Launch} {e : Env} {s : State} {m : MethodId} {args : Array Value} {below : List Frame} {meth : Method} {c : Code} {A : Nat → Prop} {D : va_G} {t : Nat → ClassId} {q : Nat → Nat} (X : ab_cx p s m args c b_Arithmetic_adjust 5 y_Arithmetic_adjust.cls D (tyC t)) (hr : meth.sig.returnType = none) (hk : meth.locks = false) (u : SS) (v1 : Int32) (v2 : Int32) (v3 : Int32) {H : Heap} {locs : List Loc} {ls : Array Slot} (hX : ab_hx D (wC t q u) A s.heap H locs) (hl : lv_has ls 5 [(0, .ref (q 7)), (1, .int v1), (2, .int v2), (3, .int v3)]) :
    W p l e { frames := 2, cells := 0, slots := 0, locals := 42 } s m args below meth c H locs 0 0 (ab_kv_E below args s D (tyC t) (wC t q) A (g_Arithmetic_adjust_60 u v1 v2 v3)) (F0 m 60 ls []) := by
  refine lv_iload_n (pc := 60) X.1 X.2.1 d_Arithmetic_adjust_60 rfl (lv_at hl 1 rfl) ?_
  refine lv_iload_n (pc := 61) X.1 X.2.1 d_Arithmetic_adjust_61 rfl (lv_at hl 3 rfl) ?_
  refine lv_iadd (pc := 62) X.1 X.2.1 d_Arithmetic_adjust_62 ?_
  refine lv_sipush (pc := 63) (v := 255) X.1 X.2.1 d_Arithmetic_adjust_63 (by decide) ?_
  refine lv_iand (pc := 66) X.1 X.2.1 d_Arithmetic_adjust_66 ?_
  refine lv_istore (pc := 67) (lv' := [(4, .int ((v1 + v3) &&& 255)), (0, .ref (q 7)), (1, .int v1), (2, .int v2), (3, .int v3)]) X.1 X.2.1 d_Arithmetic_adjust_67 hl (Nat.le_of_ble_eq_true rfl) rfl (fun ls hl => ?_)
  refine lv_aload_n (pc := 69) X.1 X.2.1 d_Arithmetic_adjust_69 rfl (lv_at hl 1 rfl) ?_
  refine ab_gx (pc := 70) (v := .ref (q 1)) X hX 7 0 0 rfl rfl (Nat.le_of_ble_eq_true rfl) in_Arithmetic rfl tw_61 rfl d_Arithmetic_adjust_70 ?_
  refine ab_gx (pc := 73) (v := .ref (q 3)) X hX 1 7 1 rfl rfl (Nat.le_of_ble_eq_true rfl) in_State rfl tw_88 rfl d_Arithmetic_adjust_73 ?_
  refine lv_bipush (pc := 76) (v := 7) X.1 X.2.1 d_Arithmetic_adjust_76 (by decide) ?_
  refine lv_iload (pc := 78) X.1 X.2.1 d_Arithmetic_adjust_78 (lv_at hl 0 rfl) ?_
  refine ab_ast (pc := 80) (f := u 2) (j := 7) (ws' := (wC t q (stt u 2 7 ((v1 + v3) &&& 255)))) X hX 3 0 rfl rfl (ab_inc (by decide)) rfl (sa_wC_3 t q u 7 ((v1 + v3) &&& 255)) d_Arithmetic_adjust_80 (fun H locs hX => ?_)
  refine lv_aload_n (pc := 81) X.1 X.2.1 d_Arithmetic_adjust_81 rfl (lv_at hl 1 rfl) ?_
  refine ab_gx (pc := 82) (v := .ref (q 1)) X hX 7 0 0 rfl rfl (Nat.le_of_ble_eq_true rfl) in_Arithmetic rfl tw_61 rfl d_Arithmetic_adjust_82 ?_
  refine lv_iload (pc := 85) X.1 X.2.1 d_Arithmetic_adjust_85 (lv_at hl 0 rfl) ?_
  refine ab_kr_callS (pc := 87) (wr := []) (w := (wC t q)) (u := (stt u 2 7 ((v1 + v3) &&& 255))) (r := f_Arithmetic_resultFlags (stt u 2 7 ((v1 + v3) &&& 255)) ((v1 + v3) &&& 255)) (as := [.int ((v1 + v3) &&& 255)]) (rest := [.ref (q 1)]) X hX (c_Arithmetic_resultFlags l D t q (stt u 2 7 ((v1 + v3) &&& 255)) ((v1 + v3) &&& 255)) ok_Arithmetic_resultFlags oks_Arithmetic_resultFlags tw_78 rfl hl.1 rfl (Nat.le_of_ble_eq_true rfl) ⟨rfl, rfl, Nat.le_of_ble_eq_true rfl, Nat.le_of_ble_eq_true rfl⟩ ⟨Nat.zero_le _, Nat.zero_le _⟩ d_Arithmetic_adjust_87 (fun H locs hX => ?_)
  refine lv_iload_n (pc := 90) X.1 X.2.1 d_Arithmetic_adjust_90 rfl (lv_at hl 2 rfl) ?_
  refine lv_bipush (pc := 91) (v := 15) X.1 X.2.1 d_Arithmetic_adjust_91 (by decide) ?_
  refine lv_iand (pc := 93) X.1 X.2.1 d_Arithmetic_adjust_93 ?_
  refine lv_iload_n (pc := 94) X.1 X.2.1 d_Arithmetic_adjust_94 rfl (lv_at hl 4 rfl) ?_
  refine lv_bipush (pc := 95) (v := 15) X.1 X.2.1 d_Arithmetic_adjust_95 (by decide) ?_
  refine lv_iand (pc := 97) X.1 X.2.1 d_Arithmetic_adjust_97 ?_
  refine lv_iadd (pc := 98) X.1 X.2.1 d_Arithmetic_adjust_98 ?_
  refine lv_bipush (pc := 99) (v := 16) X.1 X.2.1 d_Arithmetic_adjust_99 (by decide) ?_
  refine lv_iand (pc := 101) X.1 X.2.1 d_Arithmetic_adjust_101 ?_
  refine lv_ior (pc := 102) X.1 X.2.1 d_Arithmetic_adjust_102 ?_
  refine lv_iload_n (pc := 103) X.1 X.2.1 d_Arithmetic_adjust_103 rfl (lv_at hl 3 rfl) ?_
  refine lv_ior (pc := 104) X.1 X.2.1 d_Arithmetic_adjust_104 ?_
  refine ab_px (pc := 105) (ws' := (wC t q (stt (stt u 2 7 ((v1 + v3) &&& 255)) 0 0 (((f_Arithmetic_resultFlags (stt u 2 7 ((v1 + v3) &&& 255)) ((v1 + v3) &&& 255)) ||| (((v1 &&& 15) + (v3 &&& 15)) &&& 16)) ||| v2)))) X hX 1 7 2 ty_State ty_State_ok nm_State rfl rfl (Nat.le_of_ble_eq_true rfl) in_State rfl tw_62 rfl rfl rfl rfl (Nat.le_of_ble_eq_true rfl) (sf_wC_1_2 t q (stt u 2 7 ((v1 + v3) &&& 255)) (((f_Arithmetic_resultFlags (stt u 2 7 ((v1 + v3) &&& 255)) ((v1 + v3) &&& 255)) ||| (((v1 &&& 15) + (v3 &&& 15)) &&& 16)) ||| v2)) d_Arithmetic_adjust_105 (fun H locs hX => ?_)
  exact ab_kv_ret (pc := 108) X hr hk hX (by rw [g_Arithmetic_adjust_60]) d_Arithmetic_adjust_108
set_option maxHeartbeats 1000000 in
set_option maxRecDepth 100000 in
theorem k_Arithmetic_adjust_43 {p : Program} {l : Launch} {e : Env} {s : State} {m : MethodId} {args : Array Value} {below : List Frame} {meth : Method} {c : Code} {A : Nat → Prop} {D : va_G} {t : Nat → ClassId} {q : Nat → Nat} (X : ab_cx p s m args c b_Arithmetic_adjust 5 y_Arithmetic_adjust.cls D (tyC t)) (hr : meth.sig.returnType = none) (hk : meth.locks = false) (u : SS) (v1 : Int32) (v2 : Int32) (v3 : Int32) {H : Heap} {locs : List Loc} {ls : Array Slot} (hX : ab_hx D (wC t q u) A s.heap H locs) (hl : lv_has ls 5 [(0, .ref (q 7)), (1, .int v1), (2, .int v2), (3, .int v3)]) :
    W p l e { frames := 2, cells := 0, slots := 0, locals := 42 } s m args below meth c H locs 0 0 (ab_kv_E below args s D (tyC t) (wC t q) A (g_Arithmetic_adjust_43 u v1 v2 v3)) (F0 m 43 ls []) := by
  refine lv_iload_n (pc := 43) X.1 X.2.1 d_Arithmetic_adjust_43 rfl (lv_at hl 1 rfl) ?_
  refine lv_sipush (pc := 44) (v := 153) X.1 X.2.1 d_Arithmetic_adjust_44 (by decide) ?_
  refine lv_icmp_gt (pc := 47) (tgt := 55) X.1 X.2.1 d_Arithmetic_adjust_47 (by decide) (fun h3 => ?_) (fun h3 => ?_)
  ·
    refine lv_iinc (pc := 55) (k := 3) (v := v3 + 96) (lv' := [(3, .int (v3 + 96)), (0, .ref (q 7)), (1, .int v1), (2, .int v2)]) X.1 X.2.1 d_Arithmetic_adjust_55 hl rfl rfl (Nat.le_of_ble_eq_true rfl) rfl (fun ls hl => ?_)
    refine lv_iconst (pc := 58) (v := 1) X.1 X.2.1 d_Arithmetic_adjust_58 (by decide) ?_
    refine lv_istore_n (pc := 59) (lv' := [(2, .int 1), (3, .int (v3 + 96)), (0, .ref (q 7)), (1, .int v1)]) X.1 X.2.1 d_Arithmetic_adjust_59 rfl hl (Nat.le_of_ble_eq_true rfl) rfl (fun ls hl => ?_)
    rw [show g_Arithmetic_adjust_43 u v1 v2 v3 = g_Arithmetic_adjust_60 u v1 1 (v3 + 96) from by rw [g_Arithmetic_adjust_43, if_pos h3]]
    exact k_Arithmetic_adjust_60 X hr hk u v1 1 (v3 + 96)  hX (lv_sub hl [2, 3, 0, 1] rfl)
  ·
    refine lv_iload_n (pc := 50) X.1 X.2.1 d_Arithmetic_adjust_50 rfl (lv_at hl 2 rfl) ?_
    refine lv_iconst (pc := 51) (v := 1) X.1 X.2.1 d_Arithmetic_adjust_51 (by decide) ?_
    refine lv_icmp_ne (pc := 52) (tgt := 60) X.1 X.2.1 d_Arithmetic_adjust_52 (by decide) (fun h4 => ?_) (fun h4 => ?_)
    ·
      rw [show g_Arithmetic_adjust_43 u v1 v2 v3 = g_Arithmetic_adjust_60 u v1 v2 v3 from by rw [g_Arithmetic_adjust_43, if_neg h3, if_neg h4]]
      exact k_Arithmetic_adjust_60 X hr hk u v1 v2 v3  hX (lv_sub hl [0, 1, 2, 3] rfl)
    ·
      refine lv_iinc (pc := 55) (k := 3) (v := v3 + 96) (lv' := [(3, .int (v3 + 96)), (0, .ref (q 7)), (1, .int v1), (2, .int v2)]) X.1 X.2.1 d_Arithmetic_adjust_55 hl rfl rfl (Nat.le_of_ble_eq_true rfl) rfl (fun ls hl => ?_)
      refine lv_iconst (pc := 58) (v := 1) X.1 X.2.1 d_Arithmetic_adjust_58 (by decide) ?_
      refine lv_istore_n (pc := 59) (lv' := [(2, .int 1), (3, .int (v3 + 96)), (0, .ref (q 7)), (1, .int v1)]) X.1 X.2.1 d_Arithmetic_adjust_59 rfl hl (Nat.le_of_ble_eq_true rfl) rfl (fun ls hl => ?_)
      rw [show g_Arithmetic_adjust_43 u v1 v2 v3 = g_Arithmetic_adjust_60 u v1 1 (v3 + 96) from by rw [g_Arithmetic_adjust_43, if_neg h3, if_pos h4]]
      exact k_Arithmetic_adjust_60 X hr hk u v1 1 (v3 + 96)  hX (lv_sub hl [2, 3, 0, 1] rfl)
set_option maxHeartbeats 1000000 in
set_option maxRecDepth 100000 in
theorem c_Arithmetic_adjust (l : Launch) (D : va_G) (t : Nat → ClassId) (q : Nat → Nat) (u : SS) : ab_kv l D (tyC t) (wC t q) y_Arithmetic_adjust b_Arithmetic_adjust 5 { frames := 2, cells := 0, slots := 0, locals := 42 } [.ref (q 7)] u (f_Arithmetic_adjust u) := by
  refine ab_kv_ofW (by decide) (Nat.le_of_ble_eq_true rfl) (fun p e s m below meth c ls A X hr hk hl hX => ?_)
  have hl : lv_has ls 5 [(0, .ref (q 7))] := hl
  refine lv_aload_n (pc := 0) X.1 X.2.1 d_Arithmetic_adjust_0 rfl (lv_at hl 0 rfl) ?_
  refine ab_gx (pc := 1) (v := .ref (q 1)) X hX 7 0 0 rfl rfl (Nat.le_of_ble_eq_true rfl) in_Arithmetic rfl tw_61 rfl d_Arithmetic_adjust_1 ?_
  refine ab_gx (pc := 4) (v := .ref (q 3)) X hX 1 7 1 rfl rfl (Nat.le_of_ble_eq_true rfl) in_State rfl tw_88 rfl d_Arithmetic_adjust_4 ?_
  refine lv_bipush (pc := 7) (v := 7) X.1 X.2.1 d_Arithmetic_adjust_7 (by decide) ?_
  refine ab_ald (pc := 9) (f := u 2) (j := 7) X hX 3 0 rfl rfl (ab_inc (by decide)) rfl d_Arithmetic_adjust_9 ?_
  refine lv_istore_n (pc := 10) (lv' := [(1, .int (u 2 7)), (0, .ref (q 7))]) X.1 X.2.1 d_Arithmetic_adjust_10 rfl hl (Nat.le_of_ble_eq_true rfl) rfl (fun ls hl => ?_)
  refine lv_aload_n (pc := 11) X.1 X.2.1 d_Arithmetic_adjust_11 rfl (lv_at hl 1 rfl) ?_
  refine ab_kr_callV (pc := 12) (wr := []) (w := (wC t q)) (u := u) (r := f_Arithmetic_carry u) (as := []) (rest := []) X hX (c_Arithmetic_carry l D t q u) ok_Arithmetic_carry okv_Arithmetic_carry tw_90 7 0 rfl rfl rfl hl.1 rfl (Nat.le_of_ble_eq_true rfl) ⟨rfl, rfl, Nat.le_of_ble_eq_true rfl, Nat.le_of_ble_eq_true rfl⟩ ⟨Nat.zero_le _, Nat.zero_le _⟩ d_Arithmetic_adjust_12 (fun H locs hX => ?_)
  refine lv_istore_n (pc := 15) (lv' := [(2, .int (f_Arithmetic_carry u)), (1, .int (u 2 7)), (0, .ref (q 7))]) X.1 X.2.1 d_Arithmetic_adjust_15 rfl hl (Nat.le_of_ble_eq_true rfl) rfl (fun ls hl => ?_)
  refine lv_iconst (pc := 16) (v := 0) X.1 X.2.1 d_Arithmetic_adjust_16 (by decide) ?_
  refine lv_istore_n (pc := 17) (lv' := [(3, .int 0), (2, .int (f_Arithmetic_carry u)), (1, .int (u 2 7)), (0, .ref (q 7))]) X.1 X.2.1 d_Arithmetic_adjust_17 rfl hl (Nat.le_of_ble_eq_true rfl) rfl (fun ls hl => ?_)
  refine lv_iload_n (pc := 18) X.1 X.2.1 d_Arithmetic_adjust_18 rfl (lv_at hl 2 rfl) ?_
  refine lv_bipush (pc := 19) (v := 15) X.1 X.2.1 d_Arithmetic_adjust_19 (by decide) ?_
  refine lv_iand (pc := 21) X.1 X.2.1 d_Arithmetic_adjust_21 ?_
  refine lv_bipush (pc := 22) (v := 9) X.1 X.2.1 d_Arithmetic_adjust_22 (by decide) ?_
  refine lv_icmp_gt (pc := 24) (tgt := 40) X.1 X.2.1 d_Arithmetic_adjust_24 (by decide) (fun h1 => ?_) (fun h1 => ?_)
  ·
    refine lv_bipush (pc := 40) (v := 6) X.1 X.2.1 d_Arithmetic_adjust_40 (by decide) ?_
    refine lv_istore_n (pc := 42) (lv' := [(3, .int 6), (2, .int (f_Arithmetic_carry u)), (1, .int (u 2 7)), (0, .ref (q 7))]) X.1 X.2.1 d_Arithmetic_adjust_42 rfl hl (Nat.le_of_ble_eq_true rfl) rfl (fun ls hl => ?_)
    rw [show f_Arithmetic_adjust u = g_Arithmetic_adjust_43 u (u 2 7) (f_Arithmetic_carry u) 6 from by rw [f_Arithmetic_adjust, if_pos h1]]
    exact k_Arithmetic_adjust_43 X hr hk u (u 2 7) (f_Arithmetic_carry u) 6  hX (lv_sub hl [3, 2, 1, 0] rfl)
  ·
    refine lv_aload_n (pc := 27) X.1 X.2.1 d_Arithmetic_adjust_27 rfl (lv_at hl 3 rfl) ?_
    refine ab_gx (pc := 28) (v := .ref (q 1)) X hX 7 0 0 rfl rfl (Nat.le_of_ble_eq_true rfl) in_Arithmetic rfl tw_61 rfl d_Arithmetic_adjust_28 ?_
    refine ab_gx (pc := 31) (v := .int (u 0 0)) X hX 1 7 2 rfl rfl (Nat.le_of_ble_eq_true rfl) in_State rfl tw_62 rfl d_Arithmetic_adjust_31 ?_
    refine lv_bipush (pc := 34) (v := 16) X.1 X.2.1 d_Arithmetic_adjust_34 (by decide) ?_
    refine lv_iand (pc := 36) X.1 X.2.1 d_Arithmetic_adjust_36 ?_
    refine lv_if_eq (pc := 37) (tgt := 43) X.1 X.2.1 d_Arithmetic_adjust_37 (by decide) (fun h2 => ?_) (fun h2 => ?_)
    ·
      rw [show f_Arithmetic_adjust u = g_Arithmetic_adjust_43 u (u 2 7) (f_Arithmetic_carry u) 0 from by rw [f_Arithmetic_adjust, if_neg h1, if_pos h2]]
      exact k_Arithmetic_adjust_43 X hr hk u (u 2 7) (f_Arithmetic_carry u) 0  hX (lv_sub hl [3, 2, 1, 0] rfl)
    ·
      refine lv_bipush (pc := 40) (v := 6) X.1 X.2.1 d_Arithmetic_adjust_40 (by decide) ?_
      refine lv_istore_n (pc := 42) (lv' := [(3, .int 6), (2, .int (f_Arithmetic_carry u)), (1, .int (u 2 7)), (0, .ref (q 7))]) X.1 X.2.1 d_Arithmetic_adjust_42 rfl hl (Nat.le_of_ble_eq_true rfl) rfl (fun ls hl => ?_)
      rw [show f_Arithmetic_adjust u = g_Arithmetic_adjust_43 u (u 2 7) (f_Arithmetic_carry u) 6 from by rw [f_Arithmetic_adjust, if_neg h1, if_neg h2]]
      exact k_Arithmetic_adjust_43 X hr hk u (u 2 7) (f_Arithmetic_carry u) 6  hX (lv_sub hl [3, 2, 1, 0] rfl)
abbrev b_Arithmetic_turnTo : ByteArray := prog_2_method_10_code
def y_Arithmetic_turnTo : MethodName := ⟨"ArcadeBoard$Arithmetic", "turnTo", "(II)V"⟩
theorem d_Arithmetic_turnTo_0 : decode b_Arithmetic_turnTo 0 = .ok (.aload_n 0, 1) := by decide +kernel
theorem d_Arithmetic_turnTo_1 : decode b_Arithmetic_turnTo 1 = .ok (.getfield 9, 3) := by decide +kernel
theorem d_Arithmetic_turnTo_4 : decode b_Arithmetic_turnTo 4 = .ok (.getfield 21, 3) := by decide +kernel
theorem d_Arithmetic_turnTo_7 : decode b_Arithmetic_turnTo 7 = .ok (.bipush 7, 2) := by decide +kernel
theorem d_Arithmetic_turnTo_9 : decode b_Arithmetic_turnTo 9 = .ok (.iload_n 1, 1) := by decide +kernel
theorem d_Arithmetic_turnTo_10 : decode b_Arithmetic_turnTo 10 = .ok (.sipush 255, 3) := by decide +kernel
theorem d_Arithmetic_turnTo_13 : decode b_Arithmetic_turnTo 13 = .ok (.iand, 1) := by decide +kernel
theorem d_Arithmetic_turnTo_14 : decode b_Arithmetic_turnTo 14 = .ok (.iastore, 1) := by decide +kernel
theorem d_Arithmetic_turnTo_15 : decode b_Arithmetic_turnTo 15 = .ok (.aload_n 0, 1) := by decide +kernel
theorem d_Arithmetic_turnTo_16 : decode b_Arithmetic_turnTo 16 = .ok (.iload_n 2, 1) := by decide +kernel
theorem d_Arithmetic_turnTo_17 : decode b_Arithmetic_turnTo 17 = .ok (.invokevirtual 44, 3) := by decide +kernel
theorem d_Arithmetic_turnTo_20 : decode b_Arithmetic_turnTo 20 = .ok (.return_, 1) := by decide +kernel
theorem tw_106 : Jvm.Cond.code ⟨"ArcadeBoard$Arithmetic", "turnTo", "(II)V"⟩ prog_2_method_10_code 3 (Option.none : Option Jvm.ClassFile.FieldType) ∈ AL := ab_in (ab_t3 (List.mem_of_getElem? (i := 81) (by decide +kernel))) rfl
theorem tw_107 : Jvm.Cond.instanceMethod ⟨"ArcadeBoard$Arithmetic", "turnTo", "(II)V"⟩ ∈ AL := ab_in (ab_t3 (List.mem_of_getElem? (i := 80) (by decide +kernel))) rfl
theorem tw_108 : Cond.selects "ArcadeBoard$Arithmetic" ⟨"ArcadeBoard$Arithmetic", "turnTo", "(II)V"⟩ ⟨"ArcadeBoard$Arithmetic", "turnTo", "(II)V"⟩ ∈ AL := ab_in (ab_s1 (List.mem_of_getElem? (i := 9) (by decide +kernel))) rfl
theorem ok_Arithmetic_turnTo : ab_yok y_Arithmetic_turnTo b_Arithmetic_turnTo 3 none 2 := ⟨tw_106, tw_58, by decide, by decide, by decide +kernel⟩
theorem okv_Arithmetic_turnTo : ab_yok_V y_Arithmetic_turnTo := ⟨tw_107, tw_108⟩
set_option maxHeartbeats 1000000 in
set_option maxRecDepth 100000 in
theorem c_Arithmetic_turnTo (l : Launch) (D : va_G) (t : Nat → ClassId) (q : Nat → Nat) (u : SS) (x1 : Int32) (x2 : Int32) : ab_kv l D (tyC t) (wC t q) y_Arithmetic_turnTo b_Arithmetic_turnTo 3 { frames := 1, cells := 0, slots := 0, locals := 21 } [.ref (q 7), .int x1, .int x2] u (f_Arithmetic_turnTo u x1 x2) := by
  refine ab_kv_ofW (by decide) (Nat.le_of_ble_eq_true rfl) (fun p e s m below meth c ls A X hr hk hl hX => ?_)
  have hl : lv_has ls 3 [(0, .ref (q 7)), (1, .int x1), (2, .int x2)] := hl
  refine lv_aload_n (pc := 0) X.1 X.2.1 d_Arithmetic_turnTo_0 rfl (lv_at hl 0 rfl) ?_
  refine ab_gx (pc := 1) (v := .ref (q 1)) X hX 7 0 0 rfl rfl (Nat.le_of_ble_eq_true rfl) in_Arithmetic rfl tw_61 rfl d_Arithmetic_turnTo_1 ?_
  refine ab_gx (pc := 4) (v := .ref (q 3)) X hX 1 7 1 rfl rfl (Nat.le_of_ble_eq_true rfl) in_State rfl tw_88 rfl d_Arithmetic_turnTo_4 ?_
  refine lv_bipush (pc := 7) (v := 7) X.1 X.2.1 d_Arithmetic_turnTo_7 (by decide) ?_
  refine lv_iload_n (pc := 9) X.1 X.2.1 d_Arithmetic_turnTo_9 rfl (lv_at hl 1 rfl) ?_
  refine lv_sipush (pc := 10) (v := 255) X.1 X.2.1 d_Arithmetic_turnTo_10 (by decide) ?_
  refine lv_iand (pc := 13) X.1 X.2.1 d_Arithmetic_turnTo_13 ?_
  refine ab_ast (pc := 14) (f := u 2) (j := 7) (ws' := (wC t q (stt u 2 7 (x1 &&& 255)))) X hX 3 0 rfl rfl (ab_inc (by decide)) rfl (sa_wC_3 t q u 7 (x1 &&& 255)) d_Arithmetic_turnTo_14 (fun H locs hX => ?_)
  refine lv_aload_n (pc := 15) X.1 X.2.1 d_Arithmetic_turnTo_15 rfl (lv_at hl 0 rfl) ?_
  refine lv_iload_n (pc := 16) X.1 X.2.1 d_Arithmetic_turnTo_16 rfl (lv_at hl 2 rfl) ?_
  refine ab_kv_callV (pc := 17) (wr := []) (w := (wC t q)) (u := (stt u 2 7 (x1 &&& 255))) (F := f_Arithmetic_setCarry (stt u 2 7 (x1 &&& 255)) x2) (as := [.int x2]) (rest := []) X hX (c_Arithmetic_setCarry l D t q (stt u 2 7 (x1 &&& 255)) x2) ok_Arithmetic_setCarry okv_Arithmetic_setCarry tw_102 7 0 rfl rfl rfl hl.1 rfl (Nat.le_of_ble_eq_true rfl) ⟨rfl, rfl, Nat.le_of_ble_eq_true rfl, Nat.le_of_ble_eq_true rfl⟩ ⟨Nat.zero_le _, Nat.zero_le _⟩ d_Arithmetic_turnTo_17 (fun H locs hX => ?_)
  exact ab_kv_ret (pc := 20) X hr hk hX (by rw [f_Arithmetic_turnTo]) d_Arithmetic_turnTo_20
abbrev b_Arithmetic_turn : ByteArray := prog_2_method_9_code
def y_Arithmetic_turn : MethodName := ⟨"ArcadeBoard$Arithmetic", "turn", "(I)V"⟩
theorem d_Arithmetic_turn_0 : decode b_Arithmetic_turn 0 = .ok (.aload_n 0, 1) := by decide +kernel
theorem d_Arithmetic_turn_1 : decode b_Arithmetic_turn 1 = .ok (.getfield 9, 3) := by decide +kernel
theorem d_Arithmetic_turn_4 : decode b_Arithmetic_turn 4 = .ok (.getfield 21, 3) := by decide +kernel
theorem d_Arithmetic_turn_7 : decode b_Arithmetic_turn 7 = .ok (.bipush 7, 2) := by decide +kernel
theorem d_Arithmetic_turn_9 : decode b_Arithmetic_turn 9 = .ok (.iaload, 1) := by decide +kernel
theorem d_Arithmetic_turn_10 : decode b_Arithmetic_turn 10 = .ok (.istore_n 2, 1) := by decide +kernel
theorem d_Arithmetic_turn_11 : decode b_Arithmetic_turn 11 = .ok (.iload_n 1, 1) := by decide +kernel
theorem d_Arithmetic_turn_12 : decode b_Arithmetic_turn 12 = .ok (.tableswitch 160 0 7 #[48, 67, 83, 102, 160, 121, 139, 147], 48) := by decide +kernel
theorem d_Arithmetic_turn_60 : decode b_Arithmetic_turn 60 = .ok (.aload_n 0, 1) := by decide +kernel
theorem d_Arithmetic_turn_61 : decode b_Arithmetic_turn 61 = .ok (.iload_n 2, 1) := by decide +kernel
theorem d_Arithmetic_turn_62 : decode b_Arithmetic_turn 62 = .ok (.iconst 1, 1) := by decide +kernel
theorem d_Arithmetic_turn_63 : decode b_Arithmetic_turn 63 = .ok (.ishl, 1) := by decide +kernel
theorem d_Arithmetic_turn_64 : decode b_Arithmetic_turn 64 = .ok (.iload_n 2, 1) := by decide +kernel
theorem d_Arithmetic_turn_65 : decode b_Arithmetic_turn 65 = .ok (.bipush 7, 2) := by decide +kernel
theorem d_Arithmetic_turn_67 : decode b_Arithmetic_turn 67 = .ok (.ishr, 1) := by decide +kernel
theorem d_Arithmetic_turn_68 : decode b_Arithmetic_turn 68 = .ok (.ior, 1) := by decide +kernel
theorem d_Arithmetic_turn_69 : decode b_Arithmetic_turn 69 = .ok (.iload_n 2, 1) := by decide +kernel
theorem d_Arithmetic_turn_70 : decode b_Arithmetic_turn 70 = .ok (.bipush 7, 2) := by decide +kernel
theorem d_Arithmetic_turn_72 : decode b_Arithmetic_turn 72 = .ok (.ishr, 1) := by decide +kernel
theorem d_Arithmetic_turn_73 : decode b_Arithmetic_turn 73 = .ok (.invokevirtual 48, 3) := by decide +kernel
theorem d_Arithmetic_turn_76 : decode b_Arithmetic_turn 76 = .ok (.goto 96, 3) := by decide +kernel
theorem d_Arithmetic_turn_79 : decode b_Arithmetic_turn 79 = .ok (.aload_n 0, 1) := by decide +kernel
theorem d_Arithmetic_turn_80 : decode b_Arithmetic_turn 80 = .ok (.iload_n 2, 1) := by decide +kernel
theorem d_Arithmetic_turn_81 : decode b_Arithmetic_turn 81 = .ok (.iconst 1, 1) := by decide +kernel
theorem d_Arithmetic_turn_82 : decode b_Arithmetic_turn 82 = .ok (.ishr, 1) := by decide +kernel
theorem d_Arithmetic_turn_83 : decode b_Arithmetic_turn 83 = .ok (.iload_n 2, 1) := by decide +kernel
theorem d_Arithmetic_turn_84 : decode b_Arithmetic_turn 84 = .ok (.bipush 7, 2) := by decide +kernel
theorem d_Arithmetic_turn_86 : decode b_Arithmetic_turn 86 = .ok (.ishl, 1) := by decide +kernel
theorem d_Arithmetic_turn_87 : decode b_Arithmetic_turn 87 = .ok (.ior, 1) := by decide +kernel
theorem d_Arithmetic_turn_88 : decode b_Arithmetic_turn 88 = .ok (.iload_n 2, 1) := by decide +kernel
theorem d_Arithmetic_turn_89 : decode b_Arithmetic_turn 89 = .ok (.invokevirtual 48, 3) := by decide +kernel
theorem d_Arithmetic_turn_92 : decode b_Arithmetic_turn 92 = .ok (.goto 80, 3) := by decide +kernel
theorem d_Arithmetic_turn_95 : decode b_Arithmetic_turn 95 = .ok (.aload_n 0, 1) := by decide +kernel
theorem d_Arithmetic_turn_96 : decode b_Arithmetic_turn 96 = .ok (.iload_n 2, 1) := by decide +kernel
theorem d_Arithmetic_turn_97 : decode b_Arithmetic_turn 97 = .ok (.iconst 1, 1) := by decide +kernel
theorem d_Arithmetic_turn_98 : decode b_Arithmetic_turn 98 = .ok (.ishl, 1) := by decide +kernel
theorem d_Arithmetic_turn_99 : decode b_Arithmetic_turn 99 = .ok (.aload_n 0, 1) := by decide +kernel
theorem d_Arithmetic_turn_100 : decode b_Arithmetic_turn 100 = .ok (.invokevirtual 29, 3) := by decide +kernel
theorem d_Arithmetic_turn_103 : decode b_Arithmetic_turn 103 = .ok (.ior, 1) := by decide +kernel
theorem d_Arithmetic_turn_104 : decode b_Arithmetic_turn 104 = .ok (.iload_n 2, 1) := by decide +kernel
theorem d_Arithmetic_turn_105 : decode b_Arithmetic_turn 105 = .ok (.bipush 7, 2) := by decide +kernel
theorem d_Arithmetic_turn_107 : decode b_Arithmetic_turn 107 = .ok (.ishr, 1) := by decide +kernel
theorem d_Arithmetic_turn_108 : decode b_Arithmetic_turn 108 = .ok (.invokevirtual 48, 3) := by decide +kernel
theorem d_Arithmetic_turn_111 : decode b_Arithmetic_turn 111 = .ok (.goto 61, 3) := by decide +kernel
theorem d_Arithmetic_turn_114 : decode b_Arithmetic_turn 114 = .ok (.aload_n 0, 1) := by decide +kernel
theorem d_Arithmetic_turn_115 : decode b_Arithmetic_turn 115 = .ok (.iload_n 2, 1) := by decide +kernel
theorem d_Arithmetic_turn_116 : decode b_Arithmetic_turn 116 = .ok (.iconst 1, 1) := by decide +kernel
theorem d_Arithmetic_turn_117 : decode b_Arithmetic_turn 117 = .ok (.ishr, 1) := by decide +kernel
theorem d_Arithmetic_turn_118 : decode b_Arithmetic_turn 118 = .ok (.aload_n 0, 1) := by decide +kernel
theorem d_Arithmetic_turn_119 : decode b_Arithmetic_turn 119 = .ok (.invokevirtual 29, 3) := by decide +kernel
theorem d_Arithmetic_turn_122 : decode b_Arithmetic_turn 122 = .ok (.bipush 7, 2) := by decide +kernel
theorem d_Arithmetic_turn_124 : decode b_Arithmetic_turn 124 = .ok (.ishl, 1) := by decide +kernel
theorem d_Arithmetic_turn_125 : decode b_Arithmetic_turn 125 = .ok (.ior, 1) := by decide +kernel
theorem d_Arithmetic_turn_126 : decode b_Arithmetic_turn 126 = .ok (.iload_n 2, 1) := by decide +kernel
theorem d_Arithmetic_turn_127 : decode b_Arithmetic_turn 127 = .ok (.invokevirtual 48, 3) := by decide +kernel
theorem d_Arithmetic_turn_130 : decode b_Arithmetic_turn 130 = .ok (.goto 42, 3) := by decide +kernel
theorem d_Arithmetic_turn_133 : decode b_Arithmetic_turn 133 = .ok (.aload_n 0, 1) := by decide +kernel
theorem d_Arithmetic_turn_134 : decode b_Arithmetic_turn 134 = .ok (.getfield 9, 3) := by decide +kernel
theorem d_Arithmetic_turn_137 : decode b_Arithmetic_turn 137 = .ok (.getfield 21, 3) := by decide +kernel
theorem d_Arithmetic_turn_140 : decode b_Arithmetic_turn 140 = .ok (.bipush 7, 2) := by decide +kernel
theorem d_Arithmetic_turn_142 : decode b_Arithmetic_turn 142 = .ok (.iload_n 2, 1) := by decide +kernel
theorem d_Arithmetic_turn_143 : decode b_Arithmetic_turn 143 = .ok (.sipush 255, 3) := by decide +kernel
theorem d_Arithmetic_turn_146 : decode b_Arithmetic_turn 146 = .ok (.ixor, 1) := by decide +kernel
theorem d_Arithmetic_turn_147 : decode b_Arithmetic_turn 147 = .ok (.iastore, 1) := by decide +kernel
theorem d_Arithmetic_turn_148 : decode b_Arithmetic_turn 148 = .ok (.goto 24, 3) := by decide +kernel
theorem d_Arithmetic_turn_151 : decode b_Arithmetic_turn 151 = .ok (.aload_n 0, 1) := by decide +kernel
theorem d_Arithmetic_turn_152 : decode b_Arithmetic_turn 152 = .ok (.iconst 1, 1) := by decide +kernel
theorem d_Arithmetic_turn_153 : decode b_Arithmetic_turn 153 = .ok (.invokevirtual 44, 3) := by decide +kernel
theorem d_Arithmetic_turn_156 : decode b_Arithmetic_turn 156 = .ok (.goto 16, 3) := by decide +kernel
theorem d_Arithmetic_turn_159 : decode b_Arithmetic_turn 159 = .ok (.aload_n 0, 1) := by decide +kernel
theorem d_Arithmetic_turn_160 : decode b_Arithmetic_turn 160 = .ok (.aload_n 0, 1) := by decide +kernel
theorem d_Arithmetic_turn_161 : decode b_Arithmetic_turn 161 = .ok (.invokevirtual 29, 3) := by decide +kernel
theorem d_Arithmetic_turn_164 : decode b_Arithmetic_turn 164 = .ok (.iconst 1, 1) := by decide +kernel
theorem d_Arithmetic_turn_165 : decode b_Arithmetic_turn 165 = .ok (.ixor, 1) := by decide +kernel
theorem d_Arithmetic_turn_166 : decode b_Arithmetic_turn 166 = .ok (.invokevirtual 44, 3) := by decide +kernel
theorem d_Arithmetic_turn_169 : decode b_Arithmetic_turn 169 = .ok (.goto 3, 3) := by decide +kernel
theorem d_Arithmetic_turn_172 : decode b_Arithmetic_turn 172 = .ok (.return_, 1) := by decide +kernel
theorem tw_109 : Jvm.Cond.code ⟨"ArcadeBoard$Arithmetic", "turn", "(I)V"⟩ prog_2_method_9_code 3 (Option.none : Option Jvm.ClassFile.FieldType) ∈ AL := ab_in (ab_t3 (List.mem_of_getElem? (i := 77) (by decide +kernel))) rfl
theorem tw_110 : Jvm.Cond.instanceMethod ⟨"ArcadeBoard$Arithmetic", "turn", "(I)V"⟩ ∈ AL := ab_in (ab_t3 (List.mem_of_getElem? (i := 75) (by decide +kernel))) rfl
theorem tw_111 : Jvm.Cond.selects "ArcadeBoard$Arithmetic" ⟨"ArcadeBoard$Arithmetic", "turn", "(I)V"⟩ ⟨"ArcadeBoard$Arithmetic", "turn", "(I)V"⟩ ∈ AL := ab_in (ab_t3 (List.mem_of_getElem? (i := 76) (by decide +kernel))) rfl
theorem tw_112 : Jvm.Cond.methodLink "ArcadeBoard$Arithmetic" 48 ⟨"ArcadeBoard$Arithmetic", "turnTo", "(II)V"⟩ ∈ AL := ab_in (ab_t3 (List.mem_of_getElem? (i := 78) (by decide +kernel))) rfl
theorem ok_Arithmetic_turn : ab_yok y_Arithmetic_turn b_Arithmetic_turn 3 none 1 := ⟨tw_109, tw_58, by decide, by decide, by decide +kernel⟩
theorem okv_Arithmetic_turn : ab_yok_V y_Arithmetic_turn := ⟨tw_110, tw_111⟩
set_option maxHeartbeats 1000000 in
set_option maxRecDepth 100000 in
theorem c_Arithmetic_turn (l : Launch) (D : va_G) (t : Nat → ClassId) (q : Nat → Nat) (u : SS) (x1 : Int32) : ab_kv l D (tyC t) (wC t q) y_Arithmetic_turn b_Arithmetic_turn 3 { frames := 2, cells := 0, slots := 0, locals := 43 } [.ref (q 7), .int x1] u (f_Arithmetic_turn u x1) := by
  refine ab_kv_ofW (by decide) (Nat.le_of_ble_eq_true rfl) (fun p e s m below meth c ls A X hr hk hl hX => ?_)
  have hl : lv_has ls 3 [(0, .ref (q 7)), (1, .int x1)] := hl
  refine lv_aload_n (pc := 0) X.1 X.2.1 d_Arithmetic_turn_0 rfl (lv_at hl 0 rfl) ?_
  refine ab_gx (pc := 1) (v := .ref (q 1)) X hX 7 0 0 rfl rfl (Nat.le_of_ble_eq_true rfl) in_Arithmetic rfl tw_61 rfl d_Arithmetic_turn_1 ?_
  refine ab_gx (pc := 4) (v := .ref (q 3)) X hX 1 7 1 rfl rfl (Nat.le_of_ble_eq_true rfl) in_State rfl tw_88 rfl d_Arithmetic_turn_4 ?_
  refine lv_bipush (pc := 7) (v := 7) X.1 X.2.1 d_Arithmetic_turn_7 (by decide) ?_
  refine ab_ald (pc := 9) (f := u 2) (j := 7) X hX 3 0 rfl rfl (ab_inc (by decide)) rfl d_Arithmetic_turn_9 ?_
  refine lv_istore_n (pc := 10) (lv' := [(2, .int (u 2 7)), (0, .ref (q 7)), (1, .int x1)]) X.1 X.2.1 d_Arithmetic_turn_10 rfl hl (Nat.le_of_ble_eq_true rfl) rfl (fun ls hl => ?_)
  refine lv_iload_n (pc := 11) X.1 X.2.1 d_Arithmetic_turn_11 rfl (lv_at hl 2 rfl) ?_
  by_cases h1 : x1 = 0
  ·
    refine ab_swIn (pc := 12) (tgt := 60) (off := 48) X.1 X.2.1 d_Arithmetic_turn_12 h1 (by decide) (by decide) (by decide) (by decide) ?_
    refine lv_aload_n (pc := 60) X.1 X.2.1 d_Arithmetic_turn_60 rfl (lv_at hl 1 rfl) ?_
    refine lv_iload_n (pc := 61) X.1 X.2.1 d_Arithmetic_turn_61 rfl (lv_at hl 0 rfl) ?_
    refine lv_iconst (pc := 62) (v := 1) X.1 X.2.1 d_Arithmetic_turn_62 (by decide) ?_
    refine lv_ishl (pc := 63) X.1 X.2.1 d_Arithmetic_turn_63 ?_
    refine lv_iload_n (pc := 64) X.1 X.2.1 d_Arithmetic_turn_64 rfl (lv_at hl 0 rfl) ?_
    refine lv_bipush (pc := 65) (v := 7) X.1 X.2.1 d_Arithmetic_turn_65 (by decide) ?_
    refine lv_ishr (pc := 67) X.1 X.2.1 d_Arithmetic_turn_67 ?_
    refine lv_ior (pc := 68) X.1 X.2.1 d_Arithmetic_turn_68 ?_
    refine lv_iload_n (pc := 69) X.1 X.2.1 d_Arithmetic_turn_69 rfl (lv_at hl 0 rfl) ?_
    refine lv_bipush (pc := 70) (v := 7) X.1 X.2.1 d_Arithmetic_turn_70 (by decide) ?_
    refine lv_ishr (pc := 72) X.1 X.2.1 d_Arithmetic_turn_72 ?_
    refine ab_kv_callV (pc := 73) (wr := []) (w := (wC t q)) (u := u) (F := f_Arithmetic_turnTo u (((u 2 7) <<< ((1 : Int32) &&& 31)) ||| ((u 2 7) >>> ((7 : Int32) &&& 31))) ((u 2 7) >>> ((7 : Int32) &&& 31))) (as := [.int (((u 2 7) <<< ((1 : Int32) &&& 31)) ||| ((u 2 7) >>> ((7 : Int32) &&& 31))), .int ((u 2 7) >>> ((7 : Int32) &&& 31))]) (rest := []) X hX (c_Arithmetic_turnTo l D t q u (((u 2 7) <<< ((1 : Int32) &&& 31)) ||| ((u 2 7) >>> ((7 : Int32) &&& 31))) ((u 2 7) >>> ((7 : Int32) &&& 31))) ok_Arithmetic_turnTo okv_Arithmetic_turnTo tw_112 7 0 rfl rfl rfl hl.1 rfl (Nat.le_of_ble_eq_true rfl) ⟨rfl, rfl, Nat.le_of_ble_eq_true rfl, Nat.le_of_ble_eq_true rfl⟩ ⟨Nat.zero_le _, Nat.zero_le _⟩ d_Arithmetic_turn_73 (fun H locs hX => ?_)
    refine lv_goto (pc := 76) (tgt := 172) X.1 X.2.1 d_Arithmetic_turn_76 (by decide) ?_
    exact ab_kv_ret (pc := 172) X hr hk hX (by rw [f_Arithmetic_turn, if_pos h1]) d_Arithmetic_turn_172
  ·
    by_cases h2 : x1 = 1
    ·
      refine ab_swIn (pc := 12) (tgt := 79) (off := 67) X.1 X.2.1 d_Arithmetic_turn_12 h2 (by decide) (by decide) (by decide) (by decide) ?_
      refine lv_aload_n (pc := 79) X.1 X.2.1 d_Arithmetic_turn_79 rfl (lv_at hl 1 rfl) ?_
      refine lv_iload_n (pc := 80) X.1 X.2.1 d_Arithmetic_turn_80 rfl (lv_at hl 0 rfl) ?_
      refine lv_iconst (pc := 81) (v := 1) X.1 X.2.1 d_Arithmetic_turn_81 (by decide) ?_
      refine lv_ishr (pc := 82) X.1 X.2.1 d_Arithmetic_turn_82 ?_
      refine lv_iload_n (pc := 83) X.1 X.2.1 d_Arithmetic_turn_83 rfl (lv_at hl 0 rfl) ?_
      refine lv_bipush (pc := 84) (v := 7) X.1 X.2.1 d_Arithmetic_turn_84 (by decide) ?_
      refine lv_ishl (pc := 86) X.1 X.2.1 d_Arithmetic_turn_86 ?_
      refine lv_ior (pc := 87) X.1 X.2.1 d_Arithmetic_turn_87 ?_
      refine lv_iload_n (pc := 88) X.1 X.2.1 d_Arithmetic_turn_88 rfl (lv_at hl 0 rfl) ?_
      refine ab_kv_callV (pc := 89) (wr := []) (w := (wC t q)) (u := u) (F := f_Arithmetic_turnTo u (((u 2 7) >>> ((1 : Int32) &&& 31)) ||| ((u 2 7) <<< ((7 : Int32) &&& 31))) (u 2 7)) (as := [.int (((u 2 7) >>> ((1 : Int32) &&& 31)) ||| ((u 2 7) <<< ((7 : Int32) &&& 31))), .int (u 2 7)]) (rest := []) X hX (c_Arithmetic_turnTo l D t q u (((u 2 7) >>> ((1 : Int32) &&& 31)) ||| ((u 2 7) <<< ((7 : Int32) &&& 31))) (u 2 7)) ok_Arithmetic_turnTo okv_Arithmetic_turnTo tw_112 7 0 rfl rfl rfl hl.1 rfl (Nat.le_of_ble_eq_true rfl) ⟨rfl, rfl, Nat.le_of_ble_eq_true rfl, Nat.le_of_ble_eq_true rfl⟩ ⟨Nat.zero_le _, Nat.zero_le _⟩ d_Arithmetic_turn_89 (fun H locs hX => ?_)
      refine lv_goto (pc := 92) (tgt := 172) X.1 X.2.1 d_Arithmetic_turn_92 (by decide) ?_
      exact ab_kv_ret (pc := 172) X hr hk hX (by rw [f_Arithmetic_turn, if_neg h1, if_pos h2]) d_Arithmetic_turn_172
    ·
      by_cases h3 : x1 = 2
      ·
        refine ab_swIn (pc := 12) (tgt := 95) (off := 83) X.1 X.2.1 d_Arithmetic_turn_12 h3 (by decide) (by decide) (by decide) (by decide) ?_
        refine lv_aload_n (pc := 95) X.1 X.2.1 d_Arithmetic_turn_95 rfl (lv_at hl 1 rfl) ?_
        refine lv_iload_n (pc := 96) X.1 X.2.1 d_Arithmetic_turn_96 rfl (lv_at hl 0 rfl) ?_
        refine lv_iconst (pc := 97) (v := 1) X.1 X.2.1 d_Arithmetic_turn_97 (by decide) ?_
        refine lv_ishl (pc := 98) X.1 X.2.1 d_Arithmetic_turn_98 ?_
        refine lv_aload_n (pc := 99) X.1 X.2.1 d_Arithmetic_turn_99 rfl (lv_at hl 1 rfl) ?_
        refine ab_kr_callV (pc := 100) (wr := []) (w := (wC t q)) (u := u) (r := f_Arithmetic_carry u) (as := []) (rest := [.int ((u 2 7) <<< ((1 : Int32) &&& 31)), .ref (q 7)]) X hX (c_Arithmetic_carry l D t q u) ok_Arithmetic_carry okv_Arithmetic_carry tw_90 7 0 rfl rfl rfl hl.1 rfl (Nat.le_of_ble_eq_true rfl) ⟨rfl, rfl, Nat.le_of_ble_eq_true rfl, Nat.le_of_ble_eq_true rfl⟩ ⟨Nat.zero_le _, Nat.zero_le _⟩ d_Arithmetic_turn_100 (fun H locs hX => ?_)
        refine lv_ior (pc := 103) X.1 X.2.1 d_Arithmetic_turn_103 ?_
        refine lv_iload_n (pc := 104) X.1 X.2.1 d_Arithmetic_turn_104 rfl (lv_at hl 0 rfl) ?_
        refine lv_bipush (pc := 105) (v := 7) X.1 X.2.1 d_Arithmetic_turn_105 (by decide) ?_
        refine lv_ishr (pc := 107) X.1 X.2.1 d_Arithmetic_turn_107 ?_
        refine ab_kv_callV (pc := 108) (wr := []) (w := (wC t q)) (u := u) (F := f_Arithmetic_turnTo u (((u 2 7) <<< ((1 : Int32) &&& 31)) ||| (f_Arithmetic_carry u)) ((u 2 7) >>> ((7 : Int32) &&& 31))) (as := [.int (((u 2 7) <<< ((1 : Int32) &&& 31)) ||| (f_Arithmetic_carry u)), .int ((u 2 7) >>> ((7 : Int32) &&& 31))]) (rest := []) X hX (c_Arithmetic_turnTo l D t q u (((u 2 7) <<< ((1 : Int32) &&& 31)) ||| (f_Arithmetic_carry u)) ((u 2 7) >>> ((7 : Int32) &&& 31))) ok_Arithmetic_turnTo okv_Arithmetic_turnTo tw_112 7 0 rfl rfl rfl hl.1 rfl (Nat.le_of_ble_eq_true rfl) ⟨rfl, rfl, Nat.le_of_ble_eq_true rfl, Nat.le_of_ble_eq_true rfl⟩ ⟨Nat.zero_le _, Nat.zero_le _⟩ d_Arithmetic_turn_108 (fun H locs hX => ?_)
        refine lv_goto (pc := 111) (tgt := 172) X.1 X.2.1 d_Arithmetic_turn_111 (by decide) ?_
        exact ab_kv_ret (pc := 172) X hr hk hX (by rw [f_Arithmetic_turn, if_neg h1, if_neg h2, if_pos h3]) d_Arithmetic_turn_172
      ·
        by_cases h4 : x1 = 3
        ·
          refine ab_swIn (pc := 12) (tgt := 114) (off := 102) X.1 X.2.1 d_Arithmetic_turn_12 h4 (by decide) (by decide) (by decide) (by decide) ?_
          refine lv_aload_n (pc := 114) X.1 X.2.1 d_Arithmetic_turn_114 rfl (lv_at hl 1 rfl) ?_
          refine lv_iload_n (pc := 115) X.1 X.2.1 d_Arithmetic_turn_115 rfl (lv_at hl 0 rfl) ?_
          refine lv_iconst (pc := 116) (v := 1) X.1 X.2.1 d_Arithmetic_turn_116 (by decide) ?_
          refine lv_ishr (pc := 117) X.1 X.2.1 d_Arithmetic_turn_117 ?_
          refine lv_aload_n (pc := 118) X.1 X.2.1 d_Arithmetic_turn_118 rfl (lv_at hl 1 rfl) ?_
          refine ab_kr_callV (pc := 119) (wr := []) (w := (wC t q)) (u := u) (r := f_Arithmetic_carry u) (as := []) (rest := [.int ((u 2 7) >>> ((1 : Int32) &&& 31)), .ref (q 7)]) X hX (c_Arithmetic_carry l D t q u) ok_Arithmetic_carry okv_Arithmetic_carry tw_90 7 0 rfl rfl rfl hl.1 rfl (Nat.le_of_ble_eq_true rfl) ⟨rfl, rfl, Nat.le_of_ble_eq_true rfl, Nat.le_of_ble_eq_true rfl⟩ ⟨Nat.zero_le _, Nat.zero_le _⟩ d_Arithmetic_turn_119 (fun H locs hX => ?_)
          refine lv_bipush (pc := 122) (v := 7) X.1 X.2.1 d_Arithmetic_turn_122 (by decide) ?_
          refine lv_ishl (pc := 124) X.1 X.2.1 d_Arithmetic_turn_124 ?_
          refine lv_ior (pc := 125) X.1 X.2.1 d_Arithmetic_turn_125 ?_
          refine lv_iload_n (pc := 126) X.1 X.2.1 d_Arithmetic_turn_126 rfl (lv_at hl 0 rfl) ?_
          refine ab_kv_callV (pc := 127) (wr := []) (w := (wC t q)) (u := u) (F := f_Arithmetic_turnTo u (((u 2 7) >>> ((1 : Int32) &&& 31)) ||| ((f_Arithmetic_carry u) <<< ((7 : Int32) &&& 31))) (u 2 7)) (as := [.int (((u 2 7) >>> ((1 : Int32) &&& 31)) ||| ((f_Arithmetic_carry u) <<< ((7 : Int32) &&& 31))), .int (u 2 7)]) (rest := []) X hX (c_Arithmetic_turnTo l D t q u (((u 2 7) >>> ((1 : Int32) &&& 31)) ||| ((f_Arithmetic_carry u) <<< ((7 : Int32) &&& 31))) (u 2 7)) ok_Arithmetic_turnTo okv_Arithmetic_turnTo tw_112 7 0 rfl rfl rfl hl.1 rfl (Nat.le_of_ble_eq_true rfl) ⟨rfl, rfl, Nat.le_of_ble_eq_true rfl, Nat.le_of_ble_eq_true rfl⟩ ⟨Nat.zero_le _, Nat.zero_le _⟩ d_Arithmetic_turn_127 (fun H locs hX => ?_)
          refine lv_goto (pc := 130) (tgt := 172) X.1 X.2.1 d_Arithmetic_turn_130 (by decide) ?_
          exact ab_kv_ret (pc := 172) X hr hk hX (by rw [f_Arithmetic_turn, if_neg h1, if_neg h2, if_neg h3, if_pos h4]) d_Arithmetic_turn_172
        ·
          by_cases h5 : x1 = 4
          ·
            refine ab_swIn (pc := 12) (tgt := 172) (off := 160) X.1 X.2.1 d_Arithmetic_turn_12 h5 (by decide) (by decide) (by decide) (by decide) ?_
            exact ab_kv_ret (pc := 172) X hr hk hX (by rw [f_Arithmetic_turn, if_neg h1, if_neg h2, if_neg h3, if_neg h4, if_pos h5]) d_Arithmetic_turn_172
          ·
            by_cases h6 : x1 = 5
            ·
              refine ab_swIn (pc := 12) (tgt := 133) (off := 121) X.1 X.2.1 d_Arithmetic_turn_12 h6 (by decide) (by decide) (by decide) (by decide) ?_
              refine lv_aload_n (pc := 133) X.1 X.2.1 d_Arithmetic_turn_133 rfl (lv_at hl 1 rfl) ?_
              refine ab_gx (pc := 134) (v := .ref (q 1)) X hX 7 0 0 rfl rfl (Nat.le_of_ble_eq_true rfl) in_Arithmetic rfl tw_61 rfl d_Arithmetic_turn_134 ?_
              refine ab_gx (pc := 137) (v := .ref (q 3)) X hX 1 7 1 rfl rfl (Nat.le_of_ble_eq_true rfl) in_State rfl tw_88 rfl d_Arithmetic_turn_137 ?_
              refine lv_bipush (pc := 140) (v := 7) X.1 X.2.1 d_Arithmetic_turn_140 (by decide) ?_
              refine lv_iload_n (pc := 142) X.1 X.2.1 d_Arithmetic_turn_142 rfl (lv_at hl 0 rfl) ?_
              refine lv_sipush (pc := 143) (v := 255) X.1 X.2.1 d_Arithmetic_turn_143 (by decide) ?_
              refine lv_ixor (pc := 146) X.1 X.2.1 d_Arithmetic_turn_146 ?_
              refine ab_ast (pc := 147) (f := u 2) (j := 7) (ws' := (wC t q (stt u 2 7 ((u 2 7) ^^^ 255)))) X hX 3 0 rfl rfl (ab_inc (by decide)) rfl (sa_wC_3 t q u 7 ((u 2 7) ^^^ 255)) d_Arithmetic_turn_147 (fun H locs hX => ?_)
              refine lv_goto (pc := 148) (tgt := 172) X.1 X.2.1 d_Arithmetic_turn_148 (by decide) ?_
              exact ab_kv_ret (pc := 172) X hr hk hX (by rw [f_Arithmetic_turn, if_neg h1, if_neg h2, if_neg h3, if_neg h4, if_neg h5, if_pos h6]) d_Arithmetic_turn_172
            ·
              by_cases h7 : x1 = 6
              ·
                refine ab_swIn (pc := 12) (tgt := 151) (off := 139) X.1 X.2.1 d_Arithmetic_turn_12 h7 (by decide) (by decide) (by decide) (by decide) ?_
                refine lv_aload_n (pc := 151) X.1 X.2.1 d_Arithmetic_turn_151 rfl (lv_at hl 1 rfl) ?_
                refine lv_iconst (pc := 152) (v := 1) X.1 X.2.1 d_Arithmetic_turn_152 (by decide) ?_
                refine ab_kv_callV (pc := 153) (wr := []) (w := (wC t q)) (u := u) (F := f_Arithmetic_setCarry u 1) (as := [.int 1]) (rest := []) X hX (c_Arithmetic_setCarry l D t q u 1) ok_Arithmetic_setCarry okv_Arithmetic_setCarry tw_102 7 0 rfl rfl rfl hl.1 rfl (Nat.le_of_ble_eq_true rfl) ⟨rfl, rfl, Nat.le_of_ble_eq_true rfl, Nat.le_of_ble_eq_true rfl⟩ ⟨Nat.zero_le _, Nat.zero_le _⟩ d_Arithmetic_turn_153 (fun H locs hX => ?_)
                refine lv_goto (pc := 156) (tgt := 172) X.1 X.2.1 d_Arithmetic_turn_156 (by decide) ?_
                exact ab_kv_ret (pc := 172) X hr hk hX (by rw [f_Arithmetic_turn, if_neg h1, if_neg h2, if_neg h3, if_neg h4, if_neg h5, if_neg h6, if_pos h7]) d_Arithmetic_turn_172
              ·
                by_cases h8 : x1 = 7
                ·
                  refine ab_swIn (pc := 12) (tgt := 159) (off := 147) X.1 X.2.1 d_Arithmetic_turn_12 h8 (by decide) (by decide) (by decide) (by decide) ?_
                  refine lv_aload_n (pc := 159) X.1 X.2.1 d_Arithmetic_turn_159 rfl (lv_at hl 1 rfl) ?_
                  refine lv_aload_n (pc := 160) X.1 X.2.1 d_Arithmetic_turn_160 rfl (lv_at hl 1 rfl) ?_
                  refine ab_kr_callV (pc := 161) (wr := []) (w := (wC t q)) (u := u) (r := f_Arithmetic_carry u) (as := []) (rest := [.ref (q 7)]) X hX (c_Arithmetic_carry l D t q u) ok_Arithmetic_carry okv_Arithmetic_carry tw_90 7 0 rfl rfl rfl hl.1 rfl (Nat.le_of_ble_eq_true rfl) ⟨rfl, rfl, Nat.le_of_ble_eq_true rfl, Nat.le_of_ble_eq_true rfl⟩ ⟨Nat.zero_le _, Nat.zero_le _⟩ d_Arithmetic_turn_161 (fun H locs hX => ?_)
                  refine lv_iconst (pc := 164) (v := 1) X.1 X.2.1 d_Arithmetic_turn_164 (by decide) ?_
                  refine lv_ixor (pc := 165) X.1 X.2.1 d_Arithmetic_turn_165 ?_
                  refine ab_kv_callV (pc := 166) (wr := []) (w := (wC t q)) (u := u) (F := f_Arithmetic_setCarry u ((f_Arithmetic_carry u) ^^^ 1)) (as := [.int ((f_Arithmetic_carry u) ^^^ 1)]) (rest := []) X hX (c_Arithmetic_setCarry l D t q u ((f_Arithmetic_carry u) ^^^ 1)) ok_Arithmetic_setCarry okv_Arithmetic_setCarry tw_102 7 0 rfl rfl rfl hl.1 rfl (Nat.le_of_ble_eq_true rfl) ⟨rfl, rfl, Nat.le_of_ble_eq_true rfl, Nat.le_of_ble_eq_true rfl⟩ ⟨Nat.zero_le _, Nat.zero_le _⟩ d_Arithmetic_turn_166 (fun H locs hX => ?_)
                  refine lv_goto (pc := 169) (tgt := 172) X.1 X.2.1 d_Arithmetic_turn_169 (by decide) ?_
                  exact ab_kv_ret (pc := 172) X hr hk hX (by rw [f_Arithmetic_turn, if_neg h1, if_neg h2, if_neg h3, if_neg h4, if_neg h5, if_neg h6, if_neg h7, if_pos h8]) d_Arithmetic_turn_172
                ·
                  have hno : x1.toInt < 0 ∨ 7 < x1.toInt := by
                    have n0 := lv_neT h1 (k := 0) (a := 0) (by decide)
                    have n1 := lv_neT h2 (k := 1) (a := 1) (by decide)
                    have n2 := lv_neT h3 (k := 2) (a := 2) (by decide)
                    have n3 := lv_neT h4 (k := 3) (a := 3) (by decide)
                    have n4 := lv_neT h5 (k := 4) (a := 4) (by decide)
                    have n5 := lv_neT h6 (k := 5) (a := 5) (by decide)
                    have n6 := lv_neT h7 (k := 6) (a := 6) (by decide)
                    have n7 := lv_neT h8 (k := 7) (a := 7) (by decide)
                    omega
                  refine lv_tableOut (pc := 12) (tgt := 172) X.1 X.2.1 d_Arithmetic_turn_12 hno (by decide) ?_
                  exact ab_kv_ret (pc := 172) X hr hk hX (by rw [f_Arithmetic_turn, if_neg h1, if_neg h2, if_neg h3, if_neg h4, if_neg h5, if_neg h6, if_neg h7, if_neg h8]) d_Arithmetic_turn_172
