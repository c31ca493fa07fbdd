abbrev b_LW_power : ByteArray := method_3_code
def y_LW_power : MethodName := ⟨"ArcadeBoardLaw", "power", "(LArcadeBoard;I[J)I"⟩
theorem d_LW_power_0 : decode b_LW_power 0 = .ok (.aload_n 2, 1) := by decide +kernel
theorem d_LW_power_1 : decode b_LW_power 1 = .ok (.iconst 0, 1) := by decide +kernel
theorem d_LW_power_2 : decode b_LW_power 2 = .ok (.aload_n 0, 1) := by decide +kernel
theorem d_LW_power_3 : decode b_LW_power 3 = .ok (.iload_n 1, 1) := by decide +kernel
theorem d_LW_power_4 : decode b_LW_power 4 = .ok (.invokevirtual 7, 3) := by decide +kernel
theorem d_LW_power_7 : decode b_LW_power 7 = .ok (.ifCond .eq 7, 3) := by decide +kernel
theorem d_LW_power_10 : decode b_LW_power 10 = .ok (.lconst 1, 1) := by decide +kernel
theorem d_LW_power_11 : decode b_LW_power 11 = .ok (.goto 4, 3) := by decide +kernel
theorem d_LW_power_14 : decode b_LW_power 14 = .ok (.lconst 0, 1) := by decide +kernel
theorem d_LW_power_15 : decode b_LW_power 15 = .ok (.lastore, 1) := by decide +kernel
theorem d_LW_power_16 : decode b_LW_power 16 = .ok (.goto 9, 3) := by decide +kernel
theorem d_LW_power_19 : decode b_LW_power 19 = .ok (.astore_n 3, 1) := by decide +kernel
theorem d_LW_power_20 : decode b_LW_power 20 = .ok (.iconst 1, 1) := by decide +kernel
theorem d_LW_power_21 : decode b_LW_power 21 = .ok (.ireturn, 1) := by decide +kernel
theorem d_LW_power_22 : decode b_LW_power 22 = .ok (.astore_n 3, 1) := by decide +kernel
theorem d_LW_power_23 : decode b_LW_power 23 = .ok (.iconst 2, 1) := by decide +kernel
theorem d_LW_power_24 : decode b_LW_power 24 = .ok (.ireturn, 1) := by decide +kernel
theorem d_LW_power_25 : decode b_LW_power 25 = .ok (.iconst 0, 1) := by decide +kernel
theorem d_LW_power_26 : decode b_LW_power 26 = .ok (.ireturn, 1) := by decide +kernel
theorem lx_0 : Jvm.Cond.classLink "ArcadeBoardLaw" 13 "java/lang/IllegalArgumentException" ∈ AL := ab_in (ab_t2 (List.mem_of_getElem? (i := 111) (by decide +kernel))) (by decide +kernel)
theorem lx_1 : Jvm.Cond.classLink "ArcadeBoardLaw" 15 "java/lang/IllegalStateException" ∈ AL := ab_in (ab_t2 (List.mem_of_getElem? (i := 112) (by decide +kernel))) (by decide +kernel)
theorem lx_2 : Jvm.Cond.castable "java/lang/IllegalArgumentException" "java/lang/IllegalArgumentException" ∈ lw_tbl := ab_t2 (List.mem_of_getElem? (i := 119) (by decide +kernel))
theorem lx_3 : Jvm.Cond.castable "java/lang/IllegalStateException" "java/lang/IllegalStateException" ∈ lw_tbl := ab_t2 (List.mem_of_getElem? (i := 186) (by decide +kernel))
theorem lx_4 : Jvm.Cond.methodLink "ArcadeBoardLaw" 7 ⟨"ArcadeBoard", "power", "(I)Z"⟩ ∈ AL := ab_in (ab_t2 (List.mem_of_getElem? (i := 113) (by decide +kernel))) (by decide +kernel)
set_option maxHeartbeats 1000000 in
theorem c_LW_power (l : Launch) (hst : l.stackTraces = false) (D : va_G) (t : Nat → ClassId) (q : Nat → Nat) (o : Nat) (g : Nat → Int64) (z u : SS) (x : Int32) : ab_kh l D (tyC t) (wH t q o) y_LW_power b_LW_power 4 [(0, 16, 19, 13), (0, 16, 22, 15)] { frames := 7, cells := 1, slots := 6, locals := 125 } [.ref (q 12), .int x, .ref o] (g, (z, u)) (h_O h_b g (f_AB_power z u x)) := by
  refine ab_kh_ofW (by decide) (Nat.le_of_ble_eq_true rfl) (fun p e s m below meth c ls A X hT hN htab hr hk hl hX => ?_)
  have hl : lv_has ls 4 [(0, .ref (q 12)), (1, .int x), (2, .ref o)] := hl
  have hX : ab_hx D ([(o, .inl (t 3, 1, .inr (.inl g)))] ++ wT t q (z, u)) A s.heap s.heap [] := hX
  refine lv_aload_n (pc := 0) X.1 X.2.1 d_LW_power_0 rfl (lv_at hl 2 rfl) ?_
  refine lv_iconst (pc := 1) (v := 0) X.1 X.2.1 d_LW_power_1 (by decide) ?_
  refine lv_aload_n (pc := 2) X.1 X.2.1 d_LW_power_2 rfl (lv_at hl 0 rfl) ?_
  refine lv_iload_n (pc := 3) X.1 X.2.1 d_LW_power_3 rfl (lv_at hl 1 rfl) ?_
  have hM := c_AB_power l hst D t q z u x
  obtain ⟨F, hF⟩ : ∃ F, F = f_AB_power z u x := ⟨_, rfl⟩
  rw [← hF] at hM ⊢
  refine ab_kx_callV (pc := 4) (wr := [(o, .inl (t 3, 1, .inr (.inl g)))]) (w := wT t q) (u := (z, u)) (F := F) (as := [.int x]) (rest := [.int 0, .ref o]) X hT hX hM ok_AB_power okv_AB_power lx_4 1 8 rfl rfl rfl hl.1 rfl (Nat.le_of_ble_eq_true rfl) ⟨rfl, rfl, Nat.le_of_ble_eq_true rfl, Nat.le_of_ble_eq_true rfl⟩ ⟨Nat.le_of_ble_eq_true rfl, Nat.le_of_ble_eq_true rfl⟩ d_LW_power_4 (fun h0 H locs hX => ?_) (fun h0 H locs qx ce hX hce hcv hcl => ?_)
  · have fin : ∀ v : Int64, h_b F.2.1 = v → W p l e { frames := 7, cells := 1, slots := 6, locals := 125 } s m [Value.ref (q 12), .int x, .ref o].toArray below meth c H locs 1 6 (ab_kh_E below [Value.ref (q 12), .int x, .ref o].toArray s D (tyC t) (wH t q o) A (h_O h_b g F)) (F0 m 15 ls [.long v, .int 0, .ref o]) := fun v hv => by
      refine ab_lst (pc := 15) (j := 0) (ws' := wH t q o (vp_updL g 0 v, F.2.2)) X hX 0 3 rfl rfl (ab_inc (by decide)) rfl rfl d_LW_power_15 (fun H locs hX => ?_)
      refine lv_goto (pc := 16) (tgt := 25) X.1 X.2.1 d_LW_power_16 (by decide) ?_
      refine lv_iconst (pc := 25) (v := 0) X.1 X.2.1 d_LW_power_25 (by decide) ?_
      exact ab_kh_ret (pc := 26) (u' := (vp_updL g 0 v, F.2.2)) X hr hk hX (by unfold h_O; rw [if_pos h0, if_pos h0, hv]) d_LW_power_26
    refine lv_if_eq (pc := 7) (tgt := 14) X.1 X.2.1 d_LW_power_7 (by decide) (fun h1 => ?_) (fun h1 => ?_)
    · exact lv_lconst (pc := 14) (v := 0) X.1 X.2.1 d_LW_power_14 (by decide) (fin 0 (by unfold h_b; rw [if_pos h1]))
    · refine lv_lconst (pc := 10) (v := 1) X.1 X.2.1 d_LW_power_10 (by decide) ?_
      exact lv_goto (pc := 11) (tgt := 15) X.1 X.2.1 d_LW_power_11 (by decide) (fin 1 (by unfold h_b; rw [if_neg h1]))
  · have wd := X.2.2.2.2.1
    refine ab_catch (x1 := ⟨0, 16, 19, 13⟩) (x2 := ⟨0, 16, 22, 15⟩) X.2.2.2.1 htab (by decide) (by decide) (by decide) (by decide) (wd _ lx_0) (wd _ lx_1) (ab_fa (State.WarmedH.refl s) rfl (hT.2.2 _ lx_2 rfl)) (ab_fa (State.WarmedH.refl s) rfl (hT.2.2 _ lx_3 rfl)) hN h0 hce hcv hcl ?_
    by_cases e1 : F.1 = 1
    · rw [if_pos e1]
      refine lv_astore_n (pc := 19) (lv' := [(3, .ref qx), (0, .ref (q 12)), (1, .int x), (2, .ref o)]) X.1 X.2.1 d_LW_power_19 rfl hl (Nat.le_of_ble_eq_true rfl) rfl (fun ls hl => ?_)
      refine lv_iconst (pc := 20) (v := 1) X.1 X.2.1 d_LW_power_20 (by decide) ?_
      exact ab_kh_ret (pc := 21) (u' := (g, F.2.2)) X hr hk hX (by unfold h_O; rw [if_neg h0, if_neg h0, if_pos e1]) d_LW_power_21
    · rw [if_neg e1]
      refine lv_astore_n (pc := 22) (lv' := [(3, .ref qx), (0, .ref (q 12)), (1, .int x), (2, .ref o)]) X.1 X.2.1 d_LW_power_22 rfl hl (Nat.le_of_ble_eq_true rfl) rfl (fun ls hl => ?_)
      refine lv_iconst (pc := 23) (v := 2) X.1 X.2.1 d_LW_power_23 (by decide) ?_
      exact ab_kh_ret (pc := 24) (u' := (g, F.2.2)) X hr hk hX (by unfold h_O; rw [if_neg h0, if_neg h0, if_neg e1]) d_LW_power_24
abbrev b_LW_run : ByteArray := method_4_code
def y_LW_run : MethodName := ⟨"ArcadeBoardLaw", "run", "(LArcadeBoard;I[J)I"⟩
theorem d_LW_run_0 : decode b_LW_run 0 = .ok (.aload_n 2, 1) := by decide +kernel
theorem d_LW_run_1 : decode b_LW_run 1 = .ok (.iconst 0, 1) := by decide +kernel
theorem d_LW_run_2 : decode b_LW_run 2 = .ok (.aload_n 0, 1) := by decide +kernel
theorem d_LW_run_3 : decode b_LW_run 3 = .ok (.iload_n 1, 1) := by decide +kernel
theorem d_LW_run_4 : decode b_LW_run 4 = .ok (.invokevirtual 17, 3) := by decide +kernel
theorem d_LW_run_7 : decode b_LW_run 7 = .ok (.i2l, 1) := by decide +kernel
theorem d_LW_run_8 : decode b_LW_run 8 = .ok (.lastore, 1) := by decide +kernel
theorem d_LW_run_9 : decode b_LW_run 9 = .ok (.goto 9, 3) := by decide +kernel
theorem d_LW_run_12 : decode b_LW_run 12 = .ok (.astore_n 3, 1) := by decide +kernel
theorem d_LW_run_13 : decode b_LW_run 13 = .ok (.iconst 1, 1) := by decide +kernel
theorem d_LW_run_14 : decode b_LW_run 14 = .ok (.ireturn, 1) := by decide +kernel
theorem d_LW_run_15 : decode b_LW_run 15 = .ok (.astore_n 3, 1) := by decide +kernel
theorem d_LW_run_16 : decode b_LW_run 16 = .ok (.iconst 2, 1) := by decide +kernel
theorem d_LW_run_17 : decode b_LW_run 17 = .ok (.ireturn, 1) := by decide +kernel
theorem d_LW_run_18 : decode b_LW_run 18 = .ok (.iconst 0, 1) := by decide +kernel
theorem d_LW_run_19 : decode b_LW_run 19 = .ok (.ireturn, 1) := by decide +kernel
theorem lx_5 : Jvm.Cond.methodLink "ArcadeBoardLaw" 17 ⟨"ArcadeBoard", "run", "(I)I"⟩ ∈ AL := ab_in (ab_t2 (List.mem_of_getElem? (i := 207) (by decide +kernel))) (by decide +kernel)
set_option maxHeartbeats 1000000 in
theorem c_LW_run (l : Launch) (hst : l.stackTraces = false) (D : va_G) (t : Nat → ClassId) (q : Nat → Nat) (o : Nat) (g : Nat → Int64) (z u : SS) (x : Int32) : ab_kh l D (tyC t) (wH t q o) y_LW_run b_LW_run 4 [(0, 9, 12, 13), (0, 9, 15, 15)] { frames := 8, cells := 1, slots := 6, locals := 175 } [.ref (q 12), .int x, .ref o] (g, (z, u)) (h_O Int32.toInt64 g (f_AB_run z u x)) := by
  refine ab_kh_ofW (by decide) (Nat.le_of_ble_eq_true rfl) (fun p e s m below meth c ls A X hT hN htab hr hk hl hX => ?_)
  have hl : lv_has ls 4 [(0, .ref (q 12)), (1, .int x), (2, .ref o)] := hl
  have hX : ab_hx D ([(o, .inl (t 3, 1, .inr (.inl g)))] ++ wT t q (z, u)) A s.heap s.heap [] := hX
  refine lv_aload_n (pc := 0) X.1 X.2.1 d_LW_run_0 rfl (lv_at hl 2 rfl) ?_
  refine lv_iconst (pc := 1) (v := 0) X.1 X.2.1 d_LW_run_1 (by decide) ?_
  refine lv_aload_n (pc := 2) X.1 X.2.1 d_LW_run_2 rfl (lv_at hl 0 rfl) ?_
  refine lv_iload_n (pc := 3) X.1 X.2.1 d_LW_run_3 rfl (lv_at hl 1 rfl) ?_
  have hM := c_AB_run l hst D t q z u x
  obtain ⟨F, hF⟩ : ∃ F, F = f_AB_run z u x := ⟨_, rfl⟩
  rw [← hF] at hM ⊢
  refine ab_kx_callV (pc := 4) (wr := [(o, .inl (t 3, 1, .inr (.inl g)))]) (w := wT t q) (u := (z, u)) (F := F) (as := [.int x]) (rest := [.int 0, .ref o]) X hT hX hM ok_AB_run okv_AB_run lx_5 1 8 rfl rfl rfl hl.1 rfl (Nat.le_of_ble_eq_true rfl) ⟨rfl, rfl, Nat.le_of_ble_eq_true rfl, Nat.le_of_ble_eq_true rfl⟩ ⟨Nat.le_of_ble_eq_true rfl, Nat.le_of_ble_eq_true rfl⟩ d_LW_run_4 (fun h0 H locs hX => ?_) (fun h0 H locs qx ce hX hce hcv hcl => ?_)
  · have fin : ∀ v : Int64, Int32.toInt64 F.2.1 = v → W p l e { frames := 8, cells := 1, slots := 6, locals := 175 } s m [Value.ref (q 12), .int x, .ref o].toArray below meth c H locs 1 6 (ab_kh_E below [Value.ref (q 12), .int x, .ref o].toArray s D (tyC t) (wH t q o) A (h_O Int32.toInt64 g F)) (F0 m 8 ls [.long v, .int 0, .ref o]) := fun v hv => by
      refine ab_lst (pc := 8) (j := 0) (ws' := wH t q o (vp_updL g 0 v, F.2.2)) X hX 0 3 rfl rfl (ab_inc (by decide)) rfl rfl d_LW_run_8 (fun H locs hX => ?_)
      refine lv_goto (pc := 9) (tgt := 18) X.1 X.2.1 d_LW_run_9 (by decide) ?_
      refine lv_iconst (pc := 18) (v := 0) X.1 X.2.1 d_LW_run_18 (by decide) ?_
      exact ab_kh_ret (pc := 19) (u' := (vp_updL g 0 v, F.2.2)) X hr hk hX (by unfold h_O; rw [if_pos h0, if_pos h0, hv]) d_LW_run_19
    exact lv_i2l (pc := 7) (v := F.2.1.toInt64) X.1 X.2.1 d_LW_run_7 rfl (fin _ rfl)
  · have wd := X.2.2.2.2.1
    refine ab_catch (x1 := ⟨0, 9, 12, 13⟩) (x2 := ⟨0, 9, 15, 15⟩) X.2.2.2.1 htab (by decide) (by decide) (by decide) (by decide) (wd _ lx_0) (wd _ lx_1) (ab_fa (State.WarmedH.refl s) rfl (hT.2.2 _ lx_2 rfl)) (ab_fa (State.WarmedH.refl s) rfl (hT.2.2 _ lx_3 rfl)) hN h0 hce hcv hcl ?_
    by_cases e1 : F.1 = 1
    · rw [if_pos e1]
      refine lv_astore_n (pc := 12) (lv' := [(3, .ref qx), (0, .ref (q 12)), (1, .int x), (2, .ref o)]) X.1 X.2.1 d_LW_run_12 rfl hl (Nat.le_of_ble_eq_true rfl) rfl (fun ls hl => ?_)
      refine lv_iconst (pc := 13) (v := 1) X.1 X.2.1 d_LW_run_13 (by decide) ?_
      exact ab_kh_ret (pc := 14) (u' := (g, F.2.2)) X hr hk hX (by unfold h_O; rw [if_neg h0, if_neg h0, if_pos e1]) d_LW_run_14
    · rw [if_neg e1]
      refine lv_astore_n (pc := 15) (lv' := [(3, .ref qx), (0, .ref (q 12)), (1, .int x), (2, .ref o)]) X.1 X.2.1 d_LW_run_15 rfl hl (Nat.le_of_ble_eq_true rfl) rfl (fun ls hl => ?_)
      refine lv_iconst (pc := 16) (v := 2) X.1 X.2.1 d_LW_run_16 (by decide) ?_
      exact ab_kh_ret (pc := 17) (u' := (g, F.2.2)) X hr hk hX (by unfold h_O; rw [if_neg h0, if_neg h0, if_neg e1]) d_LW_run_17
abbrev b_LW_restore : ByteArray := method_5_code
def y_LW_restore : MethodName := ⟨"ArcadeBoardLaw", "restore", "(LArcadeBoard;I[J)I"⟩
theorem d_LW_restore_0 : decode b_LW_restore 0 = .ok (.aload_n 2, 1) := by decide +kernel
theorem d_LW_restore_1 : decode b_LW_restore 1 = .ok (.iconst 0, 1) := by decide +kernel
theorem d_LW_restore_2 : decode b_LW_restore 2 = .ok (.aload_n 0, 1) := by decide +kernel
theorem d_LW_restore_3 : decode b_LW_restore 3 = .ok (.iload_n 1, 1) := by decide +kernel
theorem d_LW_restore_4 : decode b_LW_restore 4 = .ok (.invokevirtual 21, 3) := by decide +kernel
theorem d_LW_restore_7 : decode b_LW_restore 7 = .ok (.ifCond .eq 7, 3) := by decide +kernel
theorem d_LW_restore_10 : decode b_LW_restore 10 = .ok (.lconst 1, 1) := by decide +kernel
theorem d_LW_restore_11 : decode b_LW_restore 11 = .ok (.goto 4, 3) := by decide +kernel
theorem d_LW_restore_14 : decode b_LW_restore 14 = .ok (.lconst 0, 1) := by decide +kernel
theorem d_LW_restore_15 : decode b_LW_restore 15 = .ok (.lastore, 1) := by decide +kernel
theorem d_LW_restore_16 : decode b_LW_restore 16 = .ok (.goto 9, 3) := by decide +kernel
theorem d_LW_restore_19 : decode b_LW_restore 19 = .ok (.astore_n 3, 1) := by decide +kernel
theorem d_LW_restore_20 : decode b_LW_restore 20 = .ok (.iconst 1, 1) := by decide +kernel
theorem d_LW_restore_21 : decode b_LW_restore 21 = .ok (.ireturn, 1) := by decide +kernel
theorem d_LW_restore_22 : decode b_LW_restore 22 = .ok (.astore_n 3, 1) := by decide +kernel
theorem d_LW_restore_23 : decode b_LW_restore 23 = .ok (.iconst 2, 1) := by decide +kernel
theorem d_LW_restore_24 : decode b_LW_restore 24 = .ok (.ireturn, 1) := by decide +kernel
theorem d_LW_restore_25 : decode b_LW_restore 25 = .ok (.iconst 0, 1) := by decide +kernel
theorem d_LW_restore_26 : decode b_LW_restore 26 = .ok (.ireturn, 1) := by decide +kernel
theorem lx_6 : Jvm.Cond.methodLink "ArcadeBoardLaw" 21 ⟨"ArcadeBoard", "restore", "(I)Z"⟩ ∈ AL := ab_in (ab_t3 (List.mem_of_getElem? (i := 166) (by decide +kernel))) (by decide +kernel)
set_option maxHeartbeats 1000000 in
theorem c_LW_restore (l : Launch) (hst : l.stackTraces = false) (D : va_G) (t : Nat → ClassId) (q : Nat → Nat) (o : Nat) (g : Nat → Int64) (z u : SS) (x : Int32) (hb : ∀ k, 3 ≤ k → k ≤ 5 → ab_bo (z 1 k) ∧ ab_bo (z 4 k)) : ab_kh l D (tyC t) (wH t q o) y_LW_restore b_LW_restore 4 [(0, 16, 19, 13), (0, 16, 22, 15)] { frames := 7, cells := 1, slots := 6, locals := 125 } [.ref (q 12), .int x, .ref o] (g, (z, u)) (h_O h_b g (f_AB_restore z u x)) := by
  refine ab_kh_ofW (by decide) (Nat.le_of_ble_eq_true rfl) (fun p e s m below meth c ls A X hT hN htab hr hk hl hX => ?_)
  have hl : lv_has ls 4 [(0, .ref (q 12)), (1, .int x), (2, .ref o)] := hl
  have hX : ab_hx D ([(o, .inl (t 3, 1, .inr (.inl g)))] ++ wT t q (z, u)) A s.heap s.heap [] := hX
  refine lv_aload_n (pc := 0) X.1 X.2.1 d_LW_restore_0 rfl (lv_at hl 2 rfl) ?_
  refine lv_iconst (pc := 1) (v := 0) X.1 X.2.1 d_LW_restore_1 (by decide) ?_
  refine lv_aload_n (pc := 2) X.1 X.2.1 d_LW_restore_2 rfl (lv_at hl 0 rfl) ?_
  refine lv_iload_n (pc := 3) X.1 X.2.1 d_LW_restore_3 rfl (lv_at hl 1 rfl) ?_
  have hM := c_AB_restore l hst D t q z u x hb
  obtain ⟨F, hF⟩ : ∃ F, F = f_AB_restore z u x := ⟨_, rfl⟩
  rw [← hF] at hM ⊢
  refine ab_kx_callV (pc := 4) (wr := [(o, .inl (t 3, 1, .inr (.inl g)))]) (w := wT t q) (u := (z, u)) (F := F) (as := [.int x]) (rest := [.int 0, .ref o]) X hT hX hM ok_AB_restore okv_AB_restore lx_6 1 8 rfl rfl rfl hl.1 rfl (Nat.le_of_ble_eq_true rfl) ⟨rfl, rfl, Nat.le_of_ble_eq_true rfl, Nat.le_of_ble_eq_true rfl⟩ ⟨Nat.le_of_ble_eq_true rfl, Nat.le_of_ble_eq_true rfl⟩ d_LW_restore_4 (fun h0 H locs hX => ?_) (fun h0 H locs qx ce hX hce hcv hcl => ?_)
  · have fin : ∀ v : Int64, h_b F.2.1 = v → W p l e { frames := 7, cells := 1, slots := 6, locals := 125 } s m [Value.ref (q 12), .int x, .ref o].toArray below meth c H locs 1 6 (ab_kh_E below [Value.ref (q 12), .int x, .ref o].toArray s D (tyC t) (wH t q o) A (h_O h_b g F)) (F0 m 15 ls [.long v, .int 0, .ref o]) := fun v hv => by
      refine ab_lst (pc := 15) (j := 0) (ws' := wH t q o (vp_updL g 0 v, F.2.2)) X hX 0 3 rfl rfl (ab_inc (by decide)) rfl rfl d_LW_restore_15 (fun H locs hX => ?_)
      refine lv_goto (pc := 16) (tgt := 25) X.1 X.2.1 d_LW_restore_16 (by decide) ?_
      refine lv_iconst (pc := 25) (v := 0) X.1 X.2.1 d_LW_restore_25 (by decide) ?_
      exact ab_kh_ret (pc := 26) (u' := (vp_updL g 0 v, F.2.2)) X hr hk hX (by unfold h_O; rw [if_pos h0, if_pos h0, hv]) d_LW_restore_26
    refine lv_if_eq (pc := 7) (tgt := 14) X.1 X.2.1 d_LW_restore_7 (by decide) (fun h1 => ?_) (fun h1 => ?_)
    · exact lv_lconst (pc := 14) (v := 0) X.1 X.2.1 d_LW_restore_14 (by decide) (fin 0 (by unfold h_b; rw [if_pos h1]))
    · refine lv_lconst (pc := 10) (v := 1) X.1 X.2.1 d_LW_restore_10 (by decide) ?_
      exact lv_goto (pc := 11) (tgt := 15) X.1 X.2.1 d_LW_restore_11 (by decide) (fin 1 (by unfold h_b; rw [if_neg h1]))
  · have wd := X.2.2.2.2.1
    refine ab_catch (x1 := ⟨0, 16, 19, 13⟩) (x2 := ⟨0, 16, 22, 15⟩) X.2.2.2.1 htab (by decide) (by decide) (by decide) (by decide) (wd _ lx_0) (wd _ lx_1) (ab_fa (State.WarmedH.refl s) rfl (hT.2.2 _ lx_2 rfl)) (ab_fa (State.WarmedH.refl s) rfl (hT.2.2 _ lx_3 rfl)) hN h0 hce hcv hcl ?_
    by_cases e1 : F.1 = 1
    · rw [if_pos e1]
      refine lv_astore_n (pc := 19) (lv' := [(3, .ref qx), (0, .ref (q 12)), (1, .int x), (2, .ref o)]) X.1 X.2.1 d_LW_restore_19 rfl hl (Nat.le_of_ble_eq_true rfl) rfl (fun ls hl => ?_)
      refine lv_iconst (pc := 20) (v := 1) X.1 X.2.1 d_LW_restore_20 (by decide) ?_
      exact ab_kh_ret (pc := 21) (u' := (g, F.2.2)) X hr hk hX (by unfold h_O; rw [if_neg h0, if_neg h0, if_pos e1]) d_LW_restore_21
    · rw [if_neg e1]
      refine lv_astore_n (pc := 22) (lv' := [(3, .ref qx), (0, .ref (q 12)), (1, .int x), (2, .ref o)]) X.1 X.2.1 d_LW_restore_22 rfl hl (Nat.le_of_ble_eq_true rfl) rfl (fun ls hl => ?_)
      refine lv_iconst (pc := 23) (v := 2) X.1 X.2.1 d_LW_restore_23 (by decide) ?_
      exact ab_kh_ret (pc := 24) (u' := (g, F.2.2)) X hr hk hX (by unfold h_O; rw [if_neg h0, if_neg h0, if_neg e1]) d_LW_restore_24
