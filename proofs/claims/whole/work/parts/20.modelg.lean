abbrev b_MD_switches : ByteArray := prog_11_method_34_code
def y_MD_switches : MethodName := ⟨"ArcadeBoardModel", "switches", "(II)Z"⟩
theorem d_MD_switches_0 : decode b_MD_switches 0 = .ok (.aload_n 0, 1) := by decide +kernel
theorem d_MD_switches_1 : decode b_MD_switches 1 = .ok (.iconst 0, 1) := by decide +kernel
theorem d_MD_switches_2 : decode b_MD_switches 2 = .ok (.putfield 26, 3) := by decide +kernel
theorem d_MD_switches_5 : decode b_MD_switches 5 = .ok (.iload_n 1, 1) := by decide +kernel
theorem d_MD_switches_6 : decode b_MD_switches 6 = .ok (.ifCond .eq 10, 3) := by decide +kernel
theorem d_MD_switches_9 : decode b_MD_switches 9 = .ok (.iload_n 1, 1) := by decide +kernel
theorem d_MD_switches_10 : decode b_MD_switches 10 = .ok (.iconst 1, 1) := by decide +kernel
theorem d_MD_switches_11 : decode b_MD_switches 11 = .ok (.if_icmp .eq 5, 3) := by decide +kernel
theorem d_MD_switches_14 : decode b_MD_switches 14 = .ok (.iconst 0, 1) := by decide +kernel
theorem d_MD_switches_15 : decode b_MD_switches 15 = .ok (.ireturn, 1) := by decide +kernel
theorem d_MD_switches_16 : decode b_MD_switches 16 = .ok (.aload_n 0, 1) := by decide +kernel
theorem d_MD_switches_17 : decode b_MD_switches 17 = .ok (.iload_n 1, 1) := by decide +kernel
theorem d_MD_switches_18 : decode b_MD_switches 18 = .ok (.ifCond .ne 11, 3) := by decide +kernel
theorem d_MD_switches_21 : decode b_MD_switches 21 = .ok (.iload_n 2, 1) := by decide +kernel
theorem d_MD_switches_22 : decode b_MD_switches 22 = .ok (.sipush 255, 3) := by decide +kernel
theorem d_MD_switches_25 : decode b_MD_switches 25 = .ok (.iand, 1) := by decide +kernel
theorem d_MD_switches_26 : decode b_MD_switches 26 = .ok (.goto 7, 3) := by decide +kernel
theorem d_MD_switches_29 : decode b_MD_switches 29 = .ok (.aload_n 0, 1) := by decide +kernel
theorem d_MD_switches_30 : decode b_MD_switches 30 = .ok (.getfield 130, 3) := by decide +kernel
theorem d_MD_switches_33 : decode b_MD_switches 33 = .ok (.putfield 130, 3) := by decide +kernel
theorem d_MD_switches_36 : decode b_MD_switches 36 = .ok (.aload_n 0, 1) := by decide +kernel
theorem d_MD_switches_37 : decode b_MD_switches 37 = .ok (.iload_n 1, 1) := by decide +kernel
theorem d_MD_switches_38 : decode b_MD_switches 38 = .ok (.iconst 1, 1) := by decide +kernel
theorem d_MD_switches_39 : decode b_MD_switches 39 = .ok (.if_icmp .ne 11, 3) := by decide +kernel
theorem d_MD_switches_42 : decode b_MD_switches 42 = .ok (.iload_n 2, 1) := by decide +kernel
theorem d_MD_switches_43 : decode b_MD_switches 43 = .ok (.sipush 254, 3) := by decide +kernel
theorem d_MD_switches_46 : decode b_MD_switches 46 = .ok (.iand, 1) := by decide +kernel
theorem d_MD_switches_47 : decode b_MD_switches 47 = .ok (.goto 7, 3) := by decide +kernel
theorem d_MD_switches_50 : decode b_MD_switches 50 = .ok (.aload_n 0, 1) := by decide +kernel
theorem d_MD_switches_51 : decode b_MD_switches 51 = .ok (.getfield 133, 3) := by decide +kernel
theorem d_MD_switches_54 : decode b_MD_switches 54 = .ok (.putfield 133, 3) := by decide +kernel
theorem d_MD_switches_57 : decode b_MD_switches 57 = .ok (.iconst 1, 1) := by decide +kernel
theorem d_MD_switches_58 : decode b_MD_switches 58 = .ok (.ireturn, 1) := by decide +kernel
theorem tw_432 : Jvm.Cond.code ⟨"ArcadeBoardModel", "switches", "(II)Z"⟩ prog_11_method_34_code 3 (Option.some Jvm.ClassFile.FieldType.boolean) ∈ AL := ab_in (ab_t4 (List.mem_of_getElem? (i := 162) (by decide +kernel))) rfl
theorem tw_433 : Jvm.Cond.instanceMethod ⟨"ArcadeBoardModel", "switches", "(II)Z"⟩ ∈ AL := ab_in (ab_t4 (List.mem_of_getElem? (i := 160) (by decide +kernel))) rfl
theorem tw_434 : Jvm.Cond.selects "ArcadeBoardModel" ⟨"ArcadeBoardModel", "switches", "(II)Z"⟩ ⟨"ArcadeBoardModel", "switches", "(II)Z"⟩ ∈ AL := ab_in (ab_t4 (List.mem_of_getElem? (i := 161) (by decide +kernel))) rfl
theorem ok_MD_switches : ab_yok y_MD_switches b_MD_switches 3 (some .boolean) 2 := ⟨tw_432, tw_280, by decide, by decide, by decide +kernel⟩
theorem okv_MD_switches : ab_yok_V y_MD_switches := ⟨tw_433, tw_434⟩
set_option maxHeartbeats 1000000 in
set_option maxRecDepth 100000 in
theorem c_MD_switches (l : Launch) (D : va_G) (t : Nat → ClassId) (q : Nat → Nat) (u : SS) (x1 : Int32) (x2 : Int32) : ab_ki l D (tyC t) (wM t q) y_MD_switches b_MD_switches 3 .boolean { frames := 0, cells := 0, slots := 0, locals := 0 } [.ref (q 0), .int x1, .int x2] u (f_MD_switches u x1 x2) := by
  refine ab_ki_ofW (by decide) (Nat.le_of_ble_eq_true rfl) (fun p e s m below meth c ls A X hr hk hl hX => ?_)
  have hl : lv_has ls 3 [(0, .ref (q 0)), (1, .int x1), (2, .int x2)] := hl
  refine lv_aload_n (pc := 0) X.1 X.2.1 d_MD_switches_0 rfl (lv_at hl 0 rfl) ?_
  refine lv_iconst (pc := 1) (v := 0) X.1 X.2.1 d_MD_switches_1 (by decide) ?_
  refine ab_px (pc := 2) (ws' := (wM t q (stt u 0 0 0))) X hX 0 9 0 ty_MD ty_MD_ok nm_MD rfl rfl (Nat.le_of_ble_eq_true rfl) in_MD rfl tw_283 rfl rfl rfl rfl (Nat.le_of_ble_eq_true rfl) (sf_wM_0_0 t q u 0) d_MD_switches_2 (fun H locs hX => ?_)
  refine lv_iload_n (pc := 5) X.1 X.2.1 d_MD_switches_5 rfl (lv_at hl 1 rfl) ?_
  refine lv_if_eq (pc := 6) (tgt := 16) X.1 X.2.1 d_MD_switches_6 (by decide) (fun h1 => ?_) (fun h1 => ?_)
  ·
    refine lv_aload_n (pc := 16) X.1 X.2.1 d_MD_switches_16 rfl (lv_at hl 0 rfl) ?_
    refine lv_iload_n (pc := 17) X.1 X.2.1 d_MD_switches_17 rfl (lv_at hl 1 rfl) ?_
    refine ab_jn (ls := ls) (rest := [.ref (q 0)]) 33 (if x1 = 0 then (x2 &&& 255) else (u 0 2) : Int32) ?_ (fun J => ?_)
    rotate_left
    ·
      refine lv_if_ne (pc := 18) (tgt := 29) X.1 X.2.1 d_MD_switches_18 (by decide) (fun h2 => ?_) (fun h2 => ?_)
      ·
        refine lv_aload_n (pc := 29) X.1 X.2.1 d_MD_switches_29 rfl (lv_at hl 0 rfl) ?_
        refine ab_gx (pc := 30) (v := .int (u 0 2)) X hX 0 9 3 rfl rfl (Nat.le_of_ble_eq_true rfl) in_MD rfl tw_380 rfl d_MD_switches_30 ?_
        exact ab_jt (by rw [if_neg h2]) J
      ·
        refine lv_iload_n (pc := 21) X.1 X.2.1 d_MD_switches_21 rfl (lv_at hl 2 rfl) ?_
        refine lv_sipush (pc := 22) (v := 255) X.1 X.2.1 d_MD_switches_22 (by decide) ?_
        refine lv_iand (pc := 25) X.1 X.2.1 d_MD_switches_25 ?_
        refine lv_goto (pc := 26) (tgt := 33) X.1 X.2.1 d_MD_switches_26 (by decide) ?_
        exact ab_jt (by rw [if_pos h2]) J
    refine ab_px (pc := 33) (ws' := (wM t q (stt (stt u 0 0 0) 0 2 (if x1 = 0 then (x2 &&& 255) else (u 0 2) : Int32)))) X hX 0 9 3 ty_MD ty_MD_ok nm_MD rfl rfl (Nat.le_of_ble_eq_true rfl) in_MD rfl tw_380 rfl rfl rfl rfl (Nat.le_of_ble_eq_true rfl) (sf_wM_0_3 t q (stt u 0 0 0) (if x1 = 0 then (x2 &&& 255) else (u 0 2) : Int32)) d_MD_switches_33 (fun H locs hX => ?_)
    refine lv_aload_n (pc := 36) X.1 X.2.1 d_MD_switches_36 rfl (lv_at hl 0 rfl) ?_
    refine lv_iload_n (pc := 37) X.1 X.2.1 d_MD_switches_37 rfl (lv_at hl 1 rfl) ?_
    refine lv_iconst (pc := 38) (v := 1) X.1 X.2.1 d_MD_switches_38 (by decide) ?_
    refine ab_jn (ls := ls) (rest := [.ref (q 0)]) 54 (if x1 = 1 then (x2 &&& 254) else (u 0 3) : Int32) ?_ (fun J => ?_)
    rotate_left
    ·
      refine lv_icmp_ne (pc := 39) (tgt := 50) X.1 X.2.1 d_MD_switches_39 (by decide) (fun h3 => ?_) (fun h3 => ?_)
      ·
        refine lv_aload_n (pc := 50) X.1 X.2.1 d_MD_switches_50 rfl (lv_at hl 0 rfl) ?_
        refine ab_gx (pc := 51) (v := .int (u 0 3)) X hX 0 9 4 rfl rfl (Nat.le_of_ble_eq_true rfl) in_MD rfl tw_378 rfl d_MD_switches_51 ?_
        exact ab_jt (by rw [if_neg h3]) J
      ·
        refine lv_iload_n (pc := 42) X.1 X.2.1 d_MD_switches_42 rfl (lv_at hl 2 rfl) ?_
        refine lv_sipush (pc := 43) (v := 254) X.1 X.2.1 d_MD_switches_43 (by decide) ?_
        refine lv_iand (pc := 46) X.1 X.2.1 d_MD_switches_46 ?_
        refine lv_goto (pc := 47) (tgt := 54) X.1 X.2.1 d_MD_switches_47 (by decide) ?_
        exact ab_jt (by rw [if_pos h3]) J
    refine ab_px (pc := 54) (ws' := (wM t q (stt (stt (stt u 0 0 0) 0 2 (if x1 = 0 then (x2 &&& 255) else (u 0 2) : Int32)) 0 3 (if x1 = 1 then (x2 &&& 254) else (u 0 3) : Int32)))) X hX 0 9 4 ty_MD ty_MD_ok nm_MD rfl rfl (Nat.le_of_ble_eq_true rfl) in_MD rfl tw_378 rfl rfl rfl rfl (Nat.le_of_ble_eq_true rfl) (sf_wM_0_4 t q (stt (stt u 0 0 0) 0 2 (if x1 = 0 then (x2 &&& 255) else (u 0 2) : Int32)) (if x1 = 1 then (x2 &&& 254) else (u 0 3) : Int32)) d_MD_switches_54 (fun H locs hX => ?_)
    refine lv_iconst (pc := 57) (v := 1) X.1 X.2.1 d_MD_switches_57 (by decide) ?_
    exact ab_ki_ret (pc := 58) X hr hk hX rfl (by rw [f_MD_switches, if_pos h1]) d_MD_switches_58
  ·
    refine lv_iload_n (pc := 9) X.1 X.2.1 d_MD_switches_9 rfl (lv_at hl 1 rfl) ?_
    refine lv_iconst (pc := 10) (v := 1) X.1 X.2.1 d_MD_switches_10 (by decide) ?_
    refine lv_icmp_eq (pc := 11) (tgt := 16) X.1 X.2.1 d_MD_switches_11 (by decide) (fun h4 => ?_) (fun h4 => ?_)
    ·
      refine lv_aload_n (pc := 16) X.1 X.2.1 d_MD_switches_16 rfl (lv_at hl 0 rfl) ?_
      refine lv_iload_n (pc := 17) X.1 X.2.1 d_MD_switches_17 rfl (lv_at hl 1 rfl) ?_
      refine ab_jn (ls := ls) (rest := [.ref (q 0)]) 33 (if x1 = 0 then (x2 &&& 255) else (u 0 2) : Int32) ?_ (fun J => ?_)
      rotate_left
      ·
        refine lv_if_ne (pc := 18) (tgt := 29) X.1 X.2.1 d_MD_switches_18 (by decide) (fun h5 => ?_) (fun h5 => ?_)
        ·
          refine lv_aload_n (pc := 29) X.1 X.2.1 d_MD_switches_29 rfl (lv_at hl 0 rfl) ?_
          refine ab_gx (pc := 30) (v := .int (u 0 2)) X hX 0 9 3 rfl rfl (Nat.le_of_ble_eq_true rfl) in_MD rfl tw_380 rfl d_MD_switches_30 ?_
          exact ab_jt (by rw [if_neg h5]) J
        ·
          refine lv_iload_n (pc := 21) X.1 X.2.1 d_MD_switches_21 rfl (lv_at hl 2 rfl) ?_
          refine lv_sipush (pc := 22) (v := 255) X.1 X.2.1 d_MD_switches_22 (by decide) ?_
          refine lv_iand (pc := 25) X.1 X.2.1 d_MD_switches_25 ?_
          refine lv_goto (pc := 26) (tgt := 33) X.1 X.2.1 d_MD_switches_26 (by decide) ?_
          exact ab_jt (by rw [if_pos h5]) J
      refine ab_px (pc := 33) (ws' := (wM t q (stt (stt u 0 0 0) 0 2 (if x1 = 0 then (x2 &&& 255) else (u 0 2) : Int32)))) X hX 0 9 3 ty_MD ty_MD_ok nm_MD rfl rfl (Nat.le_of_ble_eq_true rfl) in_MD rfl tw_380 rfl rfl rfl rfl (Nat.le_of_ble_eq_true rfl) (sf_wM_0_3 t q (stt u 0 0 0) (if x1 = 0 then (x2 &&& 255) else (u 0 2) : Int32)) d_MD_switches_33 (fun H locs hX => ?_)
      refine lv_aload_n (pc := 36) X.1 X.2.1 d_MD_switches_36 rfl (lv_at hl 0 rfl) ?_
      refine lv_iload_n (pc := 37) X.1 X.2.1 d_MD_switches_37 rfl (lv_at hl 1 rfl) ?_
      refine lv_iconst (pc := 38) (v := 1) X.1 X.2.1 d_MD_switches_38 (by decide) ?_
      refine ab_jn (ls := ls) (rest := [.ref (q 0)]) 54 (if x1 = 1 then (x2 &&& 254) else (u 0 3) : Int32) ?_ (fun J => ?_)
      rotate_left
      ·
        refine lv_icmp_ne (pc := 39) (tgt := 50) X.1 X.2.1 d_MD_switches_39 (by decide) (fun h6 => ?_) (fun h6 => ?_)
        ·
          refine lv_aload_n (pc := 50) X.1 X.2.1 d_MD_switches_50 rfl (lv_at hl 0 rfl) ?_
          refine ab_gx (pc := 51) (v := .int (u 0 3)) X hX 0 9 4 rfl rfl (Nat.le_of_ble_eq_true rfl) in_MD rfl tw_378 rfl d_MD_switches_51 ?_
          exact ab_jt (by rw [if_neg h6]) J
        ·
          refine lv_iload_n (pc := 42) X.1 X.2.1 d_MD_switches_42 rfl (lv_at hl 2 rfl) ?_
          refine lv_sipush (pc := 43) (v := 254) X.1 X.2.1 d_MD_switches_43 (by decide) ?_
          refine lv_iand (pc := 46) X.1 X.2.1 d_MD_switches_46 ?_
          refine lv_goto (pc := 47) (tgt := 54) X.1 X.2.1 d_MD_switches_47 (by decide) ?_
          exact ab_jt (by rw [if_pos h6]) J
      refine ab_px (pc := 54) (ws' := (wM t q (stt (stt (stt u 0 0 0) 0 2 (if x1 = 0 then (x2 &&& 255) else (u 0 2) : Int32)) 0 3 (if x1 = 1 then (x2 &&& 254) else (u 0 3) : Int32)))) X hX 0 9 4 ty_MD ty_MD_ok nm_MD rfl rfl (Nat.le_of_ble_eq_true rfl) in_MD rfl tw_378 rfl rfl rfl rfl (Nat.le_of_ble_eq_true rfl) (sf_wM_0_4 t q (stt (stt u 0 0 0) 0 2 (if x1 = 0 then (x2 &&& 255) else (u 0 2) : Int32)) (if x1 = 1 then (x2 &&& 254) else (u 0 3) : Int32)) d_MD_switches_54 (fun H locs hX => ?_)
      refine lv_iconst (pc := 57) (v := 1) X.1 X.2.1 d_MD_switches_57 (by decide) ?_
      exact ab_ki_ret (pc := 58) X hr hk hX rfl (by rw [f_MD_switches, if_neg h1, if_pos h4]) d_MD_switches_58
    ·
      refine lv_iconst (pc := 14) (v := 0) X.1 X.2.1 d_MD_switches_14 (by decide) ?_
      exact ab_ki_ret (pc := 15) X hr hk hX rfl (by rw [f_MD_switches, if_neg h1, if_neg h4]) d_MD_switches_15
abbrev b_MD_coin : ByteArray := prog_11_method_35_code
def y_MD_coin : MethodName := ⟨"ArcadeBoardModel", "coin", "()Z"⟩
theorem d_MD_coin_0 : decode b_MD_coin 0 = .ok (.aload_n 0, 1) := by decide +kernel
theorem d_MD_coin_1 : decode b_MD_coin 1 = .ok (.iconst 0, 1) := by decide +kernel
theorem d_MD_coin_2 : decode b_MD_coin 2 = .ok (.putfield 26, 3) := by decide +kernel
theorem d_MD_coin_5 : decode b_MD_coin 5 = .ok (.aload_n 0, 1) := by decide +kernel
theorem d_MD_coin_6 : decode b_MD_coin 6 = .ok (.getfield 136, 3) := by decide +kernel
theorem d_MD_coin_9 : decode b_MD_coin 9 = .ok (.ifCond .le 5, 3) := by decide +kernel
theorem d_MD_coin_12 : decode b_MD_coin 12 = .ok (.iconst 0, 1) := by decide +kernel
theorem d_MD_coin_13 : decode b_MD_coin 13 = .ok (.ireturn, 1) := by decide +kernel
theorem d_MD_coin_14 : decode b_MD_coin 14 = .ok (.aload_n 0, 1) := by decide +kernel
theorem d_MD_coin_15 : decode b_MD_coin 15 = .ok (.iconst 3, 1) := by decide +kernel
theorem d_MD_coin_16 : decode b_MD_coin 16 = .ok (.putfield 136, 3) := by decide +kernel
theorem d_MD_coin_19 : decode b_MD_coin 19 = .ok (.iconst 1, 1) := by decide +kernel
theorem d_MD_coin_20 : decode b_MD_coin 20 = .ok (.ireturn, 1) := by decide +kernel
theorem tw_435 : Jvm.Cond.code ⟨"ArcadeBoardModel", "coin", "()Z"⟩ prog_11_method_35_code 1 (Option.some Jvm.ClassFile.FieldType.boolean) ∈ AL := ab_in (ab_t4 (List.mem_of_getElem? (i := 166) (by decide +kernel))) rfl
theorem tw_436 : Jvm.Cond.instanceMethod ⟨"ArcadeBoardModel", "coin", "()Z"⟩ ∈ AL := ab_in (ab_t4 (List.mem_of_getElem? (i := 164) (by decide +kernel))) rfl
theorem tw_437 : Jvm.Cond.selects "ArcadeBoardModel" ⟨"ArcadeBoardModel", "coin", "()Z"⟩ ⟨"ArcadeBoardModel", "coin", "()Z"⟩ ∈ AL := ab_in (ab_t4 (List.mem_of_getElem? (i := 165) (by decide +kernel))) rfl
theorem ok_MD_coin : ab_yok y_MD_coin b_MD_coin 1 (some .boolean) 0 := ⟨tw_435, tw_280, by decide, by decide, by decide +kernel⟩
theorem okv_MD_coin : ab_yok_V y_MD_coin := ⟨tw_436, tw_437⟩
set_option maxHeartbeats 1000000 in
set_option maxRecDepth 100000 in
theorem c_MD_coin (l : Launch) (D : va_G) (t : Nat → ClassId) (q : Nat → Nat) (u : SS) : ab_ki l D (tyC t) (wM t q) y_MD_coin b_MD_coin 1 .boolean { frames := 0, cells := 0, slots := 0, locals := 0 } [.ref (q 0)] u (f_MD_coin u) := by
  refine ab_ki_ofW (by decide) (Nat.le_of_ble_eq_true rfl) (fun p e s m below meth c ls A X hr hk hl hX => ?_)
  have hl : lv_has ls 1 [(0, .ref (q 0))] := hl
  refine lv_aload_n (pc := 0) X.1 X.2.1 d_MD_coin_0 rfl (lv_at hl 0 rfl) ?_
  refine lv_iconst (pc := 1) (v := 0) X.1 X.2.1 d_MD_coin_1 (by decide) ?_
  refine ab_px (pc := 2) (ws' := (wM t q (stt u 0 0 0))) X hX 0 9 0 ty_MD ty_MD_ok nm_MD rfl rfl (Nat.le_of_ble_eq_true rfl) in_MD rfl tw_283 rfl rfl rfl rfl (Nat.le_of_ble_eq_true rfl) (sf_wM_0_0 t q u 0) d_MD_coin_2 (fun H locs hX => ?_)
  refine lv_aload_n (pc := 5) X.1 X.2.1 d_MD_coin_5 rfl (lv_at hl 0 rfl) ?_
  refine ab_gx (pc := 6) (v := .int (u 0 20)) X hX 0 9 22 rfl rfl (Nat.le_of_ble_eq_true rfl) in_MD rfl tw_379 rfl d_MD_coin_6 ?_
  refine lv_if_le (pc := 9) (tgt := 14) X.1 X.2.1 d_MD_coin_9 (by decide) (fun h1 => ?_) (fun h1 => ?_)
  ·
    refine lv_aload_n (pc := 14) X.1 X.2.1 d_MD_coin_14 rfl (lv_at hl 0 rfl) ?_
    refine lv_iconst (pc := 15) (v := 3) X.1 X.2.1 d_MD_coin_15 (by decide) ?_
    refine ab_px (pc := 16) (ws' := (wM t q (stt (stt u 0 0 0) 0 20 3))) X hX 0 9 22 ty_MD ty_MD_ok nm_MD rfl rfl (Nat.le_of_ble_eq_true rfl) in_MD rfl tw_379 rfl rfl rfl rfl (Nat.le_of_ble_eq_true rfl) (sf_wM_0_22 t q (stt u 0 0 0) 3) d_MD_coin_16 (fun H locs hX => ?_)
    refine lv_iconst (pc := 19) (v := 1) X.1 X.2.1 d_MD_coin_19 (by decide) ?_
    exact ab_ki_ret (pc := 20) X hr hk hX rfl (by rw [f_MD_coin, if_pos h1]) d_MD_coin_20
  ·
    refine lv_iconst (pc := 12) (v := 0) X.1 X.2.1 d_MD_coin_12 (by decide) ?_
    exact ab_ki_ret (pc := 13) X hr hk hX rfl (by rw [f_MD_coin, if_neg h1]) d_MD_coin_13
abbrev b_MD_more : ByteArray := prog_11_method_36_code
def y_MD_more : MethodName := ⟨"ArcadeBoardModel", "more", "(I)I"⟩
theorem d_MD_more_0 : decode b_MD_more 0 = .ok (.iload_n 1, 1) := by decide +kernel
theorem d_MD_more_1 : decode b_MD_more 1 = .ok (.tableswitch 121 9 18 #[55, 60, 65, 78, 91, 96, 101, 106, 111, 116], 55) := by decide +kernel
theorem d_MD_more_56 : decode b_MD_more 56 = .ok (.aload_n 0, 1) := by decide +kernel
theorem d_MD_more_57 : decode b_MD_more 57 = .ok (.getfield 42, 3) := by decide +kernel
theorem d_MD_more_60 : decode b_MD_more 60 = .ok (.ireturn, 1) := by decide +kernel
theorem d_MD_more_61 : decode b_MD_more 61 = .ok (.aload_n 0, 1) := by decide +kernel
theorem d_MD_more_62 : decode b_MD_more 62 = .ok (.getfield 30, 3) := by decide +kernel
theorem d_MD_more_65 : decode b_MD_more 65 = .ok (.ireturn, 1) := by decide +kernel
theorem d_MD_more_66 : decode b_MD_more 66 = .ok (.aload_n 0, 1) := by decide +kernel
theorem d_MD_more_67 : decode b_MD_more 67 = .ok (.getfield 124, 3) := by decide +kernel
theorem d_MD_more_70 : decode b_MD_more 70 = .ok (.ifCond .eq 7, 3) := by decide +kernel
theorem d_MD_more_73 : decode b_MD_more 73 = .ok (.iconst 1, 1) := by decide +kernel
theorem d_MD_more_74 : decode b_MD_more 74 = .ok (.goto 4, 3) := by decide +kernel
theorem d_MD_more_77 : decode b_MD_more 77 = .ok (.iconst 0, 1) := by decide +kernel
theorem d_MD_more_78 : decode b_MD_more 78 = .ok (.ireturn, 1) := by decide +kernel
theorem d_MD_more_79 : decode b_MD_more 79 = .ok (.aload_n 0, 1) := by decide +kernel
theorem d_MD_more_80 : decode b_MD_more 80 = .ok (.getfield 157, 3) := by decide +kernel
theorem d_MD_more_83 : decode b_MD_more 83 = .ok (.ifCond .eq 7, 3) := by decide +kernel
theorem d_MD_more_86 : decode b_MD_more 86 = .ok (.iconst 1, 1) := by decide +kernel
theorem d_MD_more_87 : decode b_MD_more 87 = .ok (.goto 4, 3) := by decide +kernel
theorem d_MD_more_90 : decode b_MD_more 90 = .ok (.iconst 0, 1) := by decide +kernel
theorem d_MD_more_91 : decode b_MD_more 91 = .ok (.ireturn, 1) := by decide +kernel
theorem d_MD_more_92 : decode b_MD_more 92 = .ok (.aload_n 0, 1) := by decide +kernel
theorem d_MD_more_93 : decode b_MD_more 93 = .ok (.getfield 160, 3) := by decide +kernel
theorem d_MD_more_96 : decode b_MD_more 96 = .ok (.ireturn, 1) := by decide +kernel
theorem d_MD_more_97 : decode b_MD_more 97 = .ok (.aload_n 0, 1) := by decide +kernel
theorem d_MD_more_98 : decode b_MD_more 98 = .ok (.getfield 139, 3) := by decide +kernel
theorem d_MD_more_101 : decode b_MD_more 101 = .ok (.ireturn, 1) := by decide +kernel
theorem d_MD_more_102 : decode b_MD_more 102 = .ok (.aload_n 0, 1) := by decide +kernel
theorem d_MD_more_103 : decode b_MD_more 103 = .ok (.getfield 142, 3) := by decide +kernel
theorem d_MD_more_106 : decode b_MD_more 106 = .ok (.ireturn, 1) := by decide +kernel
theorem d_MD_more_107 : decode b_MD_more 107 = .ok (.aload_n 0, 1) := by decide +kernel
theorem d_MD_more_108 : decode b_MD_more 108 = .ok (.getfield 145, 3) := by decide +kernel
theorem d_MD_more_111 : decode b_MD_more 111 = .ok (.ireturn, 1) := by decide +kernel
theorem d_MD_more_112 : decode b_MD_more 112 = .ok (.aload_n 0, 1) := by decide +kernel
theorem d_MD_more_113 : decode b_MD_more 113 = .ok (.getfield 166, 3) := by decide +kernel
theorem d_MD_more_116 : decode b_MD_more 116 = .ok (.ireturn, 1) := by decide +kernel
theorem d_MD_more_117 : decode b_MD_more 117 = .ok (.aload_n 0, 1) := by decide +kernel
theorem d_MD_more_118 : decode b_MD_more 118 = .ok (.getfield 169, 3) := by decide +kernel
theorem d_MD_more_121 : decode b_MD_more 121 = .ok (.ireturn, 1) := by decide +kernel
theorem d_MD_more_122 : decode b_MD_more 122 = .ok (.aload_n 0, 1) := by decide +kernel
theorem d_MD_more_123 : decode b_MD_more 123 = .ok (.getfield 136, 3) := by decide +kernel
theorem d_MD_more_126 : decode b_MD_more 126 = .ok (.ireturn, 1) := by decide +kernel
theorem tw_438 : Jvm.Cond.code ⟨"ArcadeBoardModel", "more", "(I)I"⟩ prog_11_method_36_code 2 (Option.some Jvm.ClassFile.FieldType.int) ∈ AL := ab_in (ab_t4 (List.mem_of_getElem? (i := 174) (by decide +kernel))) rfl
theorem tw_439 : Jvm.Cond.instanceMethod ⟨"ArcadeBoardModel", "more", "(I)I"⟩ ∈ AL := ab_in (ab_t4 (List.mem_of_getElem? (i := 173) (by decide +kernel))) rfl
theorem tw_440 : Cond.selects "ArcadeBoardModel" ⟨"ArcadeBoardModel", "more", "(I)I"⟩ ⟨"ArcadeBoardModel", "more", "(I)I"⟩ ∈ AL := ab_in (ab_s4 (List.mem_of_getElem? (i := 2) (by decide +kernel))) rfl
theorem ok_MD_more : ab_yok y_MD_more b_MD_more 2 (some .int) 1 := ⟨tw_438, tw_280, by decide, by decide, by decide +kernel⟩
theorem okv_MD_more : ab_yok_V y_MD_more := ⟨tw_439, tw_440⟩
set_option maxHeartbeats 1000000 in
set_option maxRecDepth 100000 in
theorem c_MD_more (l : Launch) (D : va_G) (t : Nat → ClassId) (q : Nat → Nat) (u : SS) (x1 : Int32) : ab_ki l D (tyC t) (wM t q) y_MD_more b_MD_more 2 .int { frames := 0, cells := 0, slots := 0, locals := 0 } [.ref (q 0), .int x1] u ((f_MD_more u x1, u)) := by
  refine ab_ki_ofW (by decide) (Nat.le_of_ble_eq_true rfl) (fun p e s m below meth c ls A X hr hk hl hX => ?_)
  have hl : lv_has ls 2 [(0, .ref (q 0)), (1, .int x1)] := hl
  refine lv_iload_n (pc := 0) X.1 X.2.1 d_MD_more_0 rfl (lv_at hl 1 rfl) ?_
  by_cases h1 : x1 = 9
  ·
    refine ab_swIn (pc := 1) (tgt := 56) (off := 55) X.1 X.2.1 d_MD_more_1 h1 (by decide) (by decide) (by decide) (by decide) ?_
    refine lv_aload_n (pc := 56) X.1 X.2.1 d_MD_more_56 rfl (lv_at hl 0 rfl) ?_
    refine ab_gx (pc := 57) (v := .int (u 0 9)) X hX 0 9 11 rfl rfl (Nat.le_of_ble_eq_true rfl) in_MD rfl tw_305 rfl d_MD_more_57 ?_
    exact ab_ki_ret (pc := 60) X hr hk hX rfl (by rw [f_MD_more, if_pos h1]) d_MD_more_60
  ·
    by_cases h2 : x1 = 10
    ·
      refine ab_swIn (pc := 1) (tgt := 61) (off := 60) X.1 X.2.1 d_MD_more_1 h2 (by decide) (by decide) (by decide) (by decide) ?_
      refine lv_aload_n (pc := 61) X.1 X.2.1 d_MD_more_61 rfl (lv_at hl 0 rfl) ?_
      refine ab_gx (pc := 62) (v := .int (u 0 10)) X hX 0 9 12 rfl rfl (Nat.le_of_ble_eq_true rfl) in_MD rfl tw_294 rfl d_MD_more_62 ?_
      exact ab_ki_ret (pc := 65) X hr hk hX rfl (by rw [f_MD_more, if_neg h1, if_pos h2]) d_MD_more_65
    ·
      by_cases h3 : x1 = 11
      ·
        refine ab_swIn (pc := 1) (tgt := 66) (off := 65) X.1 X.2.1 d_MD_more_1 h3 (by decide) (by decide) (by decide) (by decide) ?_
        refine lv_aload_n (pc := 66) X.1 X.2.1 d_MD_more_66 rfl (lv_at hl 0 rfl) ?_
        refine ab_gx (pc := 67) (v := .int (u 0 11)) X hX 0 9 13 rfl rfl (Nat.le_of_ble_eq_true rfl) in_MD rfl tw_384 rfl d_MD_more_67 ?_
        refine ab_jn (ls := ls) (rest := []) 78 (if (u 0 11) = 0 then 0 else 1 : Int32) ?_ (fun J => ?_)
        rotate_left
        ·
          refine lv_if_eq (pc := 70) (tgt := 77) X.1 X.2.1 d_MD_more_70 (by decide) (fun h4 => ?_) (fun h4 => ?_)
          ·
            refine lv_iconst (pc := 77) (v := 0) X.1 X.2.1 d_MD_more_77 (by decide) ?_
            exact ab_jt (by rw [if_pos h4]) J
          ·
            refine lv_iconst (pc := 73) (v := 1) X.1 X.2.1 d_MD_more_73 (by decide) ?_
            refine lv_goto (pc := 74) (tgt := 78) X.1 X.2.1 d_MD_more_74 (by decide) ?_
            exact ab_jt (by rw [if_neg h4]) J
        exact ab_ki_ret (pc := 78) X hr hk hX rfl (by rw [f_MD_more, if_neg h1, if_neg h2, if_pos h3]) d_MD_more_78
      ·
        by_cases h5 : x1 = 12
        ·
          refine ab_swIn (pc := 1) (tgt := 79) (off := 78) X.1 X.2.1 d_MD_more_1 h5 (by decide) (by decide) (by decide) (by decide) ?_
          refine lv_aload_n (pc := 79) X.1 X.2.1 d_MD_more_79 rfl (lv_at hl 0 rfl) ?_
          refine ab_gx (pc := 80) (v := .int (u 0 13)) X hX 0 9 15 rfl rfl (Nat.le_of_ble_eq_true rfl) in_MD rfl tw_400 rfl d_MD_more_80 ?_
          refine ab_jn (ls := ls) (rest := []) 91 (if (u 0 13) = 0 then 0 else 1 : Int32) ?_ (fun J => ?_)
          rotate_left
          ·
            refine lv_if_eq (pc := 83) (tgt := 90) X.1 X.2.1 d_MD_more_83 (by decide) (fun h6 => ?_) (fun h6 => ?_)
            ·
              refine lv_iconst (pc := 90) (v := 0) X.1 X.2.1 d_MD_more_90 (by decide) ?_
              exact ab_jt (by rw [if_pos h6]) J
            ·
              refine lv_iconst (pc := 86) (v := 1) X.1 X.2.1 d_MD_more_86 (by decide) ?_
              refine lv_goto (pc := 87) (tgt := 91) X.1 X.2.1 d_MD_more_87 (by decide) ?_
              exact ab_jt (by rw [if_neg h6]) J
          exact ab_ki_ret (pc := 91) X hr hk hX rfl (by rw [f_MD_more, if_neg h1, if_neg h2, if_neg h3, if_pos h5]) d_MD_more_91
        ·
          by_cases h7 : x1 = 13
          ·
            refine ab_swIn (pc := 1) (tgt := 92) (off := 91) X.1 X.2.1 d_MD_more_1 h7 (by decide) (by decide) (by decide) (by decide) ?_
            refine lv_aload_n (pc := 92) X.1 X.2.1 d_MD_more_92 rfl (lv_at hl 0 rfl) ?_
            refine ab_gx (pc := 93) (v := .int (u 0 14)) X hX 0 9 16 rfl rfl (Nat.le_of_ble_eq_true rfl) in_MD rfl tw_401 rfl d_MD_more_93 ?_
            exact ab_ki_ret (pc := 96) X hr hk hX rfl (by rw [f_MD_more, if_neg h1, if_neg h2, if_neg h3, if_neg h5, if_pos h7]) d_MD_more_96
          ·
            by_cases h8 : x1 = 14
            ·
              refine ab_swIn (pc := 1) (tgt := 97) (off := 96) X.1 X.2.1 d_MD_more_1 h8 (by decide) (by decide) (by decide) (by decide) ?_
              refine lv_aload_n (pc := 97) X.1 X.2.1 d_MD_more_97 rfl (lv_at hl 0 rfl) ?_
              refine ab_gx (pc := 98) (v := .int (u 0 15)) X hX 0 9 17 rfl rfl (Nat.le_of_ble_eq_true rfl) in_MD rfl tw_371 rfl d_MD_more_98 ?_
              exact ab_ki_ret (pc := 101) X hr hk hX rfl (by rw [f_MD_more, if_neg h1, if_neg h2, if_neg h3, if_neg h5, if_neg h7, if_pos h8]) d_MD_more_101
            ·
              by_cases h9 : x1 = 15
              ·
                refine ab_swIn (pc := 1) (tgt := 102) (off := 101) X.1 X.2.1 d_MD_more_1 h9 (by decide) (by decide) (by decide) (by decide) ?_
                refine lv_aload_n (pc := 102) X.1 X.2.1 d_MD_more_102 rfl (lv_at hl 0 rfl) ?_
                refine ab_gx (pc := 103) (v := .int (u 0 16)) X hX 0 9 18 rfl rfl (Nat.le_of_ble_eq_true rfl) in_MD rfl tw_372 rfl d_MD_more_103 ?_
                exact ab_ki_ret (pc := 106) X hr hk hX rfl (by rw [f_MD_more, if_neg h1, if_neg h2, if_neg h3, if_neg h5, if_neg h7, if_neg h8, if_pos h9]) d_MD_more_106
              ·
                by_cases h10 : x1 = 16
                ·
                  refine ab_swIn (pc := 1) (tgt := 107) (off := 106) X.1 X.2.1 d_MD_more_1 h10 (by decide) (by decide) (by decide) (by decide) ?_
                  refine lv_aload_n (pc := 107) X.1 X.2.1 d_MD_more_107 rfl (lv_at hl 0 rfl) ?_
                  refine ab_gx (pc := 108) (v := .int (u 0 17)) X hX 0 9 19 rfl rfl (Nat.le_of_ble_eq_true rfl) in_MD rfl tw_370 rfl d_MD_more_108 ?_
                  exact ab_ki_ret (pc := 111) X hr hk hX rfl (by rw [f_MD_more, if_neg h1, if_neg h2, if_neg h3, if_neg h5, if_neg h7, if_neg h8, if_neg h9, if_pos h10]) d_MD_more_111
                ·
                  by_cases h11 : x1 = 17
                  ·
                    refine ab_swIn (pc := 1) (tgt := 112) (off := 111) X.1 X.2.1 d_MD_more_1 h11 (by decide) (by decide) (by decide) (by decide) ?_
                    refine lv_aload_n (pc := 112) X.1 X.2.1 d_MD_more_112 rfl (lv_at hl 0 rfl) ?_
                    refine ab_gx (pc := 113) (v := .int (u 0 18)) X hX 0 9 20 rfl rfl (Nat.le_of_ble_eq_true rfl) in_MD rfl tw_411 rfl d_MD_more_113 ?_
                    exact ab_ki_ret (pc := 116) X hr hk hX rfl (by rw [f_MD_more, if_neg h1, if_neg h2, if_neg h3, if_neg h5, if_neg h7, if_neg h8, if_neg h9, if_neg h10, if_pos h11]) d_MD_more_116
                  ·
                    by_cases h12 : x1 = 18
                    ·
                      refine ab_swIn (pc := 1) (tgt := 117) (off := 116) X.1 X.2.1 d_MD_more_1 h12 (by decide) (by decide) (by decide) (by decide) ?_
                      refine lv_aload_n (pc := 117) X.1 X.2.1 d_MD_more_117 rfl (lv_at hl 0 rfl) ?_
                      refine ab_gx (pc := 118) (v := .int (u 0 19)) X hX 0 9 21 rfl rfl (Nat.le_of_ble_eq_true rfl) in_MD rfl tw_412 rfl d_MD_more_118 ?_
                      exact ab_ki_ret (pc := 121) X hr hk hX rfl (by rw [f_MD_more, if_neg h1, if_neg h2, if_neg h3, if_neg h5, if_neg h7, if_neg h8, if_neg h9, if_neg h10, if_neg h11, if_pos h12]) d_MD_more_121
                    ·
                      have hno : x1.toInt < 9 ∨ 18 < x1.toInt := by
                        have n0 := lv_neT h1 (k := 9) (a := 9) (by decide)
                        have n1 := lv_neT h2 (k := 10) (a := 10) (by decide)
                        have n2 := lv_neT h3 (k := 11) (a := 11) (by decide)
                        have n3 := lv_neT h5 (k := 12) (a := 12) (by decide)
                        have n4 := lv_neT h7 (k := 13) (a := 13) (by decide)
                        have n5 := lv_neT h8 (k := 14) (a := 14) (by decide)
                        have n6 := lv_neT h9 (k := 15) (a := 15) (by decide)
                        have n7 := lv_neT h10 (k := 16) (a := 16) (by decide)
                        have n8 := lv_neT h11 (k := 17) (a := 17) (by decide)
                        have n9 := lv_neT h12 (k := 18) (a := 18) (by decide)
                        omega
                      refine lv_tableOut (pc := 1) (tgt := 122) X.1 X.2.1 d_MD_more_1 hno (by decide) ?_
                      refine lv_aload_n (pc := 122) X.1 X.2.1 d_MD_more_122 rfl (lv_at hl 0 rfl) ?_
                      refine ab_gx (pc := 123) (v := .int (u 0 20)) X hX 0 9 22 rfl rfl (Nat.le_of_ble_eq_true rfl) in_MD rfl tw_379 rfl d_MD_more_123 ?_
                      exact ab_ki_ret (pc := 126) X hr hk hX rfl (by rw [f_MD_more, if_neg h1, if_neg h2, if_neg h3, if_neg h5, if_neg h7, if_neg h8, if_neg h9, if_neg h10, if_neg h11, if_neg h12]) d_MD_more_126
abbrev b_MD_look : ByteArray := prog_11_method_37_code
def y_MD_look : MethodName := ⟨"ArcadeBoardModel", "look", "(I)I"⟩
theorem d_MD_look_0 : decode b_MD_look 0 = .ok (.aload_n 0, 1) := by decide +kernel
theorem d_MD_look_1 : decode b_MD_look 1 = .ok (.iconst 0, 1) := by decide +kernel
theorem d_MD_look_2 : decode b_MD_look 2 = .ok (.putfield 26, 3) := by decide +kernel
theorem d_MD_look_5 : decode b_MD_look 5 = .ok (.iload_n 1, 1) := by decide +kernel
theorem d_MD_look_6 : decode b_MD_look 6 = .ok (.ifCond .lt 9, 3) := by decide +kernel
theorem d_MD_look_9 : decode b_MD_look 9 = .ok (.iload_n 1, 1) := by decide +kernel
theorem d_MD_look_10 : decode b_MD_look 10 = .ok (.bipush 19, 2) := by decide +kernel
theorem d_MD_look_12 : decode b_MD_look 12 = .ok (.if_icmp .le 5, 3) := by decide +kernel
theorem d_MD_look_15 : decode b_MD_look 15 = .ok (.iconst (-1), 1) := by decide +kernel
theorem d_MD_look_16 : decode b_MD_look 16 = .ok (.ireturn, 1) := by decide +kernel
theorem d_MD_look_17 : decode b_MD_look 17 = .ok (.iload_n 1, 1) := by decide +kernel
theorem d_MD_look_18 : decode b_MD_look 18 = .ok (.bipush 8, 2) := by decide +kernel
theorem d_MD_look_20 : decode b_MD_look 20 = .ok (.if_icmp .ge 11, 3) := by decide +kernel
theorem d_MD_look_23 : decode b_MD_look 23 = .ok (.aload_n 0, 1) := by decide +kernel
theorem d_MD_look_24 : decode b_MD_look 24 = .ok (.iload_n 1, 1) := by decide +kernel
theorem d_MD_look_25 : decode b_MD_look 25 = .ok (.invokevirtual 84, 3) := by decide +kernel
theorem d_MD_look_28 : decode b_MD_look 28 = .ok (.goto 21, 3) := by decide +kernel
theorem d_MD_look_31 : decode b_MD_look 31 = .ok (.iload_n 1, 1) := by decide +kernel
theorem d_MD_look_32 : decode b_MD_look 32 = .ok (.bipush 8, 2) := by decide +kernel
theorem d_MD_look_34 : decode b_MD_look 34 = .ok (.if_icmp .ne 10, 3) := by decide +kernel
theorem d_MD_look_37 : decode b_MD_look 37 = .ok (.aload_n 0, 1) := by decide +kernel
theorem d_MD_look_38 : decode b_MD_look 38 = .ok (.invokevirtual 109, 3) := by decide +kernel
theorem d_MD_look_41 : decode b_MD_look 41 = .ok (.goto 8, 3) := by decide +kernel
theorem d_MD_look_44 : decode b_MD_look 44 = .ok (.aload_n 0, 1) := by decide +kernel
theorem d_MD_look_45 : decode b_MD_look 45 = .ok (.iload_n 1, 1) := by decide +kernel
theorem d_MD_look_46 : decode b_MD_look 46 = .ok (.invokevirtual 190, 3) := by decide +kernel
theorem d_MD_look_49 : decode b_MD_look 49 = .ok (.ireturn, 1) := by decide +kernel
theorem tw_441 : Jvm.Cond.code ⟨"ArcadeBoardModel", "look", "(I)I"⟩ prog_11_method_37_code 2 (Option.some Jvm.ClassFile.FieldType.int) ∈ AL := ab_in (ab_t4 (List.mem_of_getElem? (i := 170) (by decide +kernel))) rfl
theorem tw_442 : Jvm.Cond.instanceMethod ⟨"ArcadeBoardModel", "look", "(I)I"⟩ ∈ AL := ab_in (ab_t4 (List.mem_of_getElem? (i := 168) (by decide +kernel))) rfl
theorem tw_443 : Jvm.Cond.selects "ArcadeBoardModel" ⟨"ArcadeBoardModel", "look", "(I)I"⟩ ⟨"ArcadeBoardModel", "look", "(I)I"⟩ ∈ AL := ab_in (ab_t4 (List.mem_of_getElem? (i := 169) (by decide +kernel))) rfl
theorem tw_444 : Jvm.Cond.methodLink "ArcadeBoardModel" 190 ⟨"ArcadeBoardModel", "more", "(I)I"⟩ ∈ AL := ab_in (ab_t4 (List.mem_of_getElem? (i := 171) (by decide +kernel))) rfl
theorem ok_MD_look : ab_yok y_MD_look b_MD_look 2 (some .int) 1 := ⟨tw_441, tw_280, by decide, by decide, by decide +kernel⟩
theorem okv_MD_look : ab_yok_V y_MD_look := ⟨tw_442, tw_443⟩
set_option maxHeartbeats 1000000 in
set_option maxRecDepth 100000 in
theorem c_MD_look (l : Launch) (D : va_G) (t : Nat → ClassId) (q : Nat → Nat) (u : SS) (x1 : Int32) : ab_ki l D (tyC t) (wM t q) y_MD_look b_MD_look 2 .int { frames := 2, cells := 0, slots := 0, locals := 42 } [.ref (q 0), .int x1] u (f_MD_look u x1) := by
  refine ab_ki_ofW (by decide) (Nat.le_of_ble_eq_true rfl) (fun p e s m below meth c ls A X hr hk hl hX => ?_)
  have hl : lv_has ls 2 [(0, .ref (q 0)), (1, .int x1)] := hl
  refine lv_aload_n (pc := 0) X.1 X.2.1 d_MD_look_0 rfl (lv_at hl 0 rfl) ?_
  refine lv_iconst (pc := 1) (v := 0) X.1 X.2.1 d_MD_look_1 (by decide) ?_
  refine ab_px (pc := 2) (ws' := (wM t q (stt u 0 0 0))) X hX 0 9 0 ty_MD ty_MD_ok nm_MD rfl rfl (Nat.le_of_ble_eq_true rfl) in_MD rfl tw_283 rfl rfl rfl rfl (Nat.le_of_ble_eq_true rfl) (sf_wM_0_0 t q u 0) d_MD_look_2 (fun H locs hX => ?_)
  refine lv_iload_n (pc := 5) X.1 X.2.1 d_MD_look_5 rfl (lv_at hl 1 rfl) ?_
  refine lv_if_lt (pc := 6) (tgt := 15) X.1 X.2.1 d_MD_look_6 (by decide) (fun h1 => ?_) (fun h1 => ?_)
  ·
    refine lv_iconst (pc := 15) (v := (-1)) X.1 X.2.1 d_MD_look_15 (by decide) ?_
    exact ab_ki_ret (pc := 16) X hr hk hX rfl (by rw [f_MD_look, if_pos h1]) d_MD_look_16
  ·
    refine lv_iload_n (pc := 9) X.1 X.2.1 d_MD_look_9 rfl (lv_at hl 1 rfl) ?_
    refine lv_bipush (pc := 10) (v := 19) X.1 X.2.1 d_MD_look_10 (by decide) ?_
    refine lv_icmp_le (pc := 12) (tgt := 17) X.1 X.2.1 d_MD_look_12 (by decide) (fun h2 => ?_) (fun h2 => ?_)
    ·
      refine lv_iload_n (pc := 17) X.1 X.2.1 d_MD_look_17 rfl (lv_at hl 1 rfl) ?_
      refine lv_bipush (pc := 18) (v := 8) X.1 X.2.1 d_MD_look_18 (by decide) ?_
      refine lv_icmp_ge (pc := 20) (tgt := 31) X.1 X.2.1 d_MD_look_20 (by decide) (fun h3 => ?_) (fun h3 => ?_)
      ·
        refine lv_iload_n (pc := 31) X.1 X.2.1 d_MD_look_31 rfl (lv_at hl 1 rfl) ?_
        refine lv_bipush (pc := 32) (v := 8) X.1 X.2.1 d_MD_look_32 (by decide) ?_
        refine lv_icmp_ne (pc := 34) (tgt := 44) X.1 X.2.1 d_MD_look_34 (by decide) (fun h4 => ?_) (fun h4 => ?_)
        ·
          refine lv_aload_n (pc := 44) X.1 X.2.1 d_MD_look_44 rfl (lv_at hl 0 rfl) ?_
          refine lv_iload_n (pc := 45) X.1 X.2.1 d_MD_look_45 rfl (lv_at hl 1 rfl) ?_
          refine ab_kr_callV (pc := 46) (wr := []) (w := (wM t q)) (u := (stt u 0 0 0)) (r := f_MD_more (stt u 0 0 0) x1) (as := [.int x1]) (rest := []) X hX (c_MD_more l D t q (stt u 0 0 0) x1) ok_MD_more okv_MD_more tw_444 0 9 rfl rfl rfl hl.1 rfl (Nat.le_of_ble_eq_true rfl) ⟨rfl, rfl, Nat.le_of_ble_eq_true rfl, Nat.le_of_ble_eq_true rfl⟩ ⟨Nat.zero_le _, Nat.zero_le _⟩ d_MD_look_46 (fun H locs hX => ?_)
          exact ab_ki_ret (pc := 49) X hr hk hX rfl (by rw [f_MD_look, if_neg h1, if_pos h2, if_pos h3, if_neg h4]) d_MD_look_49
        ·
          refine lv_aload_n (pc := 37) X.1 X.2.1 d_MD_look_37 rfl (lv_at hl 0 rfl) ?_
          refine ab_kr_callV (pc := 38) (wr := []) (w := (wM t q)) (u := (stt u 0 0 0)) (r := f_MD_flags (stt u 0 0 0)) (as := []) (rest := []) X hX (c_MD_flags l D t q (stt u 0 0 0)) ok_MD_flags okv_MD_flags tw_393 0 9 rfl rfl rfl hl.1 rfl (Nat.le_of_ble_eq_true rfl) ⟨rfl, rfl, Nat.le_of_ble_eq_true rfl, Nat.le_of_ble_eq_true rfl⟩ ⟨Nat.zero_le _, Nat.zero_le _⟩ d_MD_look_38 (fun H locs hX => ?_)
          refine lv_goto (pc := 41) (tgt := 49) X.1 X.2.1 d_MD_look_41 (by decide) ?_
          exact ab_ki_ret (pc := 49) X hr hk hX rfl (by rw [f_MD_look, if_neg h1, if_pos h2, if_pos h3, if_pos h4]) d_MD_look_49
      ·
        refine lv_aload_n (pc := 23) X.1 X.2.1 d_MD_look_23 rfl (lv_at hl 0 rfl) ?_
        refine lv_iload_n (pc := 24) X.1 X.2.1 d_MD_look_24 rfl (lv_at hl 1 rfl) ?_
        refine ab_kr_callV (pc := 25) (wr := []) (w := (wM t q)) (u := (stt u 0 0 0)) (r := f_MD_get (stt u 0 0 0) x1) (as := [.int x1]) (rest := []) X hX (c_MD_get l D t q (stt u 0 0 0) x1 (ab_lt8_of h1 h3)) ok_MD_get okv_MD_get tw_357 0 9 rfl rfl rfl hl.1 rfl (Nat.le_of_ble_eq_true rfl) ⟨rfl, rfl, Nat.le_of_ble_eq_true rfl, Nat.le_of_ble_eq_true rfl⟩ ⟨Nat.zero_le _, Nat.zero_le _⟩ d_MD_look_25 (fun H locs hX => ?_)
        refine lv_goto (pc := 28) (tgt := 49) X.1 X.2.1 d_MD_look_28 (by decide) ?_
        exact ab_ki_ret (pc := 49) X hr hk hX rfl (by rw [f_MD_look, if_neg h1, if_pos h2, if_neg h3]) d_MD_look_49
    ·
      refine lv_iconst (pc := 15) (v := (-1)) X.1 X.2.1 d_MD_look_15 (by decide) ?_
      exact ab_ki_ret (pc := 16) X hr hk hX rfl (by rw [f_MD_look, if_neg h1, if_neg h2]) d_MD_look_16
abbrev b_MD_peek : ByteArray := prog_11_method_38_code
def y_MD_peek : MethodName := ⟨"ArcadeBoardModel", "peek", "(I)I"⟩
theorem d_MD_peek_0 : decode b_MD_peek 0 = .ok (.aload_n 0, 1) := by decide +kernel
theorem d_MD_peek_1 : decode b_MD_peek 1 = .ok (.iconst 0, 1) := by decide +kernel
theorem d_MD_peek_2 : decode b_MD_peek 2 = .ok (.putfield 26, 3) := by decide +kernel
theorem d_MD_peek_5 : decode b_MD_peek 5 = .ok (.iload_n 1, 1) := by decide +kernel
theorem d_MD_peek_6 : decode b_MD_peek 6 = .ok (.ifCond .lt 19, 3) := by decide +kernel
theorem d_MD_peek_9 : decode b_MD_peek 9 = .ok (.iload_n 1, 1) := by decide +kernel
theorem d_MD_peek_10 : decode b_MD_peek 10 = .ok (.sipush 1024, 3) := by decide +kernel
theorem d_MD_peek_13 : decode b_MD_peek 13 = .ok (.if_icmp .ge 12, 3) := by decide +kernel
theorem d_MD_peek_16 : decode b_MD_peek 16 = .ok (.aload_n 0, 1) := by decide +kernel
theorem d_MD_peek_17 : decode b_MD_peek 17 = .ok (.getfield 7, 3) := by decide +kernel
theorem d_MD_peek_20 : decode b_MD_peek 20 = .ok (.iload_n 1, 1) := by decide +kernel
theorem d_MD_peek_21 : decode b_MD_peek 21 = .ok (.iaload, 1) := by decide +kernel
theorem d_MD_peek_22 : decode b_MD_peek 22 = .ok (.goto 4, 3) := by decide +kernel
theorem d_MD_peek_25 : decode b_MD_peek 25 = .ok (.iconst (-1), 1) := by decide +kernel
theorem d_MD_peek_26 : decode b_MD_peek 26 = .ok (.ireturn, 1) := by decide +kernel
theorem tw_445 : Jvm.Cond.code ⟨"ArcadeBoardModel", "peek", "(I)I"⟩ prog_11_method_38_code 2 (Option.some Jvm.ClassFile.FieldType.int) ∈ AL := ab_in (ab_t4 (List.mem_of_getElem? (i := 178) (by decide +kernel))) rfl
theorem tw_446 : Jvm.Cond.instanceMethod ⟨"ArcadeBoardModel", "peek", "(I)I"⟩ ∈ AL := ab_in (ab_t4 (List.mem_of_getElem? (i := 176) (by decide +kernel))) rfl
theorem tw_447 : Jvm.Cond.selects "ArcadeBoardModel" ⟨"ArcadeBoardModel", "peek", "(I)I"⟩ ⟨"ArcadeBoardModel", "peek", "(I)I"⟩ ∈ AL := ab_in (ab_t4 (List.mem_of_getElem? (i := 177) (by decide +kernel))) rfl
theorem ok_MD_peek : ab_yok y_MD_peek b_MD_peek 2 (some .int) 1 := ⟨tw_445, tw_280, by decide, by decide, by decide +kernel⟩
theorem okv_MD_peek : ab_yok_V y_MD_peek := ⟨tw_446, tw_447⟩
set_option maxHeartbeats 1000000 in
set_option maxRecDepth 100000 in
theorem c_MD_peek (l : Launch) (D : va_G) (t : Nat → ClassId) (q : Nat → Nat) (u : SS) (x1 : Int32) : ab_ki l D (tyC t) (wM t q) y_MD_peek b_MD_peek 2 .int { frames := 0, cells := 0, slots := 0, locals := 0 } [.ref (q 0), .int x1] u (f_MD_peek u x1) := by
  refine ab_ki_ofW (by decide) (Nat.le_of_ble_eq_true rfl) (fun p e s m below meth c ls A X hr hk hl hX => ?_)
  have hl : lv_has ls 2 [(0, .ref (q 0)), (1, .int x1)] := hl
  refine lv_aload_n (pc := 0) X.1 X.2.1 d_MD_peek_0 rfl (lv_at hl 0 rfl) ?_
  refine lv_iconst (pc := 1) (v := 0) X.1 X.2.1 d_MD_peek_1 (by decide) ?_
  refine ab_px (pc := 2) (ws' := (wM t q (stt u 0 0 0))) X hX 0 9 0 ty_MD ty_MD_ok nm_MD rfl rfl (Nat.le_of_ble_eq_true rfl) in_MD rfl tw_283 rfl rfl rfl rfl (Nat.le_of_ble_eq_true rfl) (sf_wM_0_0 t q u 0) d_MD_peek_2 (fun H locs hX => ?_)
  refine lv_iload_n (pc := 5) X.1 X.2.1 d_MD_peek_5 rfl (lv_at hl 1 rfl) ?_
  refine ab_jn (ls := ls) (rest := []) 26 (if x1 < 0 then (-1) else (if 1024 ≤ x1 then (-1) else (u 1 ((x1).toNatClampNeg)) : Int32) : Int32) ?_ (fun J => ?_)
  rotate_left
  ·
    refine lv_if_lt (pc := 6) (tgt := 25) X.1 X.2.1 d_MD_peek_6 (by decide) (fun h1 => ?_) (fun h1 => ?_)
    ·
      refine lv_iconst (pc := 25) (v := (-1)) X.1 X.2.1 d_MD_peek_25 (by decide) ?_
      exact ab_jt (by rw [if_pos h1]) J
    ·
      refine lv_iload_n (pc := 9) X.1 X.2.1 d_MD_peek_9 rfl (lv_at hl 1 rfl) ?_
      refine lv_sipush (pc := 10) (v := 1024) X.1 X.2.1 d_MD_peek_10 (by decide) ?_
      refine lv_icmp_ge (pc := 13) (tgt := 25) X.1 X.2.1 d_MD_peek_13 (by decide) (fun h2 => ?_) (fun h2 => ?_)
      ·
        refine lv_iconst (pc := 25) (v := (-1)) X.1 X.2.1 d_MD_peek_25 (by decide) ?_
        exact ab_jt (by rw [if_neg h1, if_pos h2]) J
      ·
        refine lv_aload_n (pc := 16) X.1 X.2.1 d_MD_peek_16 rfl (lv_at hl 0 rfl) ?_
        refine ab_gx (pc := 17) (v := .ref (q 1)) X hX 0 9 1 rfl rfl (Nat.le_of_ble_eq_true rfl) in_MD rfl tw_287 rfl d_MD_peek_17 ?_
        refine lv_iload_n (pc := 20) X.1 X.2.1 d_MD_peek_20 rfl (lv_at hl 1 rfl) ?_
        refine ab_ald (pc := 21) (f := u 1) (j := (x1).toNatClampNeg) X hX 1 0 rfl rfl (ab_inP h1 h2) rfl d_MD_peek_21 ?_
        refine lv_goto (pc := 22) (tgt := 26) X.1 X.2.1 d_MD_peek_22 (by decide) ?_
        exact ab_jt (by rw [if_neg h1, if_neg h2]) J
  exact ab_ki_ret (pc := 26) X hr hk hX rfl (by rw [f_MD_peek]) d_MD_peek_26
abbrev b_MD_dot : ByteArray := prog_11_method_39_code
def y_MD_dot : MethodName := ⟨"ArcadeBoardModel", "dot", "(II)Z"⟩
theorem d_MD_dot_0 : decode b_MD_dot 0 = .ok (.aload_n 0, 1) := by decide +kernel
theorem d_MD_dot_1 : decode b_MD_dot 1 = .ok (.iconst 0, 1) := by decide +kernel
theorem d_MD_dot_2 : decode b_MD_dot 2 = .ok (.putfield 26, 3) := by decide +kernel
theorem d_MD_dot_5 : decode b_MD_dot 5 = .ok (.iload_n 1, 1) := by decide +kernel
theorem d_MD_dot_6 : decode b_MD_dot 6 = .ok (.ifCond .lt 52, 3) := by decide +kernel
theorem d_MD_dot_9 : decode b_MD_dot 9 = .ok (.iload_n 1, 1) := by decide +kernel
theorem d_MD_dot_10 : decode b_MD_dot 10 = .ok (.bipush 64, 2) := by decide +kernel
theorem d_MD_dot_12 : decode b_MD_dot 12 = .ok (.if_icmp .ge 46, 3) := by decide +kernel
theorem d_MD_dot_15 : decode b_MD_dot 15 = .ok (.iload_n 2, 1) := by decide +kernel
theorem d_MD_dot_16 : decode b_MD_dot 16 = .ok (.ifCond .lt 42, 3) := by decide +kernel
theorem d_MD_dot_19 : decode b_MD_dot 19 = .ok (.iload_n 2, 1) := by decide +kernel
theorem d_MD_dot_20 : decode b_MD_dot 20 = .ok (.bipush 32, 2) := by decide +kernel
theorem d_MD_dot_22 : decode b_MD_dot 22 = .ok (.if_icmp .ge 36, 3) := by decide +kernel
theorem d_MD_dot_25 : decode b_MD_dot 25 = .ok (.aload_n 0, 1) := by decide +kernel
theorem d_MD_dot_26 : decode b_MD_dot 26 = .ok (.getfield 7, 3) := by decide +kernel
theorem d_MD_dot_29 : decode b_MD_dot 29 = .ok (.sipush 768, 3) := by decide +kernel
theorem d_MD_dot_32 : decode b_MD_dot 32 = .ok (.bipush 8, 2) := by decide +kernel
theorem d_MD_dot_34 : decode b_MD_dot 34 = .ok (.iload_n 2, 1) := by decide +kernel
theorem d_MD_dot_35 : decode b_MD_dot 35 = .ok (.imul, 1) := by decide +kernel
theorem d_MD_dot_36 : decode b_MD_dot 36 = .ok (.iadd, 1) := by decide +kernel
theorem d_MD_dot_37 : decode b_MD_dot 37 = .ok (.iload_n 1, 1) := by decide +kernel
theorem d_MD_dot_38 : decode b_MD_dot 38 = .ok (.bipush 8, 2) := by decide +kernel
theorem d_MD_dot_40 : decode b_MD_dot 40 = .ok (.idiv, 1) := by decide +kernel
theorem d_MD_dot_41 : decode b_MD_dot 41 = .ok (.iadd, 1) := by decide +kernel
theorem d_MD_dot_42 : decode b_MD_dot 42 = .ok (.iaload, 1) := by decide +kernel
theorem d_MD_dot_43 : decode b_MD_dot 43 = .ok (.iload_n 1, 1) := by decide +kernel
theorem d_MD_dot_44 : decode b_MD_dot 44 = .ok (.bipush 8, 2) := by decide +kernel
theorem d_MD_dot_46 : decode b_MD_dot 46 = .ok (.irem, 1) := by decide +kernel
theorem d_MD_dot_47 : decode b_MD_dot 47 = .ok (.ishr, 1) := by decide +kernel
theorem d_MD_dot_48 : decode b_MD_dot 48 = .ok (.iconst 1, 1) := by decide +kernel
theorem d_MD_dot_49 : decode b_MD_dot 49 = .ok (.iand, 1) := by decide +kernel
theorem d_MD_dot_50 : decode b_MD_dot 50 = .ok (.iconst 1, 1) := by decide +kernel
theorem d_MD_dot_51 : decode b_MD_dot 51 = .ok (.if_icmp .ne 7, 3) := by decide +kernel
theorem d_MD_dot_54 : decode b_MD_dot 54 = .ok (.iconst 1, 1) := by decide +kernel
theorem d_MD_dot_55 : decode b_MD_dot 55 = .ok (.goto 4, 3) := by decide +kernel
theorem d_MD_dot_58 : decode b_MD_dot 58 = .ok (.iconst 0, 1) := by decide +kernel
theorem d_MD_dot_59 : decode b_MD_dot 59 = .ok (.ireturn, 1) := by decide +kernel
theorem tw_448 : Jvm.Cond.code ⟨"ArcadeBoardModel", "dot", "(II)Z"⟩ prog_11_method_39_code 3 (Option.some Jvm.ClassFile.FieldType.boolean) ∈ AL := ab_in (ab_t4 (List.mem_of_getElem? (i := 182) (by decide +kernel))) rfl
theorem tw_449 : Jvm.Cond.instanceMethod ⟨"ArcadeBoardModel", "dot", "(II)Z"⟩ ∈ AL := ab_in (ab_t4 (List.mem_of_getElem? (i := 180) (by decide +kernel))) rfl
theorem tw_450 : Jvm.Cond.selects "ArcadeBoardModel" ⟨"ArcadeBoardModel", "dot", "(II)Z"⟩ ⟨"ArcadeBoardModel", "dot", "(II)Z"⟩ ∈ AL := ab_in (ab_t4 (List.mem_of_getElem? (i := 181) (by decide +kernel))) rfl
theorem ok_MD_dot : ab_yok y_MD_dot b_MD_dot 3 (some .boolean) 2 := ⟨tw_448, tw_280, by decide, by decide, by decide +kernel⟩
theorem okv_MD_dot : ab_yok_V y_MD_dot := ⟨tw_449, tw_450⟩
set_option maxHeartbeats 1000000 in
set_option maxRecDepth 100000 in
theorem c_MD_dot (l : Launch) (D : va_G) (t : Nat → ClassId) (q : Nat → Nat) (u : SS) (x1 : Int32) (x2 : Int32) : ab_ki l D (tyC t) (wM t q) y_MD_dot b_MD_dot 3 .boolean { frames := 0, cells := 0, slots := 0, locals := 0 } [.ref (q 0), .int x1, .int x2] u (f_MD_dot u x1 x2) := by
  refine ab_ki_ofW (by decide) (Nat.le_of_ble_eq_true rfl) (fun p e s m below meth c ls A X hr hk hl hX => ?_)
  have hl : lv_has ls 3 [(0, .ref (q 0)), (1, .int x1), (2, .int x2)] := hl
  refine lv_aload_n (pc := 0) X.1 X.2.1 d_MD_dot_0 rfl (lv_at hl 0 rfl) ?_
  refine lv_iconst (pc := 1) (v := 0) X.1 X.2.1 d_MD_dot_1 (by decide) ?_
  refine ab_px (pc := 2) (ws' := (wM t q (stt u 0 0 0))) X hX 0 9 0 ty_MD ty_MD_ok nm_MD rfl rfl (Nat.le_of_ble_eq_true rfl) in_MD rfl tw_283 rfl rfl rfl rfl (Nat.le_of_ble_eq_true rfl) (sf_wM_0_0 t q u 0) d_MD_dot_2 (fun H locs hX => ?_)
  refine lv_iload_n (pc := 5) X.1 X.2.1 d_MD_dot_5 rfl (lv_at hl 1 rfl) ?_
  refine ab_jn (ls := ls) (rest := []) 59 (if x1 < 0 then 0 else (if 64 ≤ x1 then 0 else (if x2 < 0 then 0 else (if 32 ≤ x2 then 0 else (if (((u 1 (((768 + (8 * x2)) + (x1 / 8)).toNatClampNeg)) >>> ((x1 - x1 / 8 * 8) &&& 31)) &&& 1) = 1 then 1 else 0 : Int32) : Int32) : Int32) : Int32) : Int32) ?_ (fun J => ?_)
  rotate_left
  ·
    refine lv_if_lt (pc := 6) (tgt := 58) X.1 X.2.1 d_MD_dot_6 (by decide) (fun h1 => ?_) (fun h1 => ?_)
    ·
      refine lv_iconst (pc := 58) (v := 0) X.1 X.2.1 d_MD_dot_58 (by decide) ?_
      exact ab_jt (by rw [if_pos h1]) J
    ·
      refine lv_iload_n (pc := 9) X.1 X.2.1 d_MD_dot_9 rfl (lv_at hl 1 rfl) ?_
      refine lv_bipush (pc := 10) (v := 64) X.1 X.2.1 d_MD_dot_10 (by decide) ?_
      refine lv_icmp_ge (pc := 12) (tgt := 58) X.1 X.2.1 d_MD_dot_12 (by decide) (fun h2 => ?_) (fun h2 => ?_)
      ·
        refine lv_iconst (pc := 58) (v := 0) X.1 X.2.1 d_MD_dot_58 (by decide) ?_
        exact ab_jt (by rw [if_neg h1, if_pos h2]) J
      ·
        refine lv_iload_n (pc := 15) X.1 X.2.1 d_MD_dot_15 rfl (lv_at hl 2 rfl) ?_
        refine lv_if_lt (pc := 16) (tgt := 58) X.1 X.2.1 d_MD_dot_16 (by decide) (fun h3 => ?_) (fun h3 => ?_)
        ·
          refine lv_iconst (pc := 58) (v := 0) X.1 X.2.1 d_MD_dot_58 (by decide) ?_
          exact ab_jt (by rw [if_neg h1, if_neg h2, if_pos h3]) J
        ·
          refine lv_iload_n (pc := 19) X.1 X.2.1 d_MD_dot_19 rfl (lv_at hl 2 rfl) ?_
          refine lv_bipush (pc := 20) (v := 32) X.1 X.2.1 d_MD_dot_20 (by decide) ?_
          refine lv_icmp_ge (pc := 22) (tgt := 58) X.1 X.2.1 d_MD_dot_22 (by decide) (fun h4 => ?_) (fun h4 => ?_)
          ·
            refine lv_iconst (pc := 58) (v := 0) X.1 X.2.1 d_MD_dot_58 (by decide) ?_
            exact ab_jt (by rw [if_neg h1, if_neg h2, if_neg h3, if_pos h4]) J
          ·
            refine lv_aload_n (pc := 25) X.1 X.2.1 d_MD_dot_25 rfl (lv_at hl 0 rfl) ?_
            refine ab_gx (pc := 26) (v := .ref (q 1)) X hX 0 9 1 rfl rfl (Nat.le_of_ble_eq_true rfl) in_MD rfl tw_287 rfl d_MD_dot_26 ?_
            refine lv_sipush (pc := 29) (v := 768) X.1 X.2.1 d_MD_dot_29 (by decide) ?_
            refine lv_bipush (pc := 32) (v := 8) X.1 X.2.1 d_MD_dot_32 (by decide) ?_
            refine lv_iload_n (pc := 34) X.1 X.2.1 d_MD_dot_34 rfl (lv_at hl 2 rfl) ?_
            refine lv_imul (pc := 35) X.1 X.2.1 d_MD_dot_35 ?_
            refine lv_iadd (pc := 36) X.1 X.2.1 d_MD_dot_36 ?_
            refine lv_iload_n (pc := 37) X.1 X.2.1 d_MD_dot_37 rfl (lv_at hl 1 rfl) ?_
            refine lv_bipush (pc := 38) (v := 8) X.1 X.2.1 d_MD_dot_38 (by decide) ?_
            refine lv_idiv (pc := 40) X.1 X.2.1 d_MD_dot_40 (by decide) ?_
            refine lv_iadd (pc := 41) X.1 X.2.1 d_MD_dot_41 ?_
            refine ab_ald (pc := 42) (f := u 1) (j := ((768 + (8 * x2)) + (x1 / 8)).toNatClampNeg) X hX 1 0 rfl rfl (ab_inD h1 h2 h3 h4) rfl d_MD_dot_42 ?_
            refine lv_iload_n (pc := 43) X.1 X.2.1 d_MD_dot_43 rfl (lv_at hl 1 rfl) ?_
            refine lv_bipush (pc := 44) (v := 8) X.1 X.2.1 d_MD_dot_44 (by decide) ?_
            refine lv_irem (pc := 46) X.1 X.2.1 d_MD_dot_46 (by decide) ?_
            refine lv_ishr (pc := 47) X.1 X.2.1 d_MD_dot_47 ?_
            refine lv_iconst (pc := 48) (v := 1) X.1 X.2.1 d_MD_dot_48 (by decide) ?_
            refine lv_iand (pc := 49) X.1 X.2.1 d_MD_dot_49 ?_
            refine lv_iconst (pc := 50) (v := 1) X.1 X.2.1 d_MD_dot_50 (by decide) ?_
            refine lv_icmp_ne (pc := 51) (tgt := 58) X.1 X.2.1 d_MD_dot_51 (by decide) (fun h5 => ?_) (fun h5 => ?_)
            ·
              refine lv_iconst (pc := 58) (v := 0) X.1 X.2.1 d_MD_dot_58 (by decide) ?_
              exact ab_jt (by rw [if_neg h1, if_neg h2, if_neg h3, if_neg h4, if_neg h5]) J
            ·
              refine lv_iconst (pc := 54) (v := 1) X.1 X.2.1 d_MD_dot_54 (by decide) ?_
              refine lv_goto (pc := 55) (tgt := 59) X.1 X.2.1 d_MD_dot_55 (by decide) ?_
              exact ab_jt (by rw [if_neg h1, if_neg h2, if_neg h3, if_neg h4, if_pos h5]) J
  exact ab_ki_ret (pc := 59) X hr hk hX (ab_nb (ab_bi ab_bo0 (ab_bi ab_bo0 (ab_bi ab_bo0 (ab_bi ab_bo0 (ab_bi ab_bo1 ab_bo0)))))) (by rw [f_MD_dot]) d_MD_dot_59
abbrev b_MD_sound : ByteArray := prog_11_method_40_code
def y_MD_sound : MethodName := ⟨"ArcadeBoardModel", "sound", "(I)I"⟩
theorem d_MD_sound_0 : decode b_MD_sound 0 = .ok (.aload_n 0, 1) := by decide +kernel
theorem d_MD_sound_1 : decode b_MD_sound 1 = .ok (.iconst 0, 1) := by decide +kernel
theorem d_MD_sound_2 : decode b_MD_sound 2 = .ok (.putfield 26, 3) := by decide +kernel
theorem d_MD_sound_5 : decode b_MD_sound 5 = .ok (.iload_n 1, 1) := by decide +kernel
theorem d_MD_sound_6 : decode b_MD_sound 6 = .ok (.iconst (-1), 1) := by decide +kernel
theorem d_MD_sound_7 : decode b_MD_sound 7 = .ok (.if_icmp .ne 8, 3) := by decide +kernel
theorem d_MD_sound_10 : decode b_MD_sound 10 = .ok (.aload_n 0, 1) := by decide +kernel
theorem d_MD_sound_11 : decode b_MD_sound 11 = .ok (.getfield 154, 3) := by decide +kernel
theorem d_MD_sound_14 : decode b_MD_sound 14 = .ok (.ireturn, 1) := by decide +kernel
theorem d_MD_sound_15 : decode b_MD_sound 15 = .ok (.iload_n 1, 1) := by decide +kernel
theorem d_MD_sound_16 : decode b_MD_sound 16 = .ok (.ifCond .lt 36, 3) := by decide +kernel
theorem d_MD_sound_19 : decode b_MD_sound 19 = .ok (.iload_n 1, 1) := by decide +kernel
theorem d_MD_sound_20 : decode b_MD_sound 20 = .ok (.bipush 8, 2) := by decide +kernel
theorem d_MD_sound_22 : decode b_MD_sound 22 = .ok (.if_icmp .ge 30, 3) := by decide +kernel
theorem d_MD_sound_25 : decode b_MD_sound 25 = .ok (.iload_n 1, 1) := by decide +kernel
theorem d_MD_sound_26 : decode b_MD_sound 26 = .ok (.aload_n 0, 1) := by decide +kernel
theorem d_MD_sound_27 : decode b_MD_sound 27 = .ok (.getfield 154, 3) := by decide +kernel
theorem d_MD_sound_30 : decode b_MD_sound 30 = .ok (.if_icmp .ge 22, 3) := by decide +kernel
theorem d_MD_sound_33 : decode b_MD_sound 33 = .ok (.aload_n 0, 1) := by decide +kernel
theorem d_MD_sound_34 : decode b_MD_sound 34 = .ok (.getfield 16, 3) := by decide +kernel
theorem d_MD_sound_37 : decode b_MD_sound 37 = .ok (.aload_n 0, 1) := by decide +kernel
theorem d_MD_sound_38 : decode b_MD_sound 38 = .ok (.getfield 154, 3) := by decide +kernel
theorem d_MD_sound_41 : decode b_MD_sound 41 = .ok (.iconst 1, 1) := by decide +kernel
theorem d_MD_sound_42 : decode b_MD_sound 42 = .ok (.isub, 1) := by decide +kernel
theorem d_MD_sound_43 : decode b_MD_sound 43 = .ok (.iload_n 1, 1) := by decide +kernel
theorem d_MD_sound_44 : decode b_MD_sound 44 = .ok (.isub, 1) := by decide +kernel
theorem d_MD_sound_45 : decode b_MD_sound 45 = .ok (.bipush 8, 2) := by decide +kernel
theorem d_MD_sound_47 : decode b_MD_sound 47 = .ok (.irem, 1) := by decide +kernel
theorem d_MD_sound_48 : decode b_MD_sound 48 = .ok (.iaload, 1) := by decide +kernel
theorem d_MD_sound_49 : decode b_MD_sound 49 = .ok (.goto 4, 3) := by decide +kernel
theorem d_MD_sound_52 : decode b_MD_sound 52 = .ok (.iconst (-1), 1) := by decide +kernel
theorem d_MD_sound_53 : decode b_MD_sound 53 = .ok (.ireturn, 1) := by decide +kernel
theorem tw_451 : Jvm.Cond.code ⟨"ArcadeBoardModel", "sound", "(I)I"⟩ prog_11_method_40_code 2 (Option.some Jvm.ClassFile.FieldType.int) ∈ AL := ab_in (ab_t4 (List.mem_of_getElem? (i := 186) (by decide +kernel))) rfl
theorem tw_452 : Jvm.Cond.instanceMethod ⟨"ArcadeBoardModel", "sound", "(I)I"⟩ ∈ AL := ab_in (ab_t4 (List.mem_of_getElem? (i := 184) (by decide +kernel))) rfl
theorem tw_453 : Jvm.Cond.selects "ArcadeBoardModel" ⟨"ArcadeBoardModel", "sound", "(I)I"⟩ ⟨"ArcadeBoardModel", "sound", "(I)I"⟩ ∈ AL := ab_in (ab_t4 (List.mem_of_getElem? (i := 185) (by decide +kernel))) rfl
theorem ok_MD_sound : ab_yok y_MD_sound b_MD_sound 2 (some .int) 1 := ⟨tw_451, tw_280, by decide, by decide, by decide +kernel⟩
theorem okv_MD_sound : ab_yok_V y_MD_sound := ⟨tw_452, tw_453⟩
set_option maxHeartbeats 1000000 in
set_option maxRecDepth 100000 in
theorem c_MD_sound (l : Launch) (D : va_G) (t : Nat → ClassId) (q : Nat → Nat) (u : SS) (x1 : Int32) (ps : ab_snd (u 0 23)) : ab_ki l D (tyC t) (wM t q) y_MD_sound b_MD_sound 2 .int { frames := 0, cells := 0, slots := 0, locals := 0 } [.ref (q 0), .int x1] u (f_MD_sound u x1) := by
  refine ab_ki_ofW (by decide) (Nat.le_of_ble_eq_true rfl) (fun p e s m below meth c ls A X hr hk hl hX => ?_)
  have hl : lv_has ls 2 [(0, .ref (q 0)), (1, .int x1)] := hl
  refine lv_aload_n (pc := 0) X.1 X.2.1 d_MD_sound_0 rfl (lv_at hl 0 rfl) ?_
  refine lv_iconst (pc := 1) (v := 0) X.1 X.2.1 d_MD_sound_1 (by decide) ?_
  refine ab_px (pc := 2) (ws' := (wM t q (stt u 0 0 0))) X hX 0 9 0 ty_MD ty_MD_ok nm_MD rfl rfl (Nat.le_of_ble_eq_true rfl) in_MD rfl tw_283 rfl rfl rfl rfl (Nat.le_of_ble_eq_true rfl) (sf_wM_0_0 t q u 0) d_MD_sound_2 (fun H locs hX => ?_)
  refine lv_iload_n (pc := 5) X.1 X.2.1 d_MD_sound_5 rfl (lv_at hl 1 rfl) ?_
  refine lv_iconst (pc := 6) (v := (-1)) X.1 X.2.1 d_MD_sound_6 (by decide) ?_
  refine lv_icmp_ne (pc := 7) (tgt := 15) X.1 X.2.1 d_MD_sound_7 (by decide) (fun h1 => ?_) (fun h1 => ?_)
  ·
    refine lv_iload_n (pc := 15) X.1 X.2.1 d_MD_sound_15 rfl (lv_at hl 1 rfl) ?_
    refine ab_jn (ls := ls) (rest := []) 53 (if x1 < 0 then (-1) else (if 8 ≤ x1 then (-1) else (if (u 0 23) ≤ x1 then (-1) else (u 3 (((((u 0 23) - 1) - x1) - (((u 0 23) - 1) - x1) / 8 * 8).toNatClampNeg)) : Int32) : Int32) : Int32) ?_ (fun J => ?_)
    rotate_left
    ·
      refine lv_if_lt (pc := 16) (tgt := 52) X.1 X.2.1 d_MD_sound_16 (by decide) (fun h2 => ?_) (fun h2 => ?_)
      ·
        refine lv_iconst (pc := 52) (v := (-1)) X.1 X.2.1 d_MD_sound_52 (by decide) ?_
        exact ab_jt (by rw [if_pos h2]) J
      ·
        refine lv_iload_n (pc := 19) X.1 X.2.1 d_MD_sound_19 rfl (lv_at hl 1 rfl) ?_
        refine lv_bipush (pc := 20) (v := 8) X.1 X.2.1 d_MD_sound_20 (by decide) ?_
        refine lv_icmp_ge (pc := 22) (tgt := 52) X.1 X.2.1 d_MD_sound_22 (by decide) (fun h3 => ?_) (fun h3 => ?_)
        ·
          refine lv_iconst (pc := 52) (v := (-1)) X.1 X.2.1 d_MD_sound_52 (by decide) ?_
          exact ab_jt (by rw [if_neg h2, if_pos h3]) J
        ·
          refine lv_iload_n (pc := 25) X.1 X.2.1 d_MD_sound_25 rfl (lv_at hl 1 rfl) ?_
          refine lv_aload_n (pc := 26) X.1 X.2.1 d_MD_sound_26 rfl (lv_at hl 0 rfl) ?_
          refine ab_gx (pc := 27) (v := .int (u 0 23)) X hX 0 9 25 rfl rfl (Nat.le_of_ble_eq_true rfl) in_MD rfl tw_374 rfl d_MD_sound_27 ?_
          refine lv_icmp_ge (pc := 30) (tgt := 52) X.1 X.2.1 d_MD_sound_30 (by decide) (fun h4 => ?_) (fun h4 => ?_)
          ·
            refine lv_iconst (pc := 52) (v := (-1)) X.1 X.2.1 d_MD_sound_52 (by decide) ?_
            exact ab_jt (by rw [if_neg h2, if_neg h3, if_pos h4]) J
          ·
            refine lv_aload_n (pc := 33) X.1 X.2.1 d_MD_sound_33 rfl (lv_at hl 0 rfl) ?_
            refine ab_gx (pc := 34) (v := .ref (q 3)) X hX 0 9 26 rfl rfl (Nat.le_of_ble_eq_true rfl) in_MD rfl tw_373 rfl d_MD_sound_34 ?_
            refine lv_aload_n (pc := 37) X.1 X.2.1 d_MD_sound_37 rfl (lv_at hl 0 rfl) ?_
            refine ab_gx (pc := 38) (v := .int (u 0 23)) X hX 0 9 25 rfl rfl (Nat.le_of_ble_eq_true rfl) in_MD rfl tw_374 rfl d_MD_sound_38 ?_
            refine lv_iconst (pc := 41) (v := 1) X.1 X.2.1 d_MD_sound_41 (by decide) ?_
            refine lv_isub (pc := 42) X.1 X.2.1 d_MD_sound_42 ?_
            refine lv_iload_n (pc := 43) X.1 X.2.1 d_MD_sound_43 rfl (lv_at hl 1 rfl) ?_
            refine lv_isub (pc := 44) X.1 X.2.1 d_MD_sound_44 ?_
            refine lv_bipush (pc := 45) (v := 8) X.1 X.2.1 d_MD_sound_45 (by decide) ?_
            refine lv_irem (pc := 47) X.1 X.2.1 d_MD_sound_47 (by decide) ?_
            refine ab_ald (pc := 48) (f := u 3) (j := ((((u 0 23) - 1) - x1) - (((u 0 23) - 1) - x1) / 8 * 8).toNatClampNeg) X hX 3 0 rfl rfl (ab_inS ps h2 h3 h4) rfl d_MD_sound_48 ?_
            refine lv_goto (pc := 49) (tgt := 53) X.1 X.2.1 d_MD_sound_49 (by decide) ?_
            exact ab_jt (by rw [if_neg h2, if_neg h3, if_neg h4]) J
    exact ab_ki_ret (pc := 53) X hr hk hX rfl (by rw [f_MD_sound, if_neg h1]) d_MD_sound_53
  ·
    refine lv_aload_n (pc := 10) X.1 X.2.1 d_MD_sound_10 rfl (lv_at hl 0 rfl) ?_
    refine ab_gx (pc := 11) (v := .int (u 0 23)) X hX 0 9 25 rfl rfl (Nat.le_of_ble_eq_true rfl) in_MD rfl tw_374 rfl d_MD_sound_11 ?_
    exact ab_ki_ret (pc := 14) X hr hk hX rfl (by rw [f_MD_sound, if_pos h1]) d_MD_sound_14
abbrev b_MD_save : ByteArray := prog_11_method_41_code
def y_MD_save : MethodName := ⟨"ArcadeBoardModel", "save", "(I)Z"⟩
theorem d_MD_save_0 : decode b_MD_save 0 = .ok (.aload_n 0, 1) := by decide +kernel
theorem d_MD_save_1 : decode b_MD_save 1 = .ok (.iconst 0, 1) := by decide +kernel
theorem d_MD_save_2 : decode b_MD_save 2 = .ok (.putfield 26, 3) := by decide +kernel
theorem d_MD_save_5 : decode b_MD_save 5 = .ok (.iload_n 1, 1) := by decide +kernel
theorem d_MD_save_6 : decode b_MD_save 6 = .ok (.ifCond .eq 10, 3) := by decide +kernel
theorem d_MD_save_9 : decode b_MD_save 9 = .ok (.iload_n 1, 1) := by decide +kernel
theorem d_MD_save_10 : decode b_MD_save 10 = .ok (.iconst 1, 1) := by decide +kernel
theorem d_MD_save_11 : decode b_MD_save 11 = .ok (.if_icmp .eq 5, 3) := by decide +kernel
theorem d_MD_save_14 : decode b_MD_save 14 = .ok (.iconst 0, 1) := by decide +kernel
theorem d_MD_save_15 : decode b_MD_save 15 = .ok (.ireturn, 1) := by decide +kernel
theorem d_MD_save_16 : decode b_MD_save 16 = .ok (.sipush 540, 3) := by decide +kernel
theorem d_MD_save_19 : decode b_MD_save 19 = .ok (.iload_n 1, 1) := by decide +kernel
theorem d_MD_save_20 : decode b_MD_save 20 = .ok (.imul, 1) := by decide +kernel
theorem d_MD_save_21 : decode b_MD_save 21 = .ok (.istore_n 2, 1) := by decide +kernel
theorem d_MD_save_22 : decode b_MD_save 22 = .ok (.aload_n 0, 1) := by decide +kernel
theorem d_MD_save_23 : decode b_MD_save 23 = .ok (.getfield 19, 3) := by decide +kernel
theorem d_MD_save_26 : decode b_MD_save 26 = .ok (.iload_n 1, 1) := by decide +kernel
theorem d_MD_save_27 : decode b_MD_save 27 = .ok (.iconst 1, 1) := by decide +kernel
theorem d_MD_save_28 : decode b_MD_save 28 = .ok (.bastore, 1) := by decide +kernel
theorem d_MD_save_29 : decode b_MD_save 29 = .ok (.iconst 0, 1) := by decide +kernel
theorem d_MD_save_30 : decode b_MD_save 30 = .ok (.istore_n 3, 1) := by decide +kernel
theorem d_MD_save_31 : decode b_MD_save 31 = .ok (.iload_n 3, 1) := by decide +kernel
theorem d_MD_save_32 : decode b_MD_save 32 = .ok (.bipush 8, 2) := by decide +kernel
theorem d_MD_save_34 : decode b_MD_save 34 = .ok (.if_icmp .ge 23, 3) := by decide +kernel
theorem d_MD_save_37 : decode b_MD_save 37 = .ok (.aload_n 0, 1) := by decide +kernel
theorem d_MD_save_38 : decode b_MD_save 38 = .ok (.getfield 23, 3) := by decide +kernel
theorem d_MD_save_41 : decode b_MD_save 41 = .ok (.iload_n 2, 1) := by decide +kernel
theorem d_MD_save_42 : decode b_MD_save 42 = .ok (.iload_n 3, 1) := by decide +kernel
theorem d_MD_save_43 : decode b_MD_save 43 = .ok (.iadd, 1) := by decide +kernel
theorem d_MD_save_44 : decode b_MD_save 44 = .ok (.aload_n 0, 1) := by decide +kernel
theorem d_MD_save_45 : decode b_MD_save 45 = .ok (.getfield 13, 3) := by decide +kernel
theorem d_MD_save_48 : decode b_MD_save 48 = .ok (.iload_n 3, 1) := by decide +kernel
theorem d_MD_save_49 : decode b_MD_save 49 = .ok (.iaload, 1) := by decide +kernel
theorem d_MD_save_50 : decode b_MD_save 50 = .ok (.iastore, 1) := by decide +kernel
theorem d_MD_save_51 : decode b_MD_save 51 = .ok (.iinc 3 1, 3) := by decide +kernel
theorem d_MD_save_54 : decode b_MD_save 54 = .ok (.goto (-23), 3) := by decide +kernel
theorem d_MD_save_57 : decode b_MD_save 57 = .ok (.aload_n 0, 1) := by decide +kernel
theorem d_MD_save_58 : decode b_MD_save 58 = .ok (.getfield 23, 3) := by decide +kernel
theorem d_MD_save_61 : decode b_MD_save 61 = .ok (.iload_n 2, 1) := by decide +kernel
theorem d_MD_save_62 : decode b_MD_save 62 = .ok (.bipush 8, 2) := by decide +kernel
theorem d_MD_save_64 : decode b_MD_save 64 = .ok (.iadd, 1) := by decide +kernel
theorem d_MD_save_65 : decode b_MD_save 65 = .ok (.aload_n 0, 1) := by decide +kernel
theorem d_MD_save_66 : decode b_MD_save 66 = .ok (.invokevirtual 109, 3) := by decide +kernel
theorem d_MD_save_69 : decode b_MD_save 69 = .ok (.iastore, 1) := by decide +kernel
theorem d_MD_save_70 : decode b_MD_save 70 = .ok (.bipush 9, 2) := by decide +kernel
theorem d_MD_save_72 : decode b_MD_save 72 = .ok (.istore_n 3, 1) := by decide +kernel
theorem d_MD_save_73 : decode b_MD_save 73 = .ok (.iload_n 3, 1) := by decide +kernel
theorem d_MD_save_74 : decode b_MD_save 74 = .ok (.bipush 20, 2) := by decide +kernel
theorem d_MD_save_76 : decode b_MD_save 76 = .ok (.if_icmp .ge 22, 3) := by decide +kernel
theorem d_MD_save_79 : decode b_MD_save 79 = .ok (.aload_n 0, 1) := by decide +kernel
theorem d_MD_save_80 : decode b_MD_save 80 = .ok (.getfield 23, 3) := by decide +kernel
theorem d_MD_save_83 : decode b_MD_save 83 = .ok (.iload_n 2, 1) := by decide +kernel
theorem d_MD_save_84 : decode b_MD_save 84 = .ok (.iload_n 3, 1) := by decide +kernel
theorem d_MD_save_85 : decode b_MD_save 85 = .ok (.iadd, 1) := by decide +kernel
theorem d_MD_save_86 : decode b_MD_save 86 = .ok (.aload_n 0, 1) := by decide +kernel
theorem d_MD_save_87 : decode b_MD_save 87 = .ok (.iload_n 3, 1) := by decide +kernel
theorem d_MD_save_88 : decode b_MD_save 88 = .ok (.invokevirtual 190, 3) := by decide +kernel
theorem d_MD_save_91 : decode b_MD_save 91 = .ok (.iastore, 1) := by decide +kernel
theorem d_MD_save_92 : decode b_MD_save 92 = .ok (.iinc 3 1, 3) := by decide +kernel
theorem d_MD_save_95 : decode b_MD_save 95 = .ok (.goto (-22), 3) := by decide +kernel
theorem d_MD_save_98 : decode b_MD_save 98 = .ok (.aload_n 0, 1) := by decide +kernel
theorem d_MD_save_99 : decode b_MD_save 99 = .ok (.getfield 23, 3) := by decide +kernel
theorem d_MD_save_102 : decode b_MD_save 102 = .ok (.iload_n 2, 1) := by decide +kernel
theorem d_MD_save_103 : decode b_MD_save 103 = .ok (.bipush 20, 2) := by decide +kernel
theorem d_MD_save_105 : decode b_MD_save 105 = .ok (.iadd, 1) := by decide +kernel
theorem d_MD_save_106 : decode b_MD_save 106 = .ok (.aload_n 0, 1) := by decide +kernel
theorem d_MD_save_107 : decode b_MD_save 107 = .ok (.getfield 148, 3) := by decide +kernel
theorem d_MD_save_110 : decode b_MD_save 110 = .ok (.iastore, 1) := by decide +kernel
theorem d_MD_save_111 : decode b_MD_save 111 = .ok (.aload_n 0, 1) := by decide +kernel
theorem d_MD_save_112 : decode b_MD_save 112 = .ok (.getfield 23, 3) := by decide +kernel
theorem d_MD_save_115 : decode b_MD_save 115 = .ok (.iload_n 2, 1) := by decide +kernel
theorem d_MD_save_116 : decode b_MD_save 116 = .ok (.bipush 21, 2) := by decide +kernel
theorem d_MD_save_118 : decode b_MD_save 118 = .ok (.iadd, 1) := by decide +kernel
theorem d_MD_save_119 : decode b_MD_save 119 = .ok (.aload_n 0, 1) := by decide +kernel
theorem d_MD_save_120 : decode b_MD_save 120 = .ok (.getfield 151, 3) := by decide +kernel
theorem d_MD_save_123 : decode b_MD_save 123 = .ok (.iastore, 1) := by decide +kernel
theorem d_MD_save_124 : decode b_MD_save 124 = .ok (.aload_n 0, 1) := by decide +kernel
theorem d_MD_save_125 : decode b_MD_save 125 = .ok (.getfield 23, 3) := by decide +kernel
theorem d_MD_save_128 : decode b_MD_save 128 = .ok (.iload_n 2, 1) := by decide +kernel
theorem d_MD_save_129 : decode b_MD_save 129 = .ok (.bipush 22, 2) := by decide +kernel
theorem d_MD_save_131 : decode b_MD_save 131 = .ok (.iadd, 1) := by decide +kernel
theorem d_MD_save_132 : decode b_MD_save 132 = .ok (.aload_n 0, 1) := by decide +kernel
theorem d_MD_save_133 : decode b_MD_save 133 = .ok (.getfield 127, 3) := by decide +kernel
theorem d_MD_save_136 : decode b_MD_save 136 = .ok (.ifCond .eq 7, 3) := by decide +kernel
theorem d_MD_save_139 : decode b_MD_save 139 = .ok (.iconst 1, 1) := by decide +kernel
theorem d_MD_save_140 : decode b_MD_save 140 = .ok (.goto 4, 3) := by decide +kernel
theorem d_MD_save_143 : decode b_MD_save 143 = .ok (.iconst 0, 1) := by decide +kernel
theorem d_MD_save_144 : decode b_MD_save 144 = .ok (.iastore, 1) := by decide +kernel
theorem d_MD_save_145 : decode b_MD_save 145 = .ok (.iconst 0, 1) := by decide +kernel
theorem d_MD_save_146 : decode b_MD_save 146 = .ok (.istore_n 3, 1) := by decide +kernel
theorem d_MD_save_147 : decode b_MD_save 147 = .ok (.iload_n 3, 1) := by decide +kernel
theorem d_MD_save_148 : decode b_MD_save 148 = .ok (.sipush 512, 3) := by decide +kernel
theorem d_MD_save_151 : decode b_MD_save 151 = .ok (.if_icmp .ge 30, 3) := by decide +kernel
theorem d_MD_save_154 : decode b_MD_save 154 = .ok (.aload_n 0, 1) := by decide +kernel
theorem d_MD_save_155 : decode b_MD_save 155 = .ok (.getfield 23, 3) := by decide +kernel
theorem d_MD_save_158 : decode b_MD_save 158 = .ok (.iload_n 2, 1) := by decide +kernel
theorem d_MD_save_159 : decode b_MD_save 159 = .ok (.bipush 23, 2) := by decide +kernel
theorem d_MD_save_161 : decode b_MD_save 161 = .ok (.iadd, 1) := by decide +kernel
theorem d_MD_save_162 : decode b_MD_save 162 = .ok (.iload_n 3, 1) := by decide +kernel
theorem d_MD_save_163 : decode b_MD_save 163 = .ok (.iadd, 1) := by decide +kernel
theorem d_MD_save_164 : decode b_MD_save 164 = .ok (.aload_n 0, 1) := by decide +kernel
theorem d_MD_save_165 : decode b_MD_save 165 = .ok (.getfield 7, 3) := by decide +kernel
theorem d_MD_save_168 : decode b_MD_save 168 = .ok (.sipush 512, 3) := by decide +kernel
theorem d_MD_save_171 : decode b_MD_save 171 = .ok (.iload_n 3, 1) := by decide +kernel
theorem d_MD_save_172 : decode b_MD_save 172 = .ok (.iadd, 1) := by decide +kernel
theorem d_MD_save_173 : decode b_MD_save 173 = .ok (.iaload, 1) := by decide +kernel
theorem d_MD_save_174 : decode b_MD_save 174 = .ok (.iastore, 1) := by decide +kernel
theorem d_MD_save_175 : decode b_MD_save 175 = .ok (.iinc 3 1, 3) := by decide +kernel
theorem d_MD_save_178 : decode b_MD_save 178 = .ok (.goto (-31), 3) := by decide +kernel
theorem d_MD_save_181 : decode b_MD_save 181 = .ok (.iconst 1, 1) := by decide +kernel
theorem d_MD_save_182 : decode b_MD_save 182 = .ok (.ireturn, 1) := by decide +kernel
theorem tw_454 : Jvm.Cond.code ⟨"ArcadeBoardModel", "save", "(I)Z"⟩ prog_11_method_41_code 4 (Option.some Jvm.ClassFile.FieldType.boolean) ∈ AL := ab_in (ab_t4 (List.mem_of_getElem? (i := 190) (by decide +kernel))) rfl
theorem tw_455 : Jvm.Cond.instanceMethod ⟨"ArcadeBoardModel", "save", "(I)Z"⟩ ∈ AL := ab_in (ab_t4 (List.mem_of_getElem? (i := 188) (by decide +kernel))) rfl
theorem tw_456 : Jvm.Cond.selects "ArcadeBoardModel" ⟨"ArcadeBoardModel", "save", "(I)Z"⟩ ⟨"ArcadeBoardModel", "save", "(I)Z"⟩ ∈ AL := ab_in (ab_t4 (List.mem_of_getElem? (i := 189) (by decide +kernel))) rfl
theorem tw_457 : Jvm.Cond.fieldLink "ArcadeBoardModel" 19 "ArcadeBoardModel" "saved" "[Z" ∈ AL := ab_in (ab_t3 (List.mem_of_getElem? (i := 205) (by decide +kernel))) rfl
theorem tw_458 : Jvm.Cond.fieldLink "ArcadeBoardModel" 23 "ArcadeBoardModel" "kept" "[I" ∈ AL := ab_in (ab_t3 (List.mem_of_getElem? (i := 206) (by decide +kernel))) rfl
theorem ok_MD_save : ab_yok y_MD_save b_MD_save 4 (some .boolean) 1 := ⟨tw_454, tw_280, by decide, by decide, by decide +kernel⟩
theorem okv_MD_save : ab_yok_V y_MD_save := ⟨tw_455, tw_456⟩
set_option maxHeartbeats 1000000 in
set_option maxRecDepth 100000 in
theorem k_MD_save_147 {p : Program} {l : Launch} {e : Env} {s : State} {m : MethodId} {args : Array Value} {below : List Frame} {meth : Method} {c : Code} {A : Nat → Prop} {D : va_G} {t : Nat → ClassId} {q : Nat → Nat} (X : ab_cx p s m args c b_MD_save 4 y_MD_save.cls D (tyC t)) (hr : meth.sig.returnType = some .boolean) (hk : meth.locks = false) (k : Nat) (u : SS) (v1 : Int32) (v2 : Int32) (v3 : Int32) (j : Nat) (hi : v3 = nI j) (hj : j ≤ 512) (hf : 512 < j + k) (ha : ab_540 v2) {H : Heap} {locs : List Loc} {ls : Array Slot} (hX : ab_hx D (wM t q u) A s.heap H locs) (hl : lv_has ls 4 [(0, .ref (q 0)), (1, .int v1), (2, .int v2), (3, .int v3)]) :
    W p l e { frames := 1, cells := 0, slots := 0, locals := 21 } s m args below meth c H locs 0 0 (ab_ki_E below args s D (tyC t) (wM t q) A (g_MD_save_147 k u v1 v2 v3)) (F0 m 147 ls []) := by
  induction k generalizing u v1 v2 v3 j H locs ls with
  | zero => exact absurd hf (by omega)
  | succ k ih =>
    refine lv_iload_n (pc := 147) X.1 X.2.1 d_MD_save_147 rfl (lv_at hl 3 rfl) ?_
    refine lv_sipush (pc := 148) (v := 512) X.1 X.2.1 d_MD_save_148 (by decide) ?_
    refine lv_icmp_ge (pc := 151) (tgt := 181) X.1 X.2.1 d_MD_save_151 (by decide) (fun h6 => ?_) (fun h6 => ?_)
    ·
      refine lv_iconst (pc := 181) (v := 1) X.1 X.2.1 d_MD_save_181 (by decide) ?_
      exact ab_ki_ret (pc := 182) X hr hk hX rfl (by rw [g_MD_save_147, if_pos h6]) d_MD_save_182
    ·
      refine lv_aload_n (pc := 154) X.1 X.2.1 d_MD_save_154 rfl (lv_at hl 0 rfl) ?_
      refine ab_gx (pc := 155) (v := .ref (q 5)) X hX 0 9 28 rfl rfl (Nat.le_of_ble_eq_true rfl) in_MD rfl tw_458 rfl d_MD_save_155 ?_
      refine lv_iload_n (pc := 158) X.1 X.2.1 d_MD_save_158 rfl (lv_at hl 2 rfl) ?_
      refine lv_bipush (pc := 159) (v := 23) X.1 X.2.1 d_MD_save_159 (by decide) ?_
      refine lv_iadd (pc := 161) X.1 X.2.1 d_MD_save_161 ?_
      refine lv_iload_n (pc := 162) X.1 X.2.1 d_MD_save_162 rfl (lv_at hl 3 rfl) ?_
      refine lv_iadd (pc := 163) X.1 X.2.1 d_MD_save_163 ?_
      refine lv_aload_n (pc := 164) X.1 X.2.1 d_MD_save_164 rfl (lv_at hl 0 rfl) ?_
      refine ab_gx (pc := 165) (v := .ref (q 1)) X hX 0 9 1 rfl rfl (Nat.le_of_ble_eq_true rfl) in_MD rfl tw_287 rfl d_MD_save_165 ?_
      refine lv_sipush (pc := 168) (v := 512) X.1 X.2.1 d_MD_save_168 (by decide) ?_
      refine lv_iload_n (pc := 171) X.1 X.2.1 d_MD_save_171 rfl (lv_at hl 3 rfl) ?_
      refine lv_iadd (pc := 172) X.1 X.2.1 d_MD_save_172 ?_
      refine ab_ald (pc := 173) (f := u 1) (j := (512 + v3).toNatClampNeg) X hX 1 0 rfl rfl (ab_512 h6 hi hj) rfl d_MD_save_173 ?_
      refine ab_ast (pc := 174) (f := u 5) (j := ((v2 + 23) + v3).toNatClampNeg) (ws' := (wM t q (stt u 5 (((v2 + 23) + v3).toNatClampNeg) (u 1 ((512 + v3).toNatClampNeg))))) X hX 5 0 rfl rfl (ab_kp23 ha h6 hi hj) rfl (sa_wM_5 t q u (((v2 + 23) + v3).toNatClampNeg) (u 1 ((512 + v3).toNatClampNeg))) d_MD_save_174 (fun H locs hX => ?_)
      refine lv_iinc (pc := 175) (k := 3) (v := v3 + 1) (lv' := [(3, .int (v3 + 1)), (0, .ref (q 0)), (1, .int v1), (2, .int v2)]) X.1 X.2.1 d_MD_save_175 hl rfl rfl (Nat.le_of_ble_eq_true rfl) rfl (fun ls hl => ?_)
      refine lv_goto (pc := 178) (tgt := 147) X.1 X.2.1 d_MD_save_178 (by decide) ?_
      rw [show g_MD_save_147 (k + 1) u v1 v2 v3 = g_MD_save_147 k (stt u 5 (((v2 + 23) + v3).toNatClampNeg) (u 1 ((512 + v3).toNatClampNeg))) v1 v2 (v3 + 1) from by rw [g_MD_save_147, if_neg h6]]
      exact ih (stt u 5 (((v2 + 23) + v3).toNatClampNeg) (u 1 ((512 + v3).toNatClampNeg))) v1 v2 (v3 + 1) (j + 1) (by rw [hi]; exact nI_1 j) (ab_ltN h6 hi hj rfl (by decide)) (by have := ab_ltN h6 hi hj (N := 512) rfl (by decide); omega) ha hX (lv_sub hl [1, 2, 3, 0] rfl)
set_option maxHeartbeats 1000000 in
set_option maxRecDepth 100000 in
theorem k_MD_save_73 {p : Program} {l : Launch} {e : Env} {s : State} {m : MethodId} {args : Array Value} {below : List Frame} {meth : Method} {c : Code} {A : Nat → Prop} {D : va_G} {t : Nat → ClassId} {q : Nat → Nat} (X : ab_cx p s m args c b_MD_save 4 y_MD_save.cls D (tyC t)) (hr : meth.sig.returnType = some .boolean) (hk : meth.locks = false) (k : Nat) (u : SS) (v1 : Int32) (v2 : Int32) (v3 : Int32) (j : Nat) (hi : v3 = nI j) (hj : j ≤ 20) (hf : 20 < j + k) (ha : ab_540 v2) {H : Heap} {locs : List Loc} {ls : Array Slot} (hX : ab_hx D (wM t q u) A s.heap H locs) (hl : lv_has ls 4 [(0, .ref (q 0)), (1, .int v1), (2, .int v2), (3, .int v3)]) :
    W p l e { frames := 1, cells := 0, slots := 0, locals := 21 } s m args below meth c H locs 0 0 (ab_ki_E below args s D (tyC t) (wM t q) A (g_MD_save_73 k u v1 v2 v3)) (F0 m 73 ls []) := by
  induction k generalizing u v1 v2 v3 j H locs ls with
  | zero => exact absurd hf (by omega)
  | succ k ih =>
    refine lv_iload_n (pc := 73) X.1 X.2.1 d_MD_save_73 rfl (lv_at hl 3 rfl) ?_
    refine lv_bipush (pc := 74) (v := 20) X.1 X.2.1 d_MD_save_74 (by decide) ?_
    refine lv_icmp_ge (pc := 76) (tgt := 98) X.1 X.2.1 d_MD_save_76 (by decide) (fun h4 => ?_) (fun h4 => ?_)
    ·
      refine lv_aload_n (pc := 98) X.1 X.2.1 d_MD_save_98 rfl (lv_at hl 0 rfl) ?_
      refine ab_gx (pc := 99) (v := .ref (q 5)) X hX 0 9 28 rfl rfl (Nat.le_of_ble_eq_true rfl) in_MD rfl tw_458 rfl d_MD_save_99 ?_
      refine lv_iload_n (pc := 102) X.1 X.2.1 d_MD_save_102 rfl (lv_at hl 2 rfl) ?_
      refine lv_bipush (pc := 103) (v := 20) X.1 X.2.1 d_MD_save_103 (by decide) ?_
      refine lv_iadd (pc := 105) X.1 X.2.1 d_MD_save_105 ?_
      refine lv_aload_n (pc := 106) X.1 X.2.1 d_MD_save_106 rfl (lv_at hl 0 rfl) ?_
      refine ab_gx (pc := 107) (v := .int (u 0 21)) X hX 0 9 23 rfl rfl (Nat.le_of_ble_eq_true rfl) in_MD rfl tw_369 rfl d_MD_save_107 ?_
      refine ab_ast (pc := 110) (f := u 5) (j := (v2 + 20).toNatClampNeg) (ws' := (wM t q (stt u 5 ((v2 + 20).toNatClampNeg) (u 0 21)))) X hX 5 0 rfl rfl (ab_kp ha (by decide)) rfl (sa_wM_5 t q u ((v2 + 20).toNatClampNeg) (u 0 21)) d_MD_save_110 (fun H locs hX => ?_)
      refine lv_aload_n (pc := 111) X.1 X.2.1 d_MD_save_111 rfl (lv_at hl 0 rfl) ?_
      refine ab_gx (pc := 112) (v := .ref (q 5)) X hX 0 9 28 rfl rfl (Nat.le_of_ble_eq_true rfl) in_MD rfl tw_458 rfl d_MD_save_112 ?_
      refine lv_iload_n (pc := 115) X.1 X.2.1 d_MD_save_115 rfl (lv_at hl 2 rfl) ?_
      refine lv_bipush (pc := 116) (v := 21) X.1 X.2.1 d_MD_save_116 (by decide) ?_
      refine lv_iadd (pc := 118) X.1 X.2.1 d_MD_save_118 ?_
      refine lv_aload_n (pc := 119) X.1 X.2.1 d_MD_save_119 rfl (lv_at hl 0 rfl) ?_
      refine ab_gx (pc := 120) (v := .int (u 0 22)) X hX 0 9 24 rfl rfl (Nat.le_of_ble_eq_true rfl) in_MD rfl tw_368 rfl d_MD_save_120 ?_
      refine ab_ast (pc := 123) (f := (stt u 5 ((v2 + 20).toNatClampNeg) (u 0 21)) 5) (j := (v2 + 21).toNatClampNeg) (ws' := (wM t q (stt (stt u 5 ((v2 + 20).toNatClampNeg) (u 0 21)) 5 ((v2 + 21).toNatClampNeg) (u 0 22)))) X hX 5 0 rfl rfl (ab_kp ha (by decide)) rfl (sa_wM_5 t q (stt u 5 ((v2 + 20).toNatClampNeg) (u 0 21)) ((v2 + 21).toNatClampNeg) (u 0 22)) d_MD_save_123 (fun H locs hX => ?_)
      refine lv_aload_n (pc := 124) X.1 X.2.1 d_MD_save_124 rfl (lv_at hl 0 rfl) ?_
      refine ab_gx (pc := 125) (v := .ref (q 5)) X hX 0 9 28 rfl rfl (Nat.le_of_ble_eq_true rfl) in_MD rfl tw_458 rfl d_MD_save_125 ?_
      refine lv_iload_n (pc := 128) X.1 X.2.1 d_MD_save_128 rfl (lv_at hl 2 rfl) ?_
      refine lv_bipush (pc := 129) (v := 22) X.1 X.2.1 d_MD_save_129 (by decide) ?_
      refine lv_iadd (pc := 131) X.1 X.2.1 d_MD_save_131 ?_
      refine lv_aload_n (pc := 132) X.1 X.2.1 d_MD_save_132 rfl (lv_at hl 0 rfl) ?_
      refine ab_gx (pc := 133) (v := .int (u 0 12)) X hX 0 9 14 rfl rfl (Nat.le_of_ble_eq_true rfl) in_MD rfl tw_385 rfl d_MD_save_133 ?_
      refine ab_jn (ls := ls) (rest := [.int (v2 + 22), .ref (q 5)]) 144 (if (u 0 12) = 0 then 0 else 1 : Int32) ?_ (fun J => ?_)
      rotate_left
      ·
        refine lv_if_eq (pc := 136) (tgt := 143) X.1 X.2.1 d_MD_save_136 (by decide) (fun h5 => ?_) (fun h5 => ?_)
        ·
          refine lv_iconst (pc := 143) (v := 0) X.1 X.2.1 d_MD_save_143 (by decide) ?_
          exact ab_jt (by rw [if_pos h5]) J
        ·
          refine lv_iconst (pc := 139) (v := 1) X.1 X.2.1 d_MD_save_139 (by decide) ?_
          refine lv_goto (pc := 140) (tgt := 144) X.1 X.2.1 d_MD_save_140 (by decide) ?_
          exact ab_jt (by rw [if_neg h5]) J
      refine ab_ast (pc := 144) (f := (stt (stt u 5 ((v2 + 20).toNatClampNeg) (u 0 21)) 5 ((v2 + 21).toNatClampNeg) (u 0 22)) 5) (j := (v2 + 22).toNatClampNeg) (ws' := (wM t q (stt (stt (stt u 5 ((v2 + 20).toNatClampNeg) (u 0 21)) 5 ((v2 + 21).toNatClampNeg) (u 0 22)) 5 ((v2 + 22).toNatClampNeg) (if (u 0 12) = 0 then 0 else 1 : Int32)))) X hX 5 0 rfl rfl (ab_kp ha (by decide)) rfl (sa_wM_5 t q (stt (stt u 5 ((v2 + 20).toNatClampNeg) (u 0 21)) 5 ((v2 + 21).toNatClampNeg) (u 0 22)) ((v2 + 22).toNatClampNeg) (if (u 0 12) = 0 then 0 else 1 : Int32)) d_MD_save_144 (fun H locs hX => ?_)
      refine lv_iconst (pc := 145) (v := 0) X.1 X.2.1 d_MD_save_145 (by decide) ?_
      refine lv_istore_n (pc := 146) (lv' := [(3, .int 0), (0, .ref (q 0)), (1, .int v1), (2, .int v2)]) X.1 X.2.1 d_MD_save_146 rfl hl (Nat.le_of_ble_eq_true rfl) rfl (fun ls hl => ?_)
      rw [show g_MD_save_73 (k + 1) u v1 v2 v3 = g_MD_save_147 513 (stt (stt (stt u 5 ((v2 + 20).toNatClampNeg) (u 0 21)) 5 ((v2 + 21).toNatClampNeg) (u 0 22)) 5 ((v2 + 22).toNatClampNeg) (if (u 0 12) = 0 then 0 else 1 : Int32)) v1 v2 0 from by rw [g_MD_save_73, if_pos h4]]
      exact k_MD_save_147 X hr hk 513 (stt (stt (stt u 5 ((v2 + 20).toNatClampNeg) (u 0 21)) 5 ((v2 + 21).toNatClampNeg) (u 0 22)) 5 ((v2 + 22).toNatClampNeg) (if (u 0 12) = 0 then 0 else 1 : Int32)) v1 v2 0 0 rfl (Nat.zero_le _) (by decide) ha hX (lv_sub hl [1, 2, 3, 0] rfl)
    ·
      refine lv_aload_n (pc := 79) X.1 X.2.1 d_MD_save_79 rfl (lv_at hl 0 rfl) ?_
      refine ab_gx (pc := 80) (v := .ref (q 5)) X hX 0 9 28 rfl rfl (Nat.le_of_ble_eq_true rfl) in_MD rfl tw_458 rfl d_MD_save_80 ?_
      refine lv_iload_n (pc := 83) X.1 X.2.1 d_MD_save_83 rfl (lv_at hl 2 rfl) ?_
      refine lv_iload_n (pc := 84) X.1 X.2.1 d_MD_save_84 rfl (lv_at hl 3 rfl) ?_
      refine lv_iadd (pc := 85) X.1 X.2.1 d_MD_save_85 ?_
      refine lv_aload_n (pc := 86) X.1 X.2.1 d_MD_save_86 rfl (lv_at hl 0 rfl) ?_
      refine lv_iload_n (pc := 87) X.1 X.2.1 d_MD_save_87 rfl (lv_at hl 3 rfl) ?_
      refine ab_kr_callV (pc := 88) (wr := []) (w := (wM t q)) (u := u) (r := f_MD_more u v3) (as := [.int v3]) (rest := [.int (v2 + v3), .ref (q 5)]) X hX (c_MD_more l D t q u v3) ok_MD_more okv_MD_more tw_444 0 9 rfl rfl rfl hl.1 rfl (Nat.le_of_ble_eq_true rfl) ⟨rfl, rfl, Nat.le_of_ble_eq_true rfl, Nat.le_of_ble_eq_true rfl⟩ ⟨Nat.zero_le _, Nat.zero_le _⟩ d_MD_save_88 (fun H locs hX => ?_)
      refine ab_ast (pc := 91) (f := u 5) (j := (v2 + v3).toNatClampNeg) (ws' := (wM t q (stt u 5 ((v2 + v3).toNatClampNeg) (f_MD_more u v3)))) X hX 5 0 rfl rfl (ab_kpi ha h4 hi hj (by decide)) rfl (sa_wM_5 t q u ((v2 + v3).toNatClampNeg) (f_MD_more u v3)) d_MD_save_91 (fun H locs hX => ?_)
      refine lv_iinc (pc := 92) (k := 3) (v := v3 + 1) (lv' := [(3, .int (v3 + 1)), (0, .ref (q 0)), (1, .int v1), (2, .int v2)]) X.1 X.2.1 d_MD_save_92 hl rfl rfl (Nat.le_of_ble_eq_true rfl) rfl (fun ls hl => ?_)
      refine lv_goto (pc := 95) (tgt := 73) X.1 X.2.1 d_MD_save_95 (by decide) ?_
      rw [show g_MD_save_73 (k + 1) u v1 v2 v3 = g_MD_save_73 k (stt u 5 ((v2 + v3).toNatClampNeg) (f_MD_more u v3)) v1 v2 (v3 + 1) from by rw [g_MD_save_73, if_neg h4]]
      exact ih (stt u 5 ((v2 + v3).toNatClampNeg) (f_MD_more u v3)) v1 v2 (v3 + 1) (j + 1) (by rw [hi]; exact nI_1 j) (ab_ltN h4 hi hj rfl (by decide)) (by have := ab_ltN h4 hi hj (N := 20) rfl (by decide); omega) ha hX (lv_sub hl [1, 2, 3, 0] rfl)
set_option maxHeartbeats 1000000 in
set_option maxRecDepth 100000 in
theorem k_MD_save_31 {p : Program} {l : Launch} {e : Env} {s : State} {m : MethodId} {args : Array Value} {below : List Frame} {meth : Method} {c : Code} {A : Nat → Prop} {D : va_G} {t : Nat → ClassId} {q : Nat → Nat} (X : ab_cx p s m args c b_MD_save 4 y_MD_save.cls D (tyC t)) (hr : meth.sig.returnType = some .boolean) (hk : meth.locks = false) (k : Nat) (u : SS) (v1 : Int32) (v2 : Int32) (v3 : Int32) (j : Nat) (hi : v3 = nI j) (hj : j ≤ 8) (hf : 8 < j + k) (ha : ab_540 v2) {H : Heap} {locs : List Loc} {ls : Array Slot} (hX : ab_hx D (wM t q u) A s.heap H locs) (hl : lv_has ls 4 [(0, .ref (q 0)), (1, .int v1), (2, .int v2), (3, .int v3)]) :
    W p l e { frames := 1, cells := 0, slots := 0, locals := 21 } s m args below meth c H locs 0 0 (ab_ki_E below args s D (tyC t) (wM t q) A (g_MD_save_31 k u v1 v2 v3)) (F0 m 31 ls []) := by
  induction k generalizing u v1 v2 v3 j H locs ls with
  | zero => exact absurd hf (by omega)
  | succ k ih =>
    refine lv_iload_n (pc := 31) X.1 X.2.1 d_MD_save_31 rfl (lv_at hl 3 rfl) ?_
    refine lv_bipush (pc := 32) (v := 8) X.1 X.2.1 d_MD_save_32 (by decide) ?_
    refine lv_icmp_ge (pc := 34) (tgt := 57) X.1 X.2.1 d_MD_save_34 (by decide) (fun h3 => ?_) (fun h3 => ?_)
    ·
      refine lv_aload_n (pc := 57) X.1 X.2.1 d_MD_save_57 rfl (lv_at hl 0 rfl) ?_
      refine ab_gx (pc := 58) (v := .ref (q 5)) X hX 0 9 28 rfl rfl (Nat.le_of_ble_eq_true rfl) in_MD rfl tw_458 rfl d_MD_save_58 ?_
      refine lv_iload_n (pc := 61) X.1 X.2.1 d_MD_save_61 rfl (lv_at hl 2 rfl) ?_
      refine lv_bipush (pc := 62) (v := 8) X.1 X.2.1 d_MD_save_62 (by decide) ?_
      refine lv_iadd (pc := 64) X.1 X.2.1 d_MD_save_64 ?_
      refine lv_aload_n (pc := 65) X.1 X.2.1 d_MD_save_65 rfl (lv_at hl 0 rfl) ?_
      refine ab_kr_callV (pc := 66) (wr := []) (w := (wM t q)) (u := u) (r := f_MD_flags u) (as := []) (rest := [.int (v2 + 8), .ref (q 5)]) X hX (c_MD_flags l D t q u) ok_MD_flags okv_MD_flags tw_393 0 9 rfl rfl rfl hl.1 rfl (Nat.le_of_ble_eq_true rfl) ⟨rfl, rfl, Nat.le_of_ble_eq_true rfl, Nat.le_of_ble_eq_true rfl⟩ ⟨Nat.zero_le _, Nat.zero_le _⟩ d_MD_save_66 (fun H locs hX => ?_)
      refine ab_ast (pc := 69) (f := u 5) (j := (v2 + 8).toNatClampNeg) (ws' := (wM t q (stt u 5 ((v2 + 8).toNatClampNeg) (f_MD_flags u)))) X hX 5 0 rfl rfl (ab_kp ha (by decide)) rfl (sa_wM_5 t q u ((v2 + 8).toNatClampNeg) (f_MD_flags u)) d_MD_save_69 (fun H locs hX => ?_)
      refine lv_bipush (pc := 70) (v := 9) X.1 X.2.1 d_MD_save_70 (by decide) ?_
      refine lv_istore_n (pc := 72) (lv' := [(3, .int 9), (0, .ref (q 0)), (1, .int v1), (2, .int v2)]) X.1 X.2.1 d_MD_save_72 rfl hl (Nat.le_of_ble_eq_true rfl) rfl (fun ls hl => ?_)
      rw [show g_MD_save_31 (k + 1) u v1 v2 v3 = g_MD_save_73 12 (stt u 5 ((v2 + 8).toNatClampNeg) (f_MD_flags u)) v1 v2 9 from by rw [g_MD_save_31, if_pos h3]]
      exact k_MD_save_73 X hr hk 12 (stt u 5 ((v2 + 8).toNatClampNeg) (f_MD_flags u)) v1 v2 9 9 rfl (by decide) (by decide) ha hX (lv_sub hl [1, 2, 3, 0] rfl)
    ·
      refine lv_aload_n (pc := 37) X.1 X.2.1 d_MD_save_37 rfl (lv_at hl 0 rfl) ?_
      refine ab_gx (pc := 38) (v := .ref (q 5)) X hX 0 9 28 rfl rfl (Nat.le_of_ble_eq_true rfl) in_MD rfl tw_458 rfl d_MD_save_38 ?_
      refine lv_iload_n (pc := 41) X.1 X.2.1 d_MD_save_41 rfl (lv_at hl 2 rfl) ?_
      refine lv_iload_n (pc := 42) X.1 X.2.1 d_MD_save_42 rfl (lv_at hl 3 rfl) ?_
      refine lv_iadd (pc := 43) X.1 X.2.1 d_MD_save_43 ?_
      refine lv_aload_n (pc := 44) X.1 X.2.1 d_MD_save_44 rfl (lv_at hl 0 rfl) ?_
      refine ab_gx (pc := 45) (v := .ref (q 2)) X hX 0 9 5 rfl rfl (Nat.le_of_ble_eq_true rfl) in_MD rfl tw_304 rfl d_MD_save_45 ?_
      refine lv_iload_n (pc := 48) X.1 X.2.1 d_MD_save_48 rfl (lv_at hl 3 rfl) ?_
      refine ab_ald (pc := 49) (f := u 2) (j := (v3).toNatClampNeg) X hX 2 0 rfl rfl (ab_inN h3 hi hj rfl (by decide)) rfl d_MD_save_49 ?_
      refine ab_ast (pc := 50) (f := u 5) (j := (v2 + v3).toNatClampNeg) (ws' := (wM t q (stt u 5 ((v2 + v3).toNatClampNeg) (u 2 ((v3).toNatClampNeg))))) X hX 5 0 rfl rfl (ab_kpi ha h3 hi hj (by decide)) rfl (sa_wM_5 t q u ((v2 + v3).toNatClampNeg) (u 2 ((v3).toNatClampNeg))) d_MD_save_50 (fun H locs hX => ?_)
      refine lv_iinc (pc := 51) (k := 3) (v := v3 + 1) (lv' := [(3, .int (v3 + 1)), (0, .ref (q 0)), (1, .int v1), (2, .int v2)]) X.1 X.2.1 d_MD_save_51 hl rfl rfl (Nat.le_of_ble_eq_true rfl) rfl (fun ls hl => ?_)
      refine lv_goto (pc := 54) (tgt := 31) X.1 X.2.1 d_MD_save_54 (by decide) ?_
      rw [show g_MD_save_31 (k + 1) u v1 v2 v3 = g_MD_save_31 k (stt u 5 ((v2 + v3).toNatClampNeg) (u 2 ((v3).toNatClampNeg))) v1 v2 (v3 + 1) from by rw [g_MD_save_31, if_neg h3]]
      exact ih (stt u 5 ((v2 + v3).toNatClampNeg) (u 2 ((v3).toNatClampNeg))) v1 v2 (v3 + 1) (j + 1) (by rw [hi]; exact nI_1 j) (ab_ltN h3 hi hj rfl (by decide)) (by have := ab_ltN h3 hi hj (N := 8) rfl (by decide); omega) ha hX (lv_sub hl [1, 2, 3, 0] rfl)
set_option maxHeartbeats 1000000 in
set_option maxRecDepth 100000 in
theorem c_MD_save (l : Launch) (D : va_G) (t : Nat → ClassId) (q : Nat → Nat) (u : SS) (x1 : Int32) : ab_ki l D (tyC t) (wM t q) y_MD_save b_MD_save 4 .boolean { frames := 1, cells := 0, slots := 0, locals := 21 } [.ref (q 0), .int x1] u (f_MD_save u x1) := by
  refine ab_ki_ofW (by decide) (Nat.le_of_ble_eq_true rfl) (fun p e s m below meth c ls A X hr hk hl hX => ?_)
  have hl : lv_has ls 4 [(0, .ref (q 0)), (1, .int x1)] := hl
  refine lv_aload_n (pc := 0) X.1 X.2.1 d_MD_save_0 rfl (lv_at hl 0 rfl) ?_
  refine lv_iconst (pc := 1) (v := 0) X.1 X.2.1 d_MD_save_1 (by decide) ?_
  refine ab_px (pc := 2) (ws' := (wM t q (stt u 0 0 0))) X hX 0 9 0 ty_MD ty_MD_ok nm_MD rfl rfl (Nat.le_of_ble_eq_true rfl) in_MD rfl tw_283 rfl rfl rfl rfl (Nat.le_of_ble_eq_true rfl) (sf_wM_0_0 t q u 0) d_MD_save_2 (fun H locs hX => ?_)
  refine lv_iload_n (pc := 5) X.1 X.2.1 d_MD_save_5 rfl (lv_at hl 1 rfl) ?_
  refine lv_if_eq (pc := 6) (tgt := 16) X.1 X.2.1 d_MD_save_6 (by decide) (fun h1 => ?_) (fun h1 => ?_)
  ·
    refine lv_sipush (pc := 16) (v := 540) X.1 X.2.1 d_MD_save_16 (by decide) ?_
    refine lv_iload_n (pc := 19) X.1 X.2.1 d_MD_save_19 rfl (lv_at hl 1 rfl) ?_
    refine lv_imul (pc := 20) X.1 X.2.1 d_MD_save_20 ?_
    refine lv_istore_n (pc := 21) (lv' := [(2, .int (540 * x1)), (0, .ref (q 0)), (1, .int x1)]) X.1 X.2.1 d_MD_save_21 rfl hl (Nat.le_of_ble_eq_true rfl) rfl (fun ls hl => ?_)
    refine lv_aload_n (pc := 22) X.1 X.2.1 d_MD_save_22 rfl (lv_at hl 1 rfl) ?_
    refine ab_gx (pc := 23) (v := .ref (q 4)) X hX 0 9 27 rfl rfl (Nat.le_of_ble_eq_true rfl) in_MD rfl tw_457 rfl d_MD_save_23 ?_
    refine lv_iload_n (pc := 26) X.1 X.2.1 d_MD_save_26 rfl (lv_at hl 2 rfl) ?_
    refine lv_iconst (pc := 27) (v := 1) X.1 X.2.1 d_MD_save_27 (by decide) ?_
    refine ab_astz (pc := 28) (f := (stt u 0 0 0) 4) (j := (x1).toNatClampNeg) (ws' := (wM t q (stt (stt u 0 0 0) 4 ((x1).toNatClampNeg) 1))) X hX 4 1 rfl rfl (ab_in01 (Or.inl h1)) rfl rfl (sa_wM_4 t q (stt u 0 0 0) ((x1).toNatClampNeg) 1) d_MD_save_28 (fun H locs hX => ?_)
    refine lv_iconst (pc := 29) (v := 0) X.1 X.2.1 d_MD_save_29 (by decide) ?_
    refine lv_istore_n (pc := 30) (lv' := [(3, .int 0), (2, .int (540 * x1)), (0, .ref (q 0)), (1, .int x1)]) X.1 X.2.1 d_MD_save_30 rfl hl (Nat.le_of_ble_eq_true rfl) rfl (fun ls hl => ?_)
    rw [show f_MD_save u x1 = g_MD_save_31 9 (stt (stt u 0 0 0) 4 ((x1).toNatClampNeg) 1) x1 (540 * x1) 0 from by rw [f_MD_save, if_pos h1]]
    exact k_MD_save_31 X hr hk 9 (stt (stt u 0 0 0) 4 ((x1).toNatClampNeg) 1) x1 (540 * x1) 0 0 rfl (Nat.zero_le _) (by decide) (ab_540s (Or.inl h1)) hX (lv_sub hl [2, 3, 1, 0] rfl)
  ·
    refine lv_iload_n (pc := 9) X.1 X.2.1 d_MD_save_9 rfl (lv_at hl 1 rfl) ?_
    refine lv_iconst (pc := 10) (v := 1) X.1 X.2.1 d_MD_save_10 (by decide) ?_
    refine lv_icmp_eq (pc := 11) (tgt := 16) X.1 X.2.1 d_MD_save_11 (by decide) (fun h2 => ?_) (fun h2 => ?_)
    ·
      refine lv_sipush (pc := 16) (v := 540) X.1 X.2.1 d_MD_save_16 (by decide) ?_
      refine lv_iload_n (pc := 19) X.1 X.2.1 d_MD_save_19 rfl (lv_at hl 1 rfl) ?_
      refine lv_imul (pc := 20) X.1 X.2.1 d_MD_save_20 ?_
      refine lv_istore_n (pc := 21) (lv' := [(2, .int (540 * x1)), (0, .ref (q 0)), (1, .int x1)]) X.1 X.2.1 d_MD_save_21 rfl hl (Nat.le_of_ble_eq_true rfl) rfl (fun ls hl => ?_)
      refine lv_aload_n (pc := 22) X.1 X.2.1 d_MD_save_22 rfl (lv_at hl 1 rfl) ?_
      refine ab_gx (pc := 23) (v := .ref (q 4)) X hX 0 9 27 rfl rfl (Nat.le_of_ble_eq_true rfl) in_MD rfl tw_457 rfl d_MD_save_23 ?_
      refine lv_iload_n (pc := 26) X.1 X.2.1 d_MD_save_26 rfl (lv_at hl 2 rfl) ?_
      refine lv_iconst (pc := 27) (v := 1) X.1 X.2.1 d_MD_save_27 (by decide) ?_
      refine ab_astz (pc := 28) (f := (stt u 0 0 0) 4) (j := (x1).toNatClampNeg) (ws' := (wM t q (stt (stt u 0 0 0) 4 ((x1).toNatClampNeg) 1))) X hX 4 1 rfl rfl (ab_in01 (Or.inr h2)) rfl rfl (sa_wM_4 t q (stt u 0 0 0) ((x1).toNatClampNeg) 1) d_MD_save_28 (fun H locs hX => ?_)
      refine lv_iconst (pc := 29) (v := 0) X.1 X.2.1 d_MD_save_29 (by decide) ?_
      refine lv_istore_n (pc := 30) (lv' := [(3, .int 0), (2, .int (540 * x1)), (0, .ref (q 0)), (1, .int x1)]) X.1 X.2.1 d_MD_save_30 rfl hl (Nat.le_of_ble_eq_true rfl) rfl (fun ls hl => ?_)
      rw [show f_MD_save u x1 = g_MD_save_31 9 (stt (stt u 0 0 0) 4 ((x1).toNatClampNeg) 1) x1 (540 * x1) 0 from by rw [f_MD_save, if_neg h1, if_pos h2]]
      exact k_MD_save_31 X hr hk 9 (stt (stt u 0 0 0) 4 ((x1).toNatClampNeg) 1) x1 (540 * x1) 0 0 rfl (Nat.zero_le _) (by decide) (ab_540s (Or.inr h2)) hX (lv_sub hl [2, 3, 1, 0] rfl)
    ·
      refine lv_iconst (pc := 14) (v := 0) X.1 X.2.1 d_MD_save_14 (by decide) ?_
      exact ab_ki_ret (pc := 15) X hr hk hX rfl (by rw [f_MD_save, if_neg h1, if_neg h2]) d_MD_save_15
