/-! The law's loop. -/
theorem lw_i4 : ∀ L, L < 2049 → (Int32.ofNat L - 4).toInt = (L : Int) - 4 := by decide +kernel
theorem lw_lt {j L : Nat} (hj : j < 4096) (hL : L ≤ 2048) : (Int32.ofNat L - 4 < nI j) ↔ L < j + 4 := by
  rw [Int32.lt_iff_toInt_lt, lw_i4 L (by omega), nI_toInt (by omega)]
  omega
theorem lw_in {j L : Nat} (h : j < L) (hL : L ≤ 2048) : vp_in (nI j) L := nI_in h (by omega)
set_option maxHeartbeats 2000000 in
theorem lw_loop {p : Program} {e : Env} {s : State} {m : MethodId} {below : List Frame} {meth : Method} {c : Code} (l : Launch) (hst : l.stackTraces = false) {b L : Nat} {xs : Nat → Int32} (hL : L ≤ 2048) {D : va_G} {t : Nat → ClassId} {A : Nat → Prop} {q q' : Nat → Nat} {o : Nat} (C : lw_C p s m c b L xs D t A) (hA : ∀ a, A a → s.heap.size ≤ a) (hr : meth.sig.returnType = ret) (hk : meth.locks = false) :
    ∀ (n k : Nat) (B : Nat) (g : Nat → Int64) (z u v : SS) (ls : Array Slot) (H : Heap) (locs : List Loc), k ≤ 512 → 512 < k + n → B ≤ 488 * k → ab_RT B z u v → lv_has ls 7 (lw_v b q q' o (nI (4 * k))) → ab_hx D (wM t q' v ++ wH t q o (g, (z, u))) A s.heap H locs →
      W p l e room_1 s m #[Value.ref b] below meth c H locs (28 + k) (4316 + 6 * k) (lw_Z below #[Value.ref b] s) (F0 m 23 ls []) := by
  intro n
  induction n with
  | zero => intro k B g z u v ls H locs h1 h2; omega
  | succ n ih =>
    intro k B g z u v ls H locs h1 h2 hB hR hl hX
    have C9 := C
    obtain ⟨X, hT, hN, hx, hbl, hbA⟩ := C9
    refine lv_iload (pc := 23) X.1 X.2.1 d_LW_law_23 (lv_at hl 0 rfl) ?_
    refine lv_aload_n (pc := 25) X.1 X.2.1 d_LW_law_25 rfl (lv_at hl 4 rfl) ?_
    refine va_slen (pc := 26) X.1 X.2.1 hx hbl hbA hX.2.2.1 d_LW_law_26 ?_
    refine lv_iconst (pc := 27) (v := 4) X.1 X.2.1 d_LW_law_27 (by decide) ?_
    refine lv_isub (pc := 28) X.1 X.2.1 d_LW_law_28 ?_
    refine lv_icmp_gt (pc := 29) (tgt := 554) X.1 X.2.1 d_LW_law_29 (by decide) (fun _ => ?_) (fun hgo => ?_)
    · refine lv_iconst (pc := 554) (v := 1) X.1 X.2.1 d_LW_law_554 (by decide) ?_
      refine va_forget (fun a ha => hA _ (hX.2.2.1.2.2 a ha)) ?_
      refine W.widen (k := 1058) (n := 12544) (by omega) (by omega) ?_
      exact lw_ret X.1 X.2.1 hr hk d_LW_law_555
    · have h4 : 4 * k + 4 ≤ L := by
        have h9 := mt (lw_lt (j := 4 * k) (by omega) hL).mpr hgo
        omega
      have hin : ∀ j : Int32, (j = 1 ∨ j = 2 ∨ j = 3) → vp_in (nI (4 * k) + j) L := by
        intro j hj
        rcases hj with rfl | rfl | rfl
        · exact (nI_add (4 * k) 1) ▸ lw_in (by omega) hL
        · exact (nI_add (4 * k) 2) ▸ lw_in (by omega) hL
        · exact (nI_add (4 * k) 3) ▸ lw_in (by omega) hL
      have hBB : B + 488 < 2 ^ 30 := by omega
      have hcs : 28 + k + 1 ≤ 1058 ∧ 4316 + 6 * k + 6 ≤ 12544 := by omega
      have kk : ∀ (B' : Nat) (g : Nat → Int64) (z u v : SS) (ls : Array Slot) (H : Heap) (locs : List Loc), B' ≤ B + 488 → ab_RT B' z u v → lv_has ls 7 (lw_v b q q' o (nI (4 * k))) → ab_hx D (wM t q' v ++ wH t q o (g, (z, u))) A s.heap H locs → W p l e room_1 s m #[Value.ref b] below meth c H locs (28 + k + 1) (4316 + 6 * k + 6) (lw_Z below #[Value.ref b] s) (F0 m 548 ls []) := by
        intro B' g z u v ls H locs hB' hR hl hX
        refine lv_iinc (pc := 548) (k := 0) (v := nI (4 * (k + 1))) (lv' := lw_v b q q' o (nI (4 * (k + 1)))) X.1 X.2.1 d_LW_law_548 hl rfl (nI_add (4 * k) 4) (Nat.le_of_ble_eq_true rfl) rfl (fun ls hl => ?_)
        refine lv_goto (pc := 551) (tgt := 23) X.1 X.2.1 d_LW_law_551 (by decide) ?_
        exact W.widen (Nat.le_of_eq (by omega)) (Nat.le_of_eq (by omega)) (ih (k + 1) B' g z u v ls H locs (by omega) (by omega) (by omega) hR hl hX)
      refine lv_aload_n (pc := 32) X.1 X.2.1 d_LW_law_32 rfl (lv_at hl 4 rfl) ?_
      refine lv_iload (pc := 33) X.1 X.2.1 d_LW_law_33 (lv_at hl 0 rfl) ?_
      refine va_sld (pc := 35) X.1 X.2.1 hx hbl hbA hX.2.2.1 (lw_in (by omega) hL) d_LW_law_35 ?_
      refine lv_bipush (pc := 36) (v := 15) X.1 X.2.1 d_LW_law_36 (by decide) ?_
      refine lv_iand (pc := 38) X.1 X.2.1 d_LW_law_38 ?_
      obtain ⟨j, hj, ej⟩ := pk_andE (xs (nI (4 * k)).toNatClampNeg) (m := 15) 4 rfl
      rw [ej]
      have hj : j < 16 := hj
      have out : (nI j).toInt < 0 ∨ 12 < (nI j).toInt → W p l e room_1 s m #[Value.ref b] below meth c H locs (28 + k) (4316 + 6 * k) (lw_Z below #[Value.ref b] s) (F0 m 39 ls [.int (nI j)]) := fun h =>
        lv_tableOut (pc := 39) (tgt := 548) X.1 X.2.1 d_LW_law_39 h (by decide) (W.widen (Nat.le_succ _) (Nat.le_add_right _ _) (kk B g z u v ls H locs (Nat.le_add_right _ _) hR hl hX))
      rcases (show j = 0 ∨ j = 1 ∨ j = 2 ∨ j = 3 ∨ j = 4 ∨ j = 5 ∨ j = 6 ∨ j = 7 ∨ j = 8 ∨ j = 9 ∨ j = 10 ∨ j = 11 ∨ j = 12 ∨ j = 13 ∨ j = 14 ∨ j = 15 by omega) with rfl | rfl | rfl | rfl | rfl | rfl | rfl | rfl | rfl | rfl | rfl | rfl | rfl | rfl | rfl | rfl
      · exact ab_swIn (pc := 39) (tgt := 104) (off := 65) X.1 X.2.1 d_LW_law_39 rfl (by decide) (by decide) (by decide) (by decide) (lw_k_load l hst C hR hBB hin hl hX hcs kk)
      · exact ab_swIn (pc := 39) (tgt := 153) (off := 114) X.1 X.2.1 d_LW_law_39 rfl (by decide) (by decide) (by decide) (by decide) (lw_k_check l hst C hR hBB hin hl hX hcs kk)
      · exact ab_swIn (pc := 39) (tgt := 166) (off := 127) X.1 X.2.1 d_LW_law_39 rfl (by decide) (by decide) (by decide) (by decide) (lw_k_power l hst C hR hBB hin hl hX hcs kk)
      · exact ab_swIn (pc := 39) (tgt := 229) (off := 190) X.1 X.2.1 d_LW_law_39 rfl (by decide) (by decide) (by decide) (by decide) (lw_k_off l hst C hR hBB hin hl hX hcs kk)
      · exact ab_swIn (pc := 39) (tgt := 242) (off := 203) X.1 X.2.1 d_LW_law_39 rfl (by decide) (by decide) (by decide) (by decide) (lw_k_run l hst C hR hBB hin hl hX hcs kk)
      · exact ab_swIn (pc := 39) (tgt := 298) (off := 259) X.1 X.2.1 d_LW_law_39 rfl (by decide) (by decide) (by decide) (by decide) (lw_k_switches l hst C hR hBB hin hl hX hcs kk)
      · exact ab_swIn (pc := 39) (tgt := 335) (off := 296) X.1 X.2.1 d_LW_law_39 rfl (by decide) (by decide) (by decide) (by decide) (lw_k_coin l hst C hR hBB hin hl hX hcs kk)
      · exact ab_swIn (pc := 39) (tgt := 348) (off := 309) X.1 X.2.1 d_LW_law_39 rfl (by decide) (by decide) (by decide) (by decide) (lw_k_look l hst C hR hBB hin hl hX hcs kk)
      · exact ab_swIn (pc := 39) (tgt := 373) (off := 334) X.1 X.2.1 d_LW_law_39 rfl (by decide) (by decide) (by decide) (by decide) (lw_k_peek l hst C hR hBB hin hl hX hcs kk)
      · exact ab_swIn (pc := 39) (tgt := 398) (off := 359) X.1 X.2.1 d_LW_law_39 rfl (by decide) (by decide) (by decide) (by decide) (lw_k_dot l hst C hR hBB hin hl hX hcs kk)
      · exact ab_swIn (pc := 39) (tgt := 435) (off := 396) X.1 X.2.1 d_LW_law_39 rfl (by decide) (by decide) (by decide) (by decide) (lw_k_sound l hst C hR hBB hin hl hX hcs kk)
      · exact ab_swIn (pc := 39) (tgt := 460) (off := 421) X.1 X.2.1 d_LW_law_39 rfl (by decide) (by decide) (by decide) (by decide) (lw_k_save l hst C hR hBB hin hl hX hcs kk)
      · exact ab_swIn (pc := 39) (tgt := 485) (off := 446) X.1 X.2.1 d_LW_law_39 rfl (by decide) (by decide) (by decide) (by decide) (lw_k_restore l hst C hR hBB hin hl hX hcs kk)
      · exact out (by decide)
      · exact out (by decide)
      · exact out (by decide)
