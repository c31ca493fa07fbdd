/-! The law: its worlds, what its calls ask, its start. -/
theorem ab_hx_swap {D : va_G} {w1 w2 : va_W} {A : Nat → Prop} {H0 H : Heap} {locs : List Loc} (h : ab_hx D (w1 ++ w2) A H0 H locs) : ab_hx D (w2 ++ w1) A H0 H locs := by
  obtain ⟨hP, hD, hS, hA⟩ := h
  have key : ∀ (k : Nat) (q : Nat × va_E), (w2 ++ w1)[k]? = some q → (w1 ++ w2)[if k < w2.length then w1.length + k else k - w2.length]? = some q := by
    intro k q hk
    by_cases h : k < w2.length
    · rw [if_pos h]
      rw [List.getElem?_append_left h] at hk
      exact ab_app_r hk
    · rw [if_neg h]
      rw [List.getElem?_append_right (Nat.le_of_not_lt h)] at hk
      exact ab_app_l hk
  refine ⟨fun k q hk => hP _ q (key k q hk), ⟨fun i j p q hi hj e => ?_, fun k q hk => hD.2 _ q (key k q hk)⟩, hS, hA⟩
  have h9 := hD.1 _ _ p q (key i p hi) (key j q hj) e
  have li := (List.getElem?_eq_some_iff.mp hi).1
  have lj := (List.getElem?_eq_some_iff.mp hj).1
  rw [List.length_append] at li lj
  by_cases h1 : i < w2.length
  · by_cases h2 : j < w2.length
    · rw [if_pos h1, if_pos h2] at h9; omega
    · rw [if_pos h1, if_neg h2] at h9; omega
  · by_cases h2 : j < w2.length
    · rw [if_neg h1, if_pos h2] at h9; omega
    · rw [if_neg h1, if_neg h2] at h9; omega
theorem ab_hx_perm {D : va_G} {ws ws' : va_W} {A : Nat → Prop} {H0 H : Heap} {locs : List Loc} (f : Nat → Nat) (hf : ∀ (k : Nat) (q' : Nat × va_E), ws'[k]? = some q' → ∃ q : Nat × va_E, ws[f k]? = some q ∧ q.1 = q'.1 ∧ (va_at D CL q H → va_at D CL q' H)) (hi : ∀ i, i < ws'.length → ∀ j, j < ws'.length → f i = f j → i = j) (h : ab_hx D ws A H0 H locs) : ab_hx D ws' A H0 H locs := by
  obtain ⟨hP, hD, hS, hA⟩ := h
  refine ⟨fun k q' hk => ?_, ⟨fun i j p q hp hq e => ?_, fun k q' hk => ?_⟩, hS, hA⟩
  · obtain ⟨q, h1, -, h3⟩ := hf k q' hk
    exact h3 (hP _ q h1)
  · obtain ⟨p1, a1, a2, -⟩ := hf i p hp
    obtain ⟨q1, b1, b2, -⟩ := hf j q hq
    have h9 := hD.1 _ _ p1 q1 a1 b1 (by rw [a2, b2]; exact e)
    exact hi i (List.getElem?_eq_some_iff.mp hp).1 j (List.getElem?_eq_some_iff.mp hq).1 h9
  · obtain ⟨q, h1, h2, -⟩ := hf k q' hk
    rw [← h2]
    exact hD.2 _ q h1
/-! what the calls ask, out of the relation -/
section PR
variable {z u v : SS} {B : Nat}
theorem lp_off (h : ab_RT B z u v) : ab_bo (z 0 0) ∧ ab_bo (v 0 1) := ⟨h.2.1.2, by rw [← h.2.1.1]; exact h.2.1.2⟩
theorem lp_sav (h : ab_RT B z u v) : ab_bo (u 0 3) ∧ ab_bo (u 0 4) ∧ ab_bo (u 0 5) := by
  have two : ∀ x : Int32, (∃ n : Nat, n < 2 ∧ x = nI n) → ab_bo x := fun x ⟨n, hn, e⟩ => by
    rcases (show n = 0 ∨ n = 1 by omega) with rfl | rfl
    · exact Or.inl e
    · exact Or.inr e
  exact ⟨two _ (ab_Q_bd h.1 3), h.1.2.2.1.2.1, two _ (ab_Q_bd h.1 5)⟩
theorem lp_res (h : ab_RT B z u v) : ∀ k, 3 ≤ k → k ≤ 5 → ab_bo (z 1 k) ∧ ab_bo (z 4 k) := fun k h1 h2 => ⟨(h.2.2 0 (by decide)).2.2.2 k h1 h2, (h.2.2 1 (by decide)).2.2.2 k h1 h2⟩
theorem lp_sndQ {u v : SS} (h : ab_Q (ab_bd B) ab_jR u v) (hB : B < 2 ^ 30) : ab_snd (v 0 23) := by
  obtain ⟨n, hn, e⟩ := ab_Q_bd h 17
  have hn : n < B + 1 := hn
  exact ⟨n, by omega, by rw [← e]; exact (ab_Q_sc h 17).symm⟩
theorem lp_snd (h : ab_RT B z u v) (hB : B < 2 ^ 30) : ab_snd (v 0 23) := lp_sndQ h.1 hB
def lp_P (k : Nat) (v : SS) : Prop := ∃ (B : Nat) (u : SS), B + 8 * k < 2 ^ 30 ∧ ab_Q (ab_bd B) ab_jR u v
theorem lp_P1 (k : Nat) (v : SS) (h : lp_P (k + 1) v) : ab_snd (v 0 23) := by
  obtain ⟨B, u, hB, h⟩ := h
  exact lp_sndQ h (by omega)
theorem lp_P2 (k : Nat) (v : SS) (h : lp_P (k + 1) v) : lp_P k (f_MD_step v) := by
  obtain ⟨B, u, hB, h⟩ := h
  exact ⟨B + 8, _, by omega, (ab_step h (by omega)).1⟩
theorem lp_P9 (h : ab_RT B z u v) (hB : B + 488 < 2 ^ 30) (c : Int32) : lp_P 61 (stt v 0 0 c) := ⟨B, u, by omega, (ab_RT_thr h c).1⟩
end PR
theorem lp_p2 (z u : SS) (x : Int32) : (f_AB_power z u x).1 ≤ 2 := by
  unfold f_AB_power
  generalize f_Memory_programSum u = C
  split
  · split
    · exact Nat.zero_le _
    · exact Nat.le_refl _
  · exact Nat.le_succ _
theorem lp_g (k : Nat) : ∀ (z u : SS) (a b c : Int32), (g_AB_run_41 k z u a b c).1 = 0 := by
  induction k with
  | zero => intro z u a b c; rfl
  | succ k ih =>
    intro z u a b c
    rw [g_AB_run_41]
    split
    · rfl
    · exact ih _ _ _ _ _
theorem lp_r2 (z u : SS) (x : Int32) : (f_AB_run z u x).1 ≤ 2 := by
  unfold f_AB_run
  split
  · exact Nat.le_succ _
  · split
    · split
      · exact Nat.le_refl _
      · rw [lp_g]; exact Nat.zero_le _
    · exact Nat.le_succ _
theorem lp_s2 (z u : SS) (x : Int32) : (f_AB_restore z u x).1 ≤ 2 := by
  unfold f_AB_restore
  split
  · exact Nat.le_succ _
  · split
    · split
      · split
        · exact Nat.le_refl _
        · exact Nat.zero_le _
      · split
        · exact Nat.le_refl _
        · exact Nat.zero_le _
    · exact Nat.le_succ _
theorem lp_k {n : Nat} (h : n ≤ 2) : nI n = (if n = 0 then 0 else if n = 1 then 1 else 2 : Int32) := by
  rcases (show n = 0 ∨ n = 1 ∨ n = 2 by omega) with rfl | rfl | rfl <;> rfl
theorem lp_0 {n : Nat} (h : (if n = 0 then 0 else if n = 1 then 1 else 2 : Int32) = 0) : n = 0 := by
  by_cases h0 : n = 0
  · exact h0
  · rw [if_neg h0] at h
    by_cases h1 : n = 1
    · rw [if_pos h1] at h; exact absurd h (by decide)
    · rw [if_neg h1] at h; exact absurd h (by decide)
theorem lp_cmp (x : Int64) : lg_cmp x x = 0 := by simp [lg_cmp]
/-! the start -/
def i_f : Nat → Int32 := fun k => match k with
  | 0 => 2
  | _ => 0
def i_z : SS := fun a => match a with
  | 1 => i_f
  | 4 => i_f
  | _ => fun _ => 0
def i_u : SS := fun a => match a with
  | 0 => i_f
  | _ => fun _ => 0
def i_v : SS := fun _ _ => 0
theorem i_f0 {k : Nat} (h : k ≠ 0) : i_f k = 0 := by
  cases k with
  | zero => exact absurd rfl h
  | succ k => rfl
theorem i_bd : ∀ k, k < 18 → 0 < ab_bd 0 k := by decide
theorem lp_start : ab_RT 0 i_z i_u i_v := by
  have by0 : ab_by 0 := ⟨0, by decide, rfl⟩
  refine ⟨⟨fun k hk h0 h4 => ⟨i_f0 h0, 0, i_bd k hk, i_f0 h0⟩, ⟨by decide +kernel, fun _ _ _ => Or.inl rfl⟩, ⟨fun _ => rfl, Or.inl rfl, Or.inl rfl⟩, fun _ _ => ⟨rfl, by0⟩, fun _ _ => ⟨rfl, by0⟩, fun _ _ => ⟨rfl, by0⟩, fun _ _ => rfl⟩, ⟨rfl, Or.inl rfl⟩, fun s hs => ⟨rfl, Or.inl rfl, fun q => absurd (show (0 : Int32) = 1 from q) (by decide), fun k h3 h5 => ?_⟩⟩
  rcases (show s = 0 ∨ s = 1 by omega) with rfl | rfl
  · exact Or.inl (i_f0 (by omega))
  · exact Or.inl (i_f0 (by omega))
def i_q (a0 : Nat) (r : Nat → Nat) : Nat → Nat := fun k => match k with
  | 0 => r 10
  | 1 => r 0
  | 2 => r 1
  | 3 => r 2
  | 4 => r 3
  | 5 => r 4
  | 6 => r 5
  | 7 => r 11
  | 8 => r 8
  | 9 => r 6
  | 10 => r 7
  | 11 => r 9
  | 12 => a0
  | 13 => r 12
  | 14 => r 19
  | 15 => r 13
  | 16 => r 14
  | 17 => r 15
  | 18 => r 16
  | 19 => r 17
  | _ => r 18
def i_q' (a0 : Nat) (r : Nat → Nat) : Nat → Nat := fun k => match k with
  | 0 => a0
  | 1 => r 0
  | 2 => r 1
  | 3 => r 2
  | 4 => r 3
  | _ => r 4
theorem i_MD (t : Nat → ClassId) (a0 : Nat) (r : Nat → Nat) : w1_MD_init t a0 r = wM t (i_q' a0 r) i_v := rfl
/-- where the cells of wT lie in the constructor's world -/
def i_pl : Nat → Nat := fun k => match k with
  | 0 => 0 | 1 => 13 | 2 => 20 | 3 => 14 | 4 => 15 | 5 => 16 | 6 => 17 | 7 => 18 | 8 => 19 | 9 => 11 | 10 => 1 | 11 => 2 | 12 => 3 | 13 => 4 | 14 => 5 | 15 => 6 | 16 => 12 | 17 => 9 | 18 => 7 | 19 => 8 | _ => 10
theorem i_pl_inj : ∀ i, i < 21 → ∀ j, j < 21 → i_pl i = i_pl j → i = j := by decide +kernel
