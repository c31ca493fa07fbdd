/-! numbers in range, as the reference's walks ask them -/
def ab_le3 (x : Int32) : Prop := ∃ j : Nat, j ≤ 3 ∧ x = nI j
def ab_lt8 (x : Int32) : Prop := ∃ j : Nat, j < 8 ∧ x = nI j
def ab_snd (x : Int32) : Prop := ∃ n : Nat, n ≤ 1073741824 ∧ x = nI n
theorem ab_le3c {n : Nat} (h : n ≤ 3) : ab_le3 (nI n) := ⟨n, h, rfl⟩
theorem ab_lt8c {n : Nat} (h : n < 8) : ab_lt8 (nI n) := ⟨n, h, rfl⟩
theorem ab_half {x : Int32} (h : ab_lt8 x) : ab_le3 (x / 2) := by
  obtain ⟨j, hj, rfl⟩ := h
  exact ⟨j / 2, by omega, pk_div (d := 2) (by omega) (by decide) (by decide)⟩
theorem ab_and7 (x : Int32) : ab_lt8 (x &&& 7) := by
  obtain ⟨j, hj, e⟩ := pk_andE x (m := 7) 3 rfl
  exact ⟨j, hj, e⟩
theorem ab_k2 {x : Int32} (p : ab_le3 x) (h : ¬ x = 3) : vp_in (2 * x) 8 := by
  obtain ⟨j, hj, rfl⟩ := p
  rw [show (2 : Int32) = nI 2 from rfl, pk_mul]
  exact vp_in_nI (by omega) (by decide)
theorem ab_k21 {x : Int32} (p : ab_le3 x) (h : ¬ x = 3) : vp_in (2 * x + 1) 8 := by
  obtain ⟨j, hj, rfl⟩ := p
  rw [show (2 : Int32) = nI 2 from rfl, pk_mul, nI_1]
  exact vp_in_nI (by omega) (by decide)
theorem ab_r8 {x : Int32} (p : ab_lt8 x) : vp_in x 8 := by
  obtain ⟨j, hj, rfl⟩ := p
  exact vp_in_nI hj (by decide)
theorem ab_snd8 {x : Int32} {j : Nat} (hs : ∃ n : Nat, n ≤ 1073741824 + j ∧ x = nI n) (hj : j ≤ 8) : vp_in (x - x / 8 * 8) 8 := by
  obtain ⟨n, hn, rfl⟩ := hs
  rw [show nI n - nI n / 8 * 8 = nI (n % 8) from pk_rem (d := 8) (by omega) (by decide) (by decide)]
  exact vp_in_nI (by omega) (by decide)
theorem ab_sndS {x : Int32} {j : Nat} (hs : ∃ n : Nat, n ≤ 1073741824 + j ∧ x = nI n) : ∃ n : Nat, n ≤ 1073741824 + (j + 1) ∧ x = nI n := by
  obtain ⟨n, hn, e⟩ := hs
  exact ⟨n, by omega, e⟩
theorem ab_sndU {u : SS} {a k j : Nat} {y : Int32} (hs : ∃ n : Nat, n ≤ 1073741824 + j ∧ u 0 23 = nI n) : ∃ n : Nat, n ≤ 1073741824 + (j + 1) ∧ stt (stt u a k y) 0 23 (u 0 23 + 1) 0 23 = nI n := by
  obtain ⟨n, hn, e⟩ := hs
  exact ⟨n + 1, by omega, by rw [stt_s, e, nI_1]⟩
/-- load's loop -/
def ab_ldI (k : Nat) (v1 v3 v4 : Int32) : Prop := ∃ c n j : Nat, v1 = nI c ∧ v3 = nI n ∧ v4 = nI j ∧ n ≤ 4 ∧ c + n ≤ 512 ∧ j ≤ n ∧ n < j + k
theorem ab_ldI_0 {v1 v3 v4 : Int32} : ¬ ab_ldI 0 v1 v3 v4 := by
  rintro ⟨c, n, j, -, -, -, -, -, h1, h2⟩
  omega
theorem ab_ldI_i {x1 x3 : Int32} (h1 : ¬ x3 < 1) (h2 : ¬ 4 < x3) (h3 : ¬ x1 < 0) (h4 : x1 ≤ 512 - x3) : ab_ldI 5 x1 x3 0 := by
  obtain ⟨c, hc, rfl⟩ := nI_of h3
  have h3' : ¬ x3 < 0 := fun q => h1 (Int32.lt_trans q (by decide))
  obtain ⟨n, hn, rfl⟩ := nI_of h3'
  have n4 : n ≤ 4 := by
    rcases Nat.lt_or_ge 4 n with q | q
    · exact absurd ((nI_ltI (a := 4) (by decide) hn).mpr q) h2
    · exact q
  rw [show (512 : Int32) - nI n = nI (512 - n) from pk_sub (a := 512) (by omega)] at h4
  have := (nI_leI hc (by omega)).mp h4
  exact ⟨c, n, 0, rfl, rfl, rfl, n4, by omega, by omega, by omega⟩
theorem ab_ldI_s {k : Nat} {v1 v3 v4 : Int32} (hq : ab_ldI (k + 1) v1 v3 v4) (h : ¬ v3 ≤ v4) : ab_ldI k v1 v3 (v4 + 1) := by
  obtain ⟨c, n, j, rfl, rfl, rfl, h1, h2, h3, h4⟩ := hq
  have : j < n := by
    rcases Nat.lt_or_ge j n with q | q
    · exact q
    · exact absurd (nI_le q (by omega)) h
  exact ⟨c, n, j + 1, rfl, rfl, nI_1 j, h1, h2, by omega, by omega⟩
theorem ab_ldI_in {k : Nat} {v1 v3 v4 : Int32} (hq : ab_ldI k v1 v3 v4) (h : ¬ v3 ≤ v4) : vp_in (v1 + v4) 512 := by
  obtain ⟨c, n, j, rfl, rfl, rfl, h1, h2, h3, h4⟩ := hq
  have : j < n := by
    rcases Nat.lt_or_ge j n with q | q
    · exact q
    · exact absurd (nI_le q (by omega)) h
  rw [nI_add]
  exact vp_in_nI (by omega) (by decide)
/-- run's loop -/
def ab_rnI (k : Nat) (v1 v3 : Int32) : Prop := ∃ n j : Nat, v1 = nI n ∧ v3 = nI j ∧ n ≤ 60 ∧ j ≤ n ∧ n < j + k
theorem ab_rnI_s {k : Nat} {v1 v3 : Int32} (hq : ab_rnI (k + 1) v1 v3) (h : ¬ v1 ≤ v3) : ab_rnI k v1 (v3 + 1) := by
  obtain ⟨n, j, rfl, rfl, h1, h2, h3⟩ := hq
  have : j < n := by
    rcases Nat.lt_or_ge j n with q | q
    · exact q
    · exact absurd (nI_le q (by omega)) h
  exact ⟨n, j + 1, rfl, nI_1 j, h1, by omega, by omega⟩
theorem ab_skip {A B : Prop} {v1 v3 : Int32} : ¬ ((A ∧ 0 < 0) ∨ (ab_rnI 0 v1 v3 ∧ B)) := by
  rintro (⟨-, h⟩ | ⟨⟨n, j, -, -, -, h1, h2⟩, -⟩)
  · exact absurd h (by decide)
  · omega
theorem ab_rn {x : Int32} {C B : Prop} (hq : (x ≠ 0 ∧ C) ∨ B) (h : x = 0) : B := hq.resolve_left (fun z => z.1 h)
theorem ab_rnI_i {P : Nat → SS → Prop} {u : SS} {x1 : Int32} (p9 : ∀ c, P 61 (stt u 0 0 c)) (C : Int32) (hC : C = (if x1 < 0 then 1 else (if x1 ≤ 60 then (if (u 0 1) = 0 then 2 else 0 : Int32) else 1 : Int32) : Int32)) : (stt u 0 0 C 0 0 ≠ 0 ∧ 0 < 61) ∨ (ab_rnI 61 x1 0 ∧ P 61 (stt u 0 0 C)) := by
  by_cases h : x1 < 0
  · rw [if_pos h] at hC; subst hC; exact Or.inl ⟨by rw [stt_s]; decide, by decide⟩
  · by_cases h6 : x1 ≤ 60
    · obtain ⟨j, hj, rfl⟩ := nI_of2 (n := 60) (by decide) h h6
      exact Or.inr ⟨⟨j, 0, rfl, rfl, hj, by omega, by omega⟩, p9 _⟩
    · rw [if_neg h, if_neg h6] at hC; subst hC; exact Or.inl ⟨by rw [stt_s]; decide, by decide⟩
theorem ab_inP {x : Int32} (h1 : ¬ x < 0) (h2 : ¬ 1024 ≤ x) : vp_in x 1024 := by
  obtain ⟨j, hj, rfl⟩ := nI_of h1
  exact vp_in_nI (Nat.lt_of_not_le fun q => h2 (nI_le q hj)) (by decide)
theorem ab_inD {x y : Int32} (h1 : ¬ x < 0) (h2 : ¬ 64 ≤ x) (h3 : ¬ y < 0) (h4 : ¬ 32 ≤ y) : vp_in ((768 + 8 * y) + x / 8) 1024 := by
  obtain ⟨j, hj, rfl⟩ := nI_of h1
  obtain ⟨i, hi, rfl⟩ := nI_of h3
  have a : j < 64 := Nat.lt_of_not_le fun q => h2 (nI_le q hj)
  have b : i < 32 := Nat.lt_of_not_le fun q => h4 (nI_le q hi)
  rw [show nI j / 8 = nI (j / 8) from pk_div (d := 8) (by omega) (by decide) (by decide), show (8 : Int32) = nI 8 from rfl, pk_mul, show (768 : Int32) = nI 768 from rfl, nI_add, nI_add]
  exact vp_in_nI (by omega) (by decide)
theorem ab_inS {x s : Int32} (ps : ab_snd s) (h1 : ¬ x < 0) (h2 : ¬ 8 ≤ x) (h3 : ¬ s ≤ x) : vp_in (((s - 1) - x) - ((s - 1) - x) / 8 * 8) 8 := by
  obtain ⟨n, hn, rfl⟩ := ps
  obtain ⟨j, hj, rfl⟩ := nI_of h1
  have a : j < n := Nat.lt_of_not_le fun q => h3 (nI_le q hj)
  rw [show nI n - 1 = nI (n - 1) from pk_sub (b := 1) (by omega), pk_sub (a := n - 1) (by omega), show nI (n - 1 - j) - nI (n - 1 - j) / 8 * 8 = nI ((n - 1 - j) % 8) from pk_rem (d := 8) (by omega) (by decide) (by decide)]
  exact vp_in_nI (by omega) (by decide)
/-- save, restore -/
def ab_540 (x : Int32) : Prop := x = 0 ∨ x = 540
theorem ab_in01 {x : Int32} (h : x = 0 ∨ x = 1) : vp_in x 2 := by
  rcases h with rfl | rfl
  · exact vp_in_nI (n := 0) (by decide) (by decide)
  · exact vp_in_nI (n := 1) (by decide) (by decide)
theorem ab_540s {x : Int32} (h : x = 0 ∨ x = 1) : ab_540 (540 * x) := by
  rcases h with rfl | rfl
  · exact Or.inl rfl
  · exact Or.inr rfl
theorem ab_is01 {x : Int32} (h : ¬ (if x = 0 then 1 else (if x = 1 then 1 else 0 : Int32) : Int32) = 0) : x = 0 ∨ x = 1 := by
  by_cases a : x = 0
  · exact Or.inl a
  · by_cases b : x = 1
    · exact Or.inr b
    · rw [if_neg a, if_neg b] at h; exact absurd rfl h
theorem ab_in01r {x : Int32} (h : ¬ (if x = 0 then 1 else (if x = 1 then 1 else 0 : Int32) : Int32) = 0) : vp_in x 2 := ab_in01 (ab_is01 h)
theorem ab_540r {x y : Int32} (h : (if (if x = 0 then 1 else (if x = 1 then 1 else 0 : Int32) : Int32) = 0 then 1 else (if y = 0 then 2 else 0 : Int32) : Int32) ≤ 0) : ab_540 (540 * x) := by
  refine ab_540s (ab_is01 (fun q => ?_))
  rw [if_pos q] at h
  exact absurd h (by decide)
theorem ab_540n {v : Int32} (h : ab_540 v) : ∃ n, n ≤ 540 ∧ v = nI n := h.elim (fun e => ⟨0, by decide, e⟩) (fun e => ⟨540, by decide, e⟩)
theorem ab_kp {v c : Int32} (h : ab_540 v) (hc : (!(decide (c < 0)) && decide (c.toNatClampNeg < 540)) = true) : vp_in (v + c) 1080 := by
  obtain ⟨n, hn, rfl⟩ := ab_540n h
  simp only [Bool.and_eq_true, Bool.not_eq_true', decide_eq_true_eq, decide_eq_false_iff_not] at hc
  obtain ⟨j, hj, rfl⟩ := nI_of hc.1
  have := hc.2
  rw [nI_clamp hj] at this
  rw [nI_add]
  exact vp_in_nI (by omega) (by decide)
theorem ab_kpi {v i n : Int32} {j N : Nat} (h : ab_540 v) (h1 : ¬ n ≤ i) (hi : i = nI j) (hj : j ≤ N) (hN : n = nI N ∧ N ≤ 540) : vp_in (v + i) 1080 := by
  obtain ⟨a, ha, rfl⟩ := ab_540n h
  obtain ⟨rfl, hN⟩ := hN
  have := ab_ltN h1 hi hj rfl (by omega)
  subst hi
  rw [nI_add]
  exact vp_in_nI (by omega) (by decide)
theorem ab_kp23 {v i : Int32} {j : Nat} (h : ab_540 v) (h1 : ¬ 512 ≤ i) (hi : i = nI j) (hj : j ≤ 512) : vp_in ((v + 23) + i) 1080 := by
  obtain ⟨a, ha, rfl⟩ := ab_540n h
  have := ab_ltN (N := 512) h1 hi hj rfl (by decide)
  subst hi
  rw [show (23 : Int32) = nI 23 from rfl, nI_add, nI_add]
  exact vp_in_nI (by omega) (by decide)
theorem ab_512 {i : Int32} {j : Nat} (h1 : ¬ 512 ≤ i) (hi : i = nI j) (hj : j ≤ 512) : vp_in (512 + i) 1024 := by
  have := ab_ltN (N := 512) h1 hi hj rfl (by decide)
  subst hi
  rw [show (512 : Int32) = nI 512 from rfl, nI_add]
  exact vp_in_nI (by omega) (by decide)
/-- booleans -/
theorem ab_nb {x : Int32} (h : ab_bo x) : narrow .boolean (.int x) = .int x := by rcases h with rfl | rfl <;> rfl
theorem ab_fb {x : Int32} (h : ab_bo x) : fits .boolean (.int x) = true := by rcases h with rfl | rfl <;> rfl
theorem ab_vb {x : Int32} (h : ab_bo x) : vp_nar .boolean x = x := by rcases h with rfl | rfl <;> rfl
theorem ab_rnI_0 {v1 v3 : Int32} : ¬ ab_rnI 0 v1 v3 := by
  rintro ⟨n, j, -, -, -, h1, h2⟩
  omega
theorem ab_rnI_j {x : Int32} (h1 : ¬ x < 0) (h2 : x ≤ 60) : ab_rnI 61 x 0 := by
  obtain ⟨j, hj, rfl⟩ := nI_of2 (n := 60) (by decide) h1 h2
  exact ⟨j, 0, rfl, rfl, hj, by omega, by omega⟩
theorem ab_01 {x : Int32} (h1 : ¬ x < 0) (h2 : x < 2) : x = 0 ∨ x = 1 := by
  obtain ⟨j, hj, rfl⟩ := nI_of h1
  have := (nI_ltI (b := 2) hj (by decide)).mp h2
  rcases (show j = 0 ∨ j = 1 by omega) with rfl | rfl
  · exact Or.inl rfl
  · exact Or.inr rfl
