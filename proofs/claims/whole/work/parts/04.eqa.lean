/-! Pure: the class's state u (scalars u 0, ram u 1, registers u 2, program u 3, latest u 4) against the reference's v (scalars v 0, memory v 1, reg v 2, latest v 3). -/
theorem stt_s (u : SS) (a k : Nat) (x : Int32) : stt u a k x a k = x := by unfold stt va_up upd; rw [if_pos rfl, if_pos rfl]
theorem stt_ap (u : SS) (a k : Nat) (x : Int32) (b j : Nat) : stt u a k x b j = if b = a ∧ j = k then x else u b j := by
  unfold stt va_up upd
  by_cases h : b = a
  · subst h
    by_cases h2 : j = k
    · subst h2; rw [if_pos rfl, if_pos rfl, if_pos ⟨rfl, rfl⟩]
    · rw [if_pos rfl, if_neg h2, if_neg (fun q => h2 q.2)]
  · rw [if_neg h, if_neg (fun q => h q.1)]
theorem stt_n {u : SS} {a k : Nat} {x : Int32} {b j : Nat} (h : ¬ (b = a ∧ j = k)) : stt u a k x b j = u b j := by rw [stt_ap, if_neg h]
theorem stt_a {u : SS} {a k : Nat} {x : Int32} {b j : Nat} (h : b ≠ a) : stt u a k x b j = u b j := stt_n (fun q => h q.1)
theorem stt_k {u : SS} {a k : Nat} {x : Int32} {b j : Nat} (h : j ≠ k) : stt u a k x b j = u b j := stt_n (fun q => h q.2)
theorem stt_comm {u : SS} {a k b j : Nat} {x y : Int32} (h : ¬ (b = a ∧ j = k)) : stt (stt u a k x) b j y = stt (stt u b j y) a k x := by
  funext c i
  simp only [stt_ap]
  by_cases h1 : c = b ∧ i = j
  · rw [if_pos h1, if_neg (fun q => h ⟨by omega, by omega⟩), if_pos h1]
  · rw [if_neg h1, if_neg h1]
theorem stt_id {u : SS} {a k : Nat} : stt u a k (u a k) = u := by
  funext c i; rw [stt_ap]; by_cases h : c = a ∧ i = k
  · rw [if_pos h, h.1, h.2]
  · rw [if_neg h]
theorem stt_stt {u : SS} {a k : Nat} {x y : Int32} : stt (stt u a k x) a k y = stt u a k y := by
  funext c i; simp only [stt_ap]; by_cases h : c = a ∧ i = k
  · rw [if_pos h, if_pos h]
  · rw [if_neg h, if_neg h, if_neg h]
/-- the place in the reference of the class's scalar k -/
def ab_ix (k : Nat) : Nat := match k with
  | 1 => 9 | 2 => 10 | 3 => 11 | 5 => 13 | 6 => 14 | 7 => 15 | 8 => 16 | 9 => 17 | 10 => 18 | 11 => 19 | 12 => 20 | 13 => 21 | 14 => 22 | 15 => 2 | 16 => 3 | 17 => 23 | _ => 99
/-- bounds of the scalars; B: of the sounds -/
def ab_bd (B : Nat) (k : Nat) : Nat := match k with
  | 1 => 65536 | 2 => 65536 | 3 => 2 | 5 => 2 | 6 => 3 | 7 => 65536 | 8 => 8 | 9 => 4 | 10 => 2560 | 12 => 4 | 13 => 256 | 14 => 256 | 15 => 256 | 16 => 255 | 17 => B + 1 | _ => 4294967296
def ab_by (x : Int32) : Prop := ∃ n : Nat, n < 256 ∧ x = nI n
def ab_wd (x : Int32) : Prop := ∃ n : Nat, n < 65536 ∧ x = nI n
def ab_bo (x : Int32) : Prop := x = 0 ∨ x = 1
theorem ab_any (x : Int32) : ∃ n : Nat, n < 4294967296 ∧ x = nI n := ⟨x.toBitVec.toNat, x.toBitVec.isLt, by apply Int32.toBitVec_inj.mp; apply BitVec.eq_of_toNat_eq; exact (Nat.mod_eq_of_lt x.toBitVec.isLt).symm⟩
def ab_Q (bd : Nat → Nat) (jc : Int32 → Int32 → Int32 → Prop) (u v : SS) : Prop :=
  (∀ k, k < 18 → k ≠ 0 → k ≠ 4 → u 0 k = v 0 (ab_ix k) ∧ ∃ n : Nat, n < bd k ∧ u 0 k = nI n) ∧
  (u 0 0 = f_MD_flags v ∧ ∀ k, 4 ≤ k → k ≤ 8 → ab_bo (v 0 k)) ∧
  (jc (u 0 3) (u 0 4) (v 0 12) ∧ ab_bo (u 0 4) ∧ ab_bo (v 0 12)) ∧
  (∀ k, k < 512 → u 3 k = v 1 k ∧ ab_by (u 3 k)) ∧
  (∀ k, k < 512 → u 1 k = v 1 (512 + k) ∧ ab_by (u 1 k)) ∧
  (∀ k, k < 8 → u 2 k = v 2 k ∧ ab_by (u 2 k)) ∧
  (∀ k, k < 8 → u 4 k = v 3 k)
def ab_jR (i s j : Int32) : Prop := i = 1 → s = j
def ab_jO (b : Int32) (i s j : Int32) : Prop := j = (if i = 0 then 0 else (if b = 0 then 1 else 0 : Int32) : Int32)
section EQ
variable {bd : Nat → Nat} {jc : Int32 → Int32 → Int32 → Prop} {u v : SS}
theorem ab_Q_sc (h : ab_Q bd jc u v) (k : Nat) (h1 : k < 18 := by decide) (h2 : k ≠ 0 := by decide) (h3 : k ≠ 4 := by decide) : u 0 k = v 0 (ab_ix k) := (h.1 k h1 h2 h3).1
theorem ab_Q_bd (h : ab_Q bd jc u v) (k : Nat) (h1 : k < 18 := by decide) (h2 : k ≠ 0 := by decide) (h3 : k ≠ 4 := by decide) : ∃ n : Nat, n < bd k ∧ u 0 k = nI n := (h.1 k h1 h2 h3).2
theorem ab_ixne0 : ∀ k, k < 18 → ∀ j, j < 18 → (ab_ix k = 99 ∨ ab_ix j = 99 ∨ k = j ∨ ab_ix k ≠ ab_ix j) := by decide +kernel
theorem ab_ix99 : ∀ k, k < 18 → (k = 0 ∨ k = 4 ∨ ab_ix k ≠ 99) := by decide +kernel
theorem ab_ixfl0 : ∀ k, k < 18 → (ab_ix k < 4 ∨ 8 < ab_ix k) ∧ ab_ix k ≠ 12 ∧ 2 ≤ ab_ix k ∧ ab_ix k ≠ 24 := by decide +kernel
theorem ab_ixne (k : Nat) (h1 : k < 18) (h2 : k ≠ 0) (h3 : k ≠ 4) (j : Nat) (j1 : j < 18) (j2 : j ≠ 0) (j3 : j ≠ 4) (h : k ≠ j) : ab_ix k ≠ ab_ix j := by
  have a := ab_ix99 k h1
  have b := ab_ix99 j j1
  have c := ab_ixne0 k h1 j j1
  omega
theorem ab_ixfl (k : Nat) (h1 : k < 18) (h2 : k ≠ 0) (h3 : k ≠ 4) : (ab_ix k < 4 ∨ 8 < ab_ix k) ∧ ab_ix k ≠ 12 ∧ ab_ix k ≠ 0 ∧ ab_ix k ≠ 1 ∧ ab_ix k ≠ 24 := by
  have a := ab_ixfl0 k h1
  omega
theorem ab_fl_n {a k : Nat} {x : Int32} (h : a ≠ 0 ∨ k < 4 ∨ 8 < k) : f_MD_flags (stt v a k x) = f_MD_flags v := by
  unfold f_MD_flags
  rw [stt_n (b := 0) (j := 4) (by omega), stt_n (b := 0) (j := 5) (by omega), stt_n (b := 0) (j := 6) (by omega), stt_n (b := 0) (j := 7) (by omega), stt_n (b := 0) (j := 8) (by omega)]
/-- a scalar is set on both sides; its bound may change -/
theorem ab_Q_set (h : ab_Q bd jc u v) (k m : Nat) {n : Nat} {x y : Int32} (hx : x = nI n) (hn : n < m) (hy : y = x) (h1 : k < 18 := by decide) (h2 : k ≠ 0 := by decide) (h3 : k ≠ 4 := by decide) (h4 : k ≠ 3 := by decide) : ab_Q (va_up bd k m) jc (stt u 0 k x) (stt v 0 (ab_ix k) y) := by
  subst hy
  have hf := ab_ixfl k h1 h2 h3
  refine ⟨fun j j1 j2 j3 => ?_, ⟨?_, fun j j1 j2 => ?_⟩, ⟨?_, ?_, ?_⟩, ?_, ?_, ?_, ?_⟩
  · by_cases e : j = k
    · subst e; rw [stt_s, stt_s]; exact ⟨rfl, n, by unfold va_up; rw [if_pos rfl]; exact hn, hx⟩
    · rw [stt_k e, stt_k (ab_ixne j j1 j2 j3 k h1 h2 h3 e)]; unfold va_up; rw [if_neg e]; exact h.1 j j1 j2 j3
  · rw [stt_k (Ne.symm h2), ab_fl_n (Or.inr hf.1)]; exact h.2.1.1
  · rw [stt_k (by omega)]; exact h.2.1.2 j j1 j2
  · rw [stt_k (Ne.symm h4), stt_k (Ne.symm h3), stt_k (Ne.symm hf.2.1)]; exact h.2.2.1.1
  · rw [stt_k (Ne.symm h3)]; exact h.2.2.1.2.1
  · rw [stt_k (Ne.symm hf.2.1)]; exact h.2.2.1.2.2
  · intro j hj; rw [stt_a (by decide), stt_a (by decide)]; exact h.2.2.2.1 j hj
  · intro j hj; rw [stt_a (by decide), stt_a (by decide)]; exact h.2.2.2.2.1 j hj
  · intro j hj; rw [stt_a (by decide), stt_a (by decide)]; exact h.2.2.2.2.2.1 j hj
  · intro j hj; rw [stt_a (by decide), stt_a (by decide)]; exact h.2.2.2.2.2.2 j hj
theorem ab_Q_mono {bd' : Nat → Nat} (h : ab_Q bd jc u v) (hb : ∀ k, k < 18 → bd k ≤ bd' k) : ab_Q bd' jc u v :=
  ⟨fun k h1 h2 h3 => ⟨(h.1 k h1 h2 h3).1, (h.1 k h1 h2 h3).2.elim fun n q => ⟨n, Nat.lt_of_lt_of_le q.1 (hb k h1), q.2⟩⟩, h.2⟩
theorem ab_Q_put (h : ab_Q bd jc u v) (k : Nat) {n : Nat} {x y : Int32} (hx : x = nI n) (hn : n < bd k) (hy : y = x) (h1 : k < 18 := by decide) (h2 : k ≠ 0 := by decide) (h3 : k ≠ 4 := by decide) (h4 : k ≠ 3 := by decide) : ab_Q bd jc (stt u 0 k x) (stt v 0 (ab_ix k) y) := by
  refine ab_Q_mono (ab_Q_set h k (bd k) hx hn hy h1 h2 h3 h4) (fun j _ => ?_)
  unfold va_up
  split
  · rename_i e; rw [e]; exact Nat.le_refl _
  · exact Nat.le_refl _
/-- a place of the reference that the class doesn't have: thrown, on, states, saved, kept -/
theorem ab_Q_own (h : ab_Q bd jc u v) (k : Nat) (x : Int32) (hk : k = 0 ∨ k = 1 ∨ k = 24) : ab_Q bd jc u (stt v 0 k x) := by
  have e9 : ∀ j, 3 < j → j < 24 → stt v 0 k x 0 j = v 0 j := fun j a b => stt_k (by omega)
  refine ⟨fun j j1 j2 j3 => ?_, ⟨?_, fun j j1 j2 => ?_⟩, ⟨?_, h.2.2.1.2.1, ?_⟩, ?_, ?_, ?_, ?_⟩
  · have := ab_ixfl j j1 j2 j3; rw [stt_k (by omega)]; exact h.1 j j1 j2 j3
  · rw [ab_fl_n (by omega)]; exact h.2.1.1
  · rw [e9 j (by omega) (by omega)]; exact h.2.1.2 j j1 j2
  · rw [e9 12 (by decide) (by decide)]; exact h.2.2.1.1
  · rw [e9 12 (by decide) (by decide)]; exact h.2.2.1.2.2
  · intro j hj; rw [stt_a (by decide)]; exact h.2.2.2.1 j hj
  · intro j hj; rw [stt_a (by decide)]; exact h.2.2.2.2.1 j hj
  · intro j hj; rw [stt_a (by decide)]; exact h.2.2.2.2.2.1 j hj
  · intro j hj; rw [stt_a (by decide)]; exact h.2.2.2.2.2.2 j hj
theorem ab_Q_far (h : ab_Q bd jc u v) (a k : Nat) (x : Int32) (ha : 3 < a) : ab_Q bd jc u (stt v a k x) := by
  have e9 : ∀ b j, b < 4 → stt v a k x b j = v b j := fun b j q => stt_a (by omega)
  refine ⟨fun j j1 j2 j3 => ?_, ⟨?_, fun j j1 j2 => ?_⟩, ⟨?_, h.2.2.1.2.1, ?_⟩, ?_, ?_, ?_, ?_⟩
  · rw [e9 _ _ (by decide)]; exact h.1 j j1 j2 j3
  · rw [ab_fl_n (by omega)]; exact h.2.1.1
  · rw [e9 _ _ (by decide)]; exact h.2.1.2 j j1 j2
  · rw [e9 _ _ (by decide)]; exact h.2.2.1.1
  · rw [e9 _ _ (by decide)]; exact h.2.2.1.2.2
  · intro j hj; rw [e9 _ _ (by decide)]; exact h.2.2.2.1 j hj
  · intro j hj; rw [e9 _ _ (by decide)]; exact h.2.2.2.2.1 j hj
  · intro j hj; rw [e9 _ _ (by decide)]; exact h.2.2.2.2.2.1 j hj
  · intro j hj; rw [e9 _ _ (by decide)]; exact h.2.2.2.2.2.2 j hj
/-- a register -/
theorem ab_Q_reg (h : ab_Q bd jc u v) (k : Nat) {x y : Int32} (hx : ab_by x) (hy : y = x) : ab_Q bd jc (stt u 2 k x) (stt v 2 k y) := by
  subst hy
  refine ⟨fun j j1 j2 j3 => ?_, ⟨?_, fun j j1 j2 => ?_⟩, ⟨?_, ?_, ?_⟩, ?_, ?_, ?_, ?_⟩
  · rw [stt_a (by decide), stt_a (by decide)]; exact h.1 j j1 j2 j3
  · rw [stt_a (by decide), ab_fl_n (by omega)]; exact h.2.1.1
  · rw [stt_a (by decide)]; exact h.2.1.2 j j1 j2
  · rw [stt_a (by decide), stt_a (by decide), stt_a (by decide)]; exact h.2.2.1.1
  · rw [stt_a (by decide)]; exact h.2.2.1.2.1
  · rw [stt_a (by decide)]; exact h.2.2.1.2.2
  · intro j hj; rw [stt_a (by decide), stt_a (by decide)]; exact h.2.2.2.1 j hj
  · intro j hj; rw [stt_a (by decide), stt_a (by decide)]; exact h.2.2.2.2.1 j hj
  · intro j hj
    by_cases e : j = k
    · subst e; rw [stt_s, stt_s]; exact ⟨rfl, hx⟩
    · rw [stt_k e, stt_k e]; exact h.2.2.2.2.2.1 j hj
  · intro j hj; rw [stt_a (by decide), stt_a (by decide)]; exact h.2.2.2.2.2.2 j hj
/-- a cell of the ram -/
theorem ab_Q_ram (h : ab_Q bd jc u v) (k : Nat) {x y : Int32} (hk : k < 512) (hx : ab_by x) (hy : y = x) : ab_Q bd jc (stt u 1 k x) (stt v 1 (512 + k) y) := by
  subst hy
  refine ⟨fun j j1 j2 j3 => ?_, ⟨?_, fun j j1 j2 => ?_⟩, ⟨?_, ?_, ?_⟩, ?_, ?_, ?_, ?_⟩
  · rw [stt_a (by decide), stt_a (by decide)]; exact h.1 j j1 j2 j3
  · rw [stt_a (by decide), ab_fl_n (by omega)]; exact h.2.1.1
  · rw [stt_a (by decide)]; exact h.2.1.2 j j1 j2
  · rw [stt_a (by decide), stt_a (by decide), stt_a (by decide)]; exact h.2.2.1.1
  · rw [stt_a (by decide)]; exact h.2.2.1.2.1
  · rw [stt_a (by decide)]; exact h.2.2.1.2.2
  · intro j hj; rw [stt_a (by decide), stt_k (by omega)]; exact h.2.2.2.1 j hj
  · intro j hj
    by_cases e : j = k
    · subst e; rw [stt_s, stt_s]; exact ⟨rfl, hx⟩
    · rw [stt_k e, stt_k (by omega)]; exact h.2.2.2.2.1 j hj
  · intro j hj; rw [stt_a (by decide), stt_a (by decide)]; exact h.2.2.2.2.2.1 j hj
  · intro j hj; rw [stt_a (by decide), stt_a (by decide)]; exact h.2.2.2.2.2.2 j hj
/-- a cell of the program -/
theorem ab_Q_rom (h : ab_Q bd jc u v) (k : Nat) {x y : Int32} (hk : k < 512) (hx : ab_by x) (hy : y = x) : ab_Q bd jc (stt u 3 k x) (stt v 1 k y) := by
  subst hy
  refine ⟨fun j j1 j2 j3 => ?_, ⟨?_, fun j j1 j2 => ?_⟩, ⟨?_, ?_, ?_⟩, ?_, ?_, ?_, ?_⟩
  · rw [stt_a (by decide), stt_a (by decide)]; exact h.1 j j1 j2 j3
  · rw [stt_a (by decide), ab_fl_n (by omega)]; exact h.2.1.1
  · rw [stt_a (by decide)]; exact h.2.1.2 j j1 j2
  · rw [stt_a (by decide), stt_a (by decide), stt_a (by decide)]; exact h.2.2.1.1
  · rw [stt_a (by decide)]; exact h.2.2.1.2.1
  · rw [stt_a (by decide)]; exact h.2.2.1.2.2
  · intro j hj
    by_cases e : j = k
    · subst e; rw [stt_s, stt_s]; exact ⟨rfl, hx⟩
    · rw [stt_k e, stt_k e]; exact h.2.2.2.1 j hj
  · intro j hj; rw [stt_a (by decide), stt_k (by omega)]; exact h.2.2.2.2.1 j hj
  · intro j hj; rw [stt_a (by decide), stt_a (by decide)]; exact h.2.2.2.2.2.1 j hj
  · intro j hj; rw [stt_a (by decide), stt_a (by decide)]; exact h.2.2.2.2.2.2 j hj
/-- one of the latest sounds -/
theorem ab_Q_lat (h : ab_Q bd jc u v) (k : Nat) {x y : Int32} (hy : y = x) : ab_Q bd jc (stt u 4 k x) (stt v 3 k y) := by
  subst hy
  refine ⟨fun j j1 j2 j3 => ?_, ⟨?_, fun j j1 j2 => ?_⟩, ⟨?_, ?_, ?_⟩, ?_, ?_, ?_, ?_⟩
  · rw [stt_a (by decide), stt_a (by decide)]; exact h.1 j j1 j2 j3
  · rw [stt_a (by decide), ab_fl_n (by omega)]; exact h.2.1.1
  · rw [stt_a (by decide)]; exact h.2.1.2 j j1 j2
  · rw [stt_a (by decide), stt_a (by decide), stt_a (by decide)]; exact h.2.2.1.1
  · rw [stt_a (by decide)]; exact h.2.2.1.2.1
  · rw [stt_a (by decide)]; exact h.2.2.1.2.2
  · intro j hj; rw [stt_a (by decide), stt_a (by decide)]; exact h.2.2.2.1 j hj
  · intro j hj; rw [stt_a (by decide), stt_a (by decide)]; exact h.2.2.2.2.1 j hj
  · intro j hj; rw [stt_a (by decide), stt_a (by decide)]; exact h.2.2.2.2.2.1 j hj
  · intro j hj
    by_cases e : j = k
    · subst e; rw [stt_s, stt_s]
    · rw [stt_k e, stt_k e]; exact h.2.2.2.2.2.2 j hj
/-- the interrupts and what goes with them -/
theorem ab_Q_int (h : ab_Q bd jc u v) {jc' : Int32 → Int32 → Int32 → Prop} {i s j : Int32} (hi : ab_bo i) (h3 : 2 ≤ bd 3) (hs : ab_bo s) (hj : ab_bo j) (hc : jc' i s j) : ab_Q bd jc' (stt (stt u 0 3 i) 0 4 s) (stt (stt v 0 11 i) 0 12 j) := by
  refine ⟨fun k k1 k2 k3 => ?_, ⟨?_, fun k k1 k2 => ?_⟩, ⟨?_, ?_, ?_⟩, ?_, ?_, ?_, ?_⟩
  · have hf := ab_ixfl k k1 k2 k3
    rw [stt_k k3, stt_k hf.2.1]
    by_cases e : k = 3
    · subst e; rw [stt_s, show ab_ix 3 = 11 from rfl, stt_s]; refine ⟨rfl, ?_⟩
      rcases hi with e | e
      · exact ⟨0, by omega, e⟩
      · exact ⟨1, by omega, e⟩
    · rw [stt_k e, stt_k (show ab_ix k ≠ 11 from ab_ixne k k1 k2 k3 3 (by decide) (by decide) (by decide) e)]; exact h.1 k k1 k2 k3
  · rw [stt_k (by decide), stt_k (by decide), ab_fl_n (by omega), ab_fl_n (by omega)]; exact h.2.1.1
  · rw [stt_k (by omega), stt_k (by omega)]; exact h.2.1.2 k k1 k2
  · rw [stt_k (k := 4) (by decide), stt_s, stt_s, stt_s]; exact hc
  · rw [stt_s]; exact hs
  · rw [stt_s]; exact hj
  · intro j hj; simp only [stt_ap]; exact h.2.2.2.1 j hj
  · intro j hj; simp only [stt_ap]; exact h.2.2.2.2.1 j hj
  · intro j hj; simp only [stt_ap]; exact h.2.2.2.2.2.1 j hj
  · intro j hj; simp only [stt_ap]; exact h.2.2.2.2.2.2 j hj
end EQ

theorem ab_N (x : Int32) : x = nI x.toBitVec.toNat := by apply Int32.toBitVec_inj.mp; apply BitVec.eq_of_toNat_eq; exact (Nat.mod_eq_of_lt x.toBitVec.isLt).symm
theorem ab_nor {a b : Nat} (ha : a < 2 ^ 32) (hb : b < 2 ^ 32) : nI a ||| nI b = nI (a ||| b) := by
  apply Int32.toBitVec_inj.mp; apply BitVec.eq_of_toNat_eq
  rw [Int32.toBitVec_or, BitVec.toNat_or, pk_tn ha, pk_tn hb, pk_tn (Nat.or_lt_two_pow ha hb)]
theorem ab_m8 (x : Int32) : x &&& 255 = nI (x.toBitVec.toNat % 256) := pk_and x 8 rfl
theorem ab_m16 (x : Int32) : x &&& 65535 = nI (x.toBitVec.toNat % 65536) := pk_and x 16 rfl
theorem ab_m10 (x : Int32) : x &&& 1023 = nI (x.toBitVec.toNat % 1024) := pk_and x 10 rfl
theorem ab_m8N (n : Nat) : nI n &&& 255 = nI (n % 256) := by
  rw [ab_m8]; show nI ((BitVec.ofNat 32 n).toNat % 256) = _; rw [BitVec.toNat_ofNat, Nat.mod_mod_of_dvd _ (by decide)]
theorem ab_m16N (n : Nat) : nI n &&& 65535 = nI (n % 65536) := by
  rw [ab_m16]; show nI ((BitVec.ofNat 32 n).toNat % 65536) = _; rw [BitVec.toNat_ofNat, Nat.mod_mod_of_dvd _ (by decide)]
theorem ab_m10N (n : Nat) : nI n &&& 1023 = nI (n % 1024) := by
  rw [ab_m10]; show nI ((BitVec.ofNat 32 n).toNat % 1024) = _; rw [BitVec.toNat_ofNat, Nat.mod_mod_of_dvd _ (by decide)]
theorem ab_m8b (x : Int32) : ab_by (x &&& 255) := ⟨_, Nat.mod_lt _ (by decide), ab_m8 x⟩
theorem ab_m16w (x : Int32) : ab_wd (x &&& 65535) := ⟨_, Nat.mod_lt _ (by decide), ab_m16 x⟩
theorem ab_m8m (x : Int32) : (x &&& 255) &&& 255 = x &&& 255 := by rw [ab_m8 x, ab_m8N, Nat.mod_mod]
theorem ab_m16m (x : Int32) : (x &&& 65535) &&& 1023 = x &&& 1023 := by rw [ab_m16 x, ab_m10N, ab_m10, Nat.mod_mod_of_dvd _ (by decide)]
theorem ab_m8by {x : Int32} (h : ab_by x) : x &&& 255 = x := by obtain ⟨n, hn, rfl⟩ := h; rw [ab_m8N, Nat.mod_eq_of_lt hn]
theorem ab_m16wd {x : Int32} (h : ab_wd x) : x &&& 65535 = x := by obtain ⟨n, hn, rfl⟩ := h; rw [ab_m16N, Nat.mod_eq_of_lt hn]
theorem ab_wd_of {x : Int32} (h : ab_by x) : ab_wd x := h.elim fun n q => ⟨n, by omega, q.2⟩
theorem ab_wor {a b : Int32} (ha : ab_by a) (hb : ab_by b) : a ||| (b <<< ((8 : Int32) &&& 31)) = a + 256 * b ∧ ab_wd (a + 256 * b) := by
  obtain ⟨m, hm, rfl⟩ := ha
  obtain ⟨n, hn, rfl⟩ := hb
  have e : nI m + 256 * nI n = nI (m + 256 * n) := by rw [show (256 : Int32) = nI 256 from rfl, pk_mul, nI_add]
  refine ⟨?_, m + 256 * n, by omega, e⟩
  rw [e, pk_shlN _ 8 (by decide) (by omega), ab_nor (by omega) (by omega)]
  congr 1
  rw [Nat.or_comm, show n * 2 ^ 8 = 2 ^ 8 * n from Nat.mul_comm _ _, ← Nat.two_pow_add_eq_or_of_lt (by omega : m < 2 ^ 8)]
  omega
theorem ab_wor' {a b : Int32} (ha : ab_by a) (hb : ab_by b) : (b <<< ((8 : Int32) &&& 31)) ||| a = 256 * b + a ∧ ab_wd (256 * b + a) := by
  rw [Int32.or_comm, Int32.add_comm]; exact ab_wor ha hb
section EQ
variable {bd : Nat → Nat} {jc : Int32 → Int32 → Int32 → Prop} {u v : SS}
theorem ab_at (h : ab_Q bd jc u v) (x : Int32) : f_Memory_at u x = f_MD_read v x ∧ ab_by (f_MD_read v x) := by
  unfold f_Memory_at f_MD_read
  rw [ab_m10 x]
  generalize hj : x.toBitVec.toNat % 1024 = j
  have hj' : j < 1024 := hj ▸ Nat.mod_lt _ (by decide)
  by_cases h5 : 512 ≤ j
  · obtain ⟨i, rfl⟩ : ∃ i, j = 512 + i := ⟨j - 512, by omega⟩
    rw [if_pos (show (512 : Int32) ≤ nI (512 + i) from (nI_leI (by decide) (by omega)).mpr h5), show (512 : Int32) = nI 512 from rfl, pk_sub h5, nI_clamp (by omega), nI_clamp (by omega), Nat.add_sub_cancel_left]
    have := h.2.2.2.2.1 i (by omega)
    exact ⟨this.1, this.1 ▸ this.2⟩
  · rw [if_neg (show ¬ (512 : Int32) ≤ nI j from fun q => h5 ((nI_leI (by decide) (by omega)).mp q)), nI_clamp (by omega)]
    have := h.2.2.2.1 j (by omega)
    exact ⟨this.1, this.1 ▸ this.2⟩
theorem ab_put_a {x y : Int32} {b j : Nat} (h : b ≠ 1) : f_Memory_put u x y b j = u b j := by
  unfold f_Memory_put; split
  · rfl
  · exact stt_a h
theorem ab_wr_a {x y : Int32} {b j : Nat} (h : b ≠ 1) : f_MD_write u x y b j = u b j := by unfold f_MD_write; exact stt_a h
theorem ab_put (h : ab_Q bd jc u v) {x y y' : Int32} (e : y &&& 255 = y' &&& 255) : ab_Q bd jc (f_Memory_put u x y) (f_MD_write v x y') := by
  unfold f_Memory_put f_MD_write
  rw [ab_m10 x]
  generalize hj : x.toBitVec.toNat % 1024 = j
  have hj' : j < 1024 := hj ▸ Nat.mod_lt _ (by decide)
  by_cases h5 : 512 ≤ j
  · obtain ⟨i, rfl⟩ : ∃ i, j = 512 + i := ⟨j - 512, by omega⟩
    rw [if_pos (show (512 : Int32) ≤ nI (512 + i) from (nI_leI (by decide) (by omega)).mpr h5), if_neg (show ¬ nI (512 + i) < (512 : Int32) from nI_nlt h5 (by omega)), show (512 : Int32) = nI 512 from rfl, pk_sub h5, nI_clamp (by omega), nI_clamp (by omega), Nat.add_sub_cancel_left]
    exact ab_Q_ram h i (by omega) (ab_m8b _) e.symm
  · rw [if_neg (show ¬ (512 : Int32) ≤ nI j from fun q => h5 ((nI_leI (by decide) (by omega)).mp q)), if_pos (show nI j < (512 : Int32) from (nI_ltI (b := 512) (by omega) (by decide)).mpr (by omega)), stt_id]
    exact h
theorem ab_read_e {x y : Int32} (e : x &&& 1023 = y &&& 1023) : f_MD_read v x = f_MD_read v y := by unfold f_MD_read; rw [e]
theorem ab_read_s {x : Int32} {k : Nat} {z : Int32} : f_MD_read (stt v 0 k z) x = f_MD_read v x := by unfold f_MD_read; exact stt_a (by decide)
theorem ab_pcs (x : Int32) : ((x + 1) &&& 65535) &&& 1023 = (x + 1) &&& 1023 := ab_m16m _
theorem ab_pc2 (x : Int32) : (((x + 1) &&& 65535) + 1) &&& 65535 = (x + 2) &&& 65535 := by
  have e : x + 2 = nI (x.toBitVec.toNat + 2) := by conv => lhs; rw [ab_N x, show (2 : Int32) = nI 2 from rfl, nI_add]
  have e1 : x + 1 = nI (x.toBitVec.toNat + 1) := by conv => lhs; rw [ab_N x, show (1 : Int32) = nI 1 from rfl, nI_add]
  rw [e, e1, ab_m16N, ab_m16N, nI_1, ab_m16N]
  congr 1
  omega
theorem ab_nextByte (h : ab_Q bd jc u v) (hb : 65536 ≤ bd 2) : (f_Processor_nextByte u).1 = (f_MD_next v).1 ∧ ab_by (f_MD_next v).1 ∧ ab_Q bd jc (f_Processor_nextByte u).2 (f_MD_next v).2 := by
  unfold f_Processor_nextByte f_MD_next
  have hp : u 0 2 = v 0 10 := ab_Q_sc h 2
  obtain ⟨n, hn, e⟩ := ab_m16w (u 0 2 + 1)
  refine ⟨by rw [hp]; exact (ab_at h _).1, (ab_at h _).2, ab_Q_put h 2 e (by omega) (by rw [hp])⟩
theorem ab_nextWord (h : ab_Q bd jc u v) (hb : 65536 ≤ bd 2) : (f_Processor_nextWord u).1 = (f_MD_nextWord v).1 ∧ ab_wd (f_MD_nextWord v).1 ∧ ab_Q bd jc (f_Processor_nextWord u).2 (f_MD_nextWord v).2 := by
  have hp : u 0 2 = v 0 10 := ab_Q_sc h 2
  obtain ⟨n, hn, e⟩ := ab_m16w (u 0 2 + 2)
  have e1 : (f_MD_nextWord v).1 = f_MD_read v (v 0 10) + 256 * f_MD_read v (v 0 10 + 1) := by
    show f_MD_read v (v 0 10) + 256 * f_MD_read (stt v 0 10 ((v 0 10 + 1) &&& 65535)) (stt v 0 10 ((v 0 10 + 1) &&& 65535) 0 10) = _
    rw [stt_s, ab_read_s, ab_read_e (ab_pcs _)]
  have e2 : (f_MD_nextWord v).2 = stt v 0 10 ((v 0 10 + 2) &&& 65535) := by
    show stt (stt v 0 10 ((v 0 10 + 1) &&& 65535)) 0 10 ((stt v 0 10 ((v 0 10 + 1) &&& 65535) 0 10 + 1) &&& 65535) = _
    rw [stt_s, stt_stt, ab_pc2]
  have w := ab_wor (ab_at h (u 0 2)).2 (ab_at h (u 0 2 + 1)).2
  refine ⟨?_, ?_, ?_⟩
  · rw [e1, ← hp, ← w.1, ← (ab_at h _).1, ← (ab_at h _).1]; rfl
  · rw [e1, ← hp]; exact w.2
  · rw [e2, ← hp]; exact ab_Q_put h 2 e (by omega) rfl
theorem ab_wordAt (h : ab_Q bd jc u v) (x : Int32) : f_Memory_wordAt u x = f_MD_read v x + 256 * f_MD_read v (x + 1) ∧ ab_wd (f_MD_read v x + 256 * f_MD_read v (x + 1)) := by
  unfold f_Memory_wordAt
  rw [(ab_at h _).1, (ab_at h _).1]
  exact ab_wor (ab_at h _).2 (ab_at h _).2
theorem ab_pop (h : ab_Q bd jc u v) (hb : 65536 ≤ bd 1) : (f_Memory_pop u).1 = (f_MD_pop v).1 ∧ ab_wd (f_MD_pop v).1 ∧ ab_Q bd jc (f_Memory_pop u).2 (f_MD_pop v).2 := by
  unfold f_Memory_pop f_MD_pop
  have hp : u 0 1 = v 0 9 := ab_Q_sc h 1
  obtain ⟨n, hn, e⟩ := ab_m16w (u 0 1 + 2)
  refine ⟨?_, (ab_wordAt h _).2, ab_Q_put h 1 e (by omega) (by rw [hp])⟩
  rw [hp]; exact (ab_wordAt h _).1
theorem ab_hi {x : Int32} (h : ab_wd x) : (x >>> ((8 : Int32) &&& 31)) = x / 256 ∧ ab_by (x / 256) := by
  obtain ⟨n, hn, rfl⟩ := h
  rw [pk_shrN (by omega) _ 8 (by decide), show (256 : Int32) = nI 256 from rfl, pk_div (by omega) (by decide) (by decide)]
  exact ⟨rfl, n / 256, by omega, rfl⟩
theorem ab_lo {x : Int32} (h : ab_wd x) : x &&& 255 = x - x / 256 * 256 ∧ ab_by (x - x / 256 * 256) := by
  obtain ⟨n, hn, rfl⟩ := h
  rw [ab_m8N, show (256 : Int32) = nI 256 from rfl, pk_rem (by omega) (by decide) (by decide)]
  exact ⟨rfl, n % 256, by omega, rfl⟩
theorem ab_push (h : ab_Q bd jc u v) (hb : 65536 ≤ bd 1) {x : Int32} (hx : ab_wd x) : ab_Q bd jc (f_Memory_push u x) (f_MD_push v x) := by
  unfold f_Memory_push f_MD_push
  have hp : u 0 1 = v 0 9 := ab_Q_sc h 1
  obtain ⟨n, hn, e⟩ := ab_m16w (u 0 1 - 2)
  simp only [ab_put_a (show (0 : Nat) ≠ 1 by decide), ab_wr_a (show (0 : Nat) ≠ 1 by decide), ← hp]
  refine ab_Q_put (ab_put (ab_put h ?_) ?_) 1 e (by omega) rfl
  · rw [(ab_hi hx).1]
  · rw [← (ab_lo hx).1, ab_m8m]
/-- pairs of registers -/
theorem ab_2k {k : Nat} (hk : k < 4) : (2 * (nI k &&& 3)).toNatClampNeg = 2 * k ∧ (2 * (nI k &&& 3) + 1).toNatClampNeg = 2 * k + 1 ∧ (2 * nI k).toNatClampNeg = 2 * k ∧ (2 * nI k + 1).toNatClampNeg = 2 * k + 1 := by
  have e : nI k &&& 3 = nI k := by rw [pk_andN (by omega) 2 rfl, Nat.mod_eq_of_lt (by omega)]
  rw [e, show (2 : Int32) = nI 2 from rfl, pk_mul, nI_1, nI_clamp (by omega), nI_clamp (by omega)]
  exact ⟨rfl, rfl, rfl, rfl⟩
theorem ab_n3 {k : Nat} (hk : k < 4) : nI k = 3 ↔ k = 3 := nI_eq (b := 3) (by omega) (by decide)
theorem ab_pair (h : ab_Q bd jc u v) (hb : bd 1 ≤ 65536) {k : Nat} (hk : k < 4) : f_Registers_pair u (nI k) = f_MD_pair v (nI k) ∧ ab_wd (f_MD_pair v (nI k)) := by
  unfold f_Registers_pair f_MD_pair
  obtain ⟨a1, a2, a3, a4⟩ := ab_2k hk
  by_cases e : k = 3
  · rw [if_pos ((ab_n3 hk).mpr e), if_pos ((ab_n3 hk).mpr e)]
    have hp : u 0 1 = v 0 9 := ab_Q_sc h 1
    obtain ⟨n, hn, e⟩ := ab_Q_bd h 1
    exact ⟨hp, n, by omega, by rw [← hp, e]⟩
  · rw [if_neg (fun q => e ((ab_n3 hk).mp q)), if_neg (fun q => e ((ab_n3 hk).mp q)), a1, a2, a3, a4]
    have r1 := h.2.2.2.2.2.1 (2 * k) (by omega)
    have r2 := h.2.2.2.2.2.1 (2 * k + 1) (by omega)
    rw [r1.1, r2.1]
    exact ab_wor' (r2.1 ▸ r2.2) (r1.1 ▸ r1.2)
theorem ab_m16hi (x : Int32) : (x >>> ((8 : Int32) &&& 31)) &&& 255 = (x &&& 65535) / 256 := by
  have h1 : ((x >>> ((8 : Int32) &&& 31)) &&& 255) = ((x >>> ((8 : Int32) &&& 31)) &&& 255) := rfl
  rw [ab_m16, show (256 : Int32) = nI 256 from rfl, pk_div (by omega) (by decide) (by decide), ab_m8]
  congr 1
  have e : (x >>> ((8 : Int32) &&& 31)).toBitVec = x.toBitVec.sshiftRight 8 := rfl
  rw [e]
  have e2 : (x.toBitVec.sshiftRight 8).toNat % 256 = (x.toBitVec.sshiftRight 8).toNat % 2 ^ 8 := rfl
  rw [e2, ← BitVec.toNat_setWidth]
  have e3 : (x.toBitVec.sshiftRight 8).setWidth 8 = (x.toBitVec >>> 8).setWidth 8 := by
    ext i hi
    simp [BitVec.getElem_setWidth, BitVec.getLsbD_sshiftRight]
    rw [if_pos (by omega), decide_eq_false (by omega)]; rfl
  rw [e3, BitVec.toNat_setWidth, BitVec.toNat_ushiftRight, Nat.shiftRight_eq_div_pow]
  omega
theorem ab_m16lo (x : Int32) : x &&& 255 = (x &&& 65535) - (x &&& 65535) / 256 * 256 := by
  rw [← (ab_lo (ab_m16w x)).1, ab_m16 x, ab_m8N, Nat.mod_mod_of_dvd _ (by decide), ab_m8]
theorem ab_setPair (h : ab_Q bd jc u v) (hb : 65536 ≤ bd 1) {k : Nat} (hk : k < 4) (x : Int32) : ab_Q bd jc (f_Registers_setPair u (nI k) x) (f_MD_setPair v (nI k) x) := by
  unfold f_Registers_setPair f_MD_setPair
  obtain ⟨a1, a2, a3, a4⟩ := ab_2k hk
  by_cases e : k = 3
  · rw [if_pos ((ab_n3 hk).mpr e), if_pos ((ab_n3 hk).mpr e)]
    obtain ⟨n, hn, e⟩ := ab_m16w x
    exact ab_Q_put h 1 e (by omega) rfl
  · rw [if_neg (fun q => e ((ab_n3 hk).mp q)), if_neg (fun q => e ((ab_n3 hk).mp q)), a1, a2, a3, a4]
    exact ab_Q_reg (ab_Q_reg h _ (ab_m8b _) (ab_m16hi x).symm) _ (ab_m8b _) (ab_m16lo x).symm
theorem ab_n6 {k : Nat} (hk : k < 8) : nI k = 6 ↔ k = 6 := nI_eq (b := 6) (by omega) (by decide)
theorem ab_a7 {k : Nat} (hk : k < 8) : (nI k &&& 7).toNatClampNeg = k ∧ (nI k).toNatClampNeg = k := by
  rw [pk_andN (by omega) 3 rfl, Nat.mod_eq_of_lt (by omega), nI_clamp (by omega)]; exact ⟨rfl, rfl⟩
theorem ab_value (h : ab_Q bd jc u v) (hb : bd 1 ≤ 65536) {k : Nat} (hk : k < 8) : f_Registers_value u (nI k) = f_MD_get v (nI k) ∧ ab_by (f_MD_get v (nI k)) := by
  unfold f_Registers_value f_MD_get
  by_cases e : k = 6
  · rw [if_pos ((ab_n6 hk).mpr e), if_pos ((ab_n6 hk).mpr e), show (2 : Int32) = nI 2 from rfl, (ab_pair h hb (by decide)).1]
    exact ab_at h _
  · rw [if_neg (fun q => e ((ab_n6 hk).mp q)), if_neg (fun q => e ((ab_n6 hk).mp q)), (ab_a7 hk).1, (ab_a7 hk).2]
    have r := h.2.2.2.2.2.1 k hk
    exact ⟨r.1, r.1 ▸ r.2⟩
theorem ab_set (h : ab_Q bd jc u v) (hb : bd 1 ≤ 65536) {k : Nat} (hk : k < 8) (x : Int32) : ab_Q bd jc (f_Registers_set u (nI k) x) (f_MD_set v (nI k) x) := by
  unfold f_Registers_set f_MD_set
  by_cases e : k = 6
  · rw [if_pos ((ab_n6 hk).mpr e), if_pos ((ab_n6 hk).mpr e), show (2 : Int32) = nI 2 from rfl, (ab_pair h hb (by decide)).1]
    exact ab_put h rfl
  · rw [if_neg (fun q => e ((ab_n6 hk).mp q)), if_neg (fun q => e ((ab_n6 hk).mp q)), (ab_a7 hk).1, (ab_a7 hk).2]
    exact ab_Q_reg h _ (ab_m8b _) rfl
end EQ

/-- the byte of the five flags -/
def ab_FL (s z h p k : Int32) : Int32 := (((((if s = 0 then 0 else 128 : Int32) + (if z = 0 then 0 else 64 : Int32)) + (if h = 0 then 0 else 16 : Int32)) + (if p = 0 then 0 else 4 : Int32)) + 2) + (if k = 0 then 0 else 1 : Int32)
theorem ab_FL_e (v : SS) : f_MD_flags v = ab_FL (v 0 4) (v 0 5) (v 0 6) (v 0 7) (v 0 8) := rfl
def ab_pr (t : Int32) : Int32 := if (t - t / 2 * 2) = 0 then 1 else 0
def ab_par (r : Int32) : Int32 := ab_pr (((((((((0 : Int32) + ((r >>> (((0 : Int32)) &&& 31)) &&& 1)) + ((r >>> (((0 : Int32) + 1) &&& 31)) &&& 1)) + ((r >>> (((0 : Int32) + 1 + 1) &&& 31)) &&& 1)) + ((r >>> (((0 : Int32) + 1 + 1 + 1) &&& 31)) &&& 1)) + ((r >>> (((0 : Int32) + 1 + 1 + 1 + 1) &&& 31)) &&& 1)) + ((r >>> (((0 : Int32) + 1 + 1 + 1 + 1 + 1) &&& 31)) &&& 1)) + ((r >>> (((0 : Int32) + 1 + 1 + 1 + 1 + 1 + 1) &&& 31)) &&& 1)) + ((r >>> (((0 : Int32) + 1 + 1 + 1 + 1 + 1 + 1 + 1) &&& 31)) &&& 1))
def ab_sg (r : Int32) : Int32 := if r ≤ 127 then 0 else 1
def ab_ze (r : Int32) : Int32 := if r = 0 then 1 else 0
theorem ab_res39 (w : SS) (r : Int32) : g_MD_result_39 9 w r 0 0 = (r, stt w 0 7 (ab_par r)) := by
  rw [g_MD_result_39, if_neg (by decide), g_MD_result_39, if_neg (by decide), g_MD_result_39, if_neg (by decide), g_MD_result_39, if_neg (by decide), g_MD_result_39, if_neg (by decide), g_MD_result_39, if_neg (by decide), g_MD_result_39, if_neg (by decide), g_MD_result_39, if_neg (by decide), g_MD_result_39, if_pos (by decide)]
  rfl
theorem ab_res (v : SS) (x : Int32) : f_MD_result v x = (x &&& 255, stt (stt (stt v 0 4 (ab_sg (x &&& 255))) 0 5 (ab_ze (x &&& 255))) 0 7 (ab_par (x &&& 255))) := by
  unfold f_MD_result; exact ab_res39 _ _
theorem ab_bo0 : ab_bo 0 := Or.inl rfl
theorem ab_bo1 : ab_bo 1 := Or.inr rfl
theorem ab_par_bo (r : Int32) : ab_bo (ab_par r) := by
  unfold ab_par ab_pr; split
  · exact ab_bo1
  · exact ab_bo0
theorem ab_sg_bo (r : Int32) : ab_bo (ab_sg r) := by
  unfold ab_sg; split
  · exact ab_bo0
  · exact ab_bo1
theorem ab_ze_bo (r : Int32) : ab_bo (ab_ze r) := by
  unfold ab_ze; split
  · exact ab_bo1
  · exact ab_bo0
/-- 256 cases -/
def ab_rf (x1 : Int32) : Int32 := f_Arithmetic_resultFlags (fun _ _ => 0) x1
theorem ab_rf_e (u : SS) (x : Int32) : f_Arithmetic_resultFlags u x = ab_rf x := rfl
set_option maxRecDepth 100000 in
theorem ab_rf0 : ∀ n, n < 256 → ab_rf (nI n) = ab_FL (ab_sg (nI n)) (ab_ze (nI n)) 0 (ab_par (nI n)) 0 := by decide +kernel
theorem ab_FLor {s z p h k a b : Int32} (hs : ab_bo s) (hz : ab_bo z) (hp : ab_bo p) (h1 : (h = 0 ∧ a = 0) ∨ (h = 1 ∧ a = 16)) (h2 : (k = 0 ∧ b = 0) ∨ (k = 1 ∧ b = 1)) : (ab_FL s z 0 p 0 ||| a) ||| b = ab_FL s z h p k := by
  rcases hs with rfl | rfl <;> rcases hz with rfl | rfl <;> rcases hp with rfl | rfl <;> rcases h1 with ⟨rfl, rfl⟩ | ⟨rfl, rfl⟩ <;> rcases h2 with ⟨rfl, rfl⟩ | ⟨rfl, rfl⟩ <;> decide
theorem ab_rfl {u : SS} {r h k a b : Int32} (hr : ab_by r) (h1 : (h = 0 ∧ a = 0) ∨ (h = 1 ∧ a = 16)) (h2 : (k = 0 ∧ b = 0) ∨ (k = 1 ∧ b = 1)) : (f_Arithmetic_resultFlags u r ||| a) ||| b = ab_FL (ab_sg r) (ab_ze r) h (ab_par r) k := by
  obtain ⟨n, hn, rfl⟩ := hr
  rw [ab_rf_e, ab_rf0 n hn]
  exact ab_FLor (ab_sg_bo _) (ab_ze_bo _) (ab_par_bo _) h1 h2
theorem ab_FL_by {s z h p k : Int32} : ab_by (ab_FL s z h p k) := by
  unfold ab_FL
  split <;> split <;> split <;> split <;> split <;> exact ⟨_, by decide, rfl⟩
theorem ab_FLc {s z h p k x : Int32} (hk : ab_bo k) : ab_FL s z h p k &&& 1 = k ∧ (ab_FL s z h p k &&& (-2)) ||| (x &&& 1) = ab_FL s z h p (x &&& 1) := by
  have hx : x &&& 1 = 0 ∨ x &&& 1 = 1 := by
    obtain ⟨j, hj, e⟩ := pk_andE x (m := 1) 1 rfl
    rw [e]
    rcases (show j = 0 ∨ j = 1 by omega) with rfl | rfl
    · exact Or.inl rfl
    · exact Or.inr rfl
  unfold ab_FL
  rcases hk with rfl | rfl <;> rcases hx with e | e <;> rw [e] <;> split <;> split <;> split <;> split <;> decide
theorem ab_FLt {s z h p k : Int32} (hs : ab_bo s) (hz : ab_bo z) (hh : ab_bo h) (hp : ab_bo p) (hk : ab_bo k) :
    (if (ab_FL s z h p k &&& 64) = 0 then 0 else 1 : Int32) = z ∧ (if (ab_FL s z h p k &&& 1) = 0 then 0 else 1 : Int32) = k ∧ (if (ab_FL s z h p k &&& 4) = 0 then 0 else 1 : Int32) = p ∧ (if (ab_FL s z h p k &&& 128) = 0 then 0 else 1 : Int32) = s ∧ ((ab_FL s z h p k &&& 16) = 0 ↔ h = 0) := by
  rcases hs with rfl | rfl <;> rcases hz with rfl | rfl <;> rcases hp with rfl | rfl <;> rcases hh with rfl | rfl <;> rcases hk with rfl | rfl <;> decide
section EQ
variable {bd : Nat → Nat} {jc : Int32 → Int32 → Int32 → Prop} {u v : SS}
/-- the flags are set -/
theorem ab_Q_fl (h : ab_Q bd jc u v) {v' : SS} {x : Int32} (hv : ∀ b j, ¬ (b = 0 ∧ 4 ≤ j ∧ j ≤ 8) → v' b j = v b j) (hx : x = f_MD_flags v') (hb : ∀ j, 4 ≤ j → j ≤ 8 → ab_bo (v' 0 j)) : ab_Q bd jc (stt u 0 0 x) v' := by
  refine ⟨fun j j1 j2 j3 => ?_, ⟨?_, hb⟩, ⟨?_, ?_, ?_⟩, ?_, ?_, ?_, ?_⟩
  · have := ab_ixfl j j1 j2 j3; rw [stt_k j2, hv _ _ (by omega)]; exact h.1 j j1 j2 j3
  · rw [stt_s]; exact hx
  · rw [stt_k (by decide), stt_k (by decide), hv _ _ (by omega)]; exact h.2.2.1.1
  · rw [stt_k (by decide)]; exact h.2.2.1.2.1
  · rw [hv _ _ (by omega)]; exact h.2.2.1.2.2
  · intro j hj; rw [stt_a (by decide), hv _ _ (by omega)]; exact h.2.2.2.1 j hj
  · intro j hj; rw [stt_a (by decide), hv _ _ (by omega)]; exact h.2.2.2.2.1 j hj
  · intro j hj; rw [stt_a (by decide), hv _ _ (by omega)]; exact h.2.2.2.2.2.1 j hj
  · intro j hj; rw [stt_a (by decide), hv _ _ (by omega)]; exact h.2.2.2.2.2.2 j hj
theorem ab_bo5 {s z hh p k : Int32} {w : SS} (e4 : w 0 4 = s) (e5 : w 0 5 = z) (e6 : w 0 6 = hh) (e7 : w 0 7 = p) (e8 : w 0 8 = k) (hs : ab_bo s) (hz : ab_bo z) (h6 : ab_bo hh) (hp : ab_bo p) (hk : ab_bo k) : ∀ j, 4 ≤ j → j ≤ 8 → ab_bo (w 0 j) := by
  intro j h1 h2
  rcases (show j = 4 ∨ j = 5 ∨ j = 6 ∨ j = 7 ∨ j = 8 by omega) with rfl | rfl | rfl | rfl | rfl
  · rw [e4]; exact hs
  · rw [e5]; exact hz
  · rw [e6]; exact h6
  · rw [e7]; exact hp
  · rw [e8]; exact hk
/-- a result with its half and its carry -/
theorem ab_Q_res (h : ab_Q bd jc u v) {x y hh k : Int32} (h6 : ab_bo hh) (hk : ab_bo k) (hx : y = ab_FL (ab_sg (x &&& 255)) (ab_ze (x &&& 255)) hh (ab_par (x &&& 255)) k) : ab_Q bd jc (stt u 0 0 y) (f_MD_result (stt (stt v 0 8 k) 0 6 hh) x).2 := by
  rw [ab_res]
  dsimp only
  have e4 : stt (stt (stt (stt (stt v 0 8 k) 0 6 hh) 0 4 (ab_sg (x &&& 255))) 0 5 (ab_ze (x &&& 255))) 0 7 (ab_par (x &&& 255)) 0 4 = ab_sg (x &&& 255) := by simp [stt_ap]
  have e5 : stt (stt (stt (stt (stt v 0 8 k) 0 6 hh) 0 4 (ab_sg (x &&& 255))) 0 5 (ab_ze (x &&& 255))) 0 7 (ab_par (x &&& 255)) 0 5 = ab_ze (x &&& 255) := by simp [stt_ap]
  have e6 : stt (stt (stt (stt (stt v 0 8 k) 0 6 hh) 0 4 (ab_sg (x &&& 255))) 0 5 (ab_ze (x &&& 255))) 0 7 (ab_par (x &&& 255)) 0 6 = hh := by simp [stt_ap]
  have e7 : stt (stt (stt (stt (stt v 0 8 k) 0 6 hh) 0 4 (ab_sg (x &&& 255))) 0 5 (ab_ze (x &&& 255))) 0 7 (ab_par (x &&& 255)) 0 7 = ab_par (x &&& 255) := by simp [stt_ap]
  have e8 : stt (stt (stt (stt (stt v 0 8 k) 0 6 hh) 0 4 (ab_sg (x &&& 255))) 0 5 (ab_ze (x &&& 255))) 0 7 (ab_par (x &&& 255)) 0 8 = k := by simp [stt_ap]
  refine ab_Q_fl h (fun b j hn => ?_) ?_ (ab_bo5 e4 e5 e6 e7 e8 (ab_sg_bo _) (ab_ze_bo _) h6 (ab_par_bo _) hk)
  · show stt _ 0 7 _ b j = _
    rw [stt_n (by omega), stt_n (by omega), stt_n (by omega), stt_n (by omega), stt_n (by omega)]
  · rw [ab_FL_e, e4, e5, e6, e7, e8, hx]
end EQ

