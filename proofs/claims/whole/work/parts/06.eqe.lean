/-! save and restore -/
/-- places O + lo .. O + hi - 1 of array a hold f lo .. f (hi - 1) now -/
def ab_cp (w : SS) (a O lo hi : Nat) (f : Nat → Int32) : SS := fun b i => if b = a ∧ O + lo ≤ i ∧ i < O + hi then f (i - O) else w b i
theorem ab_cp_in {w : SS} {a O lo hi i : Nat} {f : Nat → Int32} (h1 : lo ≤ i) (h2 : i < hi) : ab_cp w a O lo hi f a (O + i) = f i := by
  unfold ab_cp; rw [if_pos ⟨rfl, by omega, by omega⟩, Nat.add_sub_cancel_left]
theorem ab_cp_out {w : SS} {a O lo hi b i : Nat} {f : Nat → Int32} (h : b ≠ a ∨ i < O + lo ∨ O + hi ≤ i) : ab_cp w a O lo hi f b i = w b i := by
  unfold ab_cp; rw [if_neg (fun q => by omega)]
theorem ab_cp_nil {w : SS} {a O n : Nat} {f : Nat → Int32} : ab_cp w a O n n f = w := by
  funext b i; exact ab_cp_out (by omega)
theorem ab_cp_step {w : SS} {a O j n : Nat} {f : Nat → Int32} (h : j < n) : ab_cp (stt w a (O + j) (f j)) a O (j + 1) n f = ab_cp w a O j n f := by
  funext b i
  by_cases q : b = a ∧ O + (j + 1) ≤ i ∧ i < O + n
  · obtain ⟨rfl, q1, q2⟩ := q
    obtain ⟨c, rfl⟩ : ∃ c, i = O + c := ⟨i - O, by omega⟩
    rw [ab_cp_in (by omega) (by omega), ab_cp_in (by omega) (by omega)]
  · rw [ab_cp_out (by omega)]
    by_cases e : b = a ∧ i = O + j
    · obtain ⟨rfl, rfl⟩ := e
      rw [stt_s, ab_cp_in (by omega) h]
    · rw [stt_n e, ab_cp_out (by omega)]
section SR
variable {z u v v' : SS} {B : Nat}
theorem ab_Q_ext {bd : Nat → Nat} {jc : Int32 → Int32 → Int32 → Prop} (h : ab_Q bd jc u v) (hv : ∀ b j, b < 4 → ¬ (b = 0 ∧ j < 2) → v' b j = v b j) : ab_Q bd jc u v' := by
  have hf : f_MD_flags v' = f_MD_flags v := by rw [ab_FL_e, ab_FL_e, hv 0 4 (by omega) (by omega), hv 0 5 (by omega) (by omega), hv 0 6 (by omega) (by omega), hv 0 7 (by omega) (by omega), hv 0 8 (by omega) (by omega)]
  refine ⟨fun j j1 j2 j3 => ?_, ⟨?_, fun j j1 j2 => ?_⟩, ⟨?_, h.2.2.1.2.1, ?_⟩, ?_, ?_, ?_, ?_⟩
  · have := ab_ixfl j j1 j2 j3; rw [hv 0 _ (by omega) (by omega)]; exact h.1 j j1 j2 j3
  · rw [hf]; exact h.2.1.1
  · rw [hv 0 j (by omega) (by omega)]; exact h.2.1.2 j j1 j2
  · rw [hv 0 12 (by omega) (by omega)]; exact h.2.2.1.1
  · rw [hv 0 12 (by omega) (by omega)]; exact h.2.2.1.2.2
  · intro j hj; rw [hv 1 _ (by omega) (by omega)]; exact h.2.2.2.1 j hj
  · intro j hj; rw [hv 1 _ (by omega) (by omega)]; exact h.2.2.2.2.1 j hj
  · intro j hj; rw [hv 2 _ (by omega) (by omega)]; exact h.2.2.2.2.2.1 j hj
  · intro j hj; rw [hv 3 _ (by omega) (by omega)]; exact h.2.2.2.2.2.2 j hj
/-! the reference's loops in closed form -/
theorem ab_sv147 {O : Nat} (hO : O ≤ 540) (k : Nat) : ∀ (w : SS) (x : Int32) (j : Nat), j ≤ 512 → 512 < j + k → g_MD_save_147 k w x (nI O) (nI j) = (1, ab_cp w 5 (O + 23) j 512 (fun i => w 1 (512 + i))) := by
  induction k with
  | zero => intro w x j h1 h2; omega
  | succ k ih =>
    intro w x j h1 h2
    have g : (512 : Int32) ≤ nI j ↔ 512 ≤ j := nI_leI (a := 512) (by decide) (by omega)
    rw [g_MD_save_147]
    by_cases e : 512 ≤ j
    · rw [if_pos (g.mpr e), show j = 512 by omega, ab_cp_nil]
    · rw [if_neg (fun q => e (g.mp q)), nI_1, show (23 : Int32) = nI 23 from rfl, show (512 : Int32) = nI 512 from rfl, nI_add, nI_add, nI_add, nI_clamp (by omega), nI_clamp (by omega), ih _ x (j + 1) (by omega) (by omega)]
      have e1 : (fun i => stt w 5 (O + 23 + j) (w 1 (512 + j)) 1 (512 + i)) = fun i => w 1 (512 + i) := funext fun i => stt_a (by decide)
      rw [e1, ab_cp_step (f := fun i => w 1 (512 + i)) (by omega)]
theorem ab_more5 {w : SS} {i : Nat} {x y : Int32} : f_MD_more (stt w 5 i x) y = f_MD_more w y := by
  unfold f_MD_more; simp only [stt_a (show (0 : Nat) ≠ 5 by decide)]
theorem ab_sv73 {O : Nat} (hO : O ≤ 540) (k : Nat) : ∀ (w : SS) (x : Int32) (j : Nat), j ≤ 20 → 20 < j + k → g_MD_save_73 k w x (nI O) (nI j) = g_MD_save_147 513 (stt (stt (stt (ab_cp w 5 O j 20 (fun i => f_MD_more w (nI i))) 5 (O + 20) (w 0 21)) 5 (O + 21) (w 0 22)) 5 (O + 22) (if (w 0 12) = 0 then 0 else 1 : Int32)) x (nI O) 0 := by
  induction k with
  | zero => intro w x j h1 h2; omega
  | succ k ih =>
    intro w x j h1 h2
    have g : (20 : Int32) ≤ nI j ↔ 20 ≤ j := nI_leI (a := 20) (by decide) (by omega)
    rw [g_MD_save_73]
    by_cases e : 20 ≤ j
    · rw [if_pos (g.mpr e), show j = 20 by omega, ab_cp_nil, show (20 : Int32) = nI 20 from rfl, show (21 : Int32) = nI 21 from rfl, show (22 : Int32) = nI 22 from rfl, nI_add, nI_add, nI_add, nI_clamp (by omega), nI_clamp (by omega), nI_clamp (by omega)]
    · rw [if_neg (fun q => e (g.mp q)), nI_1, nI_add, nI_clamp (by omega), ih _ x (j + 1) (by omega) (by omega)]
      have e1 : (fun i => f_MD_more (stt w 5 (O + j) (f_MD_more w (nI j))) (nI i)) = fun i => f_MD_more w (nI i) := funext fun i => ab_more5
      rw [e1, ab_cp_step (f := fun i => f_MD_more w (nI i)) (by omega), stt_a (by decide), stt_a (by decide), stt_a (by decide)]
theorem ab_sv31 {O : Nat} (hO : O ≤ 540) (k : Nat) : ∀ (w : SS) (x : Int32) (j : Nat), j ≤ 8 → 8 < j + k → g_MD_save_31 k w x (nI O) (nI j) = g_MD_save_73 12 (stt (ab_cp w 5 O j 8 (fun i => w 2 i)) 5 (O + 8) (f_MD_flags w)) x (nI O) 9 := by
  induction k with
  | zero => intro w x j h1 h2; omega
  | succ k ih =>
    intro w x j h1 h2
    have g : (8 : Int32) ≤ nI j ↔ 8 ≤ j := nI_leI (a := 8) (by decide) (by omega)
    rw [g_MD_save_31]
    by_cases e : 8 ≤ j
    · rw [if_pos (g.mpr e), show j = 8 by omega, ab_cp_nil, show (8 : Int32) = nI 8 from rfl, nI_add, nI_clamp (by omega)]
    · rw [if_neg (fun q => e (g.mp q)), nI_1, nI_add, nI_clamp (by omega), nI_clamp (by omega), ih _ x (j + 1) (by omega) (by omega)]
      have e1 : (fun i => stt w 5 (O + j) (w 2 j) 2 i) = fun i => w 2 i := funext fun i => stt_a (by decide)
      rw [e1, ab_cp_step (f := fun i => w 2 i) (by omega), ab_fl_n (by omega)]
/-- what 'save' leaves in the reference -/
def ab_svd (w : SS) (O : Nat) : SS :=
  ab_cp (stt (stt (stt (ab_cp (stt (ab_cp w 5 O 0 8 (fun i => w 2 i)) 5 (O + 8) (f_MD_flags w)) 5 O 9 20 (fun i => f_MD_more w (nI i))) 5 (O + 20) (w 0 21)) 5 (O + 21) (w 0 22)) 5 (O + 22) (if (w 0 12) = 0 then 0 else 1 : Int32)) 5 (O + 23) 0 512 (fun i => w 1 (512 + i))
theorem ab_sv {O : Nat} (hO : O ≤ 540) (w : SS) (x : Int32) : g_MD_save_31 9 w x (nI O) 0 = (1, ab_svd w O) := by
  rw [show (0 : Int32) = nI 0 from rfl, ab_sv31 hO 9 w x 0 (by omega) (by omega), show (9 : Int32) = nI 9 from rfl, ab_sv73 hO 12 _ x 9 (by omega) (by omega), show (0 : Int32) = nI 0 from rfl, ab_sv147 hO 513 _ x 0 (by omega) (by omega)]
  unfold ab_svd
  have m : ∀ (f : Nat → Int32) (y : Int32) (i : Nat), f_MD_more (stt (ab_cp w 5 O 0 8 f) 5 i y) = f_MD_more w := by
    intro f y i
    funext c
    rw [ab_more5]
    unfold f_MD_more
    simp only [ab_cp_out (w := w) (a := 5) (b := 0) (Or.inl (by decide))]
  have e1 : (fun i => f_MD_more (stt (ab_cp w 5 O 0 8 (fun i => w 2 i)) 5 (O + 8) (f_MD_flags w)) (nI i)) = fun i => f_MD_more w (nI i) := funext fun i => by rw [m]
  have e2 : ∀ b j, b ≠ 5 → stt (ab_cp w 5 O 0 8 (fun i => w 2 i)) 5 (O + 8) (f_MD_flags w) b j = w b j := fun b j hb => by rw [stt_a hb, ab_cp_out (Or.inl hb)]
  rw [e1, e2 0 21 (by decide), e2 0 22 (by decide), e2 0 12 (by decide)]
  congr 2
theorem ab_svd_o (w : SS) (O b i : Nat) (h : b ≠ 5 ∨ i < O ∨ O + 535 ≤ i) : ab_svd w O b i = w b i := by
  unfold ab_svd
  rw [ab_cp_out (by omega), stt_n (by omega), stt_n (by omega), stt_n (by omega), ab_cp_out (by omega), stt_n (by omega), ab_cp_out (by omega)]
theorem ab_svd_r (w : SS) (O k : Nat) (h : k < 8) : ab_svd w O 5 (O + k) = w 2 k := by
  unfold ab_svd
  rw [ab_cp_out (by omega), stt_n (by omega), stt_n (by omega), stt_n (by omega), ab_cp_out (by omega), stt_n (by omega), ab_cp_in (by omega) h]
theorem ab_svd_f (w : SS) (O : Nat) : ab_svd w O 5 (O + 8) = f_MD_flags w := by
  unfold ab_svd
  rw [ab_cp_out (by omega), stt_n (by omega), stt_n (by omega), stt_n (by omega), ab_cp_out (by omega), stt_s]
theorem ab_svd_m (w : SS) (O k : Nat) (h1 : 9 ≤ k) (h2 : k < 20) : ab_svd w O 5 (O + k) = f_MD_more w (nI k) := by
  unfold ab_svd
  rw [ab_cp_out (by omega), stt_n (by omega), stt_n (by omega), stt_n (by omega), ab_cp_in h1 h2]
theorem ab_svd_20 (w : SS) (O : Nat) : ab_svd w O 5 (O + 20) = w 0 21 := by
  unfold ab_svd
  rw [ab_cp_out (by omega), stt_n (by omega), stt_n (by omega), stt_s]
theorem ab_svd_21 (w : SS) (O : Nat) : ab_svd w O 5 (O + 21) = w 0 22 := by
  unfold ab_svd
  rw [ab_cp_out (by omega), stt_n (by omega), stt_s]
theorem ab_svd_22 (w : SS) (O : Nat) : ab_svd w O 5 (O + 22) = (if (w 0 12) = 0 then 0 else 1 : Int32) := by
  unfold ab_svd
  rw [ab_cp_out (by omega), stt_s]
theorem ab_svd_c (w : SS) (O k : Nat) (h : k < 512) : ab_svd w O 5 (O + 23 + k) = w 1 (512 + k) := by
  unfold ab_svd
  rw [ab_cp_in (by omega) h]
theorem ab_bit01 {x : Int32} (h : ab_bo x) : (if x = 0 then 0 else 1 : Int32) = x := by rcases h with rfl | rfl <;> rfl
/-- a slot that was just saved -/
theorem ab_svS (h : ab_Q (ab_bd B) ab_jR u v) (O : Nat) {x y w : Nat → Int32} (hx : ∀ k, k < 15 → x k = u 0 k) (hy : ∀ k, k < 512 → y k = u 1 k) (hw : ∀ k, k < 8 → w k = u 2 k) : ab_SL x y w O (ab_svd v O) := by
  have bo3 := ab_Q_bo3 h
  have bo5 : ab_bo (u 0 5) := by
    obtain ⟨n, hn, e⟩ := ab_Q_bd h 5
    have hn' : n < 2 := hn
    rcases (show n = 0 ∨ n = 1 by omega) with rfl | rfl
    · exact Or.inl e
    · exact Or.inr e
  have b := h.2.1.2
  refine ⟨fun k hk => ?_, ⟨?_, ?_⟩, fun k k1 k2 k3 => ?_, ⟨?_, ?_, ?_⟩, fun k hk => ?_⟩
  · rw [hw k hk, ab_svd_r _ _ k hk]; exact h.2.2.2.2.2.1 k hk
  · rw [hx 0 (by decide), ab_svd_f]; exact h.2.1.1
  · exact ⟨v 0 4, v 0 5, v 0 6, v 0 7, v 0 8, b 4 (by decide) (by decide), b 5 (by decide) (by decide), b 6 (by decide) (by decide), b 7 (by decide) (by decide), b 8 (by decide) (by decide), by rw [hx 0 (by decide), h.2.1.1]; rfl⟩
  · rw [hx k k1]
    have sc := ab_Q_sc h k (by omega) k2 k3
    obtain ⟨n, hn, e⟩ := ab_Q_bd h k (by omega) k2 k3
    refine ⟨?_, n, ?_, e⟩
    · rcases (show k = 1 ∨ k = 2 ∨ k = 3 ∨ k = 5 ∨ k = 6 ∨ k = 7 ∨ k = 8 ∨ k = 9 ∨ k = 10 ∨ k = 11 ∨ k = 12 ∨ k = 13 ∨ k = 14 by omega) with rfl | rfl | rfl | rfl | rfl | rfl | rfl | rfl | rfl | rfl | rfl | rfl | rfl
      · rw [show ab_iy 1 = 9 from rfl, ab_svd_m _ _ 9 (by decide) (by decide)]; exact sc
      · rw [show ab_iy 2 = 10 from rfl, ab_svd_m _ _ 10 (by decide) (by decide)]; exact sc
      · rw [show ab_iy 3 = 11 from rfl, ab_svd_m _ _ 11 (by decide) (by decide)]; exact sc.trans (ab_bit01 (show ab_bo (v 0 11) from sc ▸ bo3)).symm
      · rw [show ab_iy 5 = 12 from rfl, ab_svd_m _ _ 12 (by decide) (by decide)]; exact sc.trans (ab_bit01 (show ab_bo (v 0 13) from sc ▸ bo5)).symm
      · rw [show ab_iy 6 = 13 from rfl, ab_svd_m _ _ 13 (by decide) (by decide)]; exact sc
      · rw [show ab_iy 7 = 14 from rfl, ab_svd_m _ _ 14 (by decide) (by decide)]; exact sc
      · rw [show ab_iy 8 = 15 from rfl, ab_svd_m _ _ 15 (by decide) (by decide)]; exact sc
      · rw [show ab_iy 9 = 16 from rfl, ab_svd_m _ _ 16 (by decide) (by decide)]; exact sc
      · rw [show ab_iy 10 = 17 from rfl, ab_svd_m _ _ 17 (by decide) (by decide)]; exact sc
      · rw [show ab_iy 11 = 18 from rfl, ab_svd_m _ _ 18 (by decide) (by decide)]; exact sc
      · rw [show ab_iy 12 = 19 from rfl, ab_svd_m _ _ 19 (by decide) (by decide)]; exact sc
      · rw [show ab_iy 13 = 20 from rfl, ab_svd_20]; exact sc
      · rw [show ab_iy 14 = 21 from rfl, ab_svd_21]; exact sc
    · have e9 : ab_bd B k = ab_bd 0 k := by unfold ab_bd; split <;> first | rfl | omega
      rw [← e9]; exact hn
  · rw [hx 3 (by decide), hx 4 (by decide), ab_svd_22, ab_bit01 h.2.2.1.2.2]; exact h.2.2.1.1
  · rw [hx 4 (by decide)]; exact h.2.2.1.2.1
  · rw [ab_svd_22, ab_bit01 h.2.2.1.2.2]; exact h.2.2.1.2.2
  · rw [hy k hk, ab_svd_c _ _ k hk]; exact h.2.2.2.2.1 k hk
/-! restore -/
theorem ab_rs313 {O : Nat} (hO : O ≤ 540) (k : Nat) : ∀ (w : SS) (j : Nat), j ≤ 512 → 512 < j + k → g_MD_restore_313 k w (nI O) (nI j) = (1, ab_cp w 1 512 j 512 (fun i => w 5 (O + 23 + i))) := by
  induction k with
  | zero => intro w j h1 h2; omega
  | succ k ih =>
    intro w j h1 h2
    have g : (512 : Int32) ≤ nI j ↔ 512 ≤ j := nI_leI (a := 512) (by decide) (by omega)
    rw [g_MD_restore_313]
    by_cases e : 512 ≤ j
    · rw [if_pos (g.mpr e), show j = 512 by omega, ab_cp_nil]
    · rw [if_neg (fun q => e (g.mp q)), nI_1, show (23 : Int32) = nI 23 from rfl, show (512 : Int32) = nI 512 from rfl, nI_add, nI_add, nI_add, nI_clamp (by omega), nI_clamp (by omega), ih _ (j + 1) (by omega) (by omega)]
      have e1 : (fun i => stt w 1 (512 + j) (w 5 (O + 23 + j)) 5 (O + 23 + i)) = fun i => w 5 (O + 23 + i) := funext fun i => stt_a (by decide)
      rw [e1, ab_cp_step (f := fun i => w 5 (O + 23 + i)) (by omega)]
/-- the reference's numbers out of a slot -/
def ab_rsn (w : SS) (O : Nat) : SS :=
  stt (stt (stt (stt (stt (stt (stt (stt (stt (stt (stt (stt (stt (stt (f_MD_setFlags w (w 5 (O + 8))) 0 9 (w 5 (O + 9))) 0 10 (w 5 (O + 10))) 0 11 (if w 5 (O + 11) = 1 then 1 else 0 : Int32)) 0 13 (if w 5 (O + 12) = 1 then 1 else 0 : Int32)) 0 14 (w 5 (O + 13))) 0 15 (w 5 (O + 14))) 0 16 (w 5 (O + 15))) 0 17 (w 5 (O + 16))) 0 18 (w 5 (O + 17))) 0 19 (w 5 (O + 18))) 0 20 (w 5 (O + 19))) 0 21 (w 5 (O + 20))) 0 22 (w 5 (O + 21))) 0 12 (if w 5 (O + 22) = 1 then 1 else 0 : Int32)
theorem ab_sf5 {w : SS} {x : Int32} {b j : Nat} (h : b ≠ 0) : f_MD_setFlags w x b j = w b j := by
  unfold f_MD_setFlags; rw [stt_a h, stt_a h, stt_a h, stt_a h, stt_a h]
theorem ab_nO {O c : Nat} (hO : O ≤ 540) (hc : c < 600) : (nI O + nI c).toNatClampNeg = O + c := by rw [nI_add, nI_clamp (by omega)]
theorem ab_rs59 {O : Nat} (hO : O ≤ 540) (k : Nat) : ∀ (w : SS) (j : Nat), j ≤ 8 → 8 < j + k → g_MD_restore_59 k w (nI O) (nI j) = g_MD_restore_313 513 (ab_rsn (ab_cp w 2 0 j 8 (fun i => w 5 (O + i))) O) (nI O) 0 := by
  induction k with
  | zero => intro w j h1 h2; omega
  | succ k ih =>
    intro w j h1 h2
    have g : (8 : Int32) ≤ nI j ↔ 8 ≤ j := nI_leI (a := 8) (by decide) (by omega)
    rw [g_MD_restore_59]
    by_cases e : 8 ≤ j
    · rw [if_pos (g.mpr e), show j = 8 by omega, ab_cp_nil]
      unfold ab_rsn
      rw [show (nI O + 8).toNatClampNeg = O + 8 from ab_nO hO (by decide), show (nI O + 9).toNatClampNeg = O + 9 from ab_nO hO (by decide), show (nI O + 10).toNatClampNeg = O + 10 from ab_nO hO (by decide), show (nI O + 11).toNatClampNeg = O + 11 from ab_nO hO (by decide), show (nI O + 12).toNatClampNeg = O + 12 from ab_nO hO (by decide), show (nI O + 13).toNatClampNeg = O + 13 from ab_nO hO (by decide), show (nI O + 14).toNatClampNeg = O + 14 from ab_nO hO (by decide), show (nI O + 15).toNatClampNeg = O + 15 from ab_nO hO (by decide), show (nI O + 16).toNatClampNeg = O + 16 from ab_nO hO (by decide), show (nI O + 17).toNatClampNeg = O + 17 from ab_nO hO (by decide), show (nI O + 18).toNatClampNeg = O + 18 from ab_nO hO (by decide), show (nI O + 19).toNatClampNeg = O + 19 from ab_nO hO (by decide), show (nI O + 20).toNatClampNeg = O + 20 from ab_nO hO (by decide), show (nI O + 21).toNatClampNeg = O + 21 from ab_nO hO (by decide), show (nI O + 22).toNatClampNeg = O + 22 from ab_nO hO (by decide)]
      simp only [ab_sf5 (show (5 : Nat) ≠ 0 by decide)]
    · rw [if_neg (fun q => e (g.mp q)), nI_1, nI_add, nI_clamp (by omega), nI_clamp (by omega), ih _ (j + 1) (by omega) (by omega)]
      have e1 : (fun i => stt w 2 j (w 5 (O + j)) 5 (O + i)) = fun i => w 5 (O + i) := funext fun i => stt_a (by decide)
      have e2 := ab_cp_step (w := w) (a := 2) (O := 0) (j := j) (n := 8) (f := fun i => w 5 (O + i)) (by omega)
      rw [Nat.zero_add] at e2
      rw [e1, e2]
theorem ab_rsn_n {w : SS} {O b j : Nat} (h : b ≠ 0) : ab_rsn w O b j = w b j := by
  unfold ab_rsn
  rw [stt_a h, stt_a h, stt_a h, stt_a h, stt_a h, stt_a h, stt_a h, stt_a h, stt_a h, stt_a h, stt_a h, stt_a h, stt_a h, stt_a h, ab_sf5 h]
theorem ab_eq1 {x : Int32} (h : ab_bo x) : (if x = 1 then 1 else 0 : Int32) = x := by rcases h with rfl | rfl <;> rfl
end SR

/-! what State.become gives, place by place; save and restore of class and reference -/
section SV
variable {z u v v' : SS} {B : Nat}
theorem bc3_s (k : Nat) (hk : k < 15) : (f_State_become_3_10 z u).1 1 k = u 0 k := by
  unfold f_State_become_3_10
  dsimp only
  rcases (show k = 0 ∨ k = 1 ∨ k = 2 ∨ k = 3 ∨ k = 4 ∨ k = 5 ∨ k = 6 ∨ k = 7 ∨ k = 8 ∨ k = 9 ∨ k = 10 ∨ k = 11 ∨ k = 12 ∨ k = 13 ∨ k = 14 by omega) with rfl | rfl | rfl | rfl | rfl | rfl | rfl | rfl | rfl | rfl | rfl | rfl | rfl | rfl | rfl <;> simp [stt_ap]
theorem bc3_r (k : Nat) (hk : k < 512) : (f_State_become_3_10 z u).1 2 k = u 1 k := by
  have e : (f_State_become_3_10 z u).1 2 k = va_cpy (u 1) (z 2) 0 0 512 k := by
    unfold f_State_become_3_10
    simp [stt_ap, va_up]
  rw [e, pk_cpy_in (Nat.zero_le _) (by omega)]
  congr 1
  omega
theorem bc3_g (k : Nat) (hk : k < 8) : (f_State_become_3_10 z u).1 3 k = u 2 k := by
  have e : (f_State_become_3_10 z u).1 3 k = va_cpy (u 2) (z 3) 0 0 8 k := by
    unfold f_State_become_3_10
    simp [stt_ap, va_up]
  rw [e, pk_cpy_in (Nat.zero_le _) (by omega)]
  congr 1
  omega
theorem bc3_o (b j : Nat) (h1 : b ≠ 1) (h2 : b ≠ 2) (h3 : b ≠ 3) : (f_State_become_3_10 z u).1 b j = z b j := by
  unfold f_State_become_3_10
  simp [stt_ap, va_up, h1, h2, h3]
theorem bc6_s (k : Nat) (hk : k < 15) : (f_State_become_6_10 z u).1 4 k = u 0 k := by
  unfold f_State_become_6_10
  dsimp only
  rcases (show k = 0 ∨ k = 1 ∨ k = 2 ∨ k = 3 ∨ k = 4 ∨ k = 5 ∨ k = 6 ∨ k = 7 ∨ k = 8 ∨ k = 9 ∨ k = 10 ∨ k = 11 ∨ k = 12 ∨ k = 13 ∨ k = 14 by omega) with rfl | rfl | rfl | rfl | rfl | rfl | rfl | rfl | rfl | rfl | rfl | rfl | rfl | rfl | rfl <;> simp [stt_ap]
theorem bc6_r (k : Nat) (hk : k < 512) : (f_State_become_6_10 z u).1 5 k = u 1 k := by
  have e : (f_State_become_6_10 z u).1 5 k = va_cpy (u 1) (z 5) 0 0 512 k := by
    unfold f_State_become_6_10
    simp [stt_ap, va_up]
  rw [e, pk_cpy_in (Nat.zero_le _) (by omega)]
  congr 1
  omega
theorem bc6_g (k : Nat) (hk : k < 8) : (f_State_become_6_10 z u).1 6 k = u 2 k := by
  have e : (f_State_become_6_10 z u).1 6 k = va_cpy (u 2) (z 6) 0 0 8 k := by
    unfold f_State_become_6_10
    simp [stt_ap, va_up]
  rw [e, pk_cpy_in (Nat.zero_le _) (by omega)]
  congr 1
  omega
theorem bc6_o (b j : Nat) (h1 : b ≠ 4) (h2 : b ≠ 5) (h3 : b ≠ 6) : (f_State_become_6_10 z u).1 b j = z b j := by
  unfold f_State_become_6_10
  simp [stt_ap, va_up, h1, h2, h3]
theorem bd3_s (k : Nat) (hk : k < 15) : (f_State_become_10_3 z u).2 0 k = z 1 k := by
  unfold f_State_become_10_3
  dsimp only
  rcases (show k = 0 ∨ k = 1 ∨ k = 2 ∨ k = 3 ∨ k = 4 ∨ k = 5 ∨ k = 6 ∨ k = 7 ∨ k = 8 ∨ k = 9 ∨ k = 10 ∨ k = 11 ∨ k = 12 ∨ k = 13 ∨ k = 14 by omega) with rfl | rfl | rfl | rfl | rfl | rfl | rfl | rfl | rfl | rfl | rfl | rfl | rfl | rfl | rfl <;> simp [stt_ap]
theorem bd3_t (k : Nat) (hk : 15 ≤ k) : (f_State_become_10_3 z u).2 0 k = u 0 k := by
  unfold f_State_become_10_3
  dsimp only
  rw [stt_n (by omega), stt_n (by omega), stt_n (by omega), stt_n (by omega), stt_n (by omega), stt_n (by omega), stt_n (by omega), stt_n (by omega), stt_n (by omega), stt_n (by omega), stt_n (by omega), stt_n (by omega), stt_n (by omega), stt_n (by omega), stt_n (by omega)]
  simp [va_up]
theorem bd3_r (k : Nat) (hk : k < 512) : (f_State_become_10_3 z u).2 1 k = z 2 k := by
  have e : (f_State_become_10_3 z u).2 1 k = va_cpy (z 2) (u 1) 0 0 512 k := by
    unfold f_State_become_10_3
    simp [stt_ap, va_up]
  rw [e, pk_cpy_in (Nat.zero_le _) (by omega)]
  congr 1
  omega
theorem bd3_g (k : Nat) (hk : k < 8) : (f_State_become_10_3 z u).2 2 k = z 3 k := by
  have e : (f_State_become_10_3 z u).2 2 k = va_cpy (z 3) (u 2) 0 0 8 k := by
    unfold f_State_become_10_3
    simp [stt_ap, va_up]
  rw [e, pk_cpy_in (Nat.zero_le _) (by omega)]
  congr 1
  omega
theorem bd3_o (b j : Nat) (h1 : 2 < b) : (f_State_become_10_3 z u).2 b j = u b j := by
  have a0 : b ≠ 0 := by omega
  have a1 : b ≠ 1 := by omega
  have a2 : b ≠ 2 := by omega
  unfold f_State_become_10_3
  simp [stt_ap, va_up, a0, a1, a2]
theorem bd6_s (k : Nat) (hk : k < 15) : (f_State_become_10_6 z u).2 0 k = z 4 k := by
  unfold f_State_become_10_6
  dsimp only
  rcases (show k = 0 ∨ k = 1 ∨ k = 2 ∨ k = 3 ∨ k = 4 ∨ k = 5 ∨ k = 6 ∨ k = 7 ∨ k = 8 ∨ k = 9 ∨ k = 10 ∨ k = 11 ∨ k = 12 ∨ k = 13 ∨ k = 14 by omega) with rfl | rfl | rfl | rfl | rfl | rfl | rfl | rfl | rfl | rfl | rfl | rfl | rfl | rfl | rfl <;> simp [stt_ap]
theorem bd6_t (k : Nat) (hk : 15 ≤ k) : (f_State_become_10_6 z u).2 0 k = u 0 k := by
  unfold f_State_become_10_6
  dsimp only
  rw [stt_n (by omega), stt_n (by omega), stt_n (by omega), stt_n (by omega), stt_n (by omega), stt_n (by omega), stt_n (by omega), stt_n (by omega), stt_n (by omega), stt_n (by omega), stt_n (by omega), stt_n (by omega), stt_n (by omega), stt_n (by omega), stt_n (by omega)]
  simp [va_up]
theorem bd6_r (k : Nat) (hk : k < 512) : (f_State_become_10_6 z u).2 1 k = z 5 k := by
  have e : (f_State_become_10_6 z u).2 1 k = va_cpy (z 5) (u 1) 0 0 512 k := by
    unfold f_State_become_10_6
    simp [stt_ap, va_up]
  rw [e, pk_cpy_in (Nat.zero_le _) (by omega)]
  congr 1
  omega
theorem bd6_g (k : Nat) (hk : k < 8) : (f_State_become_10_6 z u).2 2 k = z 6 k := by
  have e : (f_State_become_10_6 z u).2 2 k = va_cpy (z 6) (u 2) 0 0 8 k := by
    unfold f_State_become_10_6
    simp [stt_ap, va_up]
  rw [e, pk_cpy_in (Nat.zero_le _) (by omega)]
  congr 1
  omega
theorem bd6_o (b j : Nat) (h1 : 2 < b) : (f_State_become_10_6 z u).2 b j = u b j := by
  have a0 : b ≠ 0 := by omega
  have a1 : b ≠ 1 := by omega
  have a2 : b ≠ 2 := by omega
  unfold f_State_become_10_6
  simp [stt_ap, va_up, a0, a1, a2]
theorem ab_SL_rng {x y w : Nat → Int32} {o : Nat} (h : ab_SL x y w o v) (h5 : ∀ j, o ≤ j → j < o + 535 → v' 5 j = v 5 j) : ab_SL x y w o v' := by
  have i21 : ∀ k, k < 15 → ab_iy k ≤ 21 := by decide +kernel
  refine ⟨fun k hk => ?_, ?_, fun k k1 k2 k3 => ?_, ?_, fun k hk => ?_⟩
  · rw [h5 _ (by omega) (by omega)]; exact h.1 k hk
  · rw [h5 _ (by omega) (by omega)]; exact h.2.1
  · have := i21 k k1; rw [h5 _ (by omega) (by omega)]; exact h.2.2.1 k k1 k2 k3
  · rw [h5 _ (by omega) (by omega)]; exact h.2.2.2.1
  · rw [h5 _ (by omega) (by omega)]; exact h.2.2.2.2 k hk
theorem ab_SL_cg {x y w x' y' w' : Nat → Int32} {o : Nat} (h : ab_SL x y w o v) (ex : x' = x) (ey : y' = y) (ew : w' = w) : ab_SL x' y' w' o v := by subst ex ey ew; exact h
theorem ab_Q_bo5 (h : ab_Q (ab_bd B) ab_jR u v) : ∀ k, 3 ≤ k → k ≤ 5 → ab_bo (u 0 k) := by
  intro k k1 k2
  rcases (show k = 3 ∨ k = 4 ∨ k = 5 by omega) with rfl | rfl | rfl
  · exact ab_Q_bo3 h
  · exact h.2.2.1.2.1
  · obtain ⟨n, hn, e⟩ := ab_Q_bd h 5
    have hn' : n < 2 := hn
    rcases (show n = 0 ∨ n = 1 by omega) with rfl | rfl
    · exact Or.inl e
    · exact Or.inr e
theorem ab_save0 (h : ab_RT B z u v) : ab_RT B (stt (f_State_become_3_10 z u).1 7 0 1) u (ab_svd (stt (stt v 0 0 0) 4 0 1) (540 * 0)) := by
  have q1 : ab_Q (ab_bd B) ab_jR u (stt (stt v 0 0 0) 4 0 1) := ab_Q_far (ab_Q_own h.1 0 0 (Or.inl rfl)) 4 0 1 (by decide)
  refine ⟨ab_Q_ext q1 (fun b j hb hn => ab_svd_o _ _ b j (by omega)), ⟨?_, ?_⟩, fun s hs => ?_⟩
  · rw [stt_a (by decide), bc3_o 0 0 (by decide) (by decide) (by decide), ab_svd_o _ _ 0 1 (by omega), stt_a (by decide), stt_k (by decide)]; exact h.2.1.1
  · rw [stt_a (by decide), bc3_o 0 0 (by decide) (by decide) (by decide)]; exact h.2.1.2
  · have ez : ∀ b, b ≠ 7 → stt (f_State_become_3_10 z u).1 7 0 1 b = (f_State_become_3_10 z u).1 b := fun b hb => funext fun j => stt_a hb
    rw [ab_svd_o _ _ 4 s (by omega)]
    rcases (show s = 0 ∨ s = 1 by omega) with rfl | rfl
    · refine ⟨by rw [stt_s, stt_s], by rw [stt_s]; exact ab_bo1, fun _ => ?_, fun k k1 k2 => ?_⟩
      · rw [ez _ (by decide), ez _ (by decide), ez _ (by decide)]
        exact ab_svS q1 (540 * 0) (fun k hk => bc3_s k hk) (fun k hk => bc3_r k hk) (fun k hk => bc3_g k hk)
      · rw [stt_a (by decide)]
        rw [show (1 + 3 * 0) = 1 from rfl, bc3_s k (by omega)]; exact ab_Q_bo5 h.1 k k1 k2
    · obtain ⟨a1, a2, a3, a4⟩ := h.2.2 1 (by decide)
      have e7 : stt (f_State_become_3_10 z u).1 7 0 1 7 1 = z 7 1 := by rw [stt_k (by decide), bc3_o 7 1 (by decide) (by decide) (by decide)]
      rw [e7, stt_k (by decide), stt_a (by decide)]
      refine ⟨a1, a2, fun q => ?_, fun k k1 k2 => ?_⟩
      · rw [ez _ (by decide), ez _ (by decide), ez _ (by decide)]
        refine ab_SL_cg (ab_SL_rng (a3 q) (fun j j1 j2 => ?_)) (funext fun j => bc3_o _ j (by decide) (by decide) (by decide)) (funext fun j => bc3_o _ j (by decide) (by decide) (by decide)) (funext fun j => bc3_o _ j (by decide) (by decide) (by decide))
        rw [ab_svd_o _ _ 5 j (by omega), stt_a (by decide), stt_a (by decide)]
      · rw [stt_a (by decide), bc3_o _ k (by decide) (by decide) (by decide)]; exact a4 k k1 k2
theorem ab_save1 (h : ab_RT B z u v) : ab_RT B (stt (f_State_become_6_10 z u).1 7 1 1) u (ab_svd (stt (stt v 0 0 0) 4 1 1) (540 * 1)) := by
  have q1 : ab_Q (ab_bd B) ab_jR u (stt (stt v 0 0 0) 4 1 1) := ab_Q_far (ab_Q_own h.1 0 0 (Or.inl rfl)) 4 1 1 (by decide)
  refine ⟨ab_Q_ext q1 (fun b j hb hn => ab_svd_o _ _ b j (by omega)), ⟨?_, ?_⟩, fun s hs => ?_⟩
  · rw [stt_a (by decide), bc6_o 0 0 (by decide) (by decide) (by decide), ab_svd_o _ _ 0 1 (by omega), stt_a (by decide), stt_k (by decide)]; exact h.2.1.1
  · rw [stt_a (by decide), bc6_o 0 0 (by decide) (by decide) (by decide)]; exact h.2.1.2
  · have ez : ∀ b, b ≠ 7 → stt (f_State_become_6_10 z u).1 7 1 1 b = (f_State_become_6_10 z u).1 b := fun b hb => funext fun j => stt_a hb
    rw [ab_svd_o _ _ 4 s (by omega)]
    rcases (show s = 1 ∨ s = 0 by omega) with rfl | rfl
    · refine ⟨by rw [stt_s, stt_s], by rw [stt_s]; exact ab_bo1, fun _ => ?_, fun k k1 k2 => ?_⟩
      · rw [ez _ (by decide), ez _ (by decide), ez _ (by decide)]
        exact ab_svS q1 (540 * 1) (fun k hk => bc6_s k hk) (fun k hk => bc6_r k hk) (fun k hk => bc6_g k hk)
      · rw [stt_a (by decide)]
        rw [show (1 + 3 * 1) = 4 from rfl, bc6_s k (by omega)]; exact ab_Q_bo5 h.1 k k1 k2
    · obtain ⟨a1, a2, a3, a4⟩ := h.2.2 0 (by decide)
      have e7 : stt (f_State_become_6_10 z u).1 7 1 1 7 0 = z 7 0 := by rw [stt_k (by decide), bc6_o 7 0 (by decide) (by decide) (by decide)]
      rw [e7, stt_k (by decide), stt_a (by decide)]
      refine ⟨a1, a2, fun q => ?_, fun k k1 k2 => ?_⟩
      · rw [ez _ (by decide), ez _ (by decide), ez _ (by decide)]
        refine ab_SL_cg (ab_SL_rng (a3 q) (fun j j1 j2 => ?_)) (funext fun j => bc6_o _ j (by decide) (by decide) (by decide)) (funext fun j => bc6_o _ j (by decide) (by decide) (by decide)) (funext fun j => bc6_o _ j (by decide) (by decide) (by decide))
        rw [ab_svd_o _ _ 5 j (by omega), stt_a (by decide), stt_a (by decide)]
      · rw [stt_a (by decide), bc6_o _ k (by decide) (by decide) (by decide)]; exact a4 k k1 k2
theorem ab_cSave (h : ab_RT B z u v) (x : Int32) : (f_AB_save z u x).1 = (f_MD_save v x).1 ∧ ab_RT B (f_AB_save z u x).2.1 (f_AB_save z u x).2.2 (f_MD_save v x).2 := by
  have h0 := ab_RT_thr h 0
  unfold f_AB_save f_MD_save
  by_cases e1 : x < 0
  · rw [if_pos e1, if_neg (show ¬ x = 0 from fun q => absurd e1 (by rw [q]; decide)), if_neg (show ¬ x = 1 from fun q => absurd e1 (by rw [q]; decide))]
    exact ⟨rfl, h0⟩
  · rw [if_neg e1]
    obtain ⟨n, hn, rfl⟩ := nI_of e1
    have l2 : nI n < 2 ↔ n < 2 := nI_ltI (b := 2) hn (by decide)
    have i0 : nI n = 0 ↔ n = 0 := nI_eq (b := 0) hn (by decide)
    have i1 : nI n = 1 ↔ n = 1 := nI_eq (b := 1) hn (by decide)
    by_cases e2 : n < 2
    · rw [if_pos (l2.mpr e2)]
      rcases (show n = 0 ∨ n = 1 by omega) with rfl | rfl
      · rw [if_pos (i0.mpr rfl), if_pos (i0.mpr rfl), show (540 : Int32) * nI 0 = nI 0 from rfl, show (nI 0).toNatClampNeg = 0 from rfl, ab_sv (by decide)]
        exact ⟨rfl, ab_save0 h⟩
      · rw [if_neg (show ¬ nI 1 = 0 by decide), if_neg (show ¬ nI 1 = 0 by decide), if_pos (i1.mpr rfl), show (540 : Int32) * nI 1 = nI 540 from rfl, show (nI 1).toNatClampNeg = 1 from rfl, ab_sv (by decide)]
        exact ⟨rfl, ab_save1 h⟩
    · rw [if_neg (fun q => e2 (l2.mp q)), if_neg (show ¬ nI n = 0 from fun q => by have := i0.mp q; omega), if_neg (show ¬ nI n = 1 from fun q => by have := i1.mp q; omega)]
      exact ⟨rfl, h0⟩
/-- the reference's state behind 'restore' -/
def ab_rsd (w : SS) (O : Nat) : SS := ab_cp (ab_rsn (ab_cp w 2 0 0 8 (fun i => w 5 (O + i))) O) 1 512 0 512 (fun i => ab_rsn (ab_cp w 2 0 0 8 (fun i => w 5 (O + i))) O 5 (O + 23 + i))
theorem ab_rs {O : Nat} (hO : O ≤ 540) (w : SS) : g_MD_restore_59 9 w (nI O) 0 = (1, ab_rsd w O) := by
  rw [show (0 : Int32) = nI 0 from rfl, ab_rs59 hO 9 w 0 (by omega) (by omega), show (0 : Int32) = nI 0 from rfl, ab_rs313 hO 513 _ 0 (by omega) (by omega)]
  rfl
theorem ab_rsd_far (w : SS) (O b j : Nat) (hb : 3 ≤ b) : ab_rsd w O b j = w b j := by
  unfold ab_rsd
  rw [ab_cp_out (by omega), ab_rsn_n (by omega), ab_cp_out (by omega)]
theorem ab_rsd_rom (w : SS) (O j : Nat) (hj : j < 512) : ab_rsd w O 1 j = w 1 j := by
  unfold ab_rsd
  rw [ab_cp_out (by omega), ab_rsn_n (by omega), ab_cp_out (by omega)]
theorem ab_rsd_ram (w : SS) (O j : Nat) (hj : j < 512) : ab_rsd w O 1 (512 + j) = w 5 (O + 23 + j) := by
  unfold ab_rsd
  rw [ab_cp_in (by omega) hj, ab_rsn_n (by omega), ab_cp_out (by omega)]
theorem ab_rsd_reg (w : SS) (O j : Nat) (hj : j < 8) : ab_rsd w O 2 j = w 5 (O + j) := by
  unfold ab_rsd
  rw [ab_cp_out (by omega), ab_rsn_n (by omega)]
  have := ab_cp_in (w := w) (a := 2) (O := 0) (lo := 0) (hi := 8) (i := j) (f := fun i => w 5 (O + i)) (by omega) hj
  rw [Nat.zero_add] at this
  exact this
theorem ab_rsd_sc (w : SS) (O j : Nat) : ab_rsd w O 0 j = ab_rsn (ab_cp w 2 0 0 8 (fun i => w 5 (O + i))) O 0 j := by
  unfold ab_rsd
  rw [ab_cp_out (by omega)]
theorem ab_FL_set {s z h p k : Int32} (hs : ab_bo s) (hz : ab_bo z) (hh : ab_bo h) (hp : ab_bo p) (hk : ab_bo k) :
    (if (ab_FL s z h p k &&& 128) = 0 then 0 else 1 : Int32) = s ∧ (if (ab_FL s z h p k &&& 64) = 0 then 0 else 1 : Int32) = z ∧ (if (ab_FL s z h p k &&& 16) = 0 then 0 else 1 : Int32) = h ∧ (if (ab_FL s z h p k &&& 4) = 0 then 0 else 1 : Int32) = p ∧ (if (ab_FL s z h p k &&& 1) = 0 then 0 else 1 : Int32) = k := by
  rcases hs with rfl | rfl <;> rcases hz with rfl | rfl <;> rcases hp with rfl | rfl <;> rcases hh with rfl | rfl <;> rcases hk with rfl | rfl <;> decide
/-- the class's state u' out of the slot (x, y, w), the reference's out of its own -/
theorem ab_rsQ {x y w : Nat → Int32} {O : Nat} {u' : SS} (h : ab_Q (ab_bd B) ab_jR u v) (hs : ab_SL x y w O v) (h0 : ∀ k, k < 15 → u' 0 k = x k) (h15 : ∀ k, 15 ≤ k → u' 0 k = u 0 k) (hr : ∀ k, k < 512 → u' 1 k = y k) (hg : ∀ k, k < 8 → u' 2 k = w k) (ho : ∀ b j, 2 < b → u' b j = u b j) : ab_Q (ab_bd B) ab_jR u' (ab_rsd v O) := by
  obtain ⟨s1, ⟨s2, fs, fz, fh, fp, fk, b1, b2, b3, b4, b5, efl⟩, s3, ⟨s4, s5, s6⟩, s7⟩ := hs
  have w5 : ∀ i, (ab_cp v 2 0 0 8 (fun i => v 5 (O + i))) 5 i = v 5 i := fun i => ab_cp_out (by omega)
  have w0 : ∀ i, (ab_cp v 2 0 0 8 (fun i => v 5 (O + i))) 0 i = v 0 i := fun i => ab_cp_out (by omega)
  have sf := ab_FL_set b1 b2 b3 b4 b5
  have x3 : ab_bo (x 3) := by
    obtain ⟨n, hn, e⟩ := (s3 3 (by decide) (by decide) (by decide)).2
    have hn' : n < 2 := hn
    rcases (show n = 0 ∨ n = 1 by omega) with rfl | rfl
    · exact Or.inl e
    · exact Or.inr e
  have x5 : ab_bo (x 5) := by
    obtain ⟨n, hn, e⟩ := (s3 5 (by decide) (by decide) (by decide)).2
    have hn' : n < 2 := hn
    rcases (show n = 0 ∨ n = 1 by omega) with rfl | rfl
    · exact Or.inl e
    · exact Or.inr e
  have e8 : v 5 (O + 8) = ab_FL fs fz fh fp fk := s2 ▸ efl
  have r4 : ab_rsd v O 0 4 = fs := by rw [ab_rsd_sc]; unfold ab_rsn f_MD_setFlags; simp [stt_ap, w5, e8, sf.1]
  have r5 : ab_rsd v O 0 5 = fz := by rw [ab_rsd_sc]; unfold ab_rsn f_MD_setFlags; simp [stt_ap, w5, e8, sf.2.1]
  have r6 : ab_rsd v O 0 6 = fh := by rw [ab_rsd_sc]; unfold ab_rsn f_MD_setFlags; simp [stt_ap, w5, e8, sf.2.2.1]
  have r7 : ab_rsd v O 0 7 = fp := by rw [ab_rsd_sc]; unfold ab_rsn f_MD_setFlags; simp [stt_ap, w5, e8, sf.2.2.2.1]
  have r8 : ab_rsd v O 0 8 = fk := by rw [ab_rsd_sc]; unfold ab_rsn f_MD_setFlags; simp [stt_ap, w5, e8, sf.2.2.2.2]
  have r12 : ab_rsd v O 0 12 = v 5 (O + 22) := by rw [ab_rsd_sc]; unfold ab_rsn; rw [stt_s, w5]; exact ab_eq1 s6
  refine ⟨fun k k1 k2 k3 => ?_, ⟨?_, ab_bo5 r4 r5 r6 r7 r8 b1 b2 b3 b4 b5⟩, ⟨?_, ?_, ?_⟩, fun k hk => ?_, fun k hk => ?_, fun k hk => ?_, fun k hk => ?_⟩
  · by_cases e : k < 15
    · rw [h0 k e]
      obtain ⟨a1, n, hn, en⟩ := s3 k e k2 k3
      refine ⟨?_, n, ?_, en⟩
      · rcases (show k = 1 ∨ k = 2 ∨ k = 3 ∨ k = 5 ∨ k = 6 ∨ k = 7 ∨ k = 8 ∨ k = 9 ∨ k = 10 ∨ k = 11 ∨ k = 12 ∨ k = 13 ∨ k = 14 by omega) with rfl | rfl | rfl | rfl | rfl | rfl | rfl | rfl | rfl | rfl | rfl | rfl | rfl
        · rw [show ab_ix 1 = 9 from rfl, ab_rsd_sc]; unfold ab_rsn; simp [stt_ap, w5]; exact a1
        · rw [show ab_ix 2 = 10 from rfl, ab_rsd_sc]; unfold ab_rsn; simp [stt_ap, w5]; exact a1
        · rw [show ab_ix 3 = 11 from rfl, ab_rsd_sc]; unfold ab_rsn; simp only [stt_ap, w5]; simp; exact a1.trans (ab_eq1 (show ab_bo (v 5 (O + 11)) from a1 ▸ x3)).symm
        · rw [show ab_ix 5 = 13 from rfl, ab_rsd_sc]; unfold ab_rsn; simp only [stt_ap, w5]; simp; exact a1.trans (ab_eq1 (show ab_bo (v 5 (O + 12)) from a1 ▸ x5)).symm
        · rw [show ab_ix 6 = 14 from rfl, ab_rsd_sc]; unfold ab_rsn; simp [stt_ap, w5]; exact a1
        · rw [show ab_ix 7 = 15 from rfl, ab_rsd_sc]; unfold ab_rsn; simp [stt_ap, w5]; exact a1
        · rw [show ab_ix 8 = 16 from rfl, ab_rsd_sc]; unfold ab_rsn; simp [stt_ap, w5]; exact a1
        · rw [show ab_ix 9 = 17 from rfl, ab_rsd_sc]; unfold ab_rsn; simp [stt_ap, w5]; exact a1
        · rw [show ab_ix 10 = 18 from rfl, ab_rsd_sc]; unfold ab_rsn; simp [stt_ap, w5]; exact a1
        · rw [show ab_ix 11 = 19 from rfl, ab_rsd_sc]; unfold ab_rsn; simp [stt_ap, w5]; exact a1
        · rw [show ab_ix 12 = 20 from rfl, ab_rsd_sc]; unfold ab_rsn; simp [stt_ap, w5]; exact a1
        · rw [show ab_ix 13 = 21 from rfl, ab_rsd_sc]; unfold ab_rsn; simp [stt_ap, w5]; exact a1
        · rw [show ab_ix 14 = 22 from rfl, ab_rsd_sc]; unfold ab_rsn; simp [stt_ap, w5]; exact a1
      · have e9 : ab_bd B k = ab_bd 0 k := by unfold ab_bd; split <;> first | rfl | omega
        rw [e9]; exact hn
    · rw [h15 k (by omega)]
      have hk := h.1 k k1 k2 k3
      refine ⟨?_, hk.2⟩
      rw [hk.1]
      rcases (show k = 15 ∨ k = 16 ∨ k = 17 by omega) with rfl | rfl | rfl
      · rw [show ab_ix 15 = 2 from rfl, ab_rsd_sc]; unfold ab_rsn f_MD_setFlags; simp [stt_ap, w0]
      · rw [show ab_ix 16 = 3 from rfl, ab_rsd_sc]; unfold ab_rsn f_MD_setFlags; simp [stt_ap, w0]
      · rw [show ab_ix 17 = 23 from rfl, ab_rsd_sc]; unfold ab_rsn f_MD_setFlags; simp [stt_ap, w0]
  · rw [h0 0 (by decide), ab_FL_e, r4, r5, r6, r7, r8]; exact efl
  · rw [h0 3 (by decide), h0 4 (by decide), r12]; exact s4
  · rw [h0 4 (by decide)]; exact s5
  · rw [r12]; exact s6
  · rw [ho 3 k (by decide), ab_rsd_rom _ _ k hk]; exact h.2.2.2.1 k hk
  · rw [hr k hk, ab_rsd_ram _ _ k hk]; exact s7 k hk
  · rw [hg k hk, ab_rsd_reg _ _ k hk]; exact s1 k hk
  · rw [ho 4 k (by decide), ab_rsd_far _ _ 3 k (by decide)]; exact h.2.2.2.2.2.2 k hk
theorem ab_rsR (h : ab_RS z v) (O : Nat) : ab_RS z (ab_rsd v O) := by
  refine ab_RS_far h ?_ (fun b j hb => ab_rsd_far _ _ b j (by omega))
  rw [ab_rsd_sc]
  unfold ab_rsn f_MD_setFlags
  simp [stt_ap]
  exact ab_cp_out (by omega)
theorem ab_cRestore (h : ab_RT B z u v) (x : Int32) : (f_MD_restore v x).2 0 0 = nI (f_AB_restore z u x).1 ∧ ((f_AB_restore z u x).1 = 0 → (f_AB_restore z u x).2.1 = (f_MD_restore v x).1) ∧ ab_RT B (f_AB_restore z u x).2.2.1 (f_AB_restore z u x).2.2.2 (f_MD_restore v x).2 := by
  unfold f_AB_restore f_MD_restore
  by_cases e1 : x < 0
  · rw [if_pos e1, if_neg (show ¬ x = 0 from fun q => absurd e1 (by rw [q]; decide)), if_neg (show ¬ x = 1 from fun q => absurd e1 (by rw [q]; decide)), if_pos (show (0 : Int32) = 0 from rfl), if_neg (show ¬ (1 : Int32) ≤ 0 by decide)]
    exact ⟨stt_s v 0 0 1, fun q => absurd (show (1 : Nat) = 0 from q) (by decide), ab_RT_thr h 1⟩
  · rw [if_neg e1]
    obtain ⟨n, hn, rfl⟩ := nI_of e1
    have l2 : nI n < 2 ↔ n < 2 := nI_ltI (b := 2) hn (by decide)
    have i0 : nI n = 0 ↔ n = 0 := nI_eq (b := 0) hn (by decide)
    have i1 : nI n = 1 ↔ n = 1 := nI_eq (b := 1) hn (by decide)
    by_cases e2 : n < 2
    · rw [if_pos (l2.mpr e2)]
      have h0 := ab_RT_thr h 0
      have thr0 : ∀ O, ab_rsd (stt v 0 0 0) O 0 0 = 0 := fun O => by
        rw [ab_rsd_sc]
        unfold ab_rsn f_MD_setFlags
        simp only [stt_ap]
        simp
        rw [ab_cp_out (by omega), stt_s]
      rcases (show n = 0 ∨ n = 1 by omega) with rfl | rfl
      · obtain ⟨a1, a2, a3, a4⟩ := h.2.2 0 (by decide)
        rw [if_pos (i0.mpr rfl), if_pos (i0.mpr rfl), if_neg (show ¬ (1 : Int32) = 0 by decide), show (nI 0).toNatClampNeg = 0 from rfl, ← a1]
        rcases a2 with e | e
        · rw [if_pos e, if_pos e, if_neg (show ¬ (2 : Int32) ≤ 0 by decide)]
          exact ⟨stt_s v 0 0 2, fun q => absurd (show (2 : Nat) = 0 from q) (by decide), ab_RT_thr h 2⟩
        · have ne : ¬ z 7 0 = 0 := by rw [e]; decide
          rw [if_neg ne, if_neg ne, if_pos (show (0 : Int32) ≤ 0 by decide), show (540 : Int32) * nI 0 = nI 0 from rfl, ab_rs (by decide)]
          dsimp only
          refine ⟨thr0 0, fun _ => rfl, ?_, ?_⟩
          · exact ab_rsQ h0.1 (ab_SL_far (a3 e) (fun j => stt_a (by decide))) (fun k hk => bd3_s k hk) (fun k hk => bd3_t k hk) (fun k hk => bd3_r k hk) (fun k hk => bd3_g k hk) (fun b j hb => bd3_o b j hb)
          · exact ab_rsR h0.2 0
      · obtain ⟨a1, a2, a3, a4⟩ := h.2.2 1 (by decide)
        rw [if_neg (show ¬ nI 1 = 0 by decide), if_neg (show ¬ nI 1 = 0 by decide), if_pos (i1.mpr rfl), if_neg (show ¬ (1 : Int32) = 0 by decide), show (nI 1).toNatClampNeg = 1 from rfl, ← a1]
        rcases a2 with e | e
        · rw [if_pos e, if_pos e, if_neg (show ¬ (2 : Int32) ≤ 0 by decide)]
          exact ⟨stt_s v 0 0 2, fun q => absurd (show (2 : Nat) = 0 from q) (by decide), ab_RT_thr h 2⟩
        · have ne : ¬ z 7 1 = 0 := by rw [e]; decide
          rw [if_neg ne, if_neg ne, if_pos (show (0 : Int32) ≤ 0 by decide), show (540 : Int32) * nI 1 = nI 540 from rfl, ab_rs (by decide)]
          dsimp only
          refine ⟨thr0 540, fun _ => rfl, ?_, ?_⟩
          · exact ab_rsQ h0.1 (ab_SL_far (a3 e) (fun j => stt_a (by decide))) (fun k hk => bd6_s k hk) (fun k hk => bd6_t k hk) (fun k hk => bd6_r k hk) (fun k hk => bd6_g k hk) (fun b j hb => bd6_o b j hb)
          · exact ab_rsR h0.2 540
    · rw [if_neg (fun q => e2 (l2.mp q)), if_neg (show ¬ nI n = 0 from fun q => by have := i0.mp q; omega), if_neg (show ¬ nI n = 1 from fun q => by have := i1.mp q; omega), if_pos (show (0 : Int32) = 0 from rfl), if_neg (show ¬ (1 : Int32) ≤ 0 by decide)]
      exact ⟨stt_s v 0 0 1, fun q => absurd (show (1 : Nat) = 0 from q) (by decide), ab_RT_thr h 1⟩
end SV

