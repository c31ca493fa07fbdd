/-! sums, differences, logic -/
theorem ab_h16 : ∀ t, t < 32 → (((if nI t ≤ 15 then 0 else 1 : Int32) = 0 ∧ nI t &&& 16 = 0) ∨ ((if nI t ≤ 15 then 0 else 1 : Int32) = 1 ∧ nI t &&& 16 = 16)) := by decide +kernel
theorem ab_r16 {n : Nat} (h : n < 256) : nI n &&& 15 = nI (n % 16) ∧ nI n - nI n / 16 * 16 = nI (n % 16) := ⟨pk_andN (by omega) 4 rfl, pk_rem (d := 16) (by omega) (by decide) (by decide)⟩
theorem ab_n15 : ∀ n, n < 256 → (nI n ^^^ (-1)) &&& 15 = 15 - (nI n - nI n / 16 * 16) := by decide +kernel
theorem ab_c01 {c : Int32} (h : ab_bo c) : ∃ k, k < 2 ∧ c = nI k := h.elim (fun e => ⟨0, by decide, e⟩) (fun e => ⟨1, by decide, e⟩)
theorem ab_and_by {a b : Int32} (ha : ab_by a) : ab_by (a &&& b) := by
  obtain ⟨n, hn, rfl⟩ := ha
  refine ⟨n &&& b.toBitVec.toNat, Nat.lt_of_le_of_lt Nat.and_le_left hn, ?_⟩
  apply Int32.toBitVec_inj.mp; apply BitVec.eq_of_toNat_eq
  rw [Int32.toBitVec_and, BitVec.toNat_and, pk_tn (by omega), pk_tn (Nat.lt_of_le_of_lt Nat.and_le_left (by omega))]
theorem ab_or_by {a b : Int32} (ha : ab_by a) (hb : ab_by b) : ab_by (a ||| b) := by
  obtain ⟨n, hn, rfl⟩ := ha
  obtain ⟨m, hm, rfl⟩ := hb
  exact ⟨n ||| m, Nat.or_lt_two_pow (n := 8) hn hm, ab_nor (by omega) (by omega)⟩
theorem ab_xor_by {a b : Int32} (ha : ab_by a) (hb : ab_by b) : ab_by (a ^^^ b) := by
  obtain ⟨n, hn, rfl⟩ := ha
  obtain ⟨m, hm, rfl⟩ := hb
  have h8 : n ^^^ m < 256 := Nat.xor_lt_two_pow (n := 8) hn hm
  refine ⟨n ^^^ m, h8, ?_⟩
  apply Int32.toBitVec_inj.mp; apply BitVec.eq_of_toNat_eq
  rw [Int32.toBitVec_xor, BitVec.toNat_xor, pk_tn (by omega), pk_tn (by omega), pk_tn (by omega)]
section EQ
variable {bd : Nat → Nat} {jc : Int32 → Int32 → Int32 → Prop} {u v : SS}
theorem ab_Q_ca (h : ab_Q bd jc u v) : f_Arithmetic_carry u = v 0 8 ∧ ab_bo (v 0 8) := by
  unfold f_Arithmetic_carry
  have hk := h.2.1.2 8 (by decide) (by decide)
  rw [h.2.1.1, ab_FL_e]
  exact ⟨(ab_FLc (x := 0) hk).1, hk⟩
theorem ab_sum (h : ab_Q bd jc u v) {a x c : Int32} (ha : ab_by a) (hx : ab_by x) (hc : ab_bo c) :
    ab_Q bd jc (f_Arithmetic_sum u a x c).2 (f_MD_result (stt (stt v 0 8 (if ((a + x) + c) ≤ 255 then 0 else 1 : Int32)) 0 6 (if (((a - a / 16 * 16) + (x - x / 16 * 16)) + c) ≤ 15 then 0 else 1 : Int32)) ((a + x) + c)).2 := by
  obtain ⟨n, hn, rfl⟩ := ha
  obtain ⟨m, hm, rfl⟩ := hx
  obtain ⟨k, hk, rfl⟩ := ab_c01 hc
  unfold f_Arithmetic_sum
  dsimp only
  rw [(ab_r16 hn).1, (ab_r16 hn).2, (ab_r16 hm).1, (ab_r16 hm).2, nI_add, nI_add, nI_add, nI_add]
  have h1 := ab_h16 (n % 16 + m % 16 + k) (by omega)
  have h2 : ((if nI (n + m + k) ≤ 255 then 0 else 1 : Int32) = 0 ∧ nI (n + m + k) >>> ((8 : Int32) &&& 31) = 0) ∨ ((if nI (n + m + k) ≤ 255 then 0 else 1 : Int32) = 1 ∧ nI (n + m + k) >>> ((8 : Int32) &&& 31) = 1) := by
    rw [pk_shrN (by omega) _ 8 (by decide)]
    by_cases q : n + m + k ≤ 255
    · rw [if_pos (show nI (n + m + k) ≤ 255 from (nI_leI (b := 255) (by omega) (by decide)).mpr q), show (n + m + k) / 2 ^ 8 = 0 by omega]; exact Or.inl ⟨rfl, rfl⟩
    · rw [if_neg (show ¬ nI (n + m + k) ≤ 255 from fun z => q ((nI_leI (b := 255) (by omega) (by decide)).mp z)), show (n + m + k) / 2 ^ 8 = 1 by omega]; exact Or.inr ⟨rfl, rfl⟩
  exact ab_Q_res h (h1.elim (fun z => Or.inl z.1) (fun z => Or.inr z.1)) (h2.elim (fun z => Or.inl z.1) (fun z => Or.inr z.1)) (ab_rfl (ab_m8b _) h1 h2)
theorem ab_dif (h : ab_Q bd jc u v) {a x c : Int32} (ha : ab_by a) (hx : ab_by x) (hc : ab_bo c) :
    ab_Q bd jc (f_Arithmetic_difference u a x c).2 (f_MD_result (stt (stt v 0 8 (if 0 ≤ ((a - x) - c) then 0 else 1 : Int32)) 0 6 (if ((((a - a / 16 * 16) + (15 - (x - x / 16 * 16))) + 1) - c) ≤ 15 then 0 else 1 : Int32)) ((a - x) - c)).2 := by
  obtain ⟨n, hn, rfl⟩ := ha
  obtain ⟨m, hm, rfl⟩ := hx
  obtain ⟨k, hk, rfl⟩ := ab_c01 hc
  unfold f_Arithmetic_difference
  dsimp only
  rw [ab_n15 m hm, (ab_r16 hn).1, (ab_r16 hn).2, (ab_r16 hm).2, show (15 : Int32) - nI (m % 16) = nI (15 - m % 16) from pk_sub (a := 15) (by omega), nI_add, nI_1, pk_sub (a := n % 16 + (15 - m % 16) + 1) (by omega)]
  have h1 := ab_h16 (n % 16 + (15 - m % 16) + 1 - k) (by omega)
  have h2 : ((if 0 ≤ nI n - nI m - nI k then 0 else 1 : Int32) = 0 ∧ (if 0 ≤ nI n - nI m - nI k then 0 else 1 : Int32) = 0) ∨ ((if 0 ≤ nI n - nI m - nI k then 0 else 1 : Int32) = 1 ∧ (if 0 ≤ nI n - nI m - nI k then 0 else 1 : Int32) = 1) := by
    split
    · exact Or.inl ⟨rfl, rfl⟩
    · exact Or.inr ⟨rfl, rfl⟩
  exact ab_Q_res h (h1.elim (fun z => Or.inl z.1) (fun z => Or.inr z.1)) (h2.elim (fun z => Or.inl z.1) (fun z => Or.inr z.1)) (ab_rfl (ab_m8b _) h1 h2)
theorem ab_log (h : ab_Q bd jc u v) {r a hh : Int32} (hr : ab_by r) (h1 : (hh = 0 ∧ a = 0) ∨ (hh = 1 ∧ a = 16)) : ab_Q bd jc (f_Arithmetic_logical u r a).2 (f_MD_result (stt (stt v 0 8 0) 0 6 hh) r).2 := by
  unfold f_Arithmetic_logical
  dsimp only
  refine ab_Q_res h (h1.elim (fun z => Or.inl z.1) (fun z => Or.inr z.1)) ab_bo0 ?_
  rw [ab_m8by hr, ← ab_rfl (u := u) hr h1 (Or.inl ⟨rfl, rfl⟩)]
  exact (Int32.or_zero).symm
theorem ab_res1 (v : SS) (x : Int32) : (f_MD_result v x).1 = x &&& 255 := by rw [ab_res]
theorem ab_Qr (h : ab_Q bd jc u v) (k : Nat) (hk : k < 8) : u 2 k = v 2 k ∧ ab_by (v 2 k) := ⟨(h.2.2.2.2.2.1 k hk).1, (h.2.2.2.2.2.1 k hk).1 ▸ (h.2.2.2.2.2.1 k hk).2⟩
theorem ab_and8 {t : Int32} : ((if (t &&& 8) = 0 then 0 else 1 : Int32) = 0 ∧ (t &&& 8) * 2 = 0) ∨ ((if (t &&& 8) = 0 then 0 else 1 : Int32) = 1 ∧ (t &&& 8) * 2 = 16) := by
  have e : t &&& 8 = (t &&& 15) &&& 8 := by rw [Int32.and_assoc]; rfl
  rw [e, pk_and t 4 rfl]
  have hj : t.toBitVec.toNat % 2 ^ 4 < 16 := Nat.mod_lt _ (by decide)
  exact (show ∀ j, j < 16 → (((if (nI j &&& 8) = 0 then 0 else 1 : Int32) = 0 ∧ (nI j &&& 8) * 2 = 0) ∨ ((if (nI j &&& 8) = 0 then 0 else 1 : Int32) = 1 ∧ (nI j &&& 8) * 2 = 16)) by decide +kernel) _ hj
theorem ab_operate (h : ab_Q bd jc u v) {y : Nat} (hy : y < 8) {x : Int32} (hx : ab_by x) : ab_Q bd jc (f_Arithmetic_operate u (nI y) x) (f_MD_operate v (nI y) x) := by
  have ra := ab_Qr h 7 (by decide)
  have rc := ab_Q_ca h
  have k1 : (if v 0 8 = 0 then 0 else 1 : Int32) = v 0 8 := by rcases rc.2 with e | e <;> rw [e] <;> rfl
  have k0 : (if v 0 8 = 0 then 0 else 0 : Int32) = 0 := by split <;> rfl
  unfold f_Arithmetic_operate f_MD_operate
  rw [ra.1, rc.1]
  match y, hy with
  | 0, _ =>
    simp (decide := true) only [↓reduceIte, k0, k1]
    exact ab_Q_reg (ab_sum h ra.2 hx ab_bo0) 7 (ab_m8b _) (ab_res1 _ _)
  | 1, _ =>
    simp (decide := true) only [↓reduceIte, k0, k1]
    exact ab_Q_reg (ab_sum h ra.2 hx rc.2) 7 (ab_m8b _) (ab_res1 _ _)
  | 2, _ =>
    simp (decide := true) only [↓reduceIte, k0, k1]
    exact ab_Q_reg (ab_dif h ra.2 hx ab_bo0) 7 (ab_m8b _) (ab_res1 _ _)
  | 3, _ =>
    simp (decide := true) only [↓reduceIte, k0, k1]
    exact ab_Q_reg (ab_dif h ra.2 hx rc.2) 7 (ab_m8b _) (ab_res1 _ _)
  | 4, _ =>
    simp (decide := true) only [↓reduceIte, k0, k1]
    exact ab_Q_reg (ab_log h (ab_and_by ra.2) ab_and8) 7 (ab_and_by ra.2) ((ab_res1 _ _).trans (ab_m8by (ab_and_by ra.2)))
  | 5, _ =>
    simp (decide := true) only [↓reduceIte, k0, k1]
    exact ab_Q_reg (ab_log h (ab_xor_by ra.2 hx) (Or.inl ⟨rfl, rfl⟩)) 7 (ab_xor_by ra.2 hx) ((ab_res1 _ _).trans (ab_m8by (ab_xor_by ra.2 hx)))
  | 6, _ =>
    simp (decide := true) only [↓reduceIte, k0, k1]
    exact ab_Q_reg (ab_log h (ab_or_by ra.2 hx) (Or.inl ⟨rfl, rfl⟩)) 7 (ab_or_by ra.2 hx) ((ab_res1 _ _).trans (ab_m8by (ab_or_by ra.2 hx)))
  | 7, _ =>
    simp (decide := true) only [↓reduceIte, k0, k1]
    have q := ab_dif h ra.2 hx ab_bo0
    have e : v 2 7 = (f_MD_result (stt (stt v 0 8 (if 0 ≤ ((v 2 7 - x) - 0) then 0 else 1 : Int32)) 0 6 (if ((((v 2 7 - v 2 7 / 16 * 16) + (15 - (x - x / 16 * 16))) + 1) - 0) ≤ 15 then 0 else 1 : Int32)) ((v 2 7 - x) - 0)).2 2 7 := by
      rw [ab_res]; simp only [stt_ap]; rfl
    rw [← stt_id (u := (f_MD_result _ _).2) (a := 2) (k := 7), ← e] at q
    exact q
end EQ

theorem ab_tu0 : ∀ n, n < 256 → (((nI n <<< ((1 : Int32) &&& 31)) ||| (nI n >>> ((7 : Int32) &&& 31))) &&& 255 = ((2 * nI n) - (2 * nI n) / 256 * 256) + (nI n >>> ((7 : Int32) &&& 31)) ∧ (nI n >>> ((7 : Int32) &&& 31)) &&& 1 = (if (nI n >>> ((7 : Int32) &&& 31)) = 1 then 1 else 0 : Int32)) := by decide +kernel
theorem ab_tu1 : ∀ n, n < 256 → (((nI n >>> ((1 : Int32) &&& 31)) ||| (nI n <<< ((7 : Int32) &&& 31))) &&& 255 = (nI n / 2) + (128 * (nI n &&& 1)) ∧ nI n &&& 1 = (if (nI n &&& 1) = 1 then 1 else 0 : Int32)) := by decide +kernel
theorem ab_tu2 : ∀ n, n < 256 → ∀ k, k < 2 → ((nI n <<< ((1 : Int32) &&& 31)) ||| nI k) &&& 255 = ((2 * nI n) - (2 * nI n) / 256 * 256) + (if nI k = 0 then 0 else 1 : Int32) := by decide +kernel
theorem ab_tu3 : ∀ n, n < 256 → ∀ k, k < 2 → ((nI n >>> ((1 : Int32) &&& 31)) ||| (nI k <<< ((7 : Int32) &&& 31))) &&& 255 = (nI n / 2) + (128 * (if nI k = 0 then 0 else 1 : Int32)) := by decide +kernel
theorem ab_tu5 : ∀ n, n < 256 → nI n ^^^ 255 = 255 - nI n ∧ (nI n ^^^ 255) &&& 255 = nI n ^^^ 255 := by decide +kernel
section EQ
variable {bd : Nat → Nat} {jc : Int32 → Int32 → Int32 → Prop} {u v : SS}
theorem ab_and1 (x : Int32) : ab_bo (x &&& 1) := by
  obtain ⟨j, hj, e⟩ := pk_andE x (m := 1) 1 rfl
  rw [e]
  rcases (show j = 0 ∨ j = 1 by omega) with rfl | rfl
  · exact Or.inl rfl
  · exact Or.inr rfl
theorem ab_setC (h : ab_Q bd jc u v) {x k : Int32} (e : x &&& 1 = k) : ab_Q bd jc (f_Arithmetic_setCarry u x) (stt v 0 8 k) := by
  subst e
  unfold f_Arithmetic_setCarry
  have b := h.2.1.2
  refine ab_Q_fl h (fun b j hn => stt_n (by omega)) ?_ (ab_bo5 (stt_k (by decide)) (stt_k (by decide)) (stt_k (by decide)) (stt_k (by decide)) (stt_s _ _ _ _) (b 4 (by decide) (by decide)) (b 5 (by decide) (by decide)) (b 6 (by decide) (by decide)) (b 7 (by decide) (by decide)) (ab_and1 x))
  rw [h.2.1.1, ab_FL_e, ab_FL_e, stt_s, stt_k (by decide), stt_k (by decide), stt_k (by decide), stt_k (by decide)]
  exact (ab_FLc (b 8 (by decide) (by decide))).2
theorem ab_turn (h : ab_Q bd jc u v) {y : Nat} (hy : y < 8) (h4 : y ≠ 4) : ab_Q bd jc (f_Arithmetic_turn u (nI y)) (f_MD_turnA v (nI y)) := by
  have ra := ab_Qr h 7 (by decide)
  have rc := ab_Q_ca h
  unfold f_Arithmetic_turn f_MD_turnA
  rw [ra.1, rc.1]
  obtain ⟨n, hn, e⟩ := ra.2
  obtain ⟨k, hk, ek⟩ := ab_c01 rc.2
  match y, hy with
  | 0, _ =>
    simp (decide := true) only [↓reduceIte]
    unfold f_Arithmetic_turnTo
    rw [e]
    exact ab_setC (ab_Q_reg h 7 (ab_m8b _) (ab_tu0 n hn).1.symm) (ab_tu0 n hn).2
  | 1, _ =>
    simp (decide := true) only [↓reduceIte]
    unfold f_Arithmetic_turnTo
    rw [e]
    exact ab_setC (ab_Q_reg h 7 (ab_m8b _) (ab_tu1 n hn).1.symm) (ab_tu1 n hn).2
  | 2, _ =>
    simp (decide := true) only [↓reduceIte]
    unfold f_Arithmetic_turnTo
    rw [e, ek]
    exact ab_setC (ab_Q_reg h 7 (ab_m8b _) (ab_tu2 n hn k hk).symm) (ab_tu0 n hn).2
  | 3, _ =>
    simp (decide := true) only [↓reduceIte]
    unfold f_Arithmetic_turnTo
    rw [e, ek]
    exact ab_setC (ab_Q_reg h 7 (ab_m8b _) (ab_tu3 n hn k hk).symm) (ab_tu1 n hn).2
  | 5, _ =>
    simp (decide := true) only [↓reduceIte]
    rw [e]
    exact ab_Q_reg h 7 ((ab_tu5 n hn).2 ▸ ab_m8b _) (ab_tu5 n hn).1.symm
  | 6, _ =>
    simp (decide := true) only [↓reduceIte]
    exact ab_setC h rfl
  | 7, _ =>
    simp (decide := true) only [↓reduceIte]
    refine ab_setC h ?_
    rcases rc.2 with q | q <;> rw [q] <;> rfl
def ab_v0 (a h : Int32) : Int32 := if 9 < (a - a / 16 * 16) then 6 else (if h = 0 then 0 else 6 : Int32)
def ab_mo (a k : Int32) : Int32 := if 153 < a then 1 else (if k = 0 then 0 else 1 : Int32)
def ab_va (a h k : Int32) : Int32 := if ab_mo a k = 0 then ab_v0 a h else ab_v0 a h + 96
theorem ab_v0c (a h : Int32) : ab_v0 a h = 6 ∨ ab_v0 a h = 0 := by
  unfold ab_v0; split
  · exact Or.inl rfl
  · split
    · exact Or.inr rfl
    · exact Or.inl rfl
theorem ab_vac (a h k : Int32) : ∃ m, m < 128 ∧ ab_va a h k = nI m := by
  unfold ab_va
  rcases ab_v0c a h with e | e <;> rw [e] <;> split
  · exact ⟨6, by decide, rfl⟩
  · exact ⟨102, by decide, rfl⟩
  · exact ⟨0, by decide, rfl⟩
  · exact ⟨96, by decide, rfl⟩
theorem ab_adj_c (h : ab_Q bd jc u v) : f_Arithmetic_adjust u = g_Arithmetic_adjust_60 u (v 2 7) (ab_mo (v 2 7) (v 0 8)) (ab_va (v 2 7) (v 0 6) (v 0 8)) := by
  have ra := ab_Qr h 7 (by decide)
  have rc := ab_Q_ca h
  have b := h.2.1.2
  have hf := (ab_FLt (b 4 (by decide) (by decide)) (b 5 (by decide) (by decide)) (b 6 (by decide) (by decide)) (b 7 (by decide) (by decide)) (b 8 (by decide) (by decide))).2.2.2.2
  have e43 : ∀ w, g_Arithmetic_adjust_43 u (v 2 7) (v 0 8) w = g_Arithmetic_adjust_60 u (v 2 7) (ab_mo (v 2 7) (v 0 8)) (if ab_mo (v 2 7) (v 0 8) = 0 then w else w + 96) := by
    intro w
    unfold g_Arithmetic_adjust_43 ab_mo
    by_cases q : 153 < v 2 7
    · simp only [if_pos q]; rfl
    · simp only [if_neg q]
      rcases rc.2 with e | e <;> rw [e] <;> rfl
  unfold f_Arithmetic_adjust
  rw [ra.1, rc.1, h.2.1.1, ab_FL_e, e43, e43]
  obtain ⟨n, hn, en⟩ := ra.2
  unfold ab_va ab_v0
  rw [en, (ab_r16 hn).1, (ab_r16 hn).2]
  by_cases q : (9 : Int32) < nI (n % 16)
  · simp only [if_pos q]
  · simp only [if_neg q]
    by_cases q2 : v 0 6 = 0
    · rw [if_pos (hf.mpr q2), if_pos q2]
    · rw [if_neg (fun z => q2 (hf.mp z)), if_neg q2]
theorem ab_adj_m (v : SS) : f_MD_turnA v 4 = stt (f_MD_result (stt (stt v 0 8 (if v 0 8 = 0 then (if ab_mo (v 2 7) (v 0 8) = 0 then 0 else 1 : Int32) else 1 : Int32)) 0 6 (if ((v 2 7 - v 2 7 / 16 * 16) + (ab_va (v 2 7) (v 0 6) (v 0 8) - ab_va (v 2 7) (v 0 6) (v 0 8) / 16 * 16)) ≤ 15 then 0 else 1 : Int32)) (v 2 7 + ab_va (v 2 7) (v 0 6) (v 0 8))).2 2 7 (f_MD_result (stt (stt v 0 8 (if v 0 8 = 0 then (if ab_mo (v 2 7) (v 0 8) = 0 then 0 else 1 : Int32) else 1 : Int32)) 0 6 (if ((v 2 7 - v 2 7 / 16 * 16) + (ab_va (v 2 7) (v 0 6) (v 0 8) - ab_va (v 2 7) (v 0 6) (v 0 8) / 16 * 16)) ≤ 15 then 0 else 1 : Int32)) (v 2 7 + ab_va (v 2 7) (v 0 6) (v 0 8))).1 := by
  unfold f_MD_turnA
  simp (decide := true) only [↓reduceIte]
  rfl
theorem ab_adjust (h : ab_Q bd jc u v) : ab_Q bd jc (f_Arithmetic_adjust u) (f_MD_turnA v 4) := by
  rw [ab_adj_c h, ab_adj_m]
  have ra := ab_Qr h 7 (by decide)
  have rc := ab_Q_ca h
  obtain ⟨m, hm, em⟩ := ab_vac (v 2 7) (v 0 6) (v 0 8)
  obtain ⟨n, hn, en⟩ := ra.2
  have emo : (if v 0 8 = 0 then (if ab_mo (v 2 7) (v 0 8) = 0 then 0 else 1 : Int32) else 1 : Int32) = ab_mo (v 2 7) (v 0 8) ∧ ab_bo (ab_mo (v 2 7) (v 0 8)) := by
    unfold ab_mo
    by_cases q : 153 < v 2 7
    · simp only [if_pos q]; refine ⟨?_, ab_bo1⟩; split <;> rfl
    · simp only [if_neg q]; rcases rc.2 with e | e <;> rw [e]
      · exact ⟨rfl, ab_bo0⟩
      · exact ⟨rfl, ab_bo1⟩
  rw [emo.1]
  generalize hk : ab_mo (v 2 7) (v 0 8) = k at *
  have hkb := emo.2
  unfold g_Arithmetic_adjust_60
  rw [stt_comm (by decide), em, en, (ab_r16 hn).1, (ab_r16 hn).2, (ab_r16 (show m < 256 by omega)).1, (ab_r16 (show m < 256 by omega)).2, nI_add, nI_add]
  have h1 := ab_h16 (n % 16 + m % 16) (by omega)
  refine ab_Q_reg (ab_Q_res h (h1.elim (fun z => Or.inl z.1) (fun z => Or.inr z.1)) hkb ?_) 7 (ab_m8b _) (ab_res1 _ _)
  exact ab_rfl (ab_m8b _) h1 (hkb.elim (fun z => Or.inl ⟨z, z⟩) (fun z => Or.inr ⟨z, z⟩))
theorem ab_i15 : ∀ t, t < 16 → (((if nI t = 15 then 1 else 0 : Int32) = 0 ∧ (nI t + 1) &&& 16 = 0) ∨ ((if nI t = 15 then 1 else 0 : Int32) = 1 ∧ (nI t + 1) &&& 16 = 16)) := by decide +kernel
theorem ab_d15 : ∀ t, t < 16 → (((if nI t ≤ 0 then 0 else 1 : Int32) = 0 ∧ (if nI t = 0 then 0 else 16 : Int32) = 0) ∨ ((if nI t ≤ 0 then 0 else 1 : Int32) = 1 ∧ (if nI t = 0 then 0 else 16 : Int32) = 16)) := by decide +kernel
theorem ab_more (h : ab_Q bd jc u v) {x : Int32} (hx : ab_by x) : ab_Q bd jc (f_Arithmetic_oneMore u x).2 (f_MD_result (stt v 0 6 (if (x - x / 16 * 16) = 15 then 1 else 0 : Int32)) (x + 1)).2 ∧ (f_Arithmetic_oneMore u x).1 = (x + 1) &&& 255 := by
  refine ⟨?_, rfl⟩
  have rc := ab_Q_ca h
  obtain ⟨n, hn, rfl⟩ := hx
  unfold f_Arithmetic_oneMore
  dsimp only
  rw [rc.1, (ab_r16 hn).1, (ab_r16 hn).2]
  have h1 := ab_i15 (n % 16) (by omega)
  have q := ab_Q_res (x := nI n + 1) h (h1.elim (fun z => Or.inl z.1) (fun z => Or.inr z.1)) rc.2 (ab_rfl (u := u) (ab_m8b _) h1 (rc.2.elim (fun z => Or.inl ⟨z, z⟩) (fun z => Or.inr ⟨z, z⟩)))
  rw [stt_id] at q
  exact q
theorem ab_less (h : ab_Q bd jc u v) {x : Int32} (hx : ab_by x) : ab_Q bd jc (f_Arithmetic_oneLess u x).2 (f_MD_result (stt v 0 6 (if (x - x / 16 * 16) ≤ 0 then 0 else 1 : Int32)) (x - 1)).2 ∧ (f_Arithmetic_oneLess u x).1 = (x - 1) &&& 255 := by
  refine ⟨?_, rfl⟩
  have rc := ab_Q_ca h
  obtain ⟨n, hn, rfl⟩ := hx
  unfold f_Arithmetic_oneLess
  dsimp only
  rw [rc.1, (ab_r16 hn).1, (ab_r16 hn).2]
  have h1 := ab_d15 (n % 16) (by omega)
  have q := ab_Q_res (x := nI n - 1) h (h1.elim (fun z => Or.inl z.1) (fun z => Or.inr z.1)) rc.2 (ab_rfl (u := u) (ab_m8b _) h1 (rc.2.elim (fun z => Or.inl ⟨z, z⟩) (fun z => Or.inr ⟨z, z⟩)))
  rw [stt_id] at q
  exact q
theorem ab_sp_c {k : Nat} {x z : Int32} : f_MD_setPair (stt v 0 8 z) (nI 2) x = stt (f_MD_setPair v (nI 2) x) 0 8 z := by
  unfold f_MD_setPair
  simp (decide := true) only [↓reduceIte]
  rw [stt_comm (u := v) (a := 0) (b := 2) (by omega), stt_comm (a := 0) (b := 2) (by omega)]
theorem ab_grow (h : ab_Q bd jc u v) (hb : bd 1 = 65536) {x : Int32} (hx : ab_wd x) : ab_Q bd jc (f_Arithmetic_growHL u x) (f_MD_setPair (stt v 0 8 (if (f_MD_pair v 2 + x) ≤ 65535 then 0 else 1 : Int32)) 2 (f_MD_pair v 2 + x)) := by
  obtain ⟨e, hw⟩ := ab_pair h (by omega) (show 2 < 4 by decide)
  have e2 : ((u 2 4) <<< ((8 : Int32) &&& 31)) ||| (u 2 5) = f_MD_pair v 2 := by rw [show (2 : Int32) = nI 2 from rfl, ← e]; rfl
  unfold f_Arithmetic_growHL
  rw [e2]
  rw [show (2 : Int32) = nI 2 from rfl] at *
  rw [ab_sp_c (k := 2)]
  refine ab_setC ?_ ?_
  · exact ab_setPair h (by omega) (show 2 < 4 by decide) _
  · obtain ⟨m, hm, em⟩ := hw
    obtain ⟨n, hn, rfl⟩ := hx
    rw [em, nI_add, pk_shrN (by omega) _ 16 (by decide)]
    by_cases q : m + n ≤ 65535
    · rw [if_pos (show nI (m + n) ≤ 65535 from (nI_leI (b := 65535) (by omega) (by decide)).mpr q), show (m + n) / 2 ^ 16 = 0 by omega]; rfl
    · rw [if_neg (show ¬ nI (m + n) ≤ 65535 from fun z => q ((nI_leI (b := 65535) (by omega) (by decide)).mp z)), show (m + n) / 2 ^ 16 = 1 by omega]; rfl
end EQ

/-! the reference's methods leave 'states' as it is -/
section FR
variable {v : SS}
theorem fr_write {x y : Int32} : f_MD_write v x y 0 24 = v 0 24 := ab_wr_a (by decide)
theorem fr_next : (f_MD_next v).2 0 24 = v 0 24 := by unfold f_MD_next; dsimp only; rw [stt_k (by decide)]
theorem fr_nextWord : (f_MD_nextWord v).2 0 24 = v 0 24 := (fr_next (v := (f_MD_next v).2)).trans fr_next
theorem fr_setPair {k x : Int32} : f_MD_setPair v k x 0 24 = v 0 24 := by
  unfold f_MD_setPair; split
  · exact stt_k (by decide)
  · rw [stt_a (by decide), stt_a (by decide)]
theorem fr_set {k x : Int32} : f_MD_set v k x 0 24 = v 0 24 := by
  unfold f_MD_set; split
  · exact fr_write
  · exact stt_a (by decide)
theorem fr_push {x : Int32} : f_MD_push v x 0 24 = v 0 24 := by
  unfold f_MD_push; rw [stt_k (by decide), fr_write, fr_write]
theorem fr_pop : (f_MD_pop v).2 0 24 = v 0 24 := by unfold f_MD_pop; dsimp only; rw [stt_k (by decide)]
theorem fr_result {x : Int32} : (f_MD_result v x).2 0 24 = v 0 24 := by rw [ab_res]; dsimp only; rw [stt_k (by decide), stt_k (by decide), stt_k (by decide)]
theorem fr_setFlags {x : Int32} : f_MD_setFlags v x 0 24 = v 0 24 := by
  unfold f_MD_setFlags; rw [stt_k (by decide), stt_k (by decide), stt_k (by decide), stt_k (by decide), stt_k (by decide)]
theorem fr_operate {k x : Int32} : f_MD_operate v k x 0 24 = v 0 24 := by
  unfold f_MD_operate
  split
  · split
    · rw [stt_a (by decide), fr_result, stt_k (by decide), stt_k (by decide)]
    · split
      · rw [stt_a (by decide), fr_result, stt_k (by decide), stt_k (by decide)]
      · rw [stt_a (by decide), fr_result, stt_k (by decide), stt_k (by decide)]
  · rw [stt_a (by decide), fr_result, stt_k (by decide), stt_k (by decide)]
theorem fr_turnA {k : Int32} : f_MD_turnA v k 0 24 = v 0 24 := by
  unfold f_MD_turnA
  split
  · rw [stt_k (by decide), stt_a (by decide)]
  · split
    · rw [stt_k (by decide), stt_a (by decide)]
    · split
      · rw [stt_k (by decide), stt_a (by decide)]
      · split
        · rw [stt_k (by decide), stt_a (by decide)]
        · split
          · rw [stt_a (by decide), fr_result, stt_k (by decide), stt_k (by decide)]
          · split
            · rw [stt_a (by decide)]
            · rw [stt_k (by decide)]
theorem fr_out86 (k : Nat) : ∀ (v : SS) (a b c d : Int32), g_MD_out_86 k v a b c d 0 24 = v 0 24 := by
  induction k with
  | zero => intro v a b c d; rfl
  | succ k ih =>
    intro v a b c d
    rw [g_MD_out_86]
    split
    · rw [stt_k (by decide), stt_k (by decide)]
    · split
      · split
        · rw [ih, stt_k (by decide), stt_a (by decide)]
        · rw [ih]
      · rw [ih]
theorem fr_out {a b : Int32} : f_MD_out v a b 0 24 = v 0 24 := by
  unfold f_MD_out
  split
  · exact stt_k (by decide)
  · split
    · exact stt_k (by decide)
    · split
      · exact stt_k (by decide)
      · split
        · exact fr_out86 _ _ _ _ _ _
        · split
          · exact fr_out86 _ _ _ _ _ _
          · rfl
end FR
theorem ab_half2 {y : Nat} (hy : y < 8) : nI y / 2 = nI (y / 2) ∧ nI y - nI y / 2 * 2 = nI (y % 2) := ⟨pk_div (d := 2) (by omega) (by decide) (by decide), pk_rem (d := 2) (by omega) (by decide) (by decide)⟩
theorem ab_n2 {k : Nat} (hk : k < 2) : nI k = 0 ↔ k = 0 := nI_eq (b := 0) (by omega) (by decide)
section EQ
variable {bd : Nat → Nat} {jc : Int32 → Int32 → Int32 → Prop} {u v : SS}
theorem ab_holds (h : ab_Q bd jc u v) {y : Nat} (hy : y < 8) : f_Processor_holds u (nI y) = f_MD_holds v (nI y) := by
  have b := h.2.1.2
  obtain ⟨hz, hk, hp, hs, _⟩ := ab_FLt (b 4 (by decide) (by decide)) (b 5 (by decide) (by decide)) (b 6 (by decide) (by decide)) (b 7 (by decide) (by decide)) (b 8 (by decide) (by decide))
  unfold f_Processor_holds f_MD_holds
  rw [h.2.1.1, ab_FL_e, hz, hk, hp, hs]
  match y, hy with
  | 0, _ => simp (decide := true) only [↓reduceIte]
  | 1, _ => simp (decide := true) only [↓reduceIte]
  | 2, _ => simp (decide := true) only [↓reduceIte]
  | 3, _ => simp (decide := true) only [↓reduceIte]
  | 4, _ => simp (decide := true) only [↓reduceIte]
  | 5, _ => simp (decide := true) only [↓reduceIte]
  | 6, _ => simp (decide := true) only [↓reduceIte]
  | 7, _ => simp (decide := true) only [↓reduceIte]
theorem ab_holds_s {k : Nat} {x y : Int32} (hk : k < 4 ∨ 8 < k) : f_MD_holds (stt v 0 k x) y = f_MD_holds v y := by
  unfold f_MD_holds; rw [stt_k (j := 4) (by omega), stt_k (j := 5) (by omega), stt_k (j := 7) (by omega), stt_k (j := 8) (by omega)]
/-- what an operation gives: the states that it takes, and the new state -/
def ab_P (bd : Nat → Nat) (jc : Int32 → Int32 → Int32 → Prop) (c : Int32 × SS) (w : SS) : Prop := ab_Q bd jc c.2 w ∧ c.1 = w 0 24
theorem ab_P_mk {c : Int32} {w : SS} (h : ab_Q bd jc u w) (e : w 0 24 = c) : ab_P bd jc (c, u) w := ⟨h, e.symm⟩
theorem ab_Q_st (h : ab_Q bd jc u v) (x : Int32) : ab_Q bd jc u (stt v 0 24 x) := ab_Q_own h 24 x (Or.inr (Or.inr rfl))
theorem ab_data2 (h : ab_Q bd jc u v) (h1 : bd 1 = 65536) (h2 : bd 2 = 65536) {y : Nat} (hy : y < 8) : ab_P bd jc (f_Processor_moveByAddress u (nI y)) (f_MD_carry v (nI y)) := by
  unfold f_Processor_moveByAddress f_MD_carry
  have q7 := ab_Q_st h 7
  match y, hy with
  | 0, _ =>
    simp (decide := true) only [↓reduceIte]
    rw [show nI 0 / 2 = nI 0 from rfl, (ab_pair q7 (by omega) (show 0 < 4 by decide)).1, (ab_Qr h 7 (by decide)).1]
    exact ab_P_mk (ab_put q7 rfl) (by rw [fr_write, stt_s])
  | 1, _ =>
    simp (decide := true) only [↓reduceIte]
    rw [show nI 1 / 2 = nI 0 from rfl, (ab_pair q7 (by omega) (show 0 < 4 by decide)).1, (ab_at q7 _).1]
    exact ab_P_mk (ab_Q_reg q7 7 (ab_at q7 _).2 rfl) (by rw [stt_a (by decide), stt_s])
  | 2, _ =>
    simp (decide := true) only [↓reduceIte]
    rw [show nI 2 / 2 = nI 1 from rfl, (ab_pair q7 (by omega) (show 1 < 4 by decide)).1, (ab_Qr h 7 (by decide)).1]
    exact ab_P_mk (ab_put q7 rfl) (by rw [fr_write, stt_s])
  | 3, _ =>
    simp (decide := true) only [↓reduceIte]
    rw [show nI 3 / 2 = nI 1 from rfl, (ab_pair q7 (by omega) (show 1 < 4 by decide)).1, (ab_at q7 _).1]
    exact ab_P_mk (ab_Q_reg q7 7 (ab_at q7 _).2 rfl) (by rw [stt_a (by decide), stt_s])
  | 4, _ =>
    simp (decide := true) only [↓reduceIte]
    obtain ⟨e, hw, q⟩ := ab_nextWord h (by omega)
    have qs := ab_Q_st q 16
    have r4 := ab_Qr q 4 (by decide)
    have r5 := ab_Qr q 5 (by decide)
    unfold f_Memory_putWord
    rw [ab_wr_a (by decide), stt_a (show (2 : Nat) ≠ 0 by decide), e, show (2 : Int32) = nI 2 from rfl, (ab_pair q (by omega) (show 2 < 4 by decide)).1]
    have pe : f_MD_pair (f_MD_nextWord v).2 (nI 2) = 256 * (f_MD_nextWord v).2 2 4 + (f_MD_nextWord v).2 2 5 := rfl
    obtain ⟨a, ha, ea⟩ := r4.2
    obtain ⟨b, hb, eb⟩ := r5.2
    have pe2 : f_MD_pair (f_MD_nextWord v).2 (nI 2) = nI (256 * a + b) := by rw [pe, ea, eb, show (256 : Int32) = nI 256 from rfl, pk_mul, nI_add]
    refine ab_P_mk (ab_put (ab_put qs ?_) ?_) (by rw [fr_write, fr_write, stt_s])
    · rw [pe2, eb, ab_m8N, ab_m8N]; congr 1; omega
    · rw [pe2, ea, pk_shrN (by omega) _ 8 (by decide)]; congr 2; omega
  | 5, _ =>
    simp (decide := true) only [↓reduceIte]
    obtain ⟨e, hw, q⟩ := ab_nextWord h (by omega)
    have qs := ab_Q_st q 16
    obtain ⟨e2, hw2⟩ := ab_wordAt qs (f_MD_nextWord v).1
    rw [e, e2]
    have a1 := (ab_at qs (f_MD_nextWord v).1).2
    have a2 := (ab_at qs ((f_MD_nextWord v).1 + 1)).2
    obtain ⟨a, ha, ea⟩ := a1
    obtain ⟨b, hb, eb⟩ := a2
    have q2 := ab_setPair qs (by omega) (show 2 < 4 by decide) (f_MD_read (stt (f_MD_nextWord v).2 0 24 16) (f_MD_nextWord v).1 + 256 * f_MD_read (stt (f_MD_nextWord v).2 0 24 16) ((f_MD_nextWord v).1 + 1))
    have ev : f_MD_setPair (stt (f_MD_nextWord v).2 0 24 16) (nI 2) (f_MD_read (stt (f_MD_nextWord v).2 0 24 16) (f_MD_nextWord v).1 + 256 * f_MD_read (stt (f_MD_nextWord v).2 0 24 16) ((f_MD_nextWord v).1 + 1)) = stt (stt (stt (f_MD_nextWord v).2 0 24 16) 2 4 (f_MD_read (stt (f_MD_nextWord v).2 0 24 16) ((f_MD_nextWord v).1 + 1))) 2 5 (f_MD_read (stt (f_MD_nextWord v).2 0 24 16) (f_MD_nextWord v).1) := by
      unfold f_MD_setPair
      simp (decide := true) only [↓reduceIte]
      rw [ab_m16wd hw2, ea, eb, show (256 : Int32) = nI 256 from rfl, pk_mul, nI_add, pk_rem (by omega) (by decide) (by decide), pk_div (by omega) (by decide) (by decide), show (a + 256 * b) / 256 = b by omega, show (a + 256 * b) % 256 = a by omega]
      rfl
    rw [ev] at q2
    exact ab_P_mk q2 (by rw [stt_a (by decide), stt_a (by decide), stt_s])
  | 6, _ =>
    simp (decide := true) only [↓reduceIte]
    obtain ⟨e, hw, q⟩ := ab_nextWord h (by omega)
    rw [e, (ab_Qr q 7 (by decide)).1]
    exact ab_P_mk (ab_put (ab_Q_st q 13) rfl) (by rw [fr_write, stt_s])
  | 7, _ =>
    simp (decide := true) only [↓reduceIte]
    obtain ⟨e, hw, q⟩ := ab_nextWord h (by omega)
    have qs := ab_Q_st q 13
    rw [e, (ab_at qs _).1]
    exact ab_P_mk (ab_Q_reg qs 7 (ab_at qs _).2 rfl) (by rw [stt_a (by decide), stt_s])
theorem ab_low (h : ab_Q bd jc u v) (h1 : bd 1 = 65536) (h2 : bd 2 = 65536) {y z : Nat} (hy : y < 8) (hz : z < 8) : ab_P bd jc (f_Processor_operateOnData u (nI y) (nI z)) (f_MD_lowOperation v (nI y) (nI z)) := by
  unfold f_Processor_operateOnData f_MD_lowOperation
  have hh := ab_half2 hy
  match z, hz with
  | 0, _ => simp (decide := true) only [↓reduceIte]; exact ab_P_mk (ab_Q_st h 4) (stt_s _ _ _ _)
  | 1, _ =>
    simp (decide := true) only [↓reduceIte]
    unfold f_Processor_setOrAddPair
    have qs := ab_Q_st h 10
    rw [hh.2, hh.1]
    by_cases e : y % 2 = 0
    · rw [if_pos ((ab_n2 (by omega)).mpr e), if_pos ((ab_n2 (by omega)).mpr e)]
      obtain ⟨e, hw, q⟩ := ab_nextWord qs (by omega)
      rw [e]
      exact ab_P_mk (ab_setPair q (by omega) (by omega) _) (by rw [fr_setPair, fr_nextWord, stt_s])
    · rw [if_neg (fun z => e ((ab_n2 (by omega)).mp z)), if_neg (fun z => e ((ab_n2 (by omega)).mp z))]
      have p := ab_pair qs (by omega) (show y / 2 < 4 by omega)
      rw [p.1]
      exact ab_P_mk (ab_grow qs h1 p.2) (by rw [fr_setPair, stt_k (by decide), stt_s])
  | 2, _ => simp (decide := true) only [↓reduceIte]; exact ab_data2 h h1 h2 hy
  | 3, _ =>
    simp (decide := true) only [↓reduceIte]
    have qs := ab_Q_st h 5
    rw [hh.2, hh.1, (ab_pair qs (by omega) (show y / 2 < 4 by omega)).1]
    exact ab_P_mk (ab_setPair qs (by omega) (by omega) _) (by rw [fr_setPair, stt_s])
  | 4, _ =>
    simp (decide := true) only [↓reduceIte]
    have qs := ab_Q_st h (if nI y = 6 then 10 else 5 : Int32)
    have g := ab_value qs (by omega) hy
    have m := ab_more qs g.2
    rw [g.1, m.2, ab_res1]
    exact ab_P_mk (ab_set m.1 (by omega) hy _) (by rw [fr_set, fr_result, stt_k (by decide), stt_s])
  | 5, _ =>
    simp (decide := true) only [↓reduceIte]
    have qs := ab_Q_st h (if nI y = 6 then 10 else 5 : Int32)
    have g := ab_value qs (by omega) hy
    have m := ab_less qs g.2
    rw [g.1, m.2, ab_res1]
    exact ab_P_mk (ab_set m.1 (by omega) hy _) (by rw [fr_set, fr_result, stt_k (by decide), stt_s])
  | 6, _ =>
    simp (decide := true) only [↓reduceIte]
    have qs := ab_Q_st h (if nI y = 6 then 10 else 7 : Int32)
    obtain ⟨e, hb, q⟩ := ab_nextByte qs (by omega)
    rw [e]
    exact ab_P_mk (ab_set q (by omega) hy _) (by rw [fr_set, fr_next, stt_s])
  | 7, _ =>
    simp (decide := true) only [↓reduceIte]
    have qs := ab_Q_st h 4
    by_cases e : y = 4
    · subst e
      rw [if_pos (show nI 4 = 4 from rfl)]
      exact ab_P_mk (ab_adjust qs) (by rw [fr_turnA, stt_s])
    · rw [if_neg (show ¬ nI y = 4 from fun z => e ((nI_eq (b := 4) (by omega) (by decide)).mp z))]
      exact ab_P_mk (ab_turn qs hy e) (by rw [fr_turnA, stt_s])
end EQ

/-! one bit of an int -/
theorem ab_bit (x : Int32) {j : Nat} (hj : j < 8) : (x >>> (nI j &&& 31)) &&& 1 = if x.toBitVec.getLsbD j then 1 else 0 := by
  have es : ((nI j &&& 31 : Int32).toBitVec.smod 32).toNat = j := by
    match j, hj with
    | 0, _ => decide
    | 1, _ => decide
    | 2, _ => decide
    | 3, _ => decide
    | 4, _ => decide
    | 5, _ => decide
    | 6, _ => decide
    | 7, _ => decide
  apply Int32.toBitVec_inj.mp
  have e : ((x >>> (nI j &&& 31)) &&& 1).toBitVec = (x.toBitVec.sshiftRight j) &&& 1#32 := by
    show (x.toBitVec.sshiftRight ((nI j &&& 31 : Int32).toBitVec.smod 32).toNat) &&& _ = _
    rw [es]; rfl
  rw [e]
  apply BitVec.eq_of_getLsbD_eq
  intro i hi
  rw [BitVec.getLsbD_and, BitVec.getLsbD_sshiftRight, BitVec.getLsbD_one]
  by_cases h0 : i = 0
  · subst h0
    cases hb : x.toBitVec.getLsbD j
    · simp [hb]; intro _; omega
    · simp [hb]; exact Or.inl (by omega)
  · cases hb : x.toBitVec.getLsbD j
    · simp [h0]
    · simp [h0]
theorem ab_bits (x w : Int32) {j : Nat} (hj : j < 8) : ((x &&& (w ^^^ (-1))) >>> (nI j &&& 31)) &&& 1 = 1 ↔ ((x >>> (nI j &&& 31)) &&& 1 = 1 ∧ (w >>> (nI j &&& 31)) &&& 1 = 0) := by
  rw [ab_bit _ hj, ab_bit _ hj, ab_bit _ hj]
  have e : (x &&& (w ^^^ (-1))).toBitVec.getLsbD j = (x.toBitVec.getLsbD j && !w.toBitVec.getLsbD j) := by
    rw [Int32.toBitVec_and, Int32.toBitVec_xor, BitVec.getLsbD_and, BitVec.getLsbD_xor]
    have : (-1 : Int32).toBitVec.getLsbD j = true := by
      show (BitVec.allOnes 32).getLsbD j = true
      rw [BitVec.getLsbD_allOnes]; exact decide_eq_true (by omega)
    rw [this]; simp
  rw [e]
  cases x.toBitVec.getLsbD j <;> cases w.toBitVec.getLsbD j <;> decide
theorem ab_ge8 {j : Nat} (hj : j ≤ 8) : (8 : Int32) ≤ nI j ↔ 8 ≤ j := nI_leI (a := 8) (by decide) (by omega)
section EQ
variable {jc : Int32 → Int32 → Int32 → Prop}
/-- the sounds that a byte triggers, and the reference's loop -/
theorem ab_trig (B : Nat) (hB : B < 2 ^ 30) (p x w : Int32) (k : Nat) : ∀ (u v : SS) (j : Nat), ab_Q (ab_bd (B + j)) jc u v → j ≤ 8 → 8 < j + k →
    ∃ v' : SS, g_MD_out_86 k v p x w (nI j) = stt (stt v' 0 21 (if p = 3 then x else (v' 0 21) : Int32)) 0 22 (if p = 5 then x else (v' 0 22) : Int32) ∧ ab_Q (ab_bd (B + 8)) jc (g_Sounds_trigger_2 k u p (x &&& (w ^^^ (-1))) (nI j)) v' := by
  induction k with
  | zero => intro u v j _ h1 h2; omega
  | succ k ih =>
    intro u v j h h1 h2
    rw [g_MD_out_86, g_Sounds_trigger_2]
    by_cases e : 8 ≤ j
    · rw [if_pos ((ab_ge8 h1).mpr e), if_pos ((ab_ge8 h1).mpr e)]
      exact ⟨v, rfl, by rw [show (8 : Nat) = j by omega]; exact h⟩
    · rw [if_neg (fun z => e ((ab_ge8 h1).mp z)), if_neg (fun z => e ((ab_ge8 h1).mp z)), nI_1]
      have hm : ab_Q (ab_bd (B + (j + 1))) jc u v := ab_Q_mono h (fun k _ => by unfold ab_bd; split <;> omega)
      by_cases q : (x >>> (nI j &&& 31)) &&& 1 = 1 ∧ (w >>> (nI j &&& 31)) &&& 1 = 0
      · rw [if_pos q.1, if_pos q.2, if_pos ((ab_bits x w (by omega)).mpr q)]
        refine ih _ _ (j + 1) ?_ (by omega) (by omega)
        obtain ⟨n, hn, en⟩ := ab_Q_bd h 17
        have ev : u 0 17 = v 0 23 := ab_Q_sc h 17
        have hn' : n < B + j + 1 := hn
        rw [← ev, en, pk_andN (by omega) 3 rfl, show nI n - nI n / 8 * 8 = nI (n % 8) from pk_rem (d := 8) (by omega) (by decide) (by decide), nI_1]
        refine ab_Q_mono (ab_Q_set (ab_Q_lat h (nI (n % 8)).toNatClampNeg rfl) 17 (B + (j + 1) + 1) rfl (by omega) rfl) (fun k hk => ?_)
        unfold va_up
        split
        · rename_i e; subst e; exact Nat.le_refl _
        · unfold ab_bd; split <;> omega
      · have q' : ¬ ((x &&& (w ^^^ (-1))) >>> (nI j &&& 31)) &&& 1 = 1 := fun z => q ((ab_bits x w (by omega)).mp z)
        rw [if_neg q']
        have e2 : (if (x >>> (nI j &&& 31)) &&& 1 = 1 then (if (w >>> (nI j &&& 31)) &&& 1 = 0 then g_MD_out_86 k (stt (stt v 3 (v 0 23 - v 0 23 / 8 * 8).toNatClampNeg (8 * p + nI j)) 0 23 (v 0 23 + 1)) p x w (nI (j + 1)) else g_MD_out_86 k v p x w (nI (j + 1))) else g_MD_out_86 k v p x w (nI (j + 1))) = g_MD_out_86 k v p x w (nI (j + 1)) := by
          by_cases q1 : (x >>> (nI j &&& 31)) &&& 1 = 1
          · rw [if_pos q1, if_neg (fun z => q ⟨q1, z⟩)]
          · rw [if_neg q1]
        rw [e2]
        exact ih _ _ (j + 1) hm (by omega) (by omega)
variable {u v : SS} {B : Nat}
theorem ab_up8 (h : ab_Q (ab_bd B) jc u v) : ab_Q (ab_bd (B + 8)) jc u v := ab_Q_mono h (fun k _ => by unfold ab_bd; split <;> omega)
theorem ab_out (h : ab_Q (ab_bd B) jc u v) (hB : B < 2 ^ 30) {p x : Int32} (hx : ab_by x) : ab_Q (ab_bd (B + 8)) jc (f_Ports_out u p x) (f_MD_out v p x) := by
  unfold f_Ports_out f_MD_out
  have h8 := ab_up8 h
  obtain ⟨n, hn, rfl⟩ := hx
  by_cases e2 : p = 2
  · subst e2
    simp (decide := true) only [↓reduceIte]
    exact ab_Q_put h8 8 (pk_andN (by omega) 3 rfl) (show _ < 8 by omega) rfl
  by_cases e4 : p = 4
  · subst e4
    simp (decide := true) only [↓reduceIte]
    obtain ⟨m, hm, em⟩ := ab_Q_bd h 7
    have hm' : m < 65536 := hm
    have ev : u 0 7 = v 0 15 := ab_Q_sc h 7
    rw [← ev, em, pk_shrN (by omega) _ 8 (by decide), (ab_wor ⟨m / 2 ^ 8, by omega, rfl⟩ ⟨n, hn, rfl⟩).1]
    obtain ⟨r, hr, er⟩ := (ab_wor ⟨m / 2 ^ 8, by omega, rfl⟩ ⟨n, hn, rfl⟩).2
    refine ab_Q_put h8 7 er (show _ < 65536 by omega) ?_
    rw [show (256 : Int32) = nI 256 from rfl, pk_div (by omega) (by decide) (by decide)]
  by_cases e6 : p = 6
  · subst e6
    simp (decide := true) only [↓reduceIte]
    exact ab_Q_put h8 9 (n := 0) rfl (show _ < 4 by omega) rfl
  by_cases e3 : p = 3
  · subst e3
    simp (decide := true) only [↓reduceIte]
    have ev : u 0 13 = v 0 21 := ab_Q_sc h 13
    obtain ⟨v', e, q⟩ := ab_trig B hB 3 (nI n) (v 0 21) 9 u v 0 h (by omega) (by omega)
    unfold f_Sounds_trigger
    rw [ev]
    rw [show (0 : Int32) = nI 0 from rfl, e]
    simp (decide := true) only [↓reduceIte]
    rw [show stt (stt v' 0 21 (nI n)) 0 22 (v' 0 22) = stt v' 0 21 (nI n) by rw [stt_comm (by decide), stt_id]]
    exact ab_Q_put q 13 rfl (show _ < 256 by omega) rfl
  by_cases e5 : p = 5
  · subst e5
    simp (decide := true) only [↓reduceIte]
    have ev : u 0 14 = v 0 22 := ab_Q_sc h 14
    obtain ⟨v', e, q⟩ := ab_trig B hB 5 (nI n) (v 0 22) 9 u v 0 h (by omega) (by omega)
    unfold f_Sounds_trigger
    rw [ev]
    rw [show (0 : Int32) = nI 0 from rfl, e]
    simp (decide := true) only [↓reduceIte]
    rw [stt_id]
    exact ab_Q_put q 14 rfl (show _ < 256 by omega) rfl
  rw [if_neg e2, if_neg e2, if_neg e4, if_neg e3, if_neg e6, if_neg e3, if_neg e4, if_neg e5, if_neg e6, if_neg e5]
  exact h8
theorem ab_inp (h : ab_Q (ab_bd B) jc u v) {p : Int32} : f_Ports_in u p = f_MD_in v p ∧ ab_by (f_MD_in v p) := by
  unfold f_Ports_in f_MD_in
  have e15 : u 0 15 = v 0 2 := ab_Q_sc h 15
  have e16 : u 0 16 = v 0 3 := ab_Q_sc h 16
  have e12 : u 0 12 = v 0 20 := ab_Q_sc h 12
  have e7 : u 0 7 = v 0 15 := ab_Q_sc h 7
  have e8 : u 0 8 = v 0 16 := ab_Q_sc h 8
  rw [← e15, ← e16, ← e12, ← e7, ← e8]
  by_cases p0 : p = 0
  · rw [if_pos p0, if_pos p0]; obtain ⟨n, hn, e⟩ := ab_Q_bd h 15; exact ⟨rfl, n, hn, e⟩
  by_cases p1 : p = 1
  · rw [if_neg p0, if_neg p0, if_pos p1, if_pos p1]
    obtain ⟨n, hn, e⟩ := ab_Q_bd h 16
    have hn' : n < 255 := hn
    rw [e]
    by_cases q : u 0 12 ≤ 0
    · rw [if_pos q, if_pos q, Int32.add_zero]; exact ⟨rfl, n, by omega, rfl⟩
    · rw [if_neg q, if_neg q, nI_1]
      exact ⟨rfl, n + 1, by omega, rfl⟩
  rw [if_neg p0, if_neg p0, if_neg p1, if_neg p1]
  by_cases p2 : p = 2
  · subst p2; rw [if_pos rfl, if_neg (by decide)]; exact ⟨rfl, 0, by decide, rfl⟩
  rw [if_neg p2]
  by_cases p3 : p = 3
  · rw [if_pos p3]; exact ⟨rfl, ab_m8b _⟩
  · rw [if_neg p3]; exact ⟨rfl, 0, by decide, rfl⟩
end EQ

