/-! what the reference's methods leave as it is: the slots, 'thrown', 'on' -/
section FAR
variable {v : SS} {b j : Nat}
theorem fa_write (hb : 3 < b ∨ (b = 0 ∧ j < 2)) {x y : Int32} : f_MD_write v x y b j = v b j := by unfold f_MD_write; exact stt_n (by omega)
theorem fa_next (hb : 3 < b ∨ (b = 0 ∧ j < 2)) : (f_MD_next v).2 b j = v b j := by unfold f_MD_next; dsimp only; rw [stt_n (by omega)]
theorem fa_nextWord (hb : 3 < b ∨ (b = 0 ∧ j < 2)) : (f_MD_nextWord v).2 b j = v b j := (fa_next (v := (f_MD_next v).2) hb).trans (fa_next hb)
theorem fa_setPair (hb : 3 < b ∨ (b = 0 ∧ j < 2)) {k x : Int32} : f_MD_setPair v k x b j = v b j := by
  unfold f_MD_setPair
  split
  · rw [stt_n (by omega)]
  · rw [stt_n (by omega), stt_n (by omega)]
theorem fa_set (hb : 3 < b ∨ (b = 0 ∧ j < 2)) {k x : Int32} : f_MD_set v k x b j = v b j := by
  unfold f_MD_set
  split
  · exact fa_write hb
  · exact stt_n (by omega)
theorem fa_push (hb : 3 < b ∨ (b = 0 ∧ j < 2)) {x : Int32} : f_MD_push v x b j = v b j := by
  unfold f_MD_push; rw [stt_n (by omega), fa_write hb, fa_write hb]
theorem fa_pop (hb : 3 < b ∨ (b = 0 ∧ j < 2)) : (f_MD_pop v).2 b j = v b j := by unfold f_MD_pop; dsimp only; rw [stt_n (by omega)]
theorem fa_result (hb : 3 < b ∨ (b = 0 ∧ j < 2)) {x : Int32} : (f_MD_result v x).2 b j = v b j := by rw [ab_res]; dsimp only; rw [stt_n (by omega), stt_n (by omega), stt_n (by omega)]
theorem fa_setFlags (hb : 3 < b ∨ (b = 0 ∧ j < 2)) {x : Int32} : f_MD_setFlags v x b j = v b j := by
  unfold f_MD_setFlags; rw [stt_n (by omega), stt_n (by omega), stt_n (by omega), stt_n (by omega), stt_n (by omega)]
theorem fa_operate (hb : 3 < b ∨ (b = 0 ∧ j < 2)) {k x : Int32} : f_MD_operate v k x b j = v b j := by
  unfold f_MD_operate
  split
  · split
    · rw [stt_n (by omega), fa_result hb, stt_n (by omega), stt_n (by omega)]
    · split
      · rw [stt_n (by omega), fa_result hb, stt_n (by omega), stt_n (by omega)]
      · rw [stt_n (by omega), fa_result hb, stt_n (by omega), stt_n (by omega)]
  · rw [stt_n (by omega), fa_result hb, stt_n (by omega), stt_n (by omega)]
theorem fa_turnA (hb : 3 < b ∨ (b = 0 ∧ j < 2)) {k : Int32} : f_MD_turnA v k b j = v b j := by
  unfold f_MD_turnA
  split
  · rw [stt_n (by omega), stt_n (by omega)]
  · split
    · rw [stt_n (by omega), stt_n (by omega)]
    · split
      · rw [stt_n (by omega), stt_n (by omega)]
      · split
        · rw [stt_n (by omega), stt_n (by omega)]
        · split
          · rw [stt_n (by omega), fa_result hb, stt_n (by omega), stt_n (by omega)]
          · split
            · rw [stt_n (by omega)]
            · rw [stt_n (by omega)]
theorem fa_out86 (hb : 3 < b ∨ (b = 0 ∧ j < 2)) (k : Nat) : ∀ (v : SS) (a1 a2 a3 a4 : Int32), g_MD_out_86 k v a1 a2 a3 a4 b j = v b j := by
  induction k with
  | zero => intro v a1 a2 a3 a4; rfl
  | succ k ih =>
    intro v a1 a2 a3 a4
    rw [g_MD_out_86]
    split
    · rw [stt_n (by omega), stt_n (by omega)]
    · split
      · split
        · rw [ih, stt_n (by omega), stt_n (by omega)]
        · rw [ih]
      · rw [ih]
theorem fa_out (hb : 3 < b ∨ (b = 0 ∧ j < 2)) {x y : Int32} : f_MD_out v x y b j = v b j := by
  unfold f_MD_out
  split
  · exact stt_n (by omega)
  · split
    · exact stt_n (by omega)
    · split
      · exact stt_n (by omega)
      · split
        · exact fa_out86 hb _ _ _ _ _ _
        · split
          · exact fa_out86 hb _ _ _ _ _ _
          · rfl
theorem fa_carry (hb : 3 < b ∨ (b = 0 ∧ j < 2)) {y : Int32} : f_MD_carry v y b j = v b j := by
  unfold f_MD_carry
  split
  · split
    · rw [fa_write hb, fa_write hb, stt_n (by omega), fa_nextWord hb]
    · split
      · rw [stt_n (by omega), stt_n (by omega), stt_n (by omega), fa_nextWord hb]
      · split
        · rw [fa_write hb, stt_n (by omega), fa_nextWord hb]
        · rw [stt_n (by omega), stt_n (by omega), fa_nextWord hb]
  · split
    · rw [fa_write hb, stt_n (by omega)]
    · rw [stt_n (by omega), stt_n (by omega)]
theorem fa_low (hb : 3 < b ∨ (b = 0 ∧ j < 2)) {y z : Int32} : f_MD_lowOperation v y z b j = v b j := by
  unfold f_MD_lowOperation
  split
  · exact stt_n (by omega)
  · split
    · split
      · rw [fa_setPair hb, fa_nextWord hb, stt_n (by omega)]
      · rw [fa_setPair hb, stt_n (by omega), stt_n (by omega)]
    · split
      · exact fa_carry hb
      · split
        · rw [fa_setPair hb, stt_n (by omega)]
        · split
          · split
            · rw [fa_set hb, fa_next hb, stt_n (by omega)]
            · rw [fa_turnA hb, stt_n (by omega)]
          · rw [fa_set hb, fa_result hb, stt_n (by omega), stt_n (by omega)]
theorem fa_popOrSo (hb : 3 < b ∨ (b = 0 ∧ j < 2)) {y : Int32} : f_MD_popOrSo v y b j = v b j := by
  unfold f_MD_popOrSo
  split
  · rw [stt_n (by omega), fa_pop hb, stt_n (by omega)]
  · split
    · rw [stt_n (by omega), fa_pop hb, stt_n (by omega)]
    · split
      · rw [stt_n (by omega), stt_n (by omega)]
      · split
        · rw [stt_n (by omega), stt_n (by omega)]
        · split
          · rw [fa_setFlags hb, stt_n (by omega), fa_pop hb, stt_n (by omega)]
          · rw [fa_setPair hb, fa_pop hb, stt_n (by omega)]
theorem fa_others (hb : 3 < b ∨ (b = 0 ∧ j < 2)) {y : Int32} : f_MD_others v y b j = v b j := by
  unfold f_MD_others
  split
  · split
    · rw [fa_out hb, fa_next hb, stt_n (by omega)]
    · split
      · rw [stt_n (by omega), fa_next hb, stt_n (by omega)]
      · split
        · rw [fa_setPair hb, fa_write hb, fa_write hb, stt_n (by omega)]
        · split
          · rw [fa_setPair hb, fa_setPair hb, stt_n (by omega)]
          · rw [stt_n (by omega), stt_n (by omega), stt_n (by omega)]
  · rw [stt_n (by omega), fa_nextWord hb, stt_n (by omega)]
theorem fa_high (hb : 3 < b ∨ (b = 0 ∧ j < 2)) {y z : Int32} : f_MD_highOperation v y z b j = v b j := by
  unfold f_MD_highOperation
  generalize (if f_MD_holds v y = 0 then 5 else 11 : Int32) = c0
  generalize (if f_MD_holds (f_MD_nextWord v).2 y = 0 then 11 else 17 : Int32) = c4
  split
  · split
    · rw [stt_n (by omega), stt_n (by omega)]
    · rw [stt_n (by omega), fa_pop hb, stt_n (by omega)]
  · split
    · exact fa_popOrSo hb
    · split
      · rw [stt_n (by omega), fa_nextWord hb, stt_n (by omega)]
      · split
        · exact fa_others hb
        · split
          · split
            · rw [stt_n (by omega), fa_nextWord hb]
            · rw [stt_n (by omega), fa_push hb, stt_n (by omega), fa_nextWord hb]
          · split
            · split
              · split
                · rw [fa_push hb, stt_n (by omega)]
                · rw [fa_push hb, stt_n (by omega)]
              · rw [stt_n (by omega), fa_push hb, fa_nextWord hb, stt_n (by omega)]
            · split
              · rw [fa_operate hb, fa_next hb, stt_n (by omega)]
              · rw [stt_n (by omega), fa_push hb, stt_n (by omega)]
theorem fa_operation (hb : 3 < b ∨ (b = 0 ∧ j < 2)) : f_MD_operation v b j = v b j := by
  unfold f_MD_operation
  split
  · rw [stt_n (by omega), stt_n (by omega), fa_next hb]
  · split
    · rw [fa_low hb, fa_next hb]
    · split
      · rw [fa_set hb, stt_n (by omega), fa_next hb]
      · split
        · rw [fa_operate hb, stt_n (by omega), fa_next hb]
        · rw [fa_high hb, fa_next hb]
theorem fa_reset (hb : 3 < b ∨ (b = 0 ∧ j < 2)) : f_MD_reset v b j = v b j := by
  unfold f_MD_reset
  rw [stt_n (by omega), stt_n (by omega), stt_n (by omega), stt_n (by omega), stt_n (by omega), stt_n (by omega), stt_n (by omega), stt_n (by omega)]
theorem fa_step90 (hb : 3 < b ∨ (b = 0 ∧ j < 2)) : g_MD_step_90 v b j = v b j := by
  unfold g_MD_step_90
  split
  · rw [stt_n (by omega), stt_n (by omega)]
  · split
    · rw [fa_reset hb, stt_n (by omega), stt_n (by omega), stt_n (by omega), stt_n (by omega), stt_n (by omega), stt_n (by omega)]
    · rw [stt_n (by omega), stt_n (by omega), stt_n (by omega), stt_n (by omega), stt_n (by omega), stt_n (by omega)]
theorem fa_step (hb : 3 < b ∨ (b = 0 ∧ j < 2)) : f_MD_step v b j = v b j := by
  unfold f_MD_step
  split
  · split
    · rw [fa_step90 hb, fa_operation hb, stt_n (by omega)]
    · rw [fa_step90 hb, stt_n (by omega), stt_n (by omega)]
  · split
    · split
      · split
        · rw [fa_step90 hb, fa_operation hb, stt_n (by omega)]
        · rw [fa_step90 hb, stt_n (by omega), stt_n (by omega)]
      · rw [fa_step90 hb, stt_n (by omega), stt_n (by omega), stt_n (by omega), fa_push hb, stt_n (by omega), stt_n (by omega), stt_n (by omega)]
    · split
      · rw [fa_step90 hb, fa_operation hb, stt_n (by omega)]
      · rw [fa_step90 hb, stt_n (by omega), stt_n (by omega)]
end FAR
/-! the check of the program -/
theorem ab_xorN {a b : Nat} (ha : a < 65536) (hb : b < 65536) : nI a ^^^ nI b = nI (a ^^^ b) ∧ a ^^^ b < 65536 := by
  have h : a ^^^ b < 65536 := Nat.xor_lt_two_pow (n := 16) ha hb
  refine ⟨?_, h⟩
  apply Int32.toBitVec_inj.mp; apply BitVec.eq_of_toNat_eq
  rw [Int32.toBitVec_xor, BitVec.toNat_xor, pk_tn (by omega), pk_tn (by omega), pk_tn (by omega)]
theorem ab_crc1 {x : Int32} (h : ab_wd x) : (if (x &&& 32768) = 0 then ((x <<< ((1 : Int32) &&& 31)) &&& 65535) else (((x <<< ((1 : Int32) &&& 31)) &&& 65535) ^^^ 4129) : Int32) = (if (if x ≤ 32767 then 0 else 1 : Int32) = 0 then ((2 * x) &&& 65535) else (((2 * x) &&& 65535) ^^^ 4129) : Int32) ∧ ab_wd (if (if x ≤ 32767 then 0 else 1 : Int32) = 0 then ((2 * x) &&& 65535) else (((2 * x) &&& 65535) ^^^ 4129) : Int32) := by
  obtain ⟨n, hn, rfl⟩ := h
  have e1 : nI n <<< ((1 : Int32) &&& 31) = 2 * nI n := by
    rw [pk_shlN _ 1 (by decide) (by omega), show (2 : Int32) = nI 2 from rfl, pk_mul]; congr 1; omega
  have e2 : nI n &&& 32768 = nI (n &&& 32768) := by
    apply Int32.toBitVec_inj.mp; apply BitVec.eq_of_toNat_eq
    rw [Int32.toBitVec_and, BitVec.toNat_and, pk_tn (by omega), pk_tn (Nat.lt_of_le_of_lt Nat.and_le_left (by omega))]; rfl
  have t15 : n.testBit 15 = decide (32768 ≤ n) := by
    rw [Nat.testBit, Nat.shiftRight_eq_div_pow, show (2 : Nat) ^ 15 = 32768 from rfl]
    rcases (show n / 32768 = 0 ∨ n / 32768 = 1 by omega) with e | e
    · rw [e, decide_eq_false (by omega)]; rfl
    · rw [e, decide_eq_true (by omega)]; rfl
  have tb : ∀ i, (n &&& 32768).testBit i = (n.testBit i && decide (15 = i)) := fun i => by rw [Nat.testBit_and, show (32768 : Nat) = 2 ^ 15 from rfl, Nat.testBit_two_pow]
  have w : ∀ t, ab_wd ((t &&& 65535) ^^^ 4129) := by
    intro t
    obtain ⟨m, hm, e⟩ := ab_m16w t
    rw [e, show (4129 : Int32) = nI 4129 from rfl, (ab_xorN hm (by decide)).1]
    exact ⟨_, (ab_xorN hm (by decide)).2, rfl⟩
  rw [e1, e2]
  by_cases q : n ≤ 32767
  · have z0 : n &&& 32768 = 0 := by
      apply Nat.eq_of_testBit_eq
      intro i
      rw [tb, Nat.zero_testBit]
      by_cases e : 15 = i
      · subst e; rw [t15, decide_eq_false (by omega)]; rfl
      · rw [decide_eq_false e, Bool.and_false]
    rw [if_pos (show nI (n &&& 32768) = 0 by rw [z0]; rfl), if_pos (show nI n ≤ 32767 from (nI_leI (b := 32767) (by omega) (by decide)).mpr q), if_pos rfl]
    exact ⟨rfl, ab_m16w _⟩
  · have z1 : ¬ n &&& 32768 = 0 := by
      intro z
      have h9 := tb 15
      rw [z, Nat.zero_testBit, t15, decide_eq_true (show 32768 ≤ n by omega)] at h9
      exact absurd h9 (by decide)
    rw [if_neg (show ¬ nI (n &&& 32768) = 0 from fun z => z1 ((nI_eq (b := 0) (Nat.lt_of_le_of_lt Nat.and_le_left (by omega)) (by decide)).mp z)), if_neg (show ¬ nI n ≤ 32767 from fun z => q ((nI_leI (b := 32767) (by omega) (by decide)).mp z)), if_neg (by decide)]
    exact ⟨rfl, w _⟩
theorem ab_crc8 (k : Nat) : ∀ (u : SS) (x y c : Int32) (j : Nat), ab_wd x → j ≤ 8 → 8 < j + k → g_Memory_sumOfByte_4 k u x (nI j) = g_MD_check_32 k x y (nI j) ∧ ab_wd (g_MD_check_32 k x y (nI j)) := by
  induction k with
  | zero => intro u x y c j _ h1 h2; omega
  | succ k ih =>
    intro u x y c j hx h1 h2
    rw [g_Memory_sumOfByte_4, g_MD_check_32]
    by_cases e : 8 ≤ j
    · rw [if_pos ((ab_ge8 h1).mpr e), if_pos ((ab_ge8 h1).mpr e)]
      exact ⟨rfl, hx⟩
    · rw [if_neg (fun z => e ((ab_ge8 h1).mp z)), if_neg (fun z => e ((ab_ge8 h1).mp z)), nI_1, (ab_crc1 hx).1]
      exact ih u _ y c (j + 1) (ab_crc1 hx).2 (by omega) (by omega)
theorem ab_crcP {u v : SS} (hm : ∀ k, k < 512 → u 3 k = v 1 k ∧ ab_by (u 3 k)) (k : Nat) : ∀ (x : Int32) (j : Nat), ab_wd x → j ≤ 512 → 512 < j + k → g_MD_check_10 k v x (nI j) = (g_Memory_programSum_5 k u x (nI j), v) := by
  induction k with
  | zero => intro x j _ h1 h2; omega
  | succ k ih =>
    intro x j hx h1 h2
    have g5 : (512 : Int32) ≤ nI j ↔ 512 ≤ j := nI_leI (a := 512) (by decide) (by omega)
    rw [g_MD_check_10, g_Memory_programSum_5]
    by_cases e : 512 ≤ j
    · rw [if_pos (g5.mpr e), if_pos (g5.mpr e)]
    · rw [if_neg (fun z => e (g5.mp z)), if_neg (fun z => e (g5.mp z)), nI_1, nI_clamp (by omega)]
      obtain ⟨e1, a, ha, ea⟩ := hm j (by omega)
      obtain ⟨n, hn, rfl⟩ := hx
      have es : u 3 j <<< ((8 : Int32) &&& 31) = v 1 j * 256 ∧ ab_wd (nI n ^^^ (v 1 j * 256)) := by
        rw [← e1, ea, pk_shlN _ 8 (by decide) (by omega), show (256 : Int32) = nI 256 from rfl, pk_mul, (ab_xorN hn (show a * 256 < 65536 by omega)).1]
        exact ⟨rfl, _, (ab_xorN hn (show a * 256 < 65536 by omega)).2, rfl⟩
      rw [es.1]
      have c8 := ab_crc8 9 u (nI n ^^^ (v 1 j * 256)) (nI j) 0 0 es.2 (by omega) (by omega)
      unfold f_Memory_sumOfByte
      rw [show (0 : Int32) = nI 0 from rfl, c8.1]
      exact ih _ (j + 1) c8.2 (by omega) (by omega)
theorem ab_check {bd : Nat → Nat} {jc : Int32 → Int32 → Int32 → Prop} {u v : SS} (h : ab_Q bd jc u v) : f_MD_check v = (f_Memory_programSum u, stt v 0 0 0) := by
  unfold f_MD_check f_Memory_programSum
  exact ab_crcP (v := stt v 0 0 0) (fun k hk => by rw [stt_a (by decide)]; exact h.2.2.2.1 k hk) 513 65535 0 ⟨65535, by decide, rfl⟩ (by omega) (by omega)

/-! the board's calls: class and reference side by side -/
def ab_iy (k : Nat) : Nat := match k with
  | 1 => 9 | 2 => 10 | 3 => 11 | 5 => 12 | 6 => 13 | 7 => 14 | 8 => 15 | 9 => 16 | 10 => 17 | 11 => 18 | 12 => 19 | 13 => 20 | 14 => 21 | _ => 0
/-- a slot: the class's copy (numbers x, ram y, registers w), the reference's from place o of 'kept' on -/
def ab_SL (x y w : Nat → Int32) (o : Nat) (v : SS) : Prop :=
  (∀ k, k < 8 → w k = v 5 (o + k) ∧ ab_by (w k)) ∧
  (x 0 = v 5 (o + 8) ∧ ∃ s z h p k, ab_bo s ∧ ab_bo z ∧ ab_bo h ∧ ab_bo p ∧ ab_bo k ∧ x 0 = ab_FL s z h p k) ∧
  (∀ k, k < 15 → k ≠ 0 → k ≠ 4 → x k = v 5 (o + ab_iy k) ∧ ∃ n : Nat, n < ab_bd 0 k ∧ x k = nI n) ∧
  (ab_jR (x 3) (x 4) (v 5 (o + 22)) ∧ ab_bo (x 4) ∧ ab_bo (v 5 (o + 22))) ∧
  (∀ k, k < 512 → y k = v 5 (o + 23 + k) ∧ ab_by (y k))
def ab_RS (z v : SS) : Prop :=
  (z 0 0 = v 0 1 ∧ ab_bo (z 0 0)) ∧ ∀ s, s < 2 → z 7 s = v 4 s ∧ ab_bo (z 7 s) ∧ (z 7 s = 1 → ab_SL (z (1 + 3 * s)) (z (2 + 3 * s)) (z (3 + 3 * s)) (540 * s) v) ∧ ∀ k, 3 ≤ k → k ≤ 5 → ab_bo (z (1 + 3 * s) k)
def ab_RT (B : Nat) (z u v : SS) : Prop := ab_Q (ab_bd B) ab_jR u v ∧ ab_RS z v
section TOP
variable {z u v v' : SS} {B : Nat}
theorem ab_SL_far {x y w : Nat → Int32} {o : Nat} (h : ab_SL x y w o v) (h5 : ∀ j, v' 5 j = v 5 j) : ab_SL x y w o v' := by
  refine ⟨fun k hk => ?_, ?_, fun k k1 k2 k3 => ?_, ?_, fun k hk => ?_⟩
  · rw [h5]; exact h.1 k hk
  · rw [h5]; exact h.2.1
  · rw [h5]; exact h.2.2.1 k k1 k2 k3
  · rw [h5]; exact h.2.2.2.1
  · rw [h5]; exact h.2.2.2.2 k hk
theorem ab_RS_far (h : ab_RS z v) (h1 : v' 0 1 = v 0 1) (hf : ∀ b j, 3 < b → v' b j = v b j) : ab_RS z v' := by
  refine ⟨by rw [h1]; exact h.1, fun s hs => ?_⟩
  obtain ⟨a1, a2, a3, a4⟩ := h.2 s hs
  exact ⟨by rw [hf 4 s (by decide)]; exact a1, a2, fun q => ab_SL_far (a3 q) (fun j => hf 5 j (by decide)), a4⟩
theorem ab_RS_thr (h : ab_RS z v) (x : Int32) : ab_RS z (stt v 0 0 x) := ab_RS_far h (stt_k (by decide)) (fun b j hb => stt_a (by omega))
theorem ab_RT_thr (h : ab_RT B z u v) (x : Int32) : ab_RT B z u (stt v 0 0 x) := ⟨ab_Q_own h.1 0 x (Or.inl rfl), ab_RS_thr h.2 x⟩
theorem ab_RT_mono {B' : Nat} (h : ab_RT B z u v) (hB : B ≤ B') : ab_RT B' z u v := ⟨ab_Q_mono h.1 (fun k _ => by unfold ab_bd; split <;> omega), h.2⟩
/-- load -/
theorem ab_ldL {bd : Nat → Nat} {jc : Int32 → Int32 → Int32 → Prop} (k : Nat) : ∀ (z u v : SS) (c n j : Nat) (b : Int32), ab_Q bd jc u v → n ≤ 4 → c + n ≤ 512 → j ≤ n → n < j + k →
    (g_AB_load_35 k z u (nI c) b (nI n) (nI j)).1 = (g_MD_load_40 k v (nI c) b (nI n) (nI j)).1 ∧ (g_AB_load_35 k z u (nI c) b (nI n) (nI j)).2.1 = z ∧ ab_Q bd jc (g_AB_load_35 k z u (nI c) b (nI n) (nI j)).2.2 (g_MD_load_40 k v (nI c) b (nI n) (nI j)).2 ∧
    ∀ b' j', b' ≠ 1 → (g_MD_load_40 k v (nI c) b (nI n) (nI j)).2 b' j' = v b' j' := by
  induction k with
  | zero => intro z u v c n j b _ _ _ h1 h2; omega
  | succ k ih =>
    intro z u v c n j b hQ hn hc h1 h2
    rw [g_AB_load_35, g_MD_load_40]
    have g : nI n ≤ nI j ↔ n ≤ j := nI_leI (by omega) (by omega)
    by_cases e : n ≤ j
    · rw [if_pos (g.mpr e), if_pos (g.mpr e)]
      exact ⟨rfl, rfl, hQ, fun _ _ _ => rfl⟩
    · rw [if_neg (fun q => e (g.mp q)), if_neg (fun q => e (g.mp q)), nI_add, nI_1, nI_clamp (by omega)]
      have eb : f_Memory_burn u (nI (c + j)) (b >>> ((8 * nI j) &&& 31)) = stt u 3 (c + j) ((b >>> ((8 * nI j) &&& 31)) &&& 255) := by
        unfold f_Memory_burn
        rw [if_neg (nI_pos (by omega)), if_neg (show ¬ (512 : Int32) ≤ nI (c + j) from fun q => by have := (nI_leI (a := 512) (by decide) (by omega)).mp q; omega), nI_clamp (by omega)]
      rw [eb]
      obtain ⟨r1, r2, r3, r4⟩ := ih z (stt u 3 (c + j) ((b >>> ((8 * nI j) &&& 31)) &&& 255)) (stt v 1 (c + j) ((b >>> ((8 * nI j) &&& 31)) &&& 255)) c n (j + 1) b (ab_Q_rom hQ (c + j) (by omega) (ab_m8b _) rfl) hn hc (by omega) (by omega)
      exact ⟨r1, r2, r3, fun b' j' hb => (r4 b' j' hb).trans (stt_a hb)⟩
theorem ab_cLoad (h : ab_RT B z u v) (a b n : Int32) : (f_AB_load z u a b n).1 = (f_MD_load v a b n).1 ∧ ab_RT B (f_AB_load z u a b n).2.1 (f_AB_load z u a b n).2.2 (f_MD_load v a b n).2 := by
  have h0 := ab_RT_thr h 0
  unfold f_AB_load f_MD_load
  rw [h.2.1.1]
  by_cases e1 : v 0 1 = 0
  · rw [if_pos e1, if_pos e1]
    by_cases e2 : n < 1
    · rw [if_pos e2, if_pos e2]; exact ⟨rfl, h0⟩
    rw [if_neg e2, if_neg e2]
    by_cases e3 : 4 < n
    · rw [if_pos e3, if_pos e3]; exact ⟨rfl, h0⟩
    rw [if_neg e3, if_neg e3]
    by_cases e4 : a < 0
    · rw [if_pos e4, if_pos e4]; exact ⟨rfl, h0⟩
    rw [if_neg e4, if_neg e4]
    by_cases e5 : a ≤ 512 - n
    · rw [if_pos e5, if_pos e5]
      obtain ⟨c, hc, rfl⟩ := nI_of e4
      have hn0 : ¬ n < 0 := fun q => e2 (Int32.lt_trans q (by decide))
      obtain ⟨m, hm, rfl⟩ := nI_of hn0
      have m4 : m ≤ 4 := by
        rcases Nat.lt_or_ge 4 m with q | q
        · exact absurd ((nI_ltI (a := 4) (by decide) hm).mpr q) e3
        · exact q
      rw [show (512 : Int32) - nI m = nI (512 - m) from pk_sub (a := 512) (by omega)] at e5
      have hcm := (nI_leI hc (by omega)).mp e5
      obtain ⟨r1, r2, r3, r4⟩ := ab_ldL 5 z u (stt v 0 0 0) c m 0 b h0.1 m4 (by omega) (by omega) (by omega)
      rw [show (0 : Int32) = nI 0 from rfl] at *
      refine ⟨r1, r3, ?_⟩
      rw [r2]
      exact ab_RS_far h0.2 (r4 0 1 (by decide)) (fun b' j hb => r4 b' j (by omega))
    · rw [if_neg e5, if_neg e5]; exact ⟨rfl, h0⟩
  · rw [if_neg e1, if_neg e1]; exact ⟨rfl, h0⟩
theorem ab_cCheck (h : ab_RT B z u v) : f_AB_check z u = (f_MD_check v).1 ∧ ab_RT B z u (f_MD_check v).2 := by
  have hc := ab_check h.1
  unfold f_AB_check
  generalize f_Memory_programSum u = C at hc ⊢
  rw [hc]
  exact ⟨rfl, ab_RT_thr h 0⟩

set_option maxRecDepth 100000 in
theorem ab_cPower (h : ab_RT B z u v) (x : Int32) : (f_MD_power v x).2 0 0 = nI (f_AB_power z u x).1 ∧ ((f_AB_power z u x).1 = 0 → (f_AB_power z u x).2.1 = (f_MD_power v x).1) ∧ ab_RT B (f_AB_power z u x).2.2.1 (f_AB_power z u x).2.2.2 (f_MD_power v x).2 := by
  have hc := ab_check h.1
  unfold f_AB_power f_MD_power
  generalize f_Memory_programSum u = C at hc ⊢
  rw [hc]
  dsimp only
  simp only [stt_k (show (1 : Nat) ≠ 0 by decide), stt_stt, ← h.2.1.1]
  by_cases e : C = x
  · rw [if_pos e, if_pos e, if_neg (show ¬ (1 : Int32) = 0 by decide)]
    by_cases e2 : z 0 0 = 0
    · rw [if_pos e2, if_pos e2, if_pos (show (0 : Int32) ≤ 0 by decide)]
      dsimp only
      have q := ab_reset (ab_Q_own (ab_Q_own h.1 0 0 (Or.inl rfl)) 1 1 (Or.inr (Or.inl rfl))) (Nat.le_refl _) (fun k _ => ab_bd0 k)
      refine ⟨?_, fun _ => rfl, q, ⟨?_, ?_⟩, fun s hs => ?_⟩
      · rw [fa_reset (by omega), stt_k (by decide), stt_s]; rfl
      · rw [fa_reset (by omega), stt_s, stt_s]
      · rw [stt_s]; exact ab_bo1
      · obtain ⟨a1, a2, a3, a4⟩ := h.2.2 s hs
        have f5 : ∀ b j, 3 < b → f_MD_reset (stt (stt v 0 0 0) 0 1 1) b j = v b j := fun b j hb => by
          rw [fa_reset (by omega), stt_a (by omega), stt_a (by omega)]
        simp only [stt_a (show (7 : Nat) ≠ 0 by decide)]
        refine ⟨by rw [f5 4 s (by decide)]; exact a1, a2, fun q => ?_, fun k k1 k2 => ?_⟩
        · have := ab_SL_far (v' := f_MD_reset (stt (stt v 0 0 0) 0 1 1)) (a3 q) (fun j => f5 5 j (by decide))
          have ez : ∀ b, b ≠ 0 → stt z 0 0 1 b = z b := fun b hb => funext fun j => stt_a hb
          rw [ez _ (by omega), ez _ (by omega), ez _ (by omega)]
          exact this
        · rw [stt_a (by omega)]; exact a4 k k1 k2
    · rw [if_neg e2, if_neg e2, if_neg (show ¬ (2 : Int32) ≤ 0 by decide)]
      exact ⟨stt_s v 0 0 2, fun q => absurd (show (2 : Nat) = 0 from q) (by decide), ab_RT_thr h 2⟩
  · rw [if_neg e, if_neg e, if_pos (show (0 : Int32) = 0 from rfl), if_neg (show ¬ (1 : Int32) ≤ 0 by decide)]
    exact ⟨stt_s v 0 0 1, fun q => absurd (show (1 : Nat) = 0 from q) (by decide), ab_RT_thr h 1⟩
theorem ab_cOff (h : ab_RT B z u v) : (f_AB_off z u).1 = (f_MD_off v).1 ∧ ab_RT B (f_AB_off z u).2.1 (f_AB_off z u).2.2 (f_MD_off v).2 := by
  unfold f_AB_off f_MD_off
  refine ⟨h.2.1.1, ab_Q_own (ab_Q_own h.1 0 0 (Or.inl rfl)) 1 0 (Or.inr (Or.inl rfl)), ⟨?_, ?_⟩, fun s hs => ?_⟩
  · dsimp only; rw [stt_s, stt_s]
  · dsimp only; rw [stt_s]; exact ab_bo0
  · obtain ⟨a1, a2, a3, a4⟩ := h.2.2 s hs
    have f5 : ∀ b j, 3 < b → stt (stt v 0 0 0) 0 1 0 b j = v b j := fun b j hb => by rw [stt_a (by omega), stt_a (by omega)]
    have ez : ∀ b, b ≠ 0 → stt z 0 0 0 b = z b := fun b hb => funext fun j => stt_a hb
    dsimp only
    rw [ez 7 (by decide), ez (1 + 3 * s) (by omega), ez (2 + 3 * s) (by omega), ez (3 + 3 * s) (by omega)]
    exact ⟨by rw [f5 4 s (by decide)]; exact a1, a2, fun q => ab_SL_far (a3 q) (fun j => f5 5 j (by decide)), a4⟩
/-- run -/
theorem ab_rnL (k : Nat) : ∀ (z u v : SS) (B n j : Nat) (x : Int32), ab_RT B z u v → v 0 0 = 0 → B + 8 * k < 2 ^ 30 → n ≤ 60 → j ≤ n → n < j + k →
    (g_AB_run_41 k z u (nI n) x (nI j)).1 = 0 ∧ (g_AB_run_41 k z u (nI n) x (nI j)).2.1 = (g_MD_run_34 k v (nI n) x (nI j)).1 ∧ (g_MD_run_34 k v (nI n) x (nI j)).2 0 0 = 0 ∧
    ab_RT (B + 8 * k) (g_AB_run_41 k z u (nI n) x (nI j)).2.2.1 (g_AB_run_41 k z u (nI n) x (nI j)).2.2.2 (g_MD_run_34 k v (nI n) x (nI j)).2 := by
  induction k with
  | zero => intro z u v B n j x _ _ _ _ h1 h2; omega
  | succ k ih =>
    intro z u v B n j x h h0 hB hn h1 h2
    rw [g_AB_run_41, g_MD_run_34]
    have g : nI n ≤ nI j ↔ n ≤ j := nI_leI (by omega) (by omega)
    by_cases e : n ≤ j
    · rw [if_pos (g.mpr e), if_pos (g.mpr e)]
      exact ⟨rfl, rfl, h0, ab_RT_mono h (by omega)⟩
    · rw [if_neg (fun q => e (g.mp q)), if_neg (fun q => e (g.mp q)), if_pos h0, nI_1]
      obtain ⟨q, es, -⟩ := ab_step h.1 (by omega)
      rw [es]
      have hT : ab_RT (B + 8) z (f_Processor_step u).2 (f_MD_step v) := ⟨q, ab_RS_far h.2 (fa_step (by omega)) (fun b j hb => fa_step (by omega))⟩
      have r := ih z _ _ (B + 8) n (j + 1) (x + f_MD_step v 0 24) hT (by rw [fa_step (by omega)]; exact h0) (by omega) hn (by omega) (by omega)
      rw [show B + 8 * (k + 1) = B + 8 + 8 * k by omega]
      exact r
theorem ab_cRun (h : ab_RT B z u v) (hB : B + 488 < 2 ^ 30) (x : Int32) : (f_MD_run v x).2 0 0 = nI (f_AB_run z u x).1 ∧ ((f_AB_run z u x).1 = 0 → (f_AB_run z u x).2.1 = (f_MD_run v x).1) ∧ ab_RT (B + 488) (f_AB_run z u x).2.2.1 (f_AB_run z u x).2.2.2 (f_MD_run v x).2 := by
  have stop : ∀ c : Int32, c ≠ 0 → g_MD_run_34 61 (stt v 0 0 c) x 0 0 = (0, stt v 0 0 c) := by
    intro c hc
    rw [g_MD_run_34]
    split
    · rfl
    · rw [stt_s, if_neg hc]
  unfold f_AB_run f_MD_run
  rw [← h.2.1.1]
  by_cases e1 : x < 0
  · rw [if_pos e1, if_pos e1, stop 1 (by decide)]
    exact ⟨stt_s v 0 0 1, fun q => absurd (show (1 : Nat) = 0 from q) (by decide), ab_RT_mono (ab_RT_thr h 1) (by omega)⟩
  · rw [if_neg e1, if_neg e1]
    by_cases e2 : x ≤ 60
    · rw [if_pos e2, if_pos e2]
      by_cases e3 : z 0 0 = 0
      · rw [if_pos e3, if_pos e3, stop 2 (by decide)]
        exact ⟨stt_s v 0 0 2, fun q => absurd (show (2 : Nat) = 0 from q) (by decide), ab_RT_mono (ab_RT_thr h 2) (by omega)⟩
      · rw [if_neg e3, if_neg e3]
        obtain ⟨n, hn, rfl⟩ := nI_of2 (n := 60) (by decide) e1 e2
        have r := ab_rnL 61 z u (stt v 0 0 0) B n 0 0 (ab_RT_thr h 0) (stt_s _ _ _ _) (by omega) hn (by omega) (by omega)
        rw [show nI 0 = (0 : Int32) from rfl] at r
        rw [r.1]
        exact ⟨r.2.2.1, fun _ => r.2.1, r.2.2.2⟩
    · rw [if_neg e2, if_neg e2, stop 1 (by decide)]
      exact ⟨stt_s v 0 0 1, fun q => absurd (show (1 : Nat) = 0 from q) (by decide), ab_RT_mono (ab_RT_thr h 1) (by omega)⟩
/-- switches, coin -/
theorem ab_sw01 (u : SS) (x y : Int32) : ab_bo (f_Ports_setSwitches u x y).1 := by
  unfold f_Ports_setSwitches
  split
  · exact ab_bo1
  · split
    · exact ab_bo1
    · exact ab_bo0
theorem ab_m254 (x : Int32) : ∃ n : Nat, n < 255 ∧ x &&& 254 = nI n := by
  have e : x &&& 254 = (x &&& 255) &&& 254 := by rw [Int32.and_assoc]; rfl
  obtain ⟨m, hm, em⟩ := ab_m8b x
  rw [e, em]
  exact (show ∀ m, m < 256 → ∃ n : Nat, n < 255 ∧ nI m &&& 254 = nI n from fun m hm => ⟨m / 2 * 2, by omega, (show ∀ m, m < 256 → nI m &&& 254 = nI (m / 2 * 2) by decide +kernel) m hm⟩) m hm
theorem ab_cSwitches (h : ab_RT B z u v) (x y : Int32) : (f_AB_switches z u x y).1 = (f_MD_switches v x y).1 ∧ ab_RT B (f_AB_switches z u x y).2.1 (f_AB_switches z u x y).2.2 (f_MD_switches v x y).2 := by
  have h0 := ab_RT_thr h 0
  unfold f_AB_switches f_MD_switches f_Ports_setSwitches
  by_cases e0 : x = 0
  · subst e0
    simp (decide := true) only [↓reduceIte]
    refine ⟨trivial, ?_, ?_⟩
    · have e9 : stt (stt (stt v 0 0 0) 0 2 (y &&& 255)) 0 3 (v 0 3) = stt (stt v 0 0 0) 0 2 (y &&& 255) := by
        have e3 : stt (stt v 0 0 0) 0 2 (y &&& 255) 0 3 = v 0 3 := by rw [stt_k (by decide), stt_k (by decide)]
        rw [← e3]; exact stt_id
      rw [e9]
      obtain ⟨n, hn, en⟩ := ab_m8b y
      exact ab_Q_put h0.1 15 en hn rfl
    · exact ab_RS_far h0.2 (by rw [stt_k (by decide), stt_k (by decide)]) (fun b j hb => by rw [stt_a (by omega), stt_a (by omega)])
  · by_cases e1 : x = 1
    · subst e1
      simp (decide := true) only [↓reduceIte]
      refine ⟨trivial, ?_, ?_⟩
      · have e9 : stt (stt v 0 0 0) 0 2 (v 0 2) = stt v 0 0 0 := by
          have e3 : stt v 0 0 0 0 2 = v 0 2 := stt_k (by decide)
          rw [← e3]; exact stt_id
        rw [e9]
        obtain ⟨n, hn, en⟩ := ab_m254 y
        exact ab_Q_put h0.1 16 en hn rfl
      · exact ab_RS_far h0.2 (by rw [stt_k (by decide), stt_k (by decide)]) (fun b j hb => by rw [stt_a (by omega), stt_a (by omega)])
    · rw [if_neg e0, if_neg e1, if_neg e0, if_neg e1]
      exact ⟨rfl, h0⟩
theorem ab_cCoin (h : ab_RT B z u v) : (f_AB_coin z u).1 = (f_MD_coin v).1 ∧ ab_RT B (f_AB_coin z u).2.1 (f_AB_coin z u).2.2 (f_MD_coin v).2 := by
  have h0 := ab_RT_thr h 0
  unfold f_AB_coin f_MD_coin
  rw [show u 0 12 = v 0 20 from ab_Q_sc h.1 12]
  by_cases e : v 0 20 ≤ 0
  · rw [if_pos e, if_pos e]
    exact ⟨rfl, ab_Q_put h0.1 12 (n := 3) rfl (show 3 < 4 by decide) rfl, ab_RS_far h0.2 (show stt (stt v 0 0 0) 0 20 3 0 1 = stt v 0 0 0 0 1 from stt_k (by decide)) (fun b j hb => show stt (stt v 0 0 0) 0 20 3 b j = stt v 0 0 0 b j from stt_a (by omega))⟩
  · rw [if_neg e, if_neg e]; exact ⟨rfl, h0⟩
/-- look, peek, dot, sound -/
theorem ab_cLook (h : ab_RT B z u v) (x : Int32) : f_AB_look z u x = (f_MD_look v x).1 ∧ ab_RT B z u (f_MD_look v x).2 := by
  have h0 := ab_RT_thr h 0
  have sc : ∀ k, k < 18 → k ≠ 0 → k ≠ 4 → u 0 k = v 0 (ab_ix k) := fun k a b c => ab_Q_sc h.1 k a b c
  have fl : u 0 0 = f_MD_flags (stt v 0 0 0) := by rw [ab_fl_n (by omega)]; exact h.1.2.1.1
  have mo : f_MD_more (stt v 0 0 0) x = f_MD_more v x := by
    unfold f_MD_more
    simp only [stt_k (show (9 : Nat) ≠ 0 by decide), stt_k (show (10 : Nat) ≠ 0 by decide), stt_k (show (11 : Nat) ≠ 0 by decide), stt_k (show (13 : Nat) ≠ 0 by decide), stt_k (show (14 : Nat) ≠ 0 by decide), stt_k (show (15 : Nat) ≠ 0 by decide), stt_k (show (16 : Nat) ≠ 0 by decide), stt_k (show (17 : Nat) ≠ 0 by decide), stt_k (show (18 : Nat) ≠ 0 by decide), stt_k (show (19 : Nat) ≠ 0 by decide), stt_k (show (20 : Nat) ≠ 0 by decide)]
  unfold f_AB_look f_MD_look
  rw [mo, ← fl]
  by_cases e1 : x < 0
  · rw [if_pos e1, if_pos e1]
    have no : ∀ k : Nat, k < 100 → ¬ x = nI k := fun k hk q => absurd e1 (by rw [q]; exact nI_pos (by omega))
    rw [if_neg (show ¬ x = 8 from no 8 (by decide)), if_neg (show ¬ x = 9 from no 9 (by decide)), if_neg (show ¬ x = 10 from no 10 (by decide)), if_neg (show ¬ x = 11 from no 11 (by decide)), if_neg (show ¬ x = 12 from no 12 (by decide)), if_neg (show ¬ x = 13 from no 13 (by decide)), if_neg (show ¬ x = 14 from no 14 (by decide)), if_neg (show ¬ x = 15 from no 15 (by decide)), if_neg (show ¬ x = 16 from no 16 (by decide)), if_neg (show ¬ x = 17 from no 17 (by decide)), if_neg (show ¬ x = 18 from no 18 (by decide)), if_neg (show ¬ x = 19 from no 19 (by decide))]
    exact ⟨rfl, h0⟩
  · obtain ⟨n, hn, rfl⟩ := nI_of e1
    have eq : ∀ k : Nat, k < 100 → (nI n = nI k ↔ n = k) := fun k hk => nI_eq hn (by omega)
    have l19 : nI n ≤ 19 ↔ n ≤ 19 := nI_leI (b := 19) hn (by decide)
    have g7 : (7 : Int32) < nI n ↔ 7 < n := nI_ltI (a := 7) (by decide) hn
    have g8 : (8 : Int32) ≤ nI n ↔ 8 ≤ n := nI_leI (a := 8) (by decide) hn
    rw [if_neg e1, if_neg e1]
    by_cases e7 : 7 < n
    · rw [if_pos (g7.mpr e7)]
      by_cases e19 : n ≤ 19
      · rw [if_pos (l19.mpr e19), if_pos (g8.mpr (by omega))]
        unfold f_MD_more
        rcases (show n = 8 ∨ n = 9 ∨ n = 10 ∨ n = 11 ∨ n = 12 ∨ n = 13 ∨ n = 14 ∨ n = 15 ∨ n = 16 ∨ n = 17 ∨ n = 18 ∨ n = 19 by omega) with rfl | rfl | rfl | rfl | rfl | rfl | rfl | rfl | rfl | rfl | rfl | rfl <;> simp (decide := true) only [↓reduceIte]
        · exact ⟨trivial, h0⟩
        · exact ⟨sc 1 (by decide) (by decide) (by decide), h0⟩
        · exact ⟨sc 2 (by decide) (by decide) (by decide), h0⟩
        · rw [show u 0 3 = v 0 11 from sc 3 (by decide) (by decide) (by decide)]; exact ⟨rfl, h0⟩
        · rw [show u 0 5 = v 0 13 from sc 5 (by decide) (by decide) (by decide)]; exact ⟨rfl, h0⟩
        · exact ⟨sc 6 (by decide) (by decide) (by decide), h0⟩
        · exact ⟨sc 7 (by decide) (by decide) (by decide), h0⟩
        · exact ⟨sc 8 (by decide) (by decide) (by decide), h0⟩
        · exact ⟨sc 9 (by decide) (by decide) (by decide), h0⟩
        · exact ⟨sc 10 (by decide) (by decide) (by decide), h0⟩
        · exact ⟨sc 11 (by decide) (by decide) (by decide), h0⟩
        · exact ⟨sc 12 (by decide) (by decide) (by decide), h0⟩
      · rw [if_neg (fun q => e19 (l19.mp q))]
        have no : ∀ k : Nat, k < 20 → ¬ nI n = nI k := fun k hk q => by have := (eq k (by omega)).mp q; omega
        rw [if_neg (show ¬ nI n = 8 from no 8 (by decide)), if_neg (show ¬ nI n = 9 from no 9 (by decide)), if_neg (show ¬ nI n = 10 from no 10 (by decide)), if_neg (show ¬ nI n = 11 from no 11 (by decide)), if_neg (show ¬ nI n = 12 from no 12 (by decide)), if_neg (show ¬ nI n = 13 from no 13 (by decide)), if_neg (show ¬ nI n = 14 from no 14 (by decide)), if_neg (show ¬ nI n = 15 from no 15 (by decide)), if_neg (show ¬ nI n = 16 from no 16 (by decide)), if_neg (show ¬ nI n = 17 from no 17 (by decide)), if_neg (show ¬ nI n = 18 from no 18 (by decide)), if_neg (show ¬ nI n = 19 from no 19 (by decide))]
        exact ⟨rfl, h0⟩
    · rw [if_neg (fun q => e7 (g7.mp q)), if_pos (l19.mpr (by omega)), if_neg (show ¬ (8 : Int32) ≤ nI n from fun q => by have := g8.mp q; omega)]
      exact ⟨(ab_value h0.1 (Nat.le_refl _) (show n < 8 by omega)).1, h0⟩
theorem ab_cPeek (h : ab_RT B z u v) (x : Int32) : f_AB_peek z u x = (f_MD_peek v x).1 ∧ ab_RT B z u (f_MD_peek v x).2 := by
  have h0 := ab_RT_thr h 0
  unfold f_AB_peek f_MD_peek
  refine ⟨?_, h0⟩
  by_cases e1 : x < 0
  · rw [if_pos e1]; dsimp only; rw [if_pos e1]
  · rw [if_neg e1]; dsimp only; rw [if_neg e1]
    obtain ⟨n, hn, rfl⟩ := nI_of e1
    have l : nI n < 1024 ↔ n < 1024 := nI_ltI (b := 1024) hn (by decide)
    have g : (1024 : Int32) ≤ nI n ↔ 1024 ≤ n := nI_leI (a := 1024) (by decide) hn
    by_cases e2 : n < 1024
    · rw [if_pos (l.mpr e2), if_neg (show ¬ (1024 : Int32) ≤ nI n from fun q => by have := g.mp q; omega), (ab_at h.1 _).1]
      unfold f_MD_read
      rw [ab_m10N, Nat.mod_eq_of_lt e2]
    · rw [if_neg (fun q => e2 (l.mp q)), if_pos (g.mpr (by omega))]
theorem ab_cDot (h : ab_RT B z u v) (x y : Int32) : f_AB_dot z u x y = (f_MD_dot v x y).1 ∧ ab_RT B z u (f_MD_dot v x y).2 := by
  have h0 := ab_RT_thr h 0
  unfold f_AB_dot f_MD_dot
  refine ⟨?_, h0⟩
  dsimp only
  by_cases e1 : x < 0
  · rw [if_pos e1, if_pos e1]
  rw [if_neg e1, if_neg e1]
  by_cases e2 : 64 ≤ x
  · rw [if_pos e2, if_pos e2]
  rw [if_neg e2, if_neg e2]
  by_cases e3 : y < 0
  · rw [if_pos e3, if_pos e3]
  rw [if_neg e3, if_neg e3]
  obtain ⟨n, hn, rfl⟩ := nI_of e1
  obtain ⟨m, hm, rfl⟩ := nI_of e3
  have l : nI m < 32 ↔ m < 32 := nI_ltI (b := 32) hm (by decide)
  have g : (32 : Int32) ≤ nI m ↔ 32 ≤ m := nI_leI (a := 32) (by decide) hm
  have n64 : n < 64 := by
    rcases Nat.lt_or_ge n 64 with q | q
    · exact q
    · exact absurd ((nI_leI (a := 64) (by decide) hn).mpr q) e2
  by_cases e4 : m < 32
  · rw [if_pos (l.mpr e4), if_neg (show ¬ (32 : Int32) ≤ nI m from fun q => by have := g.mp q; omega), (ab_at h.1 _).1]
    have ea : (768 : Int32) + 8 * nI m + nI n / 8 = nI (768 + 8 * m + n / 8) := by
      rw [show nI n / 8 = nI (n / 8) from pk_div (d := 8) (by omega) (by decide) (by decide), show (8 : Int32) = nI 8 from rfl, pk_mul, show (768 : Int32) = nI 768 from rfl, nI_add, nI_add]
    rw [ea]
    unfold f_MD_read
    rw [ab_m10N, Nat.mod_eq_of_lt (by omega)]
  · rw [if_neg (fun q => e4 (l.mp q)), if_pos (g.mpr (by omega))]
theorem ab_cSound (h : ab_RT B z u v) (hB : B < 2 ^ 30) (x : Int32) : f_AB_sound z u x = (f_MD_sound v x).1 ∧ ab_RT B z u (f_MD_sound v x).2 := by
  have h0 := ab_RT_thr h 0
  unfold f_AB_sound f_MD_sound
  have e17 : u 0 17 = v 0 23 := ab_Q_sc h.1 17
  by_cases em : x = -1
  · rw [if_pos em, if_pos em]; exact ⟨e17, h0⟩
  rw [if_neg em, if_neg em]
  refine ⟨?_, h0⟩
  unfold f_Sounds_latestBut
  dsimp only
  obtain ⟨s, hs, es⟩ := ab_Q_bd h.1 17
  have hs' : s < B + 1 := hs
  rw [← e17, es]
  by_cases e1 : x < 0
  · rw [if_pos e1, if_pos e1]
  rw [if_neg e1, if_neg e1]
  obtain ⟨n, hn, rfl⟩ := nI_of e1
  have g7 : (7 : Int32) < nI n ↔ 7 < n := nI_ltI (a := 7) (by decide) hn
  have g8 : (8 : Int32) ≤ nI n ↔ 8 ≤ n := nI_leI (a := 8) (by decide) hn
  by_cases e7 : 7 < n
  · rw [if_pos (g7.mpr e7), if_pos (g8.mpr (by omega))]
  rw [if_neg (fun q => e7 (g7.mp q)), if_neg (show ¬ (8 : Int32) ≤ nI n from fun q => by have := g8.mp q; omega)]
  have l : nI n < nI s ↔ n < s := nI_ltI hn (by omega)
  have g : nI s ≤ nI n ↔ s ≤ n := nI_leI (by omega) hn
  by_cases e : n < s
  · rw [if_pos (l.mpr e), if_neg (show ¬ nI s ≤ nI n from fun q => by have := g.mp q; omega), show nI s - 1 = nI (s - 1) from pk_sub (b := 1) (by omega), pk_sub (a := s - 1) (by omega), pk_andN (by omega) 3 rfl, show nI (s - 1 - n) - nI (s - 1 - n) / 8 * 8 = nI ((s - 1 - n) % 8) from pk_rem (d := 8) (by omega) (by decide) (by decide), nI_clamp (by omega)]
    exact h.1.2.2.2.2.2.2 _ (by omega)
  · rw [if_neg (fun q => e (l.mp q)), if_pos (g.mpr (by omega))]
end TOP

