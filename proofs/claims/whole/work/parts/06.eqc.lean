section EQ
variable {u v : SS} {B : Nat} {b : Int32} {jc : Int32 → Int32 → Int32 → Prop}
theorem ab_popF (h : ab_Q (ab_bd B) jc u v) : ab_Q (ab_bd B) jc (f_Processor_popAAndFlags u) (f_MD_setFlags (stt (f_MD_pop v).2 2 7 ((f_MD_pop v).1 / 256)) ((f_MD_pop v).1 - (f_MD_pop v).1 / 256 * 256)) := by
  obtain ⟨e, hw, q⟩ := ab_pop h (Nat.le_refl _)
  unfold f_Processor_popAAndFlags
  rw [e, (ab_hi hw).1]
  have q2 := ab_Q_reg q 7 (ab_hi hw).2 rfl
  obtain ⟨n, hn, en⟩ := (ab_lo hw).2
  have fl : ∀ m, m < 256 → (nI m &&& 213) ||| 2 = ab_FL (if (nI m &&& 128) = 0 then 0 else 1 : Int32) (if (nI m &&& 64) = 0 then 0 else 1 : Int32) (if (nI m &&& 16) = 0 then 0 else 1 : Int32) (if (nI m &&& 4) = 0 then 0 else 1 : Int32) (if (nI m &&& 1) = 0 then 0 else 1 : Int32) := by decide +kernel
  have e9 : (f_MD_pop v).1 &&& 213 = nI n &&& 213 := by
    rw [← en, ← (ab_lo hw).1, Int32.and_assoc]; rfl
  rw [e9, en, fl n hn]
  have bo : ∀ x : Int32, ab_bo (if x = 0 then 0 else 1 : Int32) := fun x => by split; exact ab_bo0; exact ab_bo1
  unfold f_MD_setFlags
  refine ab_Q_fl q2 (fun b j hn => ?_) ?_ (ab_bo5 ?_ ?_ ?_ ?_ ?_ (bo (nI n &&& 128)) (bo (nI n &&& 64)) (bo (nI n &&& 16)) (bo (nI n &&& 4)) (bo (nI n &&& 1)))
  · rw [stt_n (by omega), stt_n (by omega), stt_n (by omega), stt_n (by omega), stt_n (by omega)]
  · rw [ab_FL_e]; simp [stt_ap]
  all_goals simp [stt_ap]
theorem ab_popOr (h : ab_Q (ab_bd B) jc u v) {y : Nat} (hy : y < 8) : ab_P (ab_bd B) jc (f_Processor_popOrGo u (nI y)) (f_MD_popOrSo v (nI y)) := by
  unfold f_Processor_popOrGo f_MD_popOrSo
  have go : ∀ c : Int32, ab_P (ab_bd B) jc (c, stt (f_Memory_pop u).2 0 2 (f_Memory_pop u).1) (stt (f_MD_pop (stt v 0 24 c)).2 0 10 (f_MD_pop (stt v 0 24 c)).1) := by
    intro c
    obtain ⟨e, hw, q⟩ := ab_pop (ab_Q_st h c) (Nat.le_refl _)
    obtain ⟨n, hn, en⟩ := hw
    exact ab_P_mk (ab_Q_put q 2 (e.trans en) hn e.symm) (by rw [stt_k (by decide), fr_pop, stt_s])
  have sp : ∀ k, k < 4 → ab_P (ab_bd B) jc (10, f_Registers_setPair (f_Memory_pop u).2 (nI k) (f_Memory_pop u).1) (f_MD_setPair (f_MD_pop (stt v 0 24 10)).2 (nI k) (f_MD_pop (stt v 0 24 10)).1) := by
    intro k hk
    obtain ⟨e, hw, q⟩ := ab_pop (ab_Q_st h 10) (Nat.le_refl _)
    rw [e]
    exact ab_P_mk (ab_setPair q (Nat.le_refl _) hk _) (by rw [fr_setPair, fr_pop, stt_s])
  match y, hy with
  | 0, _ => simp (decide := true) only [↓reduceIte]; exact sp 0 (by decide)
  | 1, _ => simp (decide := true) only [↓reduceIte]; exact go 10
  | 2, _ => simp (decide := true) only [↓reduceIte]; exact sp 1 (by decide)
  | 3, _ => simp (decide := true) only [↓reduceIte]; exact go 10
  | 4, _ => simp (decide := true) only [↓reduceIte]; exact sp 2 (by decide)
  | 5, _ =>
    simp (decide := true) only [↓reduceIte]
    have p := ab_pair (ab_Q_st h 5) (Nat.le_refl _) (show 2 < 4 by decide)
    obtain ⟨n, hn, en⟩ := p.2
    exact ab_P_mk (ab_Q_put (ab_Q_st h 5) 2 (p.1.trans en) hn p.1.symm) (by rw [stt_k (by decide), stt_s])
  | 6, _ =>
    simp (decide := true) only [↓reduceIte]
    exact ab_P_mk (ab_popF (ab_Q_st h 10)) (by rw [fr_setFlags, stt_a (by decide), fr_pop, stt_s])
  | 7, _ =>
    simp (decide := true) only [↓reduceIte]
    have p := ab_pair (ab_Q_st h 5) (Nat.le_refl _) (show 2 < 4 by decide)
    obtain ⟨n, hn, en⟩ := p.2
    exact ab_P_mk (ab_Q_put (ab_Q_st h 5) 1 (p.1.trans en) hn p.1.symm) (by rw [stt_k (by decide), stt_s])
theorem ab_P_up {c : Int32 × SS} {w : SS} (h : ab_P (ab_bd B) jc c w) : ab_P (ab_bd (B + 8)) jc c w := ⟨ab_up8 h.1, h.2⟩
theorem ab_others (h : ab_Q (ab_bd B) (ab_jO b) u v) (hB : B < 2 ^ 30) (h3 : u 0 3 = b) {y : Nat} (hy : y < 8) : ab_P (ab_bd (B + 8)) (ab_jO b) (f_Processor_goOrExchange u (nI y)) (f_MD_others v (nI y)) := by
  unfold f_Processor_goOrExchange f_MD_others
  have go : ab_P (ab_bd B) (ab_jO b) (10, stt (f_Processor_nextWord u).2 0 2 (f_Processor_nextWord u).1) (stt (f_MD_nextWord (stt v 0 24 10)).2 0 10 (f_MD_nextWord (stt v 0 24 10)).1) := by
    obtain ⟨e, hw, q⟩ := ab_nextWord (ab_Q_st h 10) (Nat.le_refl _)
    obtain ⟨n, hn, en⟩ := hw
    exact ab_P_mk (ab_Q_put q 2 (e.trans en) hn e.symm) (by rw [stt_k (by decide), fr_nextWord, stt_s])
  have e11 : u 0 3 = v 0 11 := ab_Q_sc h 3
  match y, hy with
  | 0, _ => simp (decide := true) only [↓reduceIte]; exact ab_P_up go
  | 1, _ => simp (decide := true) only [↓reduceIte]; exact ab_P_up go
  | 2, _ =>
    simp (decide := true) only [↓reduceIte]
    obtain ⟨e, hb, q⟩ := ab_nextByte (ab_Q_st h 10) (Nat.le_refl _)
    have r := ab_Qr q 7 (by decide)
    rw [e, r.1]
    exact ab_P_mk (ab_out q hB r.2) (by rw [fr_out, fr_next, stt_s])
  | 3, _ =>
    simp (decide := true) only [↓reduceIte]
    obtain ⟨e, hb, q⟩ := ab_nextByte (ab_Q_st h 10) (Nat.le_refl _)
    have i := ab_inp q (p := (f_MD_next (stt v 0 24 10)).1)
    rw [e, i.1]
    exact ab_P_up (ab_P_mk (ab_Q_reg q 7 i.2 rfl) (by rw [stt_a (by decide), fr_next, stt_s]))
  | 4, _ =>
    simp (decide := true) only [↓reduceIte]
    have qs := ab_Q_st h 18
    have esp : u 0 1 = v 0 9 := ab_Q_sc h 1
    obtain ⟨e, hw⟩ := ab_wordAt qs (v 0 9)
    have r4 := ab_Qr h 4 (by decide)
    have r5 := ab_Qr h 5 (by decide)
    obtain ⟨a4, ha, ea⟩ := r4.2
    obtain ⟨a5, hb, eb⟩ := r5.2
    have pe2 : f_Registers_pair u (nI 2) = nI (256 * a4 + a5) := by rw [(ab_pair h (Nat.le_refl _) (show 2 < 4 by decide)).1, show f_MD_pair v (nI 2) = 256 * v 2 4 + v 2 5 from rfl, ea, eb, show (256 : Int32) = nI 256 from rfl, pk_mul, nI_add]
    unfold f_Memory_putWord
    rw [show (2 : Int32) = nI 2 from rfl, esp, e, pe2]
    simp only [ab_wr_a (show (0 : Nat) ≠ 1 by decide), ab_wr_a (show (2 : Nat) ≠ 1 by decide), stt_a (show (2 : Nat) ≠ 0 by decide), stt_k (show (9 : Nat) ≠ 24 by decide)]
    refine ab_P_up (ab_P_mk (ab_setPair (ab_put (ab_put qs ?_) ?_) (Nat.le_refl _) (show 2 < 4 by decide) _) (by rw [fr_setPair, fr_write, fr_write, stt_s]))
    · rw [eb, ab_m8N, ab_m8N]; congr 1; omega
    · rw [ea, pk_shrN (by omega) _ 8 (by decide)]; congr 2; omega
  | 5, _ =>
    simp (decide := true) only [↓reduceIte]
    have qs := ab_Q_st h 5
    rw [show (2 : Int32) = nI 2 from rfl, show (1 : Int32) = nI 1 from rfl, (ab_pair qs (Nat.le_refl _) (show 2 < 4 by decide)).1, (ab_pair qs (Nat.le_refl _) (show 1 < 4 by decide)).1]
    exact ab_P_up (ab_P_mk (ab_setPair (ab_setPair qs (Nat.le_refl _) (by decide) _) (Nat.le_refl _) (by decide) _) (by rw [fr_setPair, fr_setPair, stt_s]))
  | 6, _ =>
    simp (decide := true) only [↓reduceIte]
    have q := ab_Q_int (jc' := ab_jO b) (ab_Q_st h 4) ab_bo0 (Nat.le_refl _) h.2.2.1.2.1 ab_bo0 (show ab_jO b 0 (u 0 4) 0 from rfl)
    rw [show stt (stt u 0 3 0) 0 4 (u 0 4) = stt u 0 3 0 by rw [stt_comm (by decide), stt_id], stt_comm (a := 0) (k := 11) (by decide)] at q
    exact ab_P_up (ab_P_mk q (by rw [stt_k (by decide), stt_k (by decide), stt_s]))
  | 7, _ =>
    simp (decide := true) only [↓reduceIte]
    have hj : ab_jO b 1 (u 0 4) (if v 0 11 = 0 then 1 else 0 : Int32) := by
      unfold ab_jO; rw [← e11, h3]; rfl
    have q := ab_Q_int (jc' := ab_jO b) (ab_Q_st h 4) ab_bo1 (Nat.le_refl _) h.2.2.1.2.1 (by split; exact ab_bo1; exact ab_bo0) hj
    rw [show stt (stt u 0 3 1) 0 4 (u 0 4) = stt u 0 3 1 by rw [stt_comm (by decide), stt_id], stt_comm (a := 0) (k := 11) (by decide)] at q
    exact ab_P_up (ab_P_mk q (by rw [stt_k (by decide), stt_k (by decide), stt_s]))
end EQ

section EQ
variable {u v : SS} {B : Nat} {b : Int32} {jc : Int32 → Int32 → Int32 → Prop}
theorem ab_it01 (x y : Int32) : (if x = y then 1 else 0 : Int32) = 0 ∨ (if x = y then 1 else 0 : Int32) = 1 := by
  split
  · exact Or.inr rfl
  · exact Or.inl rfl
theorem ab_holds_w {y : Int32} : f_MD_holds (f_MD_nextWord v).2 y = f_MD_holds v y := by
  show f_MD_holds (stt (stt v 0 10 _) 0 10 _) y = _
  rw [ab_holds_s (by omega), ab_holds_s (by omega)]
theorem ab_hpush (h : ab_Q (ab_bd B) jc u v) {w : Int32} (hw : ab_wd w) : ab_Q (ab_bd B) jc (stt (f_Memory_push u (u 0 2)) 0 2 w) (stt (f_MD_push v (v 0 10)) 0 10 w) := by
  have e2 : u 0 2 = v 0 10 := ab_Q_sc h 2
  obtain ⟨n, hn, en⟩ := ab_Q_bd h 2
  obtain ⟨m, hm, em⟩ := hw
  have q := ab_push h (Nat.le_refl _) ⟨n, hn, en⟩
  rw [← e2]
  exact ab_Q_put q 2 em hm rfl
theorem ab_flow (h : ab_Q (ab_bd B) (ab_jO b) u v) (hB : B < 2 ^ 30) (h3 : u 0 3 = b) {y z : Nat} (hy : y < 8) (hz : z < 8) (h6 : z ≠ 6) : ab_P (ab_bd (B + 8)) (ab_jO b) (f_Processor_operateOnFlow u (nI y) (nI z)) (f_MD_highOperation v (nI y) (nI z)) := by
  unfold f_Processor_operateOnFlow f_MD_highOperation
  have hh := ab_half2 hy
  have hb : f_MD_holds v (nI y) = 0 ∨ f_MD_holds v (nI y) = 1 := ab_it01 _ _
  match z, hz with
  | 0, _ =>
    simp (decide := true) only [↓reduceIte]
    rw [ab_holds_s (by omega), ab_holds h hy]
    unfold f_Processor_returnIf
    rcases hb with e | e <;> rw [e] <;> simp (decide := true) only [↓reduceIte]
    · refine ab_P_up (ab_P_mk ?_ (by rw [stt_k (by decide), stt_s]))
      rw [show stt (stt v 0 24 5) 0 10 (v 0 10) = stt v 0 24 5 by rw [stt_comm (by decide), stt_id]]
      exact ab_Q_st h 5
    · obtain ⟨e, hw, q⟩ := ab_pop (ab_Q_st h 11) (Nat.le_refl _)
      obtain ⟨n, hn, en⟩ := hw
      exact ab_P_up (ab_P_mk (ab_Q_put q 2 (e.trans en) hn e.symm) (by rw [stt_k (by decide), fr_pop, stt_s]))
  | 1, _ => simp (decide := true) only [↓reduceIte]; exact ab_P_up (ab_popOr h hy)
  | 2, _ =>
    simp (decide := true) only [↓reduceIte]
    rw [ab_holds_w, ab_holds_s (by omega), ab_holds h hy]
    unfold f_Processor_goIf
    obtain ⟨e1, hw, q⟩ := ab_nextWord (ab_Q_st h 10) (Nat.le_refl _)
    rcases hb with e | e <;> rw [e] <;> simp (decide := true) only [↓reduceIte]
    · rw [stt_id]
      exact ab_P_up (ab_P_mk q (by rw [fr_nextWord, stt_s]))
    · obtain ⟨n, hn, en⟩ := hw
      exact ab_P_up (ab_P_mk (ab_Q_put q 2 (e1.trans en) hn e1.symm) (by rw [stt_k (by decide), fr_nextWord, stt_s]))
  | 3, _ => simp (decide := true) only [↓reduceIte]; exact ab_others h hB h3 hy
  | 4, _ =>
    simp (decide := true) only [↓reduceIte]
    rw [ab_holds_s (by omega), ab_holds_w, ab_holds h hy]
    unfold f_Processor_goWithReturnIf
    obtain ⟨e1, hw, q⟩ := ab_nextWord h (Nat.le_refl _)
    rcases hb with e | e <;> rw [e] <;> simp (decide := true) only [↓reduceIte]
    · exact ab_P_up (ab_P_mk (ab_Q_st q 11) (stt_s _ _ _ _))
    · rw [e1]
      have q2 := ab_hpush (ab_Q_st q 17) hw
      rw [stt_k (show (10 : Nat) ≠ 24 by decide)] at q2
      exact ab_P_up (ab_P_mk q2 (by rw [stt_k (by decide), fr_push, stt_s]))
  | 5, _ =>
    simp (decide := true) only [↓reduceIte]
    rw [hh.2, hh.1]
    by_cases e : y % 2 = 0
    · rw [if_pos ((ab_n2 (by omega)).mpr e), if_pos ((ab_n2 (by omega)).mpr e)]
      unfold f_Processor_pushPair
      have qs := ab_Q_st h 11
      by_cases e6 : y = 6
      · subst e6
        simp (decide := true) only [↓reduceIte]
        have r := ab_Qr h 7 (by decide)
        rw [r.1, h.2.1.1]
        have w := ab_wor' (a := f_MD_flags v) (by rw [ab_FL_e]; exact ab_FL_by) r.2
        rw [w.1, ab_fl_n (by omega)]
        exact ab_P_up (ab_P_mk (ab_push qs (Nat.le_refl _) w.2) (by rw [fr_push, stt_s]))
      · rw [if_neg (show ¬ nI (y / 2) = 3 from fun z => by have := (ab_n3 (by omega)).mp z; omega), if_neg (fun z => e6 ((ab_n6 hy).mp z))]
        have p := ab_pair qs (Nat.le_refl _) (show y / 2 < 4 by omega)
        rw [p.1]
        exact ab_P_up (ab_P_mk (ab_push qs (Nat.le_refl _) p.2) (by rw [fr_push, stt_s]))
    · rw [if_neg (fun z => e ((ab_n2 (by omega)).mp z)), if_neg (fun z => e ((ab_n2 (by omega)).mp z))]
      unfold f_Processor_goWithReturnIf
      simp (decide := true) only [↓reduceIte]
      obtain ⟨e1, hw, q⟩ := ab_nextWord (ab_Q_st h 17) (Nat.le_refl _)
      rw [e1]
      exact ab_P_up (ab_P_mk (ab_hpush q hw) (by rw [stt_k (by decide), fr_push, fr_nextWord, stt_s]))
  | 7, _ =>
    simp (decide := true) only [↓reduceIte]
    unfold f_Processor_goWithReturn
    have q2 := ab_hpush (ab_Q_st h 11) (w := 8 * nI y) ⟨8 * y, by omega, by rw [show (8 : Int32) = nI 8 from rfl, pk_mul]⟩
    rw [stt_k (show (10 : Nat) ≠ 24 by decide)] at q2
    exact ab_P_up (ab_P_mk q2 (by rw [stt_k (by decide), fr_push, stt_s]))
theorem ab_opn (h : ab_Q (ab_bd B) (ab_jO b) u v) (hB : B < 2 ^ 30) (h3 : u 0 3 = b) : ab_P (ab_bd (B + 8)) (ab_jO b) (f_Processor_operate (f_Processor_nextByte u).2 (f_Processor_nextByte u).1) (f_MD_operation v) := by
  obtain ⟨e, hb, q⟩ := ab_nextByte h (Nat.le_refl _)
  have h3' : (f_Processor_nextByte u).2 0 3 = b := by unfold f_Processor_nextByte; dsimp only; rw [stt_k (by decide)]; exact h3
  unfold f_MD_operation
  rw [e]
  obtain ⟨n, hn, en⟩ := hb
  rw [en]
  generalize (f_Processor_nextByte u).2 = u' at *
  generalize (f_MD_next v).2 = v' at *
  unfold f_Processor_operate
  rw [pk_shrN (by omega) _ 6 (by decide), pk_shrN (by omega) _ 3 (by decide), pk_andN (by omega) 3 rfl, pk_andN (by omega) 3 rfl]
  have hx : n / 2 ^ 6 < 4 := by omega
  have hy : n / 2 ^ 3 % 2 ^ 3 < 8 := by omega
  have hz : n % 2 ^ 3 < 8 := by omega
  have hn8 : n = 64 * (n / 2 ^ 6) + 8 * (n / 2 ^ 3 % 2 ^ 3) + n % 2 ^ 3 := by omega
  have h118 : nI n = 118 ↔ n = 118 := nI_eq (b := 118) (by omega) (by decide)
  generalize n / 2 ^ 6 = x at *
  generalize n / 2 ^ 3 % 2 ^ 3 = y at *
  generalize n % 2 ^ 3 = z at *
  match x, hx with
  | 0, _ =>
    rw [if_neg (show ¬ nI n = 118 from fun q => by have := h118.mp q; omega)]
    simp (decide := true) only [↓reduceIte]
    exact ab_P_up (ab_low q rfl rfl hy hz)
  | 1, _ =>
    simp (decide := true) only [↓reduceIte]
    unfold f_Processor_move
    by_cases e6 : y = 6
    · by_cases z6 : z = 6
      · rw [if_pos (h118.mpr (by omega)), if_pos ((ab_n6 hy).mpr e6), if_pos ((ab_n6 hz).mpr z6)]
        exact ab_P_up (ab_P_mk (ab_Q_st (ab_Q_put q 5 (n := 1) rfl (show 1 < 2 by decide) rfl) 7) (stt_s _ _ _ _))
      · rw [if_neg (show ¬ nI n = 118 from fun q => by have := h118.mp q; omega), if_pos ((ab_n6 hy).mpr e6), if_neg (fun q => z6 ((ab_n6 hz).mp q))]
        have qs := ab_Q_st q (if nI y = 6 then 7 else (if nI z = 6 then 7 else 5 : Int32) : Int32)
        have g := ab_value qs (Nat.le_refl _) hz
        rw [g.1]
        exact ab_P_up (ab_P_mk (ab_set qs (Nat.le_refl _) hy _) (by rw [fr_set, stt_s]))
    · rw [if_neg (show ¬ nI n = 118 from fun q => by have := h118.mp q; omega), if_neg (fun q => e6 ((ab_n6 hy).mp q))]
      have qs := ab_Q_st q (if nI y = 6 then 7 else (if nI z = 6 then 7 else 5 : Int32) : Int32)
      have g := ab_value qs (Nat.le_refl _) hz
      rw [g.1]
      exact ab_P_up (ab_P_mk (ab_set qs (Nat.le_refl _) hy _) (by rw [fr_set, stt_s]))
  | 2, _ =>
    rw [if_neg (show ¬ nI n = 118 from fun q => by have := h118.mp q; omega)]
    simp (decide := true) only [↓reduceIte]
    have qs := ab_Q_st q (if nI z = 6 then 7 else 4 : Int32)
    have g := ab_value qs (Nat.le_refl _) hz
    rw [g.1]
    exact ab_P_up (ab_P_mk (ab_operate qs hy g.2) (by rw [fr_operate, stt_s]))
  | 3, _ =>
    rw [if_neg (show ¬ nI n = 118 from fun q => by have := h118.mp q; omega)]
    simp (decide := true) only [↓reduceIte]
    by_cases z6 : z = 6
    · subst z6
      rw [if_pos (show nI 6 = 6 from rfl)]
      unfold f_MD_highOperation
      simp (decide := true) only [↓reduceIte]
      obtain ⟨e, hb, q2⟩ := ab_nextByte (ab_Q_st q 7) (Nat.le_refl _)
      rw [e]
      exact ab_P_up (ab_P_mk (ab_operate q2 hy hb) (by rw [fr_operate, fr_next, stt_s]))
    · rw [if_neg (fun q => z6 ((ab_n6 hz).mp q))]
      exact ab_flow q hB h3' hy hz z6
end EQ

theorem ab_wr_c {w : SS} {k : Nat} {z x y : Int32} : f_MD_write (stt w 0 k z) x y = stt (f_MD_write w x y) 0 k z := by
  unfold f_MD_write
  rw [stt_a (b := 1) (by decide), stt_comm (b := 1) (by omega)]
theorem ab_push_c {w : SS} {k : Nat} {z x : Int32} (hk : k ≠ 9) : f_MD_push (stt w 0 k z) x = stt (f_MD_push w x) 0 k z := by
  unfold f_MD_push
  rw [stt_k (j := 9) (Ne.symm hk)]
  simp only [ab_wr_c, stt_k (Ne.symm hk)]
  rw [stt_comm (by omega)]
section EQ
variable {u v : SS} {B : Nat} {b : Int32} {bd : Nat → Nat} {jc : Int32 → Int32 → Int32 → Prop}
theorem ab_Q_u4 (h : ab_Q bd jc u v) : stt (stt u 0 3 (u 0 3)) 0 4 (u 0 4) = u := by rw [stt_id, stt_id]
theorem ab_Q_bo3 (h : ab_Q (ab_bd B) jc u v) : ab_bo (u 0 3) := by
  obtain ⟨n, hn, e⟩ := ab_Q_bd h 3
  have hn' : n < 2 := hn
  rcases (show n = 0 ∨ n = 1 by omega) with rfl | rfl
  · exact Or.inl e
  · exact Or.inr e
/-- a step begins: justOn is cleared -/
theorem ab_begin (h : ab_Q (ab_bd B) ab_jR u v) : ab_Q (ab_bd B) (ab_jO (u 0 3)) u (stt v 0 12 0) := by
  have q := ab_Q_int (jc' := ab_jO (u 0 3)) h (ab_Q_bo3 h) (Nat.le_refl _) h.2.2.1.2.1 ab_bo0 (show ab_jO (u 0 3) (u 0 3) (u 0 4) 0 by unfold ab_jO; split; rfl; rfl)
  rw [ab_Q_u4 h, show stt v 0 11 (u 0 3) = v by rw [show u 0 3 = v 0 11 from ab_Q_sc h 3, stt_id]] at q
  exact q
/-- behind the operation switchedOn is set -/
theorem ab_end (h : ab_Q (ab_bd B) (ab_jO b) u v) : ab_Q (ab_bd B) ab_jR (stt u 0 4 (if (u 0 3) = 0 then 0 else (if b = 0 then 1 else 0 : Int32) : Int32)) v := by
  have e : v 0 12 = (if (u 0 3) = 0 then 0 else (if b = 0 then 1 else 0 : Int32) : Int32) := h.2.2.1.1
  rw [← e]
  have q := ab_Q_int (jc' := ab_jR) h (ab_Q_bo3 h) (Nat.le_refl _) h.2.2.1.2.2 h.2.2.1.2.2 (fun _ => rfl)
  rw [stt_id, stt_id (u := v) (a := 0) (k := 11) |> fun z => show stt v 0 11 (u 0 3) = v by rw [show u 0 3 = v 0 11 from ab_Q_sc h 3, stt_id], stt_id] at q
  exact q
theorem ab_reset (h : ab_Q bd jc u v) (h3 : 2 ≤ bd 3) (h0 : ∀ k, k < 18 → 0 < bd k) : ab_Q bd ab_jR (f_Clock_reset u) (f_MD_reset v) := by
  unfold f_Clock_reset f_MD_reset
  have q1 := ab_Q_put h 2 (n := 0) (x := 0) (y := 0) rfl (h0 2 (by decide)) rfl
  have q2 := ab_Q_put q1 7 (n := 0) (x := 0) (y := 0) rfl (h0 7 (by decide)) rfl
  have q3 := ab_Q_put q2 8 (n := 0) (x := 0) (y := 0) rfl (h0 8 (by decide)) rfl
  have q4 := ab_Q_put q3 9 (n := 0) (x := 0) (y := 0) rfl (h0 9 (by decide)) rfl
  have q5 := ab_Q_int (jc' := ab_jR) q4 ab_bo0 h3 q4.2.2.1.2.1 ab_bo0 (fun z => absurd z (by decide))
  rw [stt_comm (u := stt _ 0 9 0) (by decide), stt_id] at q5
  exact ab_Q_put (ab_Q_put q5 5 (n := 0) (x := 0) (y := 0) rfl (h0 5 (by decide)) rfl) 6 (n := 0) (x := 0) (y := 0) rfl (h0 6 (by decide)) rfl
theorem ab_bd0 (k : Nat) : 0 < ab_bd B k := by unfold ab_bd; split <;> omega
theorem ab_endF (h : ab_Q (va_up (ab_bd B) 10 2600) ab_jR u v) {t : Nat} (ht : u 0 10 = nI t) (h1 : 2560 ≤ t) (h2 : t < 2600) :
    ab_Q (ab_bd B) ab_jR (f_Clock_endFrame u) (if ((v 0 17) + 1) = 4 then
      (f_MD_reset (stt (stt (stt (stt v 0 18 ((v 0 18) - 2560)) 0 19 ((v 0 19) + 1)) 0 20 (if (v 0 20) ≤ 0 then 0 else ((v 0 20) - 1) : Int32)) 0 17 ((v 0 17) + 1)))
    else (stt (stt (stt (stt v 0 18 ((v 0 18) - 2560)) 0 19 ((v 0 19) + 1)) 0 20 (if (v 0 20) ≤ 0 then 0 else ((v 0 20) - 1) : Int32)) 0 17 ((v 0 17) + 1))) := by
  have e10 : u 0 10 = v 0 18 := ab_Q_sc h 10
  have e11 : u 0 11 = v 0 19 := ab_Q_sc h 11
  have e12 : u 0 12 = v 0 20 := ab_Q_sc h 12
  have e9 : u 0 9 = v 0 17 := ab_Q_sc h 9
  obtain ⟨c, hc, ec⟩ := ab_Q_bd h 12
  obtain ⟨w, hw, ew⟩ := ab_Q_bd h 9
  have hc' : c < 4 := hc
  have hw' : w < 4 := hw
  rw [← e10, ← e11, ← e12, ← e9, ew]
  obtain ⟨f, hf, ef⟩ := ab_any (u 0 11 + 1)
  have q1 : ab_Q (ab_bd B) ab_jR (stt u 0 10 (u 0 10 - 2560)) (stt v 0 18 (u 0 10 - 2560)) := by
    refine ab_Q_mono (ab_Q_set h 10 2560 (n := t - 2560) (by rw [ht, show (2560 : Int32) = nI 2560 from rfl, pk_sub h1]) (by omega) rfl) (fun k hk => ?_)
    unfold va_up
    split
    · rename_i e; subst e; exact Nat.le_refl _
    · exact Nat.le_refl _
  have q2 := ab_Q_put q1 11 (x := u 0 11 + 1) ef hf rfl
  -- the coin
  have q3 : ab_Q (ab_bd B) ab_jR (if (u 0 12) ≤ 0 then stt (stt u 0 10 (u 0 10 - 2560)) 0 11 (u 0 11 + 1) else stt (stt (stt u 0 10 (u 0 10 - 2560)) 0 11 (u 0 11 + 1)) 0 12 (u 0 12 - 1)) (stt (stt (stt v 0 18 (u 0 10 - 2560)) 0 19 (u 0 11 + 1)) 0 20 (if (u 0 12) ≤ 0 then 0 else (u 0 12 - 1) : Int32)) := by
    by_cases e : u 0 12 ≤ 0
    · have c0 : c = 0 := by
        rw [ec] at e
        have := (nI_leI (b := 0) (by omega) (by decide)).mp e
        omega
      rw [if_pos e, if_pos e]
      have e0 : stt (stt v 0 18 (u 0 10 - 2560)) 0 19 (u 0 11 + 1) 0 20 = 0 := by
        rw [stt_k (by decide), stt_k (by decide), ← e12, ec, c0]; rfl
      rw [show stt (stt (stt v 0 18 (u 0 10 - 2560)) 0 19 (u 0 11 + 1)) 0 20 0 = stt (stt v 0 18 (u 0 10 - 2560)) 0 19 (u 0 11 + 1) by
        conv => lhs; rw [← e0]
        exact stt_id]
      exact q2
    · rw [if_neg e, if_neg e]
      have c1 : 1 ≤ c := by
        rcases Nat.eq_zero_or_pos c with z | z
        · exact absurd (by rw [ec, z]; decide) e
        · exact z
      exact ab_Q_put q2 12 (n := c - 1) (by rw [ec, show (1 : Int32) = nI 1 from rfl, pk_sub c1]) (show _ < 4 by omega) rfl
  have eE : f_Clock_endFrame u = g_Clock_endFrame_51 (if (u 0 12) ≤ 0 then stt (stt u 0 10 (u 0 10 - 2560)) 0 11 (u 0 11 + 1) else stt (stt (stt u 0 10 (u 0 10 - 2560)) 0 11 (u 0 11 + 1)) 0 12 (u 0 12 - 1)) := by
    unfold f_Clock_endFrame; split <;> rfl
  rw [eE]
  have e9' : (if (u 0 12) ≤ 0 then stt (stt u 0 10 (u 0 10 - 2560)) 0 11 (u 0 11 + 1) else stt (stt (stt u 0 10 (u 0 10 - 2560)) 0 11 (u 0 11 + 1)) 0 12 (u 0 12 - 1)) 0 9 = nI w := by
    split
    · rw [stt_k (by decide), stt_k (by decide), ew]
    · rw [stt_k (by decide), stt_k (by decide), stt_k (by decide), ew]
  generalize (if (u 0 12) ≤ 0 then stt (stt u 0 10 (u 0 10 - 2560)) 0 11 (u 0 11 + 1) else stt (stt (stt u 0 10 (u 0 10 - 2560)) 0 11 (u 0 11 + 1)) 0 12 (u 0 12 - 1)) = u3 at *
  generalize (stt (stt (stt v 0 18 (u 0 10 - 2560)) 0 19 (u 0 11 + 1)) 0 20 (if (u 0 12) ≤ 0 then 0 else (u 0 12 - 1) : Int32)) = v3 at *
  unfold g_Clock_endFrame_51
  rw [e9', nI_1]
  by_cases e4 : w + 1 < 4
  · rw [if_pos (show nI (w + 1) < 4 from (nI_ltI (b := 4) (by omega) (by decide)).mpr e4), if_neg (show ¬ nI (w + 1) = 4 from fun z => by have := (nI_eq (b := 4) (by omega) (by decide)).mp z; omega)]
    exact ab_Q_put q3 9 rfl (show w + 1 < 4 by omega) rfl
  · rw [if_neg (show ¬ nI (w + 1) < 4 from fun z => e4 ((nI_ltI (b := 4) (by omega) (by decide)).mp z)), if_pos (show nI (w + 1) = 4 from (nI_eq (b := 4) (by omega) (by decide)).mpr (by omega))]
    have q4 := ab_Q_set q3 9 5 (n := w + 1) (x := nI (w + 1)) rfl (by omega) rfl
    have q5 := ab_reset q4 (show 2 ≤ 2 by decide) (fun k _ => by unfold va_up; split; omega; exact ab_bd0 k)
    -- the watch is 0 again
    refine ⟨fun k k1 k2 k3 => ?_, q5.2⟩
    have z := q5.1 k k1 k2 k3
    by_cases e : k = 9
    · subst e
      refine ⟨z.1, 0, ab_bd0 9, ?_⟩
      unfold f_Clock_reset
      simp [stt_ap]
      rfl
    · unfold va_up at z; rw [if_neg e] at z; exact z
end EQ

section EQ
variable {u v : SS} {B : Nat} {b : Int32} {bd : Nat → Nat} {jc : Int32 → Int32 → Int32 → Prop}
theorem ab_pass (h : ab_Q (ab_bd B) ab_jR u v) {s : Nat} (hs : s ≤ 18) (es : v 0 24 = nI s) : ab_Q (ab_bd B) ab_jR (f_Clock_pass u (nI s)) (g_MD_step_90 v) ∧ g_MD_step_90 v 0 24 = v 0 24 := by
  obtain ⟨t, ht, et⟩ := ab_Q_bd h 10
  have ht' : t < 2560 := ht
  have e10 : u 0 10 = v 0 18 := ab_Q_sc h 10
  have e6 : u 0 6 = v 0 14 := ab_Q_sc h 6
  obtain ⟨c, hc, ec⟩ := ab_Q_bd h 6
  have et' : v 0 18 = nI t := e10 ▸ et
  -- the call that waits then
  have hC : ∃ C : Nat, C < 3 ∧ f_Clock_pass u (nI s) = g_Clock_pass_74 (stt (stt u 0 10 (nI (t + s))) 0 6 (nI C)) ∧ (if 1024 ≤ (v 0 18) then (if 2048 ≤ (v 0 18) then (v 0 14) else (if ((v 0 18) + (v 0 24)) < 2048 then (v 0 14) else 2 : Int32) : Int32) else (if ((v 0 18) + (v 0 24)) < 1024 then (if 2048 ≤ (v 0 18) then (v 0 14) else (if ((v 0 18) + (v 0 24)) < 2048 then (v 0 14) else 2 : Int32) : Int32) else 1 : Int32) : Int32) = nI C := by
    have same : stt (stt u 0 10 (nI (t + s))) 0 6 (nI c) = stt u 0 10 (nI (t + s)) := by
      rw [← ec, stt_comm (by decide), stt_id]
    have i1 : (1024 : Int32) ≤ nI t ↔ 1024 ≤ t := nI_leI (a := 1024) (by decide) (by omega)
    have i2 : (2048 : Int32) ≤ nI t ↔ 2048 ≤ t := nI_leI (a := 2048) (by decide) (by omega)
    have i3 : nI (t + s) < 1024 ↔ t + s < 1024 := nI_ltI (b := 1024) (by omega) (by decide)
    have i4 : nI (t + s) < 2048 ↔ t + s < 2048 := nI_ltI (b := 2048) (by omega) (by decide)
    unfold f_Clock_pass g_Clock_pass_46
    rw [← e6, et', es, et, nI_add, stt_s, stt_k (j := 10) (k := 6) (by decide), stt_s, ec]
    by_cases h1 : 1024 ≤ t
    · by_cases h2 : 2048 ≤ t
      · rw [if_pos (i1.mpr h1), if_pos (i1.mpr h1), if_pos (i2.mpr h2), if_pos (i2.mpr h2)]
        exact ⟨c, hc, by rw [same], rfl⟩
      · rw [if_pos (i1.mpr h1), if_pos (i1.mpr h1), if_neg (fun z => h2 (i2.mp z)), if_neg (fun z => h2 (i2.mp z))]
        by_cases h4 : t + s < 2048
        · rw [if_pos (i4.mpr h4), if_pos (i4.mpr h4)]; exact ⟨c, hc, by rw [same], rfl⟩
        · rw [if_neg (fun z => h4 (i4.mp z)), if_neg (fun z => h4 (i4.mp z))]; exact ⟨2, by decide, rfl, rfl⟩
    · rw [if_neg (fun z => h1 (i1.mp z)), if_neg (fun z => h1 (i1.mp z))]
      by_cases h3 : t + s < 1024
      · rw [if_pos (i3.mpr h3), if_pos (i3.mpr h3), if_neg (show ¬ (2048 : Int32) ≤ nI t from fun z => by have := i2.mp z; omega), if_neg (show ¬ (2048 : Int32) ≤ nI t from fun z => by have := i2.mp z; omega), if_pos (i4.mpr (by omega)), if_pos (i4.mpr (by omega))]
        exact ⟨c, hc, by rw [same], rfl⟩
      · rw [if_neg (fun z => h3 (i3.mp z)), if_neg (fun z => h3 (i3.mp z)), if_neg (show ¬ (2048 : Int32) ≤ nI t from fun z => by have := i2.mp z; omega), if_pos (i4.mpr (by omega))]
        exact ⟨1, by decide, rfl, rfl⟩
  obtain ⟨C, hC3, eC, eM⟩ := hC
  unfold g_MD_step_90
  rw [eM, eC, et', es, nI_add]
  have q1 := ab_Q_set h 10 2600 (n := t + s) (x := nI (t + s)) (y := nI (t + s)) rfl (by omega) rfl
  have q2 := ab_Q_put q1 6 (n := C) (x := nI C) (y := nI C) rfl (show C < 3 by omega) rfl
  have i5 : nI (t + s) < 2560 ↔ t + s < 2560 := nI_ltI (b := 2560) (by omega) (by decide)
  unfold g_Clock_pass_74
  rw [stt_k (j := 10) (k := 6) (by decide), stt_s]
  by_cases h5 : t + s < 2560
  · rw [if_pos (i5.mpr h5), if_pos (i5.mpr h5)]
    refine ⟨?_, ?_⟩
    · refine ⟨fun k k1 k2 k3 => ?_, q2.2⟩
      have z := q2.1 k k1 k2 k3
      by_cases e : k = 10
      · subst e
        refine ⟨z.1, t + s, h5, ?_⟩
        rw [stt_k (by decide), stt_s]
      · unfold va_up at z; rw [if_neg e] at z; exact z
    · rw [stt_k (by decide), stt_k (by decide), es]
  · rw [if_neg (fun z => h5 (i5.mp z)), if_neg (fun z => h5 (i5.mp z))]
    have q3 := ab_endF q2 (t := t + s) (by rw [stt_k (by decide), stt_s]) (by omega) (by omega)
    rw [show ab_ix 10 = 18 from rfl, show ab_ix 6 = 14 from rfl] at q3
    rw [stt_k (j := 18) (k := 14) (by decide), stt_s, stt_k (j := 19) (by decide), stt_k (j := 19) (by decide), stt_k (j := 20) (by decide), stt_k (j := 20) (by decide), stt_k (j := 17) (by decide), stt_k (j := 17) (by decide)] at q3
    refine ⟨q3, ?_⟩
    split
    · unfold f_MD_reset; simp [stt_ap]
      exact es
    · simp [stt_ap]
      exact es
def ab_s18 (x : Int32) : Prop := ∃ s : Nat, s ≤ 18 ∧ x = nI s
theorem ab_s_if (c : Prop) (d : Decidable c) (m n : Nat) (hm : m ≤ 18) (hn : n ≤ 18) : ab_s18 (@ite Int32 c d (nI m) (nI n)) := by
  split
  · exact ⟨m, hm, rfl⟩
  · exact ⟨n, hn, rfl⟩
theorem ab_s_setOrAddPair (u : SS) (y : Int32) : ab_s18 (f_Processor_setOrAddPair u y).1 := by
  unfold f_Processor_setOrAddPair
  repeat' split
  all_goals first | exact ⟨4, by decide, rfl⟩ | exact ⟨5, by decide, rfl⟩ | exact ⟨7, by decide, rfl⟩ | exact ⟨10, by decide, rfl⟩ | exact ⟨11, by decide, rfl⟩ | exact ⟨13, by decide, rfl⟩ | exact ⟨16, by decide, rfl⟩ | exact ⟨17, by decide, rfl⟩ | exact ⟨18, by decide, rfl⟩
theorem ab_s_moveByAddress (u : SS) (y : Int32) : ab_s18 (f_Processor_moveByAddress u y).1 := by
  unfold f_Processor_moveByAddress
  repeat' split
  all_goals first | exact ⟨4, by decide, rfl⟩ | exact ⟨5, by decide, rfl⟩ | exact ⟨7, by decide, rfl⟩ | exact ⟨10, by decide, rfl⟩ | exact ⟨11, by decide, rfl⟩ | exact ⟨13, by decide, rfl⟩ | exact ⟨16, by decide, rfl⟩ | exact ⟨17, by decide, rfl⟩ | exact ⟨18, by decide, rfl⟩
theorem ab_s_operateOnData (u : SS) (y : Int32) (z : Int32) : ab_s18 (f_Processor_operateOnData u y z).1 := by
  unfold f_Processor_operateOnData
  repeat' split
  all_goals first | exact ab_s_setOrAddPair _ _ | exact ab_s_moveByAddress _ _ | (dsimp only; split; exact ⟨10, by decide, rfl⟩; first | exact ⟨5, by decide, rfl⟩ | exact ⟨7, by decide, rfl⟩) | first | exact ⟨4, by decide, rfl⟩ | exact ⟨5, by decide, rfl⟩ | exact ⟨7, by decide, rfl⟩ | exact ⟨10, by decide, rfl⟩ | exact ⟨11, by decide, rfl⟩ | exact ⟨13, by decide, rfl⟩ | exact ⟨16, by decide, rfl⟩ | exact ⟨17, by decide, rfl⟩ | exact ⟨18, by decide, rfl⟩
theorem ab_s_move (u : SS) (y : Int32) (z : Int32) : ab_s18 (f_Processor_move u y z).1 := by
  unfold f_Processor_move
  repeat' split
  all_goals first | (dsimp only; split; exact ⟨7, by decide, rfl⟩; split; exact ⟨7, by decide, rfl⟩; exact ⟨5, by decide, rfl⟩) | first | exact ⟨4, by decide, rfl⟩ | exact ⟨5, by decide, rfl⟩ | exact ⟨7, by decide, rfl⟩ | exact ⟨10, by decide, rfl⟩ | exact ⟨11, by decide, rfl⟩ | exact ⟨13, by decide, rfl⟩ | exact ⟨16, by decide, rfl⟩ | exact ⟨17, by decide, rfl⟩ | exact ⟨18, by decide, rfl⟩
theorem ab_s_returnIf (u : SS) (y : Int32) : ab_s18 (f_Processor_returnIf u y).1 := by
  unfold f_Processor_returnIf
  repeat' split
  all_goals first | exact ⟨4, by decide, rfl⟩ | exact ⟨5, by decide, rfl⟩ | exact ⟨7, by decide, rfl⟩ | exact ⟨10, by decide, rfl⟩ | exact ⟨11, by decide, rfl⟩ | exact ⟨13, by decide, rfl⟩ | exact ⟨16, by decide, rfl⟩ | exact ⟨17, by decide, rfl⟩ | exact ⟨18, by decide, rfl⟩
theorem ab_s_popOrGo (u : SS) (y : Int32) : ab_s18 (f_Processor_popOrGo u y).1 := by
  unfold f_Processor_popOrGo
  repeat' split
  all_goals first | exact ⟨4, by decide, rfl⟩ | exact ⟨5, by decide, rfl⟩ | exact ⟨7, by decide, rfl⟩ | exact ⟨10, by decide, rfl⟩ | exact ⟨11, by decide, rfl⟩ | exact ⟨13, by decide, rfl⟩ | exact ⟨16, by decide, rfl⟩ | exact ⟨17, by decide, rfl⟩ | exact ⟨18, by decide, rfl⟩
theorem ab_s_goIf (u : SS) (y : Int32) : ab_s18 (f_Processor_goIf u y).1 := by
  unfold f_Processor_goIf
  repeat' split
  all_goals first | exact ⟨4, by decide, rfl⟩ | exact ⟨5, by decide, rfl⟩ | exact ⟨7, by decide, rfl⟩ | exact ⟨10, by decide, rfl⟩ | exact ⟨11, by decide, rfl⟩ | exact ⟨13, by decide, rfl⟩ | exact ⟨16, by decide, rfl⟩ | exact ⟨17, by decide, rfl⟩ | exact ⟨18, by decide, rfl⟩
theorem ab_s_goOrExchange (u : SS) (y : Int32) : ab_s18 (f_Processor_goOrExchange u y).1 := by
  unfold f_Processor_goOrExchange
  repeat' split
  all_goals first | exact ⟨4, by decide, rfl⟩ | exact ⟨5, by decide, rfl⟩ | exact ⟨7, by decide, rfl⟩ | exact ⟨10, by decide, rfl⟩ | exact ⟨11, by decide, rfl⟩ | exact ⟨13, by decide, rfl⟩ | exact ⟨16, by decide, rfl⟩ | exact ⟨17, by decide, rfl⟩ | exact ⟨18, by decide, rfl⟩
theorem ab_s_goWithReturnIf (u : SS) (y : Int32) : ab_s18 (f_Processor_goWithReturnIf u y).1 := by
  unfold f_Processor_goWithReturnIf
  repeat' split
  all_goals first | exact ⟨4, by decide, rfl⟩ | exact ⟨5, by decide, rfl⟩ | exact ⟨7, by decide, rfl⟩ | exact ⟨10, by decide, rfl⟩ | exact ⟨11, by decide, rfl⟩ | exact ⟨13, by decide, rfl⟩ | exact ⟨16, by decide, rfl⟩ | exact ⟨17, by decide, rfl⟩ | exact ⟨18, by decide, rfl⟩
theorem ab_s_pushPair (u : SS) (y : Int32) : ab_s18 (f_Processor_pushPair u y).1 := by
  unfold f_Processor_pushPair
  repeat' split
  all_goals first | exact ⟨4, by decide, rfl⟩ | exact ⟨5, by decide, rfl⟩ | exact ⟨7, by decide, rfl⟩ | exact ⟨10, by decide, rfl⟩ | exact ⟨11, by decide, rfl⟩ | exact ⟨13, by decide, rfl⟩ | exact ⟨16, by decide, rfl⟩ | exact ⟨17, by decide, rfl⟩ | exact ⟨18, by decide, rfl⟩
theorem ab_s_operateOnFlow (u : SS) (y : Int32) (z : Int32) : ab_s18 (f_Processor_operateOnFlow u y z).1 := by
  unfold f_Processor_operateOnFlow
  repeat' split
  all_goals first | exact ab_s_returnIf _ _ | exact ab_s_popOrGo _ _ | exact ab_s_goIf _ _ | exact ab_s_goOrExchange _ _ | exact ab_s_goWithReturnIf _ _ | exact ab_s_pushPair _ _ | first | exact ⟨4, by decide, rfl⟩ | exact ⟨5, by decide, rfl⟩ | exact ⟨7, by decide, rfl⟩ | exact ⟨10, by decide, rfl⟩ | exact ⟨11, by decide, rfl⟩ | exact ⟨13, by decide, rfl⟩ | exact ⟨16, by decide, rfl⟩ | exact ⟨17, by decide, rfl⟩ | exact ⟨18, by decide, rfl⟩
theorem ab_s_operate (u : SS) (x : Int32) : ab_s18 (f_Processor_operate u x).1 := by
  unfold f_Processor_operate
  repeat' split
  all_goals first | exact ab_s_operateOnData _ _ _ | exact ab_s_move _ _ _ | exact ab_s_operateOnFlow _ _ _ | (dsimp only; split; exact ⟨7, by decide, rfl⟩; exact ⟨4, by decide, rfl⟩) | first | exact ⟨4, by decide, rfl⟩ | exact ⟨5, by decide, rfl⟩ | exact ⟨7, by decide, rfl⟩ | exact ⟨10, by decide, rfl⟩ | exact ⟨11, by decide, rfl⟩ | exact ⟨13, by decide, rfl⟩ | exact ⟨16, by decide, rfl⟩ | exact ⟨17, by decide, rfl⟩ | exact ⟨18, by decide, rfl⟩
/-- a step -/
theorem ab_stepE (h : ab_Q (ab_bd B) (ab_jO b) u v) {c : Int32} (ec : c = v 0 24) (hc : ab_s18 c) : ab_Q (ab_bd B) ab_jR (g_Processor_step_70 u b c).2 (g_MD_step_90 v) ∧ (g_Processor_step_70 u b c).1 = g_MD_step_90 v 0 24 ∧ ab_s18 (g_MD_step_90 v 0 24) := by
  obtain ⟨s, hs, es⟩ := hc
  have p := ab_pass (ab_end h) hs (ec.symm.trans es)
  unfold g_Processor_step_70
  rw [es]
  exact ⟨p.1, by rw [p.2, ← ec, es], by rw [p.2, ← ec, es]; exact ⟨s, hs, rfl⟩⟩
theorem ab_step (h : ab_Q (ab_bd B) ab_jR u v) (hB : B < 2 ^ 30) : ab_Q (ab_bd (B + 8)) ab_jR (f_Processor_step u).2 (f_MD_step v) ∧ (f_Processor_step u).1 = f_MD_step v 0 24 ∧ ab_s18 (f_MD_step v 0 24) := by
  have hb := ab_begin h
  have e3 : u 0 3 = v 0 11 := ab_Q_sc h 3
  have e5 : u 0 5 = v 0 13 := ab_Q_sc h 5
  have e6 : u 0 6 = v 0 14 := ab_Q_sc h 6
  -- the rest, where no call is taken
  have rest : ∀ b, b = u 0 3 → (ab_Q (ab_bd (B + 8)) ab_jR (if u 0 5 = 0 then g_Processor_step_70 (f_Processor_operate (f_Processor_nextByte u).2 (f_Processor_nextByte u).1).2 b (f_Processor_operate (f_Processor_nextByte u).2 (f_Processor_nextByte u).1).1 else g_Processor_step_70 u b 4).2 (if v 0 13 = 0 then g_MD_step_90 (f_MD_operation (stt v 0 12 0)) else g_MD_step_90 (stt (stt v 0 12 0) 0 24 4)) ∧ (if u 0 5 = 0 then g_Processor_step_70 (f_Processor_operate (f_Processor_nextByte u).2 (f_Processor_nextByte u).1).2 b (f_Processor_operate (f_Processor_nextByte u).2 (f_Processor_nextByte u).1).1 else g_Processor_step_70 u b 4).1 = (if v 0 13 = 0 then g_MD_step_90 (f_MD_operation (stt v 0 12 0)) else g_MD_step_90 (stt (stt v 0 12 0) 0 24 4)) 0 24 ∧ ab_s18 ((if v 0 13 = 0 then g_MD_step_90 (f_MD_operation (stt v 0 12 0)) else g_MD_step_90 (stt (stt v 0 12 0) 0 24 4)) 0 24)) := by
    intro b eb
    subst eb
    rw [← e5]
    by_cases q : u 0 5 = 0
    · rw [if_pos q, if_pos q]
      have p := ab_opn hb hB rfl
      exact ab_stepE p.1 p.2 (ab_s_operate _ _)
    · rw [if_neg q, if_neg q]
      exact ab_stepE (ab_up8 (ab_Q_st hb 4)) (stt_s _ _ _ _).symm ⟨4, by decide, rfl⟩
  unfold f_Processor_step f_MD_step
  rw [← e3]
  by_cases q3 : u 0 3 = 0
  · rw [if_pos q3, if_pos q3]
    exact rest _ rfl
  · rw [if_neg q3, if_neg q3]
    have e4 : u 0 4 = v 0 12 := by
      refine h.2.2.1.1 ?_
      rcases ab_Q_bo3 h with e | e
      · exact absurd e q3
      · exact e
    rw [← e4]
    by_cases q4 : u 0 4 = 0
    · rw [if_pos q4, if_pos q4]
      obtain ⟨c, hc, ec⟩ := ab_Q_bd h 6
      have hc' : c < 3 := hc
      by_cases q6 : u 0 6 = 0
      · rw [if_pos q6, if_pos (show v 0 14 ≤ 0 by rw [← e6, q6]; decide)]
        exact rest _ rfl
      · have c0 : 0 < c := Nat.pos_of_ne_zero (fun z => q6 (by rw [ec, z]; rfl))
        rw [if_neg q6, if_neg (show ¬ v 0 14 ≤ 0 by rw [← e6, ec]; exact fun z => by have := (nI_leI (b := 0) (by omega) (by decide)).mp z; omega)]
        have e2 : u 0 2 = v 0 10 := ab_Q_sc h 2
        have q1 := ab_Q_put hb 6 (n := 0) (x := 0) (y := 0) rfl (ab_bd0 6) rfl
        have q2 := ab_Q_int (jc' := ab_jO (u 0 3)) q1 ab_bo0 (Nat.le_refl _) q1.2.2.1.2.1 ab_bo0 (show ab_jO (u 0 3) 0 _ 0 from rfl)
        rw [stt_comm (u := stt u 0 6 0) (by decide), stt_id] at q2
        have q5 := ab_Q_put q2 5 (n := 0) (x := 0) (y := 0) rfl (ab_bd0 5) rfl
        have q7 := ab_hpush q5 (w := 8 * u 0 6) ⟨8 * c, by omega, by rw [ec, show (8 : Int32) = nI 8 from rfl, pk_mul]⟩
        have q8 := ab_Q_st q7 11
        refine (fun z => ?_) (ab_stepE (ab_up8 q8) (c := 11) (stt_s _ _ _ _).symm ⟨11, by decide, rfl⟩)
        have eu : (f_Processor_takeCall u).2 = stt (f_Memory_push (stt (stt (stt u 0 6 0) 0 3 0) 0 5 0) (stt (stt (stt u 0 6 0) 0 3 0) 0 5 0 0 2)) 0 2 (8 * u 0 6) := rfl
        have ev : stt (stt (stt (f_MD_push (stt (stt (stt v 0 12 0) 0 11 0) 0 13 0) (v 0 10)) 0 10 (8 * (f_MD_push (stt (stt (stt v 0 12 0) 0 11 0) 0 13 0) (v 0 10) 0 14))) 0 14 0) 0 24 11 = stt (stt (f_MD_push (stt (stt (stt (stt (stt v 0 12 0) 0 (ab_ix 6) 0) 0 11 0) 0 12 0) 0 (ab_ix 5) 0) (stt (stt (stt (stt (stt v 0 12 0) 0 (ab_ix 6) 0) 0 11 0) 0 12 0) 0 (ab_ix 5) 0 0 10)) 0 10 (8 * u 0 6)) 0 24 11 := by
          rw [show ab_ix 6 = 14 from rfl, show ab_ix 5 = 13 from rfl]
          have a1 : stt (stt (stt (stt (stt v 0 12 0) 0 14 0) 0 11 0) 0 12 0) 0 13 0 = stt (stt (stt (stt v 0 12 0) 0 11 0) 0 13 0) 0 14 0 := by
            funext x y; simp only [stt_ap]; repeat' split
            all_goals first | rfl | omega
          have a2 : f_MD_push (stt (stt (stt v 0 12 0) 0 11 0) 0 13 0) (v 0 10) 0 14 = u 0 6 := by
            unfold f_MD_push
            rw [stt_k (by decide), ab_wr_a (by decide), ab_wr_a (by decide), stt_k (by decide), stt_k (by decide), stt_k (by decide), e6]
          have a3 : stt (stt (stt (stt v 0 12 0) 0 11 0) 0 13 0) 0 14 0 0 10 = v 0 10 := by rw [stt_k (by decide), stt_k (by decide), stt_k (by decide), stt_k (by decide)]
          rw [a1, a2, a3]
          generalize stt (stt (stt v 0 12 0) 0 11 0) 0 13 0 = W
          rw [ab_push_c (by decide), stt_comm (u := f_MD_push W (v 0 10)) (k := 10) (j := 14) (by decide)]
        rw [ev]
        exact z
    · rw [if_neg q4, if_neg q4]
      exact rest _ rfl
end EQ

