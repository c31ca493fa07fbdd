theorem i_AB {D : va_G} {A : Nat → Prop} {H0 H : Heap} {locs : List Loc} (t : Nat → ClassId) (a0 : Nat) (r : Nat → Nat) (h : ab_hx D (w1_AB_init t a0 r) A H0 H locs) : ab_hx D (wT t (i_q a0 r) (i_z, i_u)) A H0 H locs := by
  refine ab_hx_perm i_pl (fun k q' hk => ?_) i_pl_inj h
  match k, hk with
  | 0, hk =>
    have e := Option.some.inj hk
    subst e
    exact ⟨_, rfl, rfl, fun h => h⟩
  | 1, hk =>
    have e := Option.some.inj hk
    subst e
    exact ⟨_, rfl, rfl, fun h => h⟩
  | 2, hk =>
    have e := Option.some.inj hk
    subst e
    exact ⟨_, rfl, rfl, fun h => h⟩
  | 3, hk =>
    have e := Option.some.inj hk
    subst e
    exact ⟨_, rfl, rfl, fun h => h⟩
  | 4, hk =>
    have e := Option.some.inj hk
    subst e
    exact ⟨_, rfl, rfl, fun h => h⟩
  | 5, hk =>
    have e := Option.some.inj hk
    subst e
    exact ⟨_, rfl, rfl, fun h => h⟩
  | 6, hk =>
    have e := Option.some.inj hk
    subst e
    exact ⟨_, rfl, rfl, fun h => h⟩
  | 7, hk =>
    have e := Option.some.inj hk
    subst e
    exact ⟨_, rfl, rfl, fun h => h⟩
  | 8, hk =>
    have e := Option.some.inj hk
    subst e
    exact ⟨_, rfl, rfl, fun h => h⟩
  | 9, hk =>
    have e := Option.some.inj hk
    subst e
    exact ⟨_, rfl, rfl, fun h => h⟩
  | 10, hk =>
    have e := Option.some.inj hk
    subst e
    exact ⟨_, rfl, rfl, fun h => h⟩
  | 11, hk =>
    have e := Option.some.inj hk
    subst e
    exact ⟨_, rfl, rfl, fun h => h⟩
  | 12, hk =>
    have e := Option.some.inj hk
    subst e
    exact ⟨_, rfl, rfl, fun h => h⟩
  | 13, hk =>
    have e := Option.some.inj hk
    subst e
    exact ⟨_, rfl, rfl, fun h => h⟩
  | 14, hk =>
    have e := Option.some.inj hk
    subst e
    exact ⟨_, rfl, rfl, fun h => h⟩
  | 15, hk =>
    have e := Option.some.inj hk
    subst e
    exact ⟨_, rfl, rfl, fun h => h⟩
  | 16, hk =>
    have e := Option.some.inj hk
    subst e
    exact ⟨_, rfl, rfl, fun h => h⟩
  | 17, hk =>
    have e := Option.some.inj hk
    subst e
    exact ⟨_, rfl, rfl, fun h => h⟩
  | 18, hk =>
    have e := Option.some.inj hk
    subst e
    exact ⟨_, rfl, rfl, fun h => h⟩
  | 19, hk =>
    have e := Option.some.inj hk
    subst e
    exact ⟨_, rfl, rfl, fun h => h⟩
  | 20, hk =>
    have e := Option.some.inj hk
    subst e
    exact ⟨_, rfl, rfl, fun h => h⟩
  | k + 21, hk => exact absurd (show k + 21 < 21 from (List.getElem?_eq_some_iff.mp hk).1) (by omega)
theorem lx_41 : Jvm.Cond.arrayClass Jvm.ClassFile.FieldType.int ∈ AL := ab_in (ab_t1 (List.mem_of_getElem? (i := 126) (by decide +kernel))) (by decide +kernel)
theorem lx_42 : Jvm.Cond.arrayClass Jvm.ClassFile.FieldType.boolean ∈ AL := ab_in (ab_t2 (List.mem_of_getElem? (i := 22) (by decide +kernel))) (by decide +kernel)
theorem lx_43 : Jvm.Cond.arrayClass Jvm.ClassFile.FieldType.long ∈ AL := ab_in (ab_t4 (List.mem_of_getElem? (i := 195) (by decide +kernel))) (by decide +kernel)
theorem lx_44 : Jvm.Cond.instantiable "ArcadeBoard$Arithmetic" 1 ∈ AL := ab_in (ab_t1 (List.mem_of_getElem? (i := 202) (by decide +kernel))) (by decide +kernel)
theorem lx_45 : Jvm.Cond.instantiable "ArcadeBoard$Clock" 1 ∈ AL := ab_in (ab_t1 (List.mem_of_getElem? (i := 186) (by decide +kernel))) (by decide +kernel)
theorem lx_46 : Jvm.Cond.instantiable "ArcadeBoard$Memory" 2 ∈ AL := ab_in (ab_t1 (List.mem_of_getElem? (i := 128) (by decide +kernel))) (by decide +kernel)
theorem lx_47 : Jvm.Cond.instantiable "ArcadeBoard$Ports" 4 ∈ AL := ab_in (ab_t1 (List.mem_of_getElem? (i := 167) (by decide +kernel))) (by decide +kernel)
theorem lx_48 : Jvm.Cond.instantiable "ArcadeBoard$Processor" 6 ∈ AL := ab_in (ab_t1 (List.mem_of_getElem? (i := 196) (by decide +kernel))) (by decide +kernel)
theorem lx_49 : Jvm.Cond.instantiable "ArcadeBoard$Registers" 2 ∈ AL := ab_in (ab_t1 (List.mem_of_getElem? (i := 141) (by decide +kernel))) (by decide +kernel)
theorem lx_50 : Jvm.Cond.instantiable "ArcadeBoard$Sounds" 2 ∈ AL := ab_in (ab_t1 (List.mem_of_getElem? (i := 154) (by decide +kernel))) (by decide +kernel)
theorem lx_51 : Jvm.Cond.instantiable "ArcadeBoard$State" 17 ∈ AL := ab_in (ab_t1 (List.mem_of_getElem? (i := 27) (by decide +kernel))) (by decide +kernel)
theorem lx_52 : Jvm.Cond.instantiable "ArcadeBoard" 10 ∈ AL := ab_in (ab_t1 (List.mem_of_getElem? (i := 19) (by decide +kernel))) (by decide +kernel)
theorem lx_53 : Jvm.Cond.instantiable "ArcadeBoardModel" 30 ∈ AL := ab_in (ab_t3 (List.mem_of_getElem? (i := 173) (by decide +kernel))) (by decide +kernel)
theorem lx_54 : Jvm.Cond.classLink "ArcadeBoardLaw" 8 "ArcadeBoard" ∈ AL := ab_in (ab_t1 (List.mem_of_getElem? (i := 18) (by decide +kernel))) (by decide +kernel)
theorem lx_55 : Jvm.Cond.initialized "ArcadeBoard" ∈ AL := ab_in (ab_t1 (List.mem_of_getElem? (i := 1) (by decide +kernel))) (by decide +kernel)
theorem lx_56 : Jvm.Cond.instanceMethod ⟨"ArcadeBoard", "<init>", "()V"⟩ ∈ AL := ab_in (ab_t1 (List.mem_of_getElem? (i := 21) (by decide +kernel))) (by decide +kernel)
theorem lx_57 : Jvm.Cond.methodLink "ArcadeBoardLaw" 24 ⟨"ArcadeBoard", "<init>", "()V"⟩ ∈ AL := ab_in (ab_t1 (List.mem_of_getElem? (i := 20) (by decide +kernel))) (by decide +kernel)
theorem lx_58 : Jvm.Cond.classLink "ArcadeBoardLaw" 25 "ArcadeBoardModel" ∈ AL := ab_in (ab_t3 (List.mem_of_getElem? (i := 172) (by decide +kernel))) (by decide +kernel)
theorem lx_59 : Jvm.Cond.initialized "ArcadeBoardModel" ∈ AL := ab_in (ab_t1 (List.mem_of_getElem? (i := 10) (by decide +kernel))) (by decide +kernel)
theorem lx_60 : Jvm.Cond.instanceMethod ⟨"ArcadeBoardModel", "<init>", "()V"⟩ ∈ AL := ab_in (ab_t3 (List.mem_of_getElem? (i := 175) (by decide +kernel))) (by decide +kernel)
theorem lx_61 : Jvm.Cond.methodLink "ArcadeBoardLaw" 27 ⟨"ArcadeBoardModel", "<init>", "()V"⟩ ∈ AL := ab_in (ab_t3 (List.mem_of_getElem? (i := 174) (by decide +kernel))) (by decide +kernel)
theorem lw_K {s : State} {args : Array Value} (hts : ∀ w ∈ AL, w.before args s = true) (hao : va_AO "ArcadeBoard$State" s) : ∃ (D : va_G) (t : Nat → ClassId), va_K D CL (tyC t) s := by
  obtain ⟨c0, i0, k0⟩ := u_known hts in_Arithmetic (hts _ lx_44)
  obtain ⟨c1, i1, k1⟩ := u_known hts in_Clock (hts _ lx_45)
  obtain ⟨c2, i2, k2⟩ := u_known hts in_Memory (hts _ lx_46)
  obtain ⟨c3, i3, k3⟩ := u_known hts in_Ports (hts _ lx_47)
  obtain ⟨c4, i4, k4⟩ := u_known hts in_Processor (hts _ lx_48)
  obtain ⟨c5, i5, k5⟩ := u_known hts in_Registers (hts _ lx_49)
  obtain ⟨c6, i6, k6⟩ := u_known hts in_Sounds (hts _ lx_50)
  obtain ⟨c7, i7, k7⟩ := u_known hts in_State (hts _ lx_51)
  obtain ⟨c8, i8, k8⟩ := u_known hts in_AB (hts _ lx_52)
  obtain ⟨c9, i9, k9⟩ := u_known hts in_MD (hts _ lx_53)
  obtain ⟨a0, g0, p0, f0, h0, n0⟩ := Cond.arrayClass_spec (hts _ lx_41)
  obtain ⟨a1, g1, p1, f1, h1, n1⟩ := Cond.arrayClass_spec (hts _ lx_42)
  obtain ⟨a3, g3, p3, f3, h3, n3⟩ := Cond.arrayClass_spec (hts _ lx_43)
  obtain ⟨p2, a2, g2, m2, -, h2, n2, f2⟩ := Cond.arrayOver_spec hao
  refine ⟨(fun k => match k with | 0 => c0 | 1 => c1 | 2 => c2 | 3 => c3 | 4 => c4 | 5 => c5 | 6 => c6 | 7 => c7 | 8 => c8 | _ => c9, fun k => match k with | 0 => i0 | 1 => i1 | 2 => i2 | 3 => i3 | 4 => i4 | 5 => i5 | 6 => i6 | 7 => i7 | 8 => i8 | _ => i9), fun k => match k with | 0 => a0 | 1 => a1 | 2 => a2 | _ => a3, fun c q hq => ?_, fun k q hk => ?_⟩
  · match c, hq with
    | 0, hq =>
      have e := Option.some.inj hq
      subst e
      exact k0
    | 1, hq =>
      have e := Option.some.inj hq
      subst e
      exact k1
    | 2, hq =>
      have e := Option.some.inj hq
      subst e
      exact k2
    | 3, hq =>
      have e := Option.some.inj hq
      subst e
      exact k3
    | 4, hq =>
      have e := Option.some.inj hq
      subst e
      exact k4
    | 5, hq =>
      have e := Option.some.inj hq
      subst e
      exact k5
    | 6, hq =>
      have e := Option.some.inj hq
      subst e
      exact k6
    | 7, hq =>
      have e := Option.some.inj hq
      subst e
      exact k7
    | 8, hq =>
      have e := Option.some.inj hq
      subst e
      exact k8
    | 9, hq =>
      have e := Option.some.inj hq
      subst e
      exact k9
    | c + 10, hq => exact absurd (show c + 10 < 10 from (List.getElem?_eq_some_iff.mp hq).1) (by omega)
  · match k, hk with
    | 0, hk =>
      have e := Option.some.inj hk
      subst e
      exact ⟨fun n z => ⟨fun k h => (by cases h), g0, h0, p0, n0⟩, f0⟩
    | 1, hk =>
      have e := Option.some.inj hk
      subst e
      exact ⟨fun n z => ⟨fun k h => (by cases h), g1, h1, p1, n1⟩, f1⟩
    | 3, hk =>
      have e := Option.some.inj hk
      subst e
      exact ⟨fun n z => ⟨fun k h => (by cases h), g3, h3, p3, n3⟩, f3⟩
    | 2, hk =>
      have e := Option.some.inj hk
      subst e
      exact ⟨fun n z => ⟨fun k h => (by cases h), g2, h2, p2, n2⟩, g2, p2, h2, n2, m2, f2⟩
    | k + 4, hk => exact absurd (show k + 4 < 4 from (List.getElem?_eq_some_iff.mp hk).1) (by omega)
theorem lw_TL {s : State} {args : Array Value} {A : Nat → Prop} {n d : String} (h : (Cond.laysStatic Bundle.tN n d).before args s = true) (hA : ∀ a : Nat, a < s.heap.size → ¬ A a) : ab_TL n d A s s.heap := by
  obtain ⟨c, k, i, f, a, cell, h1, h2, h3, h4, h5, h6, h7, h8, h9⟩ := Cond.laysStatic_spec h
  exact ⟨c, k, i, f, a, cell, h1, h2, h3, h4, h5, h6, h7, h8, h9, hA a (Array.getElem?_eq_some_iff.mp h5).1⟩
theorem lw_SR {s : State} {args : Array Value} (hts : ∀ w ∈ lw_tbl, w.before args s = true) : ab_SR s := by
  refine ⟨fun own k tx hm => ?_, fun w hw hf => ab_fa (State.WarmedH.refl s) hf (hts w hw)⟩
  have h : (Cond.stringRef own k tx).before #[] s = true := by
    have h0 := hts _ hm
    simp only [Cond.before, Cond.holds, Cond.value] at h0 ⊢
    exact h0
  cases hc : s.vm.findClass own with
  | none => simp [Cond.before, Cond.holds, Cond.value, hc] at h
  | some cur =>
    obtain ⟨k9, cf, i, a, -, -, -, -, -, hev⟩ := Cond.stringRef_spec hc h
    exact ⟨a, vk_R.of h hev⟩
theorem ly_0 : Jvm.Cond.arrayOver (Jvm.ClassFile.FieldType.object "ArcadeBoard$State") ∈ lw_tbl := ab_t1 (List.mem_of_getElem? (i := 230) (by decide +kernel))
theorem ly_1 : Jvm.Cond.methodLinkNest "ArcadeBoard" 9 ⟨"ArcadeBoard$State", "<init>", "()V"⟩ "ArcadeBoard" ∈ lw_tbl := ab_t1 (List.mem_of_getElem? (i := 28) (by decide +kernel))
theorem ly_2 : Jvm.Cond.methodLinkNest "ArcadeBoard" 36 ⟨"ArcadeBoard$Sounds", "<init>", "()V"⟩ "ArcadeBoard" ∈ lw_tbl := ab_t1 (List.mem_of_getElem? (i := 155) (by decide +kernel))
theorem ly_3 : Jvm.Cond.laysStatic "java/lang/Throwable" "UNASSIGNED_STACK" "[Ljava/lang/StackTraceElement;" ∈ lw_tbl := ab_t2 (List.mem_of_getElem? (i := 144) (by decide +kernel))
theorem ly_4 : Jvm.Cond.laysStatic "java/lang/Throwable" "SUPPRESSED_SENTINEL" "Ljava/util/List;" ∈ lw_tbl := ab_t2 (List.mem_of_getElem? (i := 146) (by decide +kernel))
theorem ly_5 : Jvm.Cond.initialized "java/lang/Throwable" ∈ lw_tbl := ab_t1 (List.mem_of_getElem? (i := 11) (by decide +kernel))
set_option maxHeartbeats 2000000 in
theorem whole_start {p : Program} {e : Env} {s : State} {m : MethodId} {below : List Frame} {meth : Method} {c : Code} (l : Launch) (hst : l.stackTraces = false) {b L : Nat} {xs : Nat → Int32} (hL : L ≤ 2048) (C0 : lw_At p s m meth c b L xs) : W p l e room_1 s m #[Value.ref b] below meth c s.heap [] 0 0 (lw_Z below #[Value.ref b] s) (entryFrame m ([Value.ref b] : List Value).toArray 7) := by
  obtain ⟨hx0, hb0, hr0, hml, hown, hts, hxs, hbl, hlk, hgv⟩ := C0
  have hAL : ∀ w ∈ AL, w.before #[Value.ref b] s = true := fun w hw => hts w (ab_al hw)
  have hE : ab_EX s := ⟨va_AO.of (hts _ ly_0), va_Nw.of rfl (hts _ ly_1), va_Nw.of rfl (hts _ ly_2)⟩
  obtain ⟨D, t, hK⟩ := lw_K hAL hE.1
  have X : ab_cx p s m #[Value.ref b] c b_LW_law 7 "ArcadeBoardLaw" D (tyC t) := ⟨hx0, hb0, hml, hown, hAL, hK⟩
  have hA0 : ∀ a : Nat, a < s.heap.size → ¬ (fun q : Nat => s.heap.size ≤ q) a := fun a h1 h2 => Nat.not_le_of_lt h1 h2
  have hfl := flat_of_before _ hgv
  have hT : ab_TH (fun q => s.heap.size ≤ q) s s.heap ∧ ab_SR s := ⟨⟨⟨va_Zqof (hts _ ly_3) (hts _ ly_5) (hfl (Cond.isRef (.static Bundle.tN "UNASSIGNED_STACK" Bundle.steD)) (by decide +kernel)) hA0, lw_TL (hts _ ly_3) hA0⟩, va_Zqof (hts _ ly_4) (hts _ ly_5) (hfl (Cond.isRef (.static Bundle.tN "SUPPRESSED_SENTINEL" Bundle.listD)) (by decide +kernel)) hA0, lw_TL (hts _ ly_4) hA0⟩, lw_SR hts⟩
  have hN : va_Nc "java/lang/IllegalStateException" "java/lang/IllegalArgumentException" s := va_Nc.of (hfl (Cond.not (.castable "java/lang/IllegalStateException" "java/lang/IllegalArgumentException")) (by decide +kernel))
  have C : lw_C p s m c b L xs D t (fun q => s.heap.size ≤ q) := ⟨X, hT, hN, hxs, hbl, hA0 b hbl⟩
  have hX : ab_hx D [] (fun q => s.heap.size ≤ q) s.heap s.heap [] := ⟨fun k q h => by simp at h, ⟨fun i j p q h => by simp at h, fun k q h => by simp at h⟩, va_S.rf, fun q h => h⟩
  rw [lg_entry_eq]
  have hl := lv_entry ([Value.ref b]) (n := 7) (Nat.le_of_ble_eq_true rfl)
  generalize ((lg_sl [Value.ref b] ++ List.replicate (7 - (lg_sl [Value.ref b]).length) Slot.unset).toArray) = ls at hl ⊢
  have hl : lv_has ls 7 [(0, .ref b)] := hl
  refine ab_new (pc := 0) (fs := [.null, .null, .null, .null, .null, .null, .null, .null, .null, .int 0]) X hX 8 rfl in_AB ty_AB ty_AB_ok ⟨lx_54, lx_52, lx_55⟩ (by decide +kernel) ⟨Nat.le_of_ble_eq_true rfl, Nat.le_of_ble_eq_true rfl⟩ d_LW_law_0 (fun a0 H hX => ?_)
  have hX : ab_hx D ([] ++ [(a0, .inr (8, [.null, .null, .null, .null, .null, .null, .null, .null, .null, .int 0]))]) (fun q => s.heap.size ≤ q) s.heap H _ := hX
  refine lv_dup (pc := 3) X.1 X.2.1 d_LW_law_3 rfl ?_
  refine ab_kn_callI (pc := 4) (wr := []) (wc := [(a0, .inr (8, [.null, .null, .null, .null, .null, .null, .null, .null, .null, .int 0]))]) (as := []) (rest := [.ref a0]) X hX hE (c_AB_init l D t a0) ok_AB_init lx_56 lx_57 rfl rfl hl.1 rfl (Nat.le_of_ble_eq_true rfl) ⟨Nat.le_of_ble_eq_true rfl, Nat.le_of_ble_eq_true rfl⟩ ⟨Nat.le_of_ble_eq_true rfl, Nat.le_of_ble_eq_true rfl⟩ d_LW_law_4 (fun r H locs hX => ?_)
  have hX : ab_hx D (wT t (i_q a0 r) (i_z, i_u)) (fun q => s.heap.size ≤ q) s.heap H locs := i_AB t a0 r hX
  refine lv_astore_n (pc := 7) (lv' := [(1, .ref a0), (0, .ref b)]) X.1 X.2.1 d_LW_law_7 rfl hl (Nat.le_of_ble_eq_true rfl) rfl (fun ls hl => ?_)
  refine ab_new (pc := 8) (fs := [.int 0, .null, .int 0, .int 0, .int 0, .null, .int 0, .int 0, .int 0, .int 0, .int 0, .int 0, .int 0, .int 0, .int 0, .int 0, .int 0, .int 0, .int 0, .int 0, .int 0, .int 0, .int 0, .int 0, .int 0, .int 0, .null, .null, .null, .int 0]) X hX 9 rfl in_MD ty_MD ty_MD_ok ⟨lx_58, lx_53, lx_59⟩ (by decide +kernel) ⟨Nat.le_of_ble_eq_true rfl, Nat.le_of_ble_eq_true rfl⟩ d_LW_law_8 (fun a1 H hX => ?_)
  have hX : ab_hx D (wT t (i_q a0 r) (i_z, i_u) ++ [(a1, .inr (9, [.int 0, .null, .int 0, .int 0, .int 0, .null, .int 0, .int 0, .int 0, .int 0, .int 0, .int 0, .int 0, .int 0, .int 0, .int 0, .int 0, .int 0, .int 0, .int 0, .int 0, .int 0, .int 0, .int 0, .int 0, .int 0, .null, .null, .null, .int 0]))]) (fun q => s.heap.size ≤ q) s.heap H _ := hX
  refine lv_dup (pc := 11) X.1 X.2.1 d_LW_law_11 rfl ?_
  refine ab_kn_callI (pc := 12) (wr := wT t (i_q a0 r) (i_z, i_u)) (wc := [(a1, .inr (9, [.int 0, .null, .int 0, .int 0, .int 0, .null, .int 0, .int 0, .int 0, .int 0, .int 0, .int 0, .int 0, .int 0, .int 0, .int 0, .int 0, .int 0, .int 0, .int 0, .int 0, .int 0, .int 0, .int 0, .int 0, .int 0, .null, .null, .null, .int 0]))]) (as := []) (rest := [.ref a1]) X hX hE (c_MD_init l D t a1) ok_MD_init lx_60 lx_61 rfl rfl hl.1 rfl (Nat.le_of_ble_eq_true rfl) ⟨Nat.le_of_ble_eq_true rfl, Nat.le_of_ble_eq_true rfl⟩ ⟨Nat.le_of_ble_eq_true rfl, Nat.le_of_ble_eq_true rfl⟩ d_LW_law_12 (fun r1 H locs hX => ?_)
  have hX : ab_hx D (wT t (i_q a0 r) (i_z, i_u) ++ wM t (i_q' a1 r1) i_v) (fun q => s.heap.size ≤ q) s.heap H locs := hX
  refine lv_astore_n (pc := 15) (lv' := [(2, .ref a1), (1, .ref a0), (0, .ref b)]) X.1 X.2.1 d_LW_law_15 rfl hl (Nat.le_of_ble_eq_true rfl) rfl (fun ls hl => ?_)
  refine lv_iconst (pc := 16) (v := 1) X.1 X.2.1 d_LW_law_16 (by decide) ?_
  refine ab_newa (pc := 17) (atype := .long) (N := 1) X hX 3 (1, .inr (.inl (fun _ => 0))) rfl lx_43 rfl (fun _ _ h1 h2 => Option.some.inj (h1.symm.trans h2)) (fun _ => rfl) (by decide) (by decide) (by decide) ⟨Nat.le_of_ble_eq_true rfl, Nat.le_of_ble_eq_true rfl⟩ d_LW_law_17 (fun o H hX => ?_)
  refine lv_astore_n (pc := 19) (lv' := [(3, .ref o), (2, .ref a1), (1, .ref a0), (0, .ref b)]) X.1 X.2.1 d_LW_law_19 rfl hl (Nat.le_of_ble_eq_true rfl) rfl (fun ls hl => ?_)
  refine lv_iconst (pc := 20) (v := nI (4 * 0)) X.1 X.2.1 d_LW_law_20 (by decide) ?_
  refine lv_istore (pc := 21) (lv' := [(4, .int (nI (4 * 0))), (3, .ref o), (2, .ref a1), (1, .ref a0), (0, .ref b)]) X.1 X.2.1 d_LW_law_21 hl (Nat.le_of_ble_eq_true rfl) rfl (fun ls hl => ?_)
  have h1 := ab_hx_swap hX
  rw [← List.append_assoc] at h1
  have hX := ab_hx_swap h1
  refine W.widen (k := 28 + 0) (n := 4316 + 6 * 0) (Nat.le_of_ble_eq_true rfl) (Nat.le_of_ble_eq_true rfl) ?_
  exact lw_loop (q := i_q a0 r) (q' := i_q' a1 r1) (o := o) l hst hL C (fun a h => h) hr0 hlk 513 0 0 (fun _ => 0) i_z i_u i_v ls _ _ (by decide) (by decide) (Nat.zero_le _) lp_start hl hX
