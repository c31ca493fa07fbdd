/-! The law's helpers: static methods of the law's own class with a table of handlers; their contract, entry, end, call. -/
def ab_kh_P (D : va_G) (tys : List (ClassId × FieldType)) (ws : va_W) (sz : Nat) (U : State) : Prop := ab_kx_P D tys ws sz U ∧ va_Nc "java/lang/IllegalStateException" "java/lang/IllegalArgumentException" U
def ab_kh (l : Launch) (D : va_G) (tys : List (ClassId × FieldType)) {S : Type} (w : S → va_W) (y : MethodName) (b : ByteArray) (n : Nat) (hh : List (Nat × Nat × Nat × Nat)) (rm : Room) (as : List Value) (u : S) (F : Int32 × S) : Prop :=
  ∀ sz : Nat, Met l y (Cond.codeWith y b n (some .int) hh :: AL) rm (va_Pc as (ab_kh_P D tys (w u) sz)) (va_Qi (fun r z => r = F.1 ∧ z = F.2) (ab_ky_B D tys w (va_A (w u) sz)) (va_A (w u) sz)) 1 6 (va_A (w u) sz)
def ab_kh_E {S : Type} (below : List Frame) (args : Array Value) (s : State) (D : va_G) (tys : List (ClassId × FieldType)) (w : S → va_W) (A : Nat → Prop) (F : Int32 × S) : State → Prop :=
  MQ below (va_Qi (fun r z => r = F.1 ∧ z = F.2) (ab_ky_B D tys w A) A) args s 1 6 A
theorem ab_kh_blind {D : va_G} {tys : List (ClassId × FieldType)} {ws : va_W} {sz : Nat} {as : List Value} : FrameBlind (va_Pc as (ab_kh_P D tys ws sz)) := by
  intro a U g mk q
  obtain ⟨q0, ⟨qy, qT, qS⟩, qN⟩ := q
  have h1 := ab_ky_blind (as := as) a U g mk ⟨q0, qy⟩
  exact ⟨q0, ⟨h1.2, ab_TH.moved (u := U) (U := U.calling g mk a) (Vm.Alike.refl U.vm) qT, ab_SR.same (s := U) rfl qS⟩, va_Nc.moved (u := U) (U := U.calling g mk a) (Vm.Alike.refl U.vm) qN⟩
section HL
variable {p : Program} {l : Launch} {e : Env} {R : Room} {s : State} {m : MethodId} {args : Array Value} {below : List Frame} {meth : Method} {c : Code} {H : Heap} {locs : List Loc} {cells slots : Nat} {Q : State → Prop}
variable {cc b : ByteArray} {nL n pc index k : Nat} {ls : Array Slot} {rest st as : List Value} {D : va_G} {tys : List (ClassId × FieldType)} {A : Nat → Prop} {H0 : Heap} {own : String} {y : MethodName} {rm : Room} {S : Type} {w : S → va_W} {hh : List (Nat × Nat × Nat × Nat)}
theorem ab_kh_ofW {u : S} {F : Int32 × S} (hy : plainName y.cls = true) (hn : (lg_sl as).length ≤ n)
    (body : ∀ (p : Program) (e : Env) (s : State) (m : MethodId) (below : List Frame) (meth : Method) (c : Code) (ls : Array Slot) (A : Nat → Prop), ab_cx p s m as.toArray c b n y.cls D tys → (ab_TH A s s.heap ∧ ab_SR s) → va_Nc "java/lang/IllegalStateException" "java/lang/IllegalArgumentException" s → c.exceptionTable.toList = tableOf hh → meth.sig.returnType = some .int → meth.locks = false → lv_has ls n (lv_args 0 as) → ab_hx D (w u) A s.heap s.heap [] →
      W p l e rm s m as.toArray below meth c s.heap [] 0 0 (ab_kh_E below as.toArray s D tys w A F) (F0 m 0 ls [])) : ab_kh l D tys w y b n hh rm as u F := by
  intro sz
  refine va_MetW (cc := b) (maxL := n) (ret := some .int) (hh := hh) hy rfl ?_
  intro p e s m args below meth c s₁ B hml hv
  obtain ⟨rfl, ⟨⟨hsz, hP, hK, hD0⟩, hTT, hSS⟩, hN⟩ := hv
  subst hsz
  have hts := atoms_spec (ws := Cond.codeWith y b n (some .int) hh :: AL) B.pre
  obtain ⟨m', meth', c', hname', hmeth, hcode, -, -, htable, -, -, -⟩ := Cond.codeWith_spec (hts _ List.mem_cons_self)
  cases B.named.symm.trans hname'
  cases B.method.symm.trans hmeth
  cases (Stand.of_body B).code.symm.trans hcode
  rw [lg_entry_eq]
  exact body p e s m below meth c _ (va_A (w u) s.heap.size) ⟨B.exec, B.bytes, hml, findClass_of_methodNamed B.named, fun w hw => hts w (List.mem_cons_of_mem _ hw), hK⟩ ⟨hTT, hSS⟩ hN (by rw [← htable, table_eq]) B.returns B.notSynchronized (lv_entry as hn) ⟨hP, hD0.self, va_S.rf, fun q h => Or.inr h⟩
theorem ab_kh_ret {u' : S} {F : Int32 × S} {v : Int32} (X : ab_cx p s m args c cc nL own D tys) (hr : meth.sig.returnType = some .int) (hk : meth.locks = false) (hX : ab_hx D (w u') A s.heap H locs) (hp : F = (v, u')) (hdg : decode cc pc = .ok (.ireturn, 1)) :
    W p l e R s m args below meth c H locs 1 6 (ab_kh_E below args s D tys w A F) (F0 m pc ls [.int v]) :=
  W.zret X.1 X.2.1 hr rfl (fun t ht hW => ⟨⟨v, u', rfl, ⟨by rw [hp], by rw [hp]⟩, by rw [ht]; exact hX.1, va_K.moved hW.alike X.2.2.2.2.2, hX.2.1⟩, hX.2.2.1.F ht⟩) hX.2.2.1.2.2 hdg (hlocks := hk)
theorem ab_kh_callS {wr : va_W} {u : S} {F : Int32 × S} (X : ab_cx p s m args c cc nL own D tys) (hT : ab_TH A s s.heap ∧ ab_SR s) (hN : va_Nc "java/lang/IllegalStateException" "java/lang/IllegalArgumentException" s) (hX : ab_hx D (wr ++ w u) A s.heap H locs) (hM : ab_kh l D tys w y b n hh rm as u F)
    (hcw : Cond.codeWith y b n (some .int) hh ∈ AL) (hini : Cond.initialized y.cls ∈ AL) (hd : y.cls ≠ "java/lang/invoke/MethodHandle" ∧ y.cls ≠ "java/lang/invoke/VarHandle" ∧ (parseMethodDescriptor y.desc).map (fun d => d.parameters.length) = some k) (hv : Cond.static y ∈ AL) (hlk : Cond.methodLink own index y ∈ AL)
    (hlen : as.length = k) (hl : ls.size = nL) (hst : st = as.reverse ++ rest) (hroom : (rest.map fun v => v.category).sum ≤ 8)
    (hrm : rm.cells = 1 ∧ rm.slots = 6 ∧ rm.frames + 1 ≤ R.frames ∧ 8 + (n + 11) + rm.locals ≤ R.locals) (hcs : cells + 1 ≤ R.cells ∧ slots + 6 ≤ R.slots) (hdg : decode cc pc = .ok (.invokestatic index, 3))
    (kk : ∀ (H1 : Heap) (locs1 : List Loc), ab_hx D (wr ++ w F.2) A s.heap H1 locs1 → W p l e R s m args below meth c H1 locs1 (cells + 1) (slots + 6) Q (F0 m (pc + 3) ls (.int F.1 :: rest))) : W p l e R s m args below meth c H locs cells slots Q (F0 m pc ls st) := by
  have wd : ∀ w ∈ AL, w.before args s = true := X.2.2.2.2.1
  have hK : Back l R p e below s args y 3 8 (PreOf R 1 6 (va_Pc as (ab_kh_P D tys (w u) H.size))) (PostOf (va_Qi (fun r z => r = F.1 ∧ z = F.2) (ab_ky_B D tys w (va_A (w u) H.size)) (va_A (w u) H.size)) 1 6 (va_A (w u) H.size)) := by
    refine va_backW (bytes := b) (maxL := n) (ret := some .int) (hh := hh) (hM H.size) ab_kh_blind hrm.1 hrm.2.1 hrm.2.2.1 hrm.2.2.2 (fun w hw a' U hW => ?_) List.mem_cons_self (fun a' U hW => word_at hW (ab_good _ hini) (wd _ hini))
    rcases List.mem_cons.mp hw with rfl | hw
    · exact word_at hW (ab_good _ hcw) (wd _ hcw)
    · exact word_at hW (ab_good _ hw) (wd _ hw)
  have hlenS : ∀ sig, parseMethodDescriptor y.desc = some sig → as.length = sig.parameters.length := by
    intro sig h
    have h2 := hd.2.2
    rw [h] at h2
    rw [hlen]; exact (Option.some.inj h2).symm
  have hRun : va_Run p l e R s m args below meth c H locs cells slots 1 6 (F0 m pc ls st) rest (va_Qi (fun r z => r = F.1 ∧ z = F.2) (ab_ky_B D tys w (va_A (w u) H.size)) (va_A (w u) H.size) as.toArray) (va_A (w u) H.size) := by
    intro T hT0 X0
    obtain ⟨mk, methM, cM, hnamed, hmethM, -, -, -, -, -, -, hsigM⟩ := Cond.codeWith_spec (wd _ hcw)
    have hstatic : methM.isStatic = true := Cond.static_spec hnamed hmethM (wd _ hv)
    obtain ⟨kP, hkP, -⟩ := className_of_methodNamed hnamed
    have hinitP : kP.init = .initialized := Cond.initialized_spec (findClass_of_methodNamed hnamed) hkP (wd _ hini)
    obtain ⟨vm₁, X₁, hstep₁⟩ := X0.invokestatic X.1 X.2.2.2.1 (wd _ hlk) hnamed hmethM hstatic hkP hinitP ⟨hd.1, hd.2.1⟩ (g := F0 m pc ls st) rfl (argsL := as) (rest := rest) (hlenS _ hsigM) hst (by rw [X.2.1]; exact hdg)
    have hUh : (T.setVm vm₁).heap = H := hT0
    have hW1 : s.WarmedH (T.setVm vm₁).vm := X₁.warmed
    have hPc : va_Pc as (ab_kh_P D tys (w u) H.size) as.toArray (T.setVm vm₁) := by
      refine ⟨rfl, ⟨(ab_ky_pre X hX as (T.setVm vm₁) hUh hW1).2, ?_, hT.2.warm hW1⟩, va_Nc.moved hW1.alike hN⟩
      rw [hUh]
      exact ab_TH.moved hW1.alike ((hT.1.kept hX.2.2.1.2.1).narrow (ab_hx_free hX))
    obtain ⟨v, ⟨U', l2, c2, s2⟩, X', ⟨g', mk', t, L, e1, e2, hq, h1, hL, h2, h3⟩, hsteps⟩ := hK m meth c ⟨T.setVm vm₁, locs, cells, slots⟩ (F0 m pc ls rest) (.invokestatic index) mk as.toArray X₁ rfl (hl.trans X.2.2.1.symm) (by rw [X.2.1]; exact hdg) (lv_room hroom) (X₁.named hnamed) ⟨hcs.1, hcs.2, hPc⟩
    dsimp only [Pt.U, Pt.locs, Pt.cells, Pt.slots] at X' e1 e2 h1 h2 h3
    subst h1; subst h2; subst h3
    exact ⟨v, (T.setVm vm₁).calling g' mk' as.toArray, t, U', L, hT0, X', hL, e1, e2, hq, fun target h => hstep₁ _ fun acts => by rw [doInvoke_state]; exact hsteps.trans h⟩
  refine va_calli hRun hX.2.2.1 (fun q _ h => ab_hx_free hX q h) (ab_hx_free hX) (fun r u' t H1 locs1 ht hvm hp hB hz hk hS => ?_)
  obtain ⟨rfl, rfl⟩ := hp
  subst ht
  obtain ⟨hP', hD'⟩ := ab_join_app hX.1 hX.2.1 hk (ab_hx_free hX) hB.1 hB.2.2
  exact kk _ _ ⟨hP', hD', hS, hX.2.2.2⟩
theorem ab_lst {ws ws' : va_W} {a : Nat} (X : ab_cx p s m args c cc nL own D tys) (hX : ab_hx D ws A H0 H locs) (q0 t0 : Nat) {cA : ClassId} {n : Nat} {f : Nat → Int64} (ha : ws[q0]? = some (a, .inl (cA, n, .inr (.inl f)))) (ht : tys[t0]? = some (cA, .long)) {i : Int32} {x : Int64} (hin : vp_in i n) {j : Nat} (hj : i.toNatClampNeg = j)
    (hws : ws.set q0 (a, .inl (cA, n, .inr (.inl (vp_updL f j x)))) = ws') (hdg : decode cc pc = .ok (.lastore, 1))
    (kk : ∀ (H1 : Heap) (locs1 : List Loc), ab_hx D ws' A H0 H1 locs1 → W p l e R s m args below meth c H1 locs1 cells slots Q (F0 m (pc + 1) ls rest)) : W p l e R s m args below meth c H locs cells slots Q (F0 m pc ls (.long x :: .int i :: .ref a :: rest)) := by
  subst hj
  subst hws
  exact va_last X.1 X.2.1 X.2.2.2.2.2 hX.1 hX.2.1 hX.2.2.1 q0 t0 ha ht hin hdg (fun H1 locs1 hP hD hS => kk H1 locs1 ⟨hP, hD, hS, hX.2.2.2⟩)
theorem ab_lld {ws : va_W} {a : Nat} (X : ab_cx p s m args c cc nL own D tys) (hX : ab_hx D ws A H0 H locs) (q0 t0 : Nat) {cA : ClassId} {n : Nat} {f : Nat → Int64} (ha : ws[q0]? = some (a, .inl (cA, n, .inr (.inl f)))) (ht : tys[t0]? = some (cA, .long)) {i : Int32} (hin : vp_in i n) {j : Nat} (hj : i.toNatClampNeg = j) (hdg : decode cc pc = .ok (.laload, 1))
    (kk : W p l e R s m args below meth c H locs cells slots Q (F0 m (pc + 1) ls (.long (f j) :: rest))) : W p l e R s m args below meth c H locs cells slots Q (F0 m pc ls (.int i :: .ref a :: rest)) := by
  subst hj
  exact va_lald X.1 X.2.1 X.2.2.2.2.2 hX.1 q0 t0 ha ht hin hdg kk
end HL
def wH (t : Nat → ClassId) (q : Nat → Nat) (o : Nat) (S : (Nat → Int64) × (SS × SS)) : va_W := [(o, .inl (t 3, 1, .inr (.inl S.1)))] ++ wT t q S.2
def h_O (cv : Int32 → Int64) (g : Nat → Int64) (F : Nat × (Int32 × (SS × SS))) : Int32 × ((Nat → Int64) × (SS × SS)) := (if F.1 = 0 then 0 else if F.1 = 1 then 1 else 2, if F.1 = 0 then vp_updL g 0 (cv F.2.1) else g, F.2.2)
def h_b (r : Int32) : Int64 := if r = 0 then 0 else 1
