/-! Constructors: contracts whose world comes to be; new, newarray, anewarray, aastore, final fields. -/
def ab_EX (U : State) : Prop := va_AO "ArcadeBoard$State" U ∧ va_Nw (.methodLinkNest "ArcadeBoard" 9 ⟨"ArcadeBoard$State", "<init>", "()V"⟩ "ArcadeBoard") U ∧ va_Nw (.methodLinkNest "ArcadeBoard" 36 ⟨"ArcadeBoard$Sounds", "<init>", "()V"⟩ "ArcadeBoard") U
theorem ab_EX.warm {s U : State} (hW : s.WarmedH U.vm) (h : ab_EX s) : ab_EX U := ⟨va_AO.moved hW.alike h.1, va_Nw.warmM hW h.2.1, va_Nw.warmM hW h.2.2⟩
def ab_kn_P (D : va_G) (tys : List (ClassId × FieldType)) (ws : va_W) (sz : Nat) (U : State) : Prop := ab_ky_P D tys ws sz U ∧ ab_EX U
def ab_kn_B (D : va_G) (tys : List (ClassId × FieldType)) (ws1 : (Nat → Nat) → va_W) (A : Nat → Prop) (r : Nat → Nat) (t : State) : Prop := va_P D CL (ws1 r) t.heap ∧ va_K D CL tys t ∧ va_D A (ws1 r)
/-- constructor y, called with as on the cells ws0, leaves the cells ws1 r, at addresses r that come to be -/
def ab_kn (l : Launch) (D : va_G) (tys : List (ClassId × FieldType)) (y : MethodName) (b : ByteArray) (n : Nat) (rm : Room) (as : List Value) (ws0 : va_W) (ws1 : (Nat → Nat) → va_W) : Prop :=
  ∀ sz : Nat, Met l y (Cond.code y b n none :: AL) rm (va_Pc as (ab_kn_P D tys ws0 sz)) (va_Qv (fun _ : Nat → Nat => True) (ab_kn_B D tys ws1 (va_A ws0 sz)) (va_A ws0 sz)) rm.cells rm.slots (va_A ws0 sz)
def ab_kn_E (below : List Frame) (args : Array Value) (s : State) (D : va_G) (tys : List (ClassId × FieldType)) (ws1 : (Nat → Nat) → va_W) (A : Nat → Prop) (mc ms : Nat) : State → Prop :=
  MQ below (va_Qv (fun _ : Nat → Nat => True) (ab_kn_B D tys ws1 A) A) args s mc ms A
theorem ab_kn_blind {D : va_G} {tys : List (ClassId × FieldType)} {ws : va_W} {sz : Nat} {as : List Value} : FrameBlind (va_Pc as (ab_kn_P D tys ws sz)) := by
  intro a U g mk q
  obtain ⟨q0, ⟨q1, qP, qK, qD⟩, qE⟩ := q
  exact ⟨q0, ⟨q1, qP, va_K.moved (u := U) (U := U.calling g mk a) (Vm.Alike.refl U.vm) qK, qD⟩, va_AO.moved (u := U) (U := U.calling g mk a) (Vm.Alike.refl U.vm) qE.1, va_Nw.same rfl (u := U) (U := U.calling g mk a) rfl qE.2.1, va_Nw.same rfl (u := U) (U := U.calling g mk a) rfl qE.2.2⟩
section MK
variable {p : Program} {l : Launch} {e : Env} {R : Room} {s : State} {m : MethodId} {args : Array Value} {below : List Frame} {meth : Method} {c : Code} {H : Heap} {locs : List Loc} {cells slots : Nat} {Q : State → Prop}
variable {cc b : ByteArray} {nL n pc index k : Nat} {ls : Array Slot} {rest st as : List Value} {D : va_G} {tys : List (ClassId × FieldType)} {A : Nat → Prop} {H0 : Heap} {own : String} {y : MethodName} {rm : Room}
theorem ab_kn_ofW {ws0 : va_W} {ws1 : (Nat → Nat) → va_W} (hy : plainName y.cls = true) (hi : y.name = "<init>") (hn : (lg_sl as).length ≤ n)
    (body : ∀ (p : Program) (e : Env) (s : State) (m : MethodId) (below : List Frame) (meth : Method) (c : Code) (ls : Array Slot) (A : Nat → Prop), ab_cx p s m as.toArray c b n y.cls D tys → (ab_EX s ∧ meth.name = "<init>") → meth.sig.returnType = none → meth.locks = false → lv_has ls n (lv_args 0 as) → ab_hx D ws0 A s.heap s.heap [] →
      W p l e rm s m as.toArray below meth c s.heap [] 0 0 (ab_kn_E below as.toArray s D tys ws1 A rm.cells rm.slots) (F0 m 0 ls [])) : ab_kn l D tys y b n rm as ws0 ws1 := by
  intro sz
  refine Met.ofW (cc := b) (maxL := n) (ret := none) hy rfl ?_
  intro p e s m args below meth c s₁ B hml hv
  obtain ⟨rfl, ⟨hsz, hP, hK, hD0⟩, hE⟩ := hv
  subst hsz
  have hts := atoms_spec (ws := Cond.code y b n none :: AL) B.pre
  have hin : meth.name = "<init>" := (name_of_methodNamed B.named B.method).1.trans hi
  rw [lg_entry_eq]
  exact body p e s m below meth c _ (va_A ws0 s.heap.size) ⟨B.exec, B.bytes, hml, findClass_of_methodNamed B.named, fun w hw => hts w (List.mem_cons_of_mem _ hw), hK⟩ ⟨hE, hin⟩ B.returns B.notSynchronized (lv_entry as hn) ⟨hP, hD0.self, va_S.rf, fun q h => Or.inr h⟩
theorem ab_kn_ret {ws1 : (Nat → Nat) → va_W} (r : Nat → Nat) (X : ab_cx p s m args c cc nL own D tys) (hr : meth.sig.returnType = none) (hk : meth.locks = false) (hX : ab_hx D (ws1 r) A s.heap H locs) (hdg : decode cc pc = .ok (.return_, 1)) :
    W p l e R s m args below meth c H locs cells slots (ab_kn_E below args s D tys ws1 A cells slots) (F0 m pc ls []) :=
  W.vret X.1 X.2.1 hr (fun t ht hW => ⟨⟨r, rfl, trivial, by rw [ht]; exact hX.1, va_K.moved hW.alike X.2.2.2.2.2, hX.2.1⟩, hX.2.2.1.F ht⟩) hX.2.2.1.2.2 hdg (hlocks := hk)
theorem ab_kn_pre {wr wc : va_W} (X : ab_cx p s m args c cc nL own D tys) (hX : ab_hx D (wr ++ wc) A H0 H locs) (hE : ab_EX s) (as : List Value) : ∀ U : State, U.heap = H → s.WarmedH U.vm → va_Pc as (ab_kn_P D tys wc H.size) as.toArray U :=
  fun U hU hW => ⟨rfl, (ab_ky_pre X hX as U hU hW).2, hE.warm hW⟩
theorem ab_kn_callI {wr wc : va_W} {ws1 : (Nat → Nat) → va_W} {a : Nat} (X : ab_cx p s m args c cc nL own D tys) (hX : ab_hx D (wr ++ wc) A H0 H locs) (hE : ab_EX s) (hM : ab_kn l D tys y b n rm (.ref a :: as) wc ws1) (hy : ab_yok y b n none k) (hin : Cond.instanceMethod y ∈ AL) (hlk : Cond.methodLink own index y ∈ AL) (hy1 : y.name = "<init>")
    (hlen : as.length = k) (hl : ls.size = nL) (hst : st = as.reverse ++ .ref a :: rest) (hroom : (rest.map fun v => v.category).sum ≤ 8)
    (hrm : rm.frames + 1 ≤ R.frames ∧ 8 + (n + 11) + rm.locals ≤ R.locals) (hcs : cells + rm.cells ≤ R.cells ∧ slots + rm.slots ≤ R.slots) (hdg : decode cc pc = .ok (.invokespecial index, 3))
    (kk : ∀ (r : Nat → Nat) (H1 : Heap) (locs1 : List Loc), ab_hx D (wr ++ ws1 r) A H0 H1 locs1 → W p l e R s m args below meth c H1 locs1 (cells + rm.cells) (slots + rm.slots) Q (F0 m (pc + 3) ls rest)) : W p l e R s m args below meth c H locs cells slots Q (F0 m pc ls st) := by
  refine va_callv (va_runI (As := as) (rest := rest) (n := k) ⟨X.1, X.2.1, X.2.2.1, X.2.2.2.1, X.2.2.2.2.1⟩ (hM H.size) ⟨callB_of k X.2.2.2.2.1 (ab_gi_AL hy.1) rfl rfl rfl (X.2.2.2.2.1 _ hy.2.1) (X.2.2.2.2.1 _ hlk) hy.2.2 hrm, hy1, X.2.2.2.2.1 _ hin⟩ ⟨ab_kn_blind, ab_kn_pre X hX hE _⟩ rfl hlen hl hst (lv_room hroom) hdg hcs) hX.2.2.1 (fun q _ h => ab_hx_free hX q h) (ab_hx_free hX) (fun u' t H1 locs1 ht hvm hp hB hz hk hS => ?_)
  subst ht
  obtain ⟨hP', hD'⟩ := ab_join_app hX.1 hX.2.1 hk (ab_hx_free hX) hB.1 hB.2.2
  exact kk _ _ _ ⟨hP', hD', hS, hX.2.2.2⟩
theorem ab_kn_callN {wr wc : va_W} {ws1 : (Nat → Nat) → va_W} {a : Nat} {host : String} (X : ab_cx p s m args c cc nL own D tys) (hX : ab_hx D (wr ++ wc) A H0 H locs) (hE : ab_EX s) (hM : ab_kn l D tys y b n rm (.ref a :: as) wc ws1) (hy : ab_yok y b n none k) (hin : Cond.instanceMethod y ∈ AL) (hlk : va_Nw (.methodLinkNest own index y host) s) (hy1 : y.name = "<init>")
    (hlen : as.length = k) (hl : ls.size = nL) (hst : st = as.reverse ++ .ref a :: rest) (hroom : (rest.map fun v => v.category).sum ≤ 8)
    (hrm : rm.frames + 1 ≤ R.frames ∧ 8 + (n + 11) + rm.locals ≤ R.locals) (hcs : cells + rm.cells ≤ R.cells ∧ slots + rm.slots ≤ R.slots) (hdg : decode cc pc = .ok (.invokespecial index, 3))
    (kk : ∀ (r : Nat → Nat) (H1 : Heap) (locs1 : List Loc), ab_hx D (wr ++ ws1 r) A H0 H1 locs1 → W p l e R s m args below meth c H1 locs1 (cells + rm.cells) (slots + rm.slots) Q (F0 m (pc + 3) ls rest)) : W p l e R s m args below meth c H locs cells slots Q (F0 m pc ls st) := by
  refine va_callv (va_runIN (As := as) (rest := rest) (n := k) ⟨X.1, X.2.1, X.2.2.1, X.2.2.2.1, X.2.2.2.2.1⟩ (hM H.size) ⟨va_cnB k X.2.2.2.2.1 (ab_gi_AL hy.1) rfl rfl rfl hlk (X.2.2.2.2.1 _ hy.2.1) hy.2.2 hrm, hy1, X.2.2.2.2.1 _ hin⟩ ⟨ab_kn_blind, ab_kn_pre X hX hE _⟩ rfl hlen hl hst (lv_room hroom) hdg hcs) hX.2.2.1 (fun q _ h => ab_hx_free hX q h) (ab_hx_free hX) (fun u' t H1 locs1 ht hvm hp hB hz hk hS => ?_)
  subst ht
  obtain ⟨hP', hD'⟩ := ab_join_app hX.1 hX.2.1 hk (ab_hx_free hX) hB.1 hB.2.2
  exact kk _ _ _ ⟨hP', hD', hS, hX.2.2.2⟩
theorem ab_obj {a : Nat} (X : ab_cx p s m args c cc nL own D tys) (hl : ls.size = nL) (hw : Cond.methodLink own index Lib.objectInit ∈ AL ∧ Cond.instanceMethod Lib.objectInit ∈ AL ∧ Cond.code Lib.objectInit ⟨#[0xb1]⟩ 1 none ∈ AL) (hroom : 1 ≤ R.frames ∧ 2 * (F0 m pc ls (.ref a :: rest)).monitorRoom + (rest.map fun v => v.category).sum + 12 ≤ R.locals) (hdg : decode cc pc = .ok (.invokespecial index, 3))
    (kk : W p l e R s m args below meth c H locs cells slots Q (F0 m (pc + 3) ls rest)) : W p l e R s m args below meth c H locs cells slots Q (F0 m pc ls (.ref a :: rest)) :=
  W.objInit X.1 X.2.1 X.2.2.2.1 (X.2.2.2.2.1 _ hw.1) (X.2.2.2.2.1 _ hw.2.1) (X.2.2.2.2.1 _ hw.2.2) rfl (by rw [X.2.2.1]; exact hl) rfl hdg hroom.1 hroom.2 kk
theorem ab_newa {ws : va_W} {atype : ArrayType} {ty : FieldType} {cA : ClassId} {N : Nat} {i : Int32} (X : ab_cx p s m args c cc nL own D tys) (hX : ab_hx D ws A H0 H locs) (t0 : Nat) (a0 : vp_A) (ht : tys[t0]? = some (cA, ty)) (hw : Cond.arrayClass (newarray.typeOf atype) ∈ AL) (hty : newarray.typeOf atype = ty) (hu : ∀ c1 c2, va_RA s c1 ty → va_RA s c2 ty → c1 = c2)
    (ha : ∀ cA : ClassId, vp_cell cA a0 = arrV cA N (fun _ => defaultValue ty)) (hn : ¬ i < 0) (hN : i.toNatClampNeg = N) (hbytes : N * componentBytes ty ≤ 536870912) (hcs : cells + 1 ≤ R.cells ∧ slots + N ≤ R.slots) (hdg : decode cc pc = .ok (.newarray atype, 2))
    (kk : ∀ (q : Nat) (H1 : Heap), ab_hx D (ws ++ [(q, .inl (cA, a0))]) A H0 H1 locs → W p l e R s m args below meth c H1 locs (cells + 1) (slots + N) Q (F0 m (pc + 2) ls (.ref q :: rest))) : W p l e R s m args below meth c H locs cells slots Q (F0 m pc ls (.int i :: rest)) := by
  refine va_newa X.1 X.2.1 (X.2.2.2.2.1 _ hw) hty X.2.2.2.2.2 hX.1 hX.2.1 hX.2.2.1 hX.2.2.2 ha hn hN hbytes hcs.1 hcs.2 hdg (fun q cB H1 hK1 hP hD hS => ?_)
  have e : cB = cA := hu _ _ (hK1.2 tys.length (cB, ty) (by rw [List.getElem?_append_right (Nat.le_refl _), Nat.sub_self]; rfl)).2 (X.2.2.2.2.2.2 t0 _ ht).2
  subst e
  exact kk q H1 ⟨hP, hD, hS, hX.2.2.2⟩
theorem ab_new {ws : va_W} {C : String} {T : u_T} {N : Nat} {fs : List Value} (X : ab_cx p s m args c cc nL own D tys) (hX : ab_hx D ws A H0 H locs) (ci : Nat) (hc : CL[ci]? = some (C, T, N)) (hin : ∀ w ∈ u_ws C T N, w ∈ AL) (ty : Nat → FieldType) (hty : ∀ k, k < N → parseFieldDescriptor (T k).2.2.1 = some (ty k))
    (hw : Cond.classLink own index C ∈ AL ∧ Cond.instantiable C N ∈ AL ∧ Cond.initialized C ∈ AL) (hfs : ∀ j, j < N → defaultValue (ty j) = vp_V fs j) (hcs : cells + 1 ≤ R.cells ∧ slots + N ≤ R.slots) (hdg : decode cc pc = .ok (.new index, 3))
    (kk : ∀ (q : Nat) (H1 : Heap), ab_hx D (ws ++ [(q, .inr (ci, fs))]) A H0 H1 locs → W p l e R s m args below meth c H1 locs (cells + 1) (slots + N) Q (F0 m (pc + 3) ls (.ref q :: rest))) : W p l e R s m args below meth c H locs cells slots Q (F0 m pc ls rest) :=
  va_new X.1 X.2.1 X.2.2.2.2.1 hin ty hty X.2.2.2.1 (X.2.2.2.2.1 _ hw.1) (X.2.2.2.2.1 _ hw.2.1) (X.2.2.2.2.1 _ hw.2.2) X.2.2.2.2.2 hX.1 hX.2.1 hX.2.2.1 hX.2.2.2 hc hfs hcs.1 hcs.2 hdg (fun q H1 hP hD hS => kk q H1 ⟨hP, hD, hS, hX.2.2.2⟩)
theorem ab_pxF {ws ws' : va_W} {a : Nat} (X : ab_cx p s m args c cc nL own D tys) (hX : ab_hx D ws A H0 H locs) (hnam : meth.name = "<init>") (q0 ci f : Nat) {C : String} {T : u_T} {N : Nat} {fs : List Value} {v : Value} {ty : FieldType} (ty0 : Nat → FieldType) (hty : ∀ k, k < N → parseFieldDescriptor (T k).2.2.1 = some (ty0 k)) (hnm : ∀ a, a < N → ∀ b, b < N → a ≠ b → (T a).2.1 ≠ (T b).2.1)
    (hc : CL[ci]? = some (C, T, N)) (he : ws[q0]? = some (a, .inr (ci, fs))) (hf : f < N) (hin : ∀ w ∈ u_ws C T N, w ∈ AL) (hT : (T f).1 = C) (hlk : Cond.fieldLink own index C (T f).2.1 (T f).2.2.1 ∈ AL) (hfin : (T f).2.2.2 = true) (hdecl : (T f).1 = own) (hd : ty0 f = ty) (hn : narrow ty v = v) (hfit : fits ty v = true) (hlen : f < fs.length)
    (hws : ws.set q0 (a, .inr (ci, fs.set f v)) = ws') (hdg : decode cc pc = .ok (.putfield index, 3))
    (kk : ∀ (H1 : Heap) (locs1 : List Loc), ab_hx D ws' A H0 H1 locs1 → W p l e R s m args below meth c H1 locs1 cells slots Q (F0 m (pc + 3) ls rest)) : W p l e R s m args below meth c H locs cells slots Q (F0 m pc ls (v :: .ref a :: rest)) := by
  subst hws
  subst hd
  exact va_putF X.1 X.2.1 X.2.2.2.2.1 hin ty0 hty hnm X.2.2.2.1 X.2.2.2.2.2 hX.1 hX.2.1 hX.2.2.1 q0 he hc f hf (X.2.2.2.2.1 _ hlk) (fun x h => by rw [hT] at h; exact h) hfin hnam hdecl (hty f hf) hn hfit hlen hdg (fun H1 locs1 hP hD hS => kk H1 locs1 ⟨hP, hD, hS, hX.2.2.2⟩)
theorem ab_newq {ws : va_W} {C : String} {cA : ClassId} {N : Nat} {i : Int32} (X : ab_cx p s m args c cc nL own D tys) (hX : ab_hx D ws A H0 H locs) (hE : va_AO C s) (t0 : Nat) (ht : tys[t0]? = some (cA, .object C)) (hw : Cond.classLink own index C ∈ AL) (hn : ¬ i < 0) (hN : i.toNatClampNeg = N) (hbytes : N * 4 ≤ 536870912) (hcs : cells + 1 ≤ R.cells ∧ slots + N ≤ R.slots) (hdg : decode cc pc = .ok (.anewarray index, 3))
    (kk : ∀ (q : Nat) (H1 : Heap), ab_hx D (ws ++ [(q, .inl (cA, N, .inr (.inr (.inr (.inr (fun _ => none))))))]) A H0 H1 locs → W p l e R s m args below meth c H1 locs (cells + 1) (slots + N) Q (F0 m (pc + 3) ls (.ref q :: rest))) : W p l e R s m args below meth c H locs cells slots Q (F0 m pc ls (.int i :: rest)) := by
  refine va_newq X.1 X.2.1 X.2.2.2.1 (X.2.2.2.2.1 _ hw) hE X.2.2.2.2.2 hX.1 hX.2.1 hX.2.2.1 hX.2.2.2 hn hN hbytes hcs.1 hcs.2 hdg (fun q cB H1 hK1 hP hD hS => ?_)
  obtain ⟨_, _, _, _, _, h1⟩ := (hK1.2 tys.length (cB, .object C) (by rw [List.getElem?_append_right (Nat.le_refl _), Nat.sub_self]; rfl)).2
  obtain ⟨_, _, _, _, _, h2⟩ := (X.2.2.2.2.2.2 t0 _ ht).2
  have e : cB = cA := Option.some.inj (h1.symm.trans h2)
  subst e
  exact kk q H1 ⟨hP, hD, hS, hX.2.2.2⟩
theorem ab_astr {ws ws' : va_W} {a v : Nat} (X : ab_cx p s m args c cc nL own D tys) (hX : ab_hx D ws A H0 H locs) (q0 t0 qk ci : Nat) {cA : ClassId} {r : vw_C} {N : Nat} {vs : List Value} {f : Nat → Option Nat} (ha : ws[q0]? = some (a, .inl (cA, N, .inr (.inr (.inr (.inr f)))))) (ht : tys[t0]? = some (cA, .object r.1)) (hv : ws[qk]? = some (v, .inr (ci, vs))) (hc : CL[ci]? = some r) {i : Int32} (hin : vp_in i N)
    (hws : ws.set q0 (a, .inl (cA, N, .inr (.inr (.inr (.inr (va_up f i.toNatClampNeg (some v))))))) = ws') (hdg : decode cc pc = .ok (.aastore, 1))
    (kk : ∀ (H1 : Heap) (locs1 : List Loc), ab_hx D ws' A H0 H1 locs1 → W p l e R s m args below meth c H1 locs1 cells slots Q (F0 m (pc + 1) ls rest)) : W p l e R s m args below meth c H locs cells slots Q (F0 m pc ls (.ref v :: .int i :: .ref a :: rest)) := by
  subst hws
  exact va_astq X.1 X.2.1 X.2.2.2.2.2 hX.1 hX.2.1 hX.2.2.1 q0 t0 qk ci ha ht hv hc hin hdg (fun H1 locs1 hP hD hS => kk H1 locs1 ⟨hP, hD, hS, hX.2.2.2⟩)
end MK
