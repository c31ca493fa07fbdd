/-! A layer of my own over the kit: a walk's context (ab_cx), its heap (ab_hx), contracts whose answer and new state are given by a function (ab_ki: an int or a boolean comes back; ab_kv: nothing), their entry, their end, their calls.
    AL: the words of the tables that any of the walks needs; CL: the classes. Both stand in 01.names / 02.state. -/
/-- what a walk knows of the machine -/
def ab_cx (p : Program) (s : State) (m : MethodId) (args : Array Value) (c : Code) (cc : ByteArray) (nL : Nat) (own : String) (D : va_G) (tys : List (ClassId × FieldType)) : Prop :=
  p.tables.exec = Jvm.exec ∧ c.code = cc ∧ c.maxLocals = nL ∧ s.vm.findClass own = some m.cls ∧ (∀ w ∈ AL, w.before args s = true) ∧ va_K D CL tys s
/-- .. and of the heap: its world's cells, apart, nothing else changed since H0 -/
def ab_hx (D : va_G) (ws : va_W) (A : Nat → Prop) (H0 H : Heap) (locs : List Loc) : Prop :=
  va_P D CL ws H ∧ va_D A ws ∧ va_S A H0 H locs ∧ ∀ q, H0.size ≤ q → A q
def ab_ky_P (D : va_G) (tys : List (ClassId × FieldType)) (ws : va_W) (sz : Nat) (U : State) : Prop := U.heap.size = sz ∧ va_P D CL ws U.heap ∧ va_K D CL tys U ∧ va_D (fun _ => True) ws
def ab_ky_B {S : Type} (D : va_G) (tys : List (ClassId × FieldType)) (w : S → va_W) (A : Nat → Prop) (u : S) (t : State) : Prop := va_P D CL (w u) t.heap ∧ va_K D CL tys t ∧ va_D A (w u)
/-- method y, called with as on the state u, answers F.1 and leaves F.2 -/
def ab_ki (l : Launch) (D : va_G) (tys : List (ClassId × FieldType)) {S : Type} (w : S → va_W) (y : MethodName) (b : ByteArray) (n : Nat) (ret : FieldType) (rm : Room) (as : List Value) (u : S) (F : Int32 × S) : Prop :=
  ∀ sz : Nat, Met l y (Cond.code y b n (some ret) :: AL) rm (va_Pc as (ab_ky_P D tys (w u) sz)) (va_Qi (fun r z => r = F.1 ∧ z = F.2) (ab_ky_B D tys w (va_A (w u) sz)) (va_A (w u) sz)) 0 0 (va_A (w u) sz)
/-- .. answers nothing and leaves F -/
def ab_kv (l : Launch) (D : va_G) (tys : List (ClassId × FieldType)) {S : Type} (w : S → va_W) (y : MethodName) (b : ByteArray) (n : Nat) (rm : Room) (as : List Value) (u F : S) : Prop :=
  ∀ sz : Nat, Met l y (Cond.code y b n none :: AL) rm (va_Pc as (ab_ky_P D tys (w u) sz)) (va_Qv (fun z => z = F) (ab_ky_B D tys w (va_A (w u) sz)) (va_A (w u) sz)) 0 0 (va_A (w u) sz)
def ab_ki_E {S : Type} (below : List Frame) (args : Array Value) (s : State) (D : va_G) (tys : List (ClassId × FieldType)) (w : S → va_W) (A : Nat → Prop) (F : Int32 × S) : State → Prop :=
  MQ below (va_Qi (fun r z => r = F.1 ∧ z = F.2) (ab_ky_B D tys w A) A) args s 0 0 A
def ab_kv_E {S : Type} (below : List Frame) (args : Array Value) (s : State) (D : va_G) (tys : List (ClassId × FieldType)) (w : S → va_W) (A : Nat → Prop) (F : S) : State → Prop :=
  MQ below (va_Qv (fun z => z = F) (ab_ky_B D tys w A) A) args s 0 0 A
/-- what a call asks of the tables for the method it calls -/
def ab_yok (y : MethodName) (b : ByteArray) (n : Nat) (ret : Option FieldType) (k : Nat) : Prop :=
  Cond.code y b n ret ∈ AL ∧ Cond.initialized y.cls ∈ AL ∧ (y.cls ≠ "java/lang/invoke/MethodHandle" ∧ y.cls ≠ "java/lang/invoke/VarHandle" ∧ (parseMethodDescriptor y.desc).map (fun d => d.parameters.length) = some k)
def ab_yok_V (y : MethodName) : Prop := Cond.instanceMethod y ∈ AL ∧ Cond.selects y.cls y y ∈ AL
theorem ab_gi_AL {y : MethodName} {b : ByteArray} {n : Nat} {r : Option FieldType} (hy : Cond.code y b n r ∈ AL) : GoodIn AL (Cond.code y b n r :: AL) := by
  intro w hw
  rcases List.mem_cons.mp hw with rfl | hw
  · exact ⟨hy, Or.inl rfl⟩
  · exact ⟨hw, ab_good w hw⟩
theorem ab_ky_blind {D : va_G} {tys : List (ClassId × FieldType)} {ws : va_W} {sz : Nat} {as : List Value} : FrameBlind (va_Pc as (ab_ky_P D tys ws sz)) := by
  intro a U g mk q
  obtain ⟨q0, q1, qP, qK, qD⟩ := q
  exact ⟨q0, q1, qP, va_K.moved (u := U) (U := U.calling g mk a) (Vm.Alike.refl U.vm) qK, qD⟩
theorem ab_app_r {w1 w2 : va_W} {k : Nat} {q : Nat × va_E} (h : w2[k]? = some q) : (w1 ++ w2)[w1.length + k]? = some q := by
  rw [List.getElem?_append_right (Nat.le_add_right _ _), Nat.add_sub_cancel_left]; exact h
theorem ab_app_l {w1 w2 : va_W} {k : Nat} {q : Nat × va_E} (h : w1[k]? = some q) : (w1 ++ w2)[k]? = some q := by
  rw [List.getElem?_append_left (List.getElem?_eq_some_iff.mp h).1]; exact h
theorem ab_va_P_r {D : va_G} {w1 w2 : va_W} {H : Heap} (h : va_P D CL (w1 ++ w2) H) : va_P D CL w2 H := fun _ q hk => h _ q (ab_app_r hk)
theorem ab_va_P_l {D : va_G} {w1 w2 : va_W} {H : Heap} (h : va_P D CL (w1 ++ w2) H) : va_P D CL w1 H := fun _ q hk => h _ q (ab_app_l hk)
theorem ab_va_D_r {A : Nat → Prop} {w1 w2 : va_W} (h : va_D A (w1 ++ w2)) : va_D A w2 :=
  ⟨fun i j p q hi hj hpq => by have := h.1 _ _ p q (ab_app_r hi) (ab_app_r hj) hpq; omega, fun _ q hk => h.2 _ q (ab_app_r hk)⟩
theorem ab_va_D_l {A : Nat → Prop} {w1 w2 : va_W} (h : va_D A (w1 ++ w2)) : va_D A w1 :=
  ⟨fun i j p q hi hj hpq => h.1 _ _ p q (ab_app_l hi) (ab_app_l hj) hpq, fun _ q hk => h.2 _ q (ab_app_l hk)⟩
/-- behind a call: what stood ahead of the callee's cells is unchanged -/
theorem ab_join_app {D : va_G} {A : Nat → Prop} {wr wc w1 : va_W} {H H1 : Heap} (hP : va_P D CL (wr ++ wc) H) (hD : va_D A (wr ++ wc)) (hk : ∀ q : Nat, q < H.size → ¬ va_A wc H.size q → H1[q]? = H[q]?) (hF : ∀ q, va_A wc H.size q → A q)
    (hP1 : va_P D CL w1 H1) (hD1 : va_D (va_A wc H.size) w1) : va_P D CL (wr ++ w1) H1 ∧ va_D A (wr ++ w1) := by
  have apart : ∀ (k : Nat) (q : Nat × va_E), wr[k]? = some q → q.1 < H.size ∧ ¬ va_A wc H.size q.1 := by
    intro k q hq
    have hl : q.1 < H.size := (hP k q (ab_app_l hq)).lt
    refine ⟨hl, fun h => ?_⟩
    rcases h with ⟨k2, e, h⟩ | h
    · have h1 := hD.1 k (wr.length + k2) q (q.1, e) (ab_app_l hq) (ab_app_r h) rfl
      have h2 := (List.getElem?_eq_some_iff.mp hq).1
      omega
    · omega
  refine ⟨va_P.app (fun k q hq => (hP k q (ab_app_l hq)).kept (hk q.1 (apart k q hq).1 (apart k q hq).2)) hP1, va_D.app (ab_va_D_l hD) (hD1.weaken (fun k q _ h => hF q.1 h)) (fun i j x y h1 h2 h3 => ?_)⟩
  exact (apart i x h1).2 (by rw [h3]; exact hD1.2 j y h2)
section LY
variable {p : Program} {l : Launch} {e : Env} {R : Room} {s : State} {m : MethodId} {args : Array Value} {below : List Frame} {meth : Method} {c : Code} {H : Heap} {locs : List Loc} {cells slots : Nat} {Q : State → Prop}
variable {cc b : ByteArray} {nL n pc index k : Nat} {ls : Array Slot} {rest st as : List Value} {D : va_G} {tys : List (ClassId × FieldType)} {A : Nat → Prop} {H0 : Heap} {own : String} {y : MethodName} {ret : FieldType} {rm : Room} {S : Type} {w : S → va_W}
theorem ab_ki_ofW {u : S} {F : Int32 × S} (hy : plainName y.cls = true) (hn : (lg_sl as).length ≤ n)
    (body : ∀ (p : Program) (e : Env) (s : State) (m : MethodId) (below : List Frame) (meth : Method) (c : Code) (ls : Array Slot) (A : Nat → Prop), ab_cx p s m as.toArray c b n y.cls D tys → meth.sig.returnType = some ret → meth.locks = false → lv_has ls n (lv_args 0 as) → ab_hx D (w u) A s.heap s.heap [] →
      W p l e rm s m as.toArray below meth c s.heap [] 0 0 (ab_ki_E below as.toArray s D tys w A F) (F0 m 0 ls [])) : ab_ki l D tys w y b n ret rm as u F := by
  intro sz
  refine Met.ofW (cc := b) (maxL := n) (ret := some ret) hy rfl ?_
  intro p e s m args below meth c s₁ B hml hv
  obtain ⟨rfl, hsz, hP, hK, hD0⟩ := hv
  subst hsz
  have hts := atoms_spec (ws := Cond.code y b n (some ret) :: AL) B.pre
  rw [lg_entry_eq]
  exact body p e s m below meth c _ (va_A (w u) s.heap.size) ⟨B.exec, B.bytes, hml, findClass_of_methodNamed B.named, fun w hw => hts w (List.mem_cons_of_mem _ hw), hK⟩ B.returns B.notSynchronized (lv_entry as hn) ⟨hP, hD0.self, va_S.rf, fun q h => Or.inr h⟩
theorem ab_kv_ofW {u F : S} (hy : plainName y.cls = true) (hn : (lg_sl as).length ≤ n)
    (body : ∀ (p : Program) (e : Env) (s : State) (m : MethodId) (below : List Frame) (meth : Method) (c : Code) (ls : Array Slot) (A : Nat → Prop), ab_cx p s m as.toArray c b n y.cls D tys → meth.sig.returnType = none → meth.locks = false → lv_has ls n (lv_args 0 as) → ab_hx D (w u) A s.heap s.heap [] →
      W p l e rm s m as.toArray below meth c s.heap [] 0 0 (ab_kv_E below as.toArray s D tys w A F) (F0 m 0 ls [])) : ab_kv l D tys w y b n rm as u F := by
  intro sz
  refine Met.ofW (cc := b) (maxL := n) (ret := none) hy rfl ?_
  intro p e s m args below meth c s₁ B hml hv
  obtain ⟨rfl, hsz, hP, hK, hD0⟩ := hv
  subst hsz
  have hts := atoms_spec (ws := Cond.code y b n none :: AL) B.pre
  rw [lg_entry_eq]
  exact body p e s m below meth c _ (va_A (w u) s.heap.size) ⟨B.exec, B.bytes, hml, findClass_of_methodNamed B.named, fun w hw => hts w (List.mem_cons_of_mem _ hw), hK⟩ B.returns B.notSynchronized (lv_entry as hn) ⟨hP, hD0.self, va_S.rf, fun q h => Or.inr h⟩
theorem ab_ki_ret {u' : S} {F : Int32 × S} {v : Int32} (X : ab_cx p s m args c cc nL own D tys) (hr : meth.sig.returnType = some ret) (hk : meth.locks = false) (hX : ab_hx D (w u') A s.heap H locs) (hn : narrow ret (.int v) = .int v) (hp : F = (v, u')) (hdg : decode cc pc = .ok (.ireturn, 1)) :
    W p l e R s m args below meth c H locs 0 0 (ab_ki_E below args s D tys w A F) (F0 m pc ls [.int v]) :=
  W.zret X.1 X.2.1 hr hn (fun t ht hW => ⟨⟨v, u', rfl, ⟨by rw [hp], by rw [hp]⟩, by rw [ht]; exact hX.1, va_K.moved hW.alike X.2.2.2.2.2, hX.2.1⟩, hX.2.2.1.F ht⟩) hX.2.2.1.2.2 hdg (hlocks := hk)
theorem ab_kv_ret {u' F : S} (X : ab_cx p s m args c cc nL own D tys) (hr : meth.sig.returnType = none) (hk : meth.locks = false) (hX : ab_hx D (w u') A s.heap H locs) (hp : F = u') (hdg : decode cc pc = .ok (.return_, 1)) :
    W p l e R s m args below meth c H locs 0 0 (ab_kv_E below args s D tys w A F) (F0 m pc ls []) :=
  W.vret X.1 X.2.1 hr (fun t ht hW => ⟨⟨u', rfl, hp.symm, by rw [ht]; exact hX.1, va_K.moved hW.alike X.2.2.2.2.2, hX.2.1⟩, hX.2.2.1.F ht⟩) hX.2.2.1.2.2 hdg (hlocks := hk)
theorem ab_hx_free {wr wc : va_W} (hX : ab_hx D (wr ++ wc) A H0 H locs) : ∀ q, va_A wc H.size q → A q := by
  intro q h
  rcases h with ⟨k, e, h⟩ | h
  · exact hX.2.1.2 _ (q, e) (ab_app_r h)
  · exact hX.2.2.2 q (Nat.le_trans hX.2.2.1.1 h)
theorem ab_ky_pre {wr wc : va_W} (X : ab_cx p s m args c cc nL own D tys) (hX : ab_hx D (wr ++ wc) A H0 H locs) (as : List Value) : ∀ U : State, U.heap = H → s.WarmedH U.vm → va_Pc as (ab_ky_P D tys wc H.size) as.toArray U :=
  fun U hU hW => ⟨rfl, by rw [hU], by rw [hU]; exact ab_va_P_r hX.1, va_K.moved hW.alike X.2.2.2.2.2, (ab_va_D_r hX.2.1).weaken (fun _ _ _ _ => trivial)⟩
theorem ab_cx_B {r : Option FieldType} (X : ab_cx p s m args c cc nL own D tys) (hy : ab_yok y b n r k) (hlk : Cond.methodLink own index y ∈ AL) (hrm : rm.cells = 0 ∧ rm.slots = 0 ∧ rm.frames + 1 ≤ R.frames ∧ 8 + (n + 11) + rm.locals ≤ R.locals) :
    CallB R s args own index y b n r (Cond.code y b n r :: AL) rm 0 0 k :=
  callB_of k X.2.2.2.2.1 (ab_gi_AL hy.1) rfl hrm.1 hrm.2.1 (X.2.2.2.2.1 _ hy.2.1) (X.2.2.2.2.1 _ hlk) hy.2.2 ⟨hrm.2.2.1, hrm.2.2.2⟩
/-- invokevirtual, an int or a boolean comes back; wr: the caller's other cells -/
theorem ab_ki_callV {wr : va_W} {u : S} {F : Int32 × S} {a : Nat} (X : ab_cx p s m args c cc nL own D tys) (hX : ab_hx D (wr ++ w u) A H0 H locs) (hM : ab_ki l D tys w y b n ret rm (.ref a :: as) u F) (hy : ab_yok y b n (some ret) k) (hv : ab_yok_V y) (hlk : Cond.methodLink own index y ∈ AL)
    (q0 ci : Nat) {fs : List Value} {T : u_T} {N : Nat} (hc : CL[ci]? = some (y.cls, T, N)) (he : (wr ++ w u)[q0]? = some (a, .inr (ci, fs))) (hlen : as.length = k) (hl : ls.size = nL) (hst : st = as.reverse ++ .ref a :: rest) (hroom : (rest.map fun v => v.category).sum ≤ 8)
    (hrm : rm.cells = 0 ∧ rm.slots = 0 ∧ rm.frames + 1 ≤ R.frames ∧ 8 + (n + 11) + rm.locals ≤ R.locals) (hcs : cells ≤ R.cells ∧ slots ≤ R.slots) (hdg : decode cc pc = .ok (.invokevirtual index, 3))
    (kk : ∀ (H1 : Heap) (locs1 : List Loc), ab_hx D (wr ++ w F.2) A H0 H1 locs1 → W p l e R s m args below meth c H1 locs1 cells slots Q (F0 m (pc + 3) ls (.int F.1 :: rest))) : W p l e R s m args below meth c H locs cells slots Q (F0 m pc ls st) := by
  refine va_calli (va_runV (As := as) (rest := rest) (C := y.cls) (n := k) ⟨X.1, X.2.1, X.2.2.1, X.2.2.2.1, X.2.2.2.2.1⟩ (hM H.size) ⟨ab_cx_B X hy hlk hrm, X.2.2.2.2.1 _ hv.1, X.2.2.2.2.1 _ hv.2⟩ ⟨ab_ky_blind, va_recv X.2.2.2.2.2 hX.1 hc he, ab_ky_pre X hX _⟩ rfl hlen hl hst (lv_room hroom) hdg hcs) hX.2.2.1 (fun q _ h => ab_hx_free hX q h) (ab_hx_free hX) (fun r u' t H1 locs1 ht hvm hp hB hz hk hS => ?_)
  obtain ⟨rfl, rfl⟩ := hp
  subst ht
  obtain ⟨hP', hD'⟩ := ab_join_app hX.1 hX.2.1 hk (ab_hx_free hX) hB.1 hB.2.2
  exact kk _ _ ⟨hP', hD', hS, hX.2.2.2⟩
theorem ab_kv_callV {wr : va_W} {u F : S} {a : Nat} (X : ab_cx p s m args c cc nL own D tys) (hX : ab_hx D (wr ++ w u) A H0 H locs) (hM : ab_kv l D tys w y b n rm (.ref a :: as) u F) (hy : ab_yok y b n none k) (hv : ab_yok_V y) (hlk : Cond.methodLink own index y ∈ AL)
    (q0 ci : Nat) {fs : List Value} {T : u_T} {N : Nat} (hc : CL[ci]? = some (y.cls, T, N)) (he : (wr ++ w u)[q0]? = some (a, .inr (ci, fs))) (hlen : as.length = k) (hl : ls.size = nL) (hst : st = as.reverse ++ .ref a :: rest) (hroom : (rest.map fun v => v.category).sum ≤ 8)
    (hrm : rm.cells = 0 ∧ rm.slots = 0 ∧ rm.frames + 1 ≤ R.frames ∧ 8 + (n + 11) + rm.locals ≤ R.locals) (hcs : cells ≤ R.cells ∧ slots ≤ R.slots) (hdg : decode cc pc = .ok (.invokevirtual index, 3))
    (kk : ∀ (H1 : Heap) (locs1 : List Loc), ab_hx D (wr ++ w F) A H0 H1 locs1 → W p l e R s m args below meth c H1 locs1 cells slots Q (F0 m (pc + 3) ls rest)) : W p l e R s m args below meth c H locs cells slots Q (F0 m pc ls st) := by
  refine va_callv (va_runV (As := as) (rest := rest) (C := y.cls) (n := k) ⟨X.1, X.2.1, X.2.2.1, X.2.2.2.1, X.2.2.2.2.1⟩ (hM H.size) ⟨ab_cx_B X hy hlk hrm, X.2.2.2.2.1 _ hv.1, X.2.2.2.2.1 _ hv.2⟩ ⟨ab_ky_blind, va_recv X.2.2.2.2.2 hX.1 hc he, ab_ky_pre X hX _⟩ rfl hlen hl hst (lv_room hroom) hdg hcs) hX.2.2.1 (fun q _ h => ab_hx_free hX q h) (ab_hx_free hX) (fun u' t H1 locs1 ht hvm hp hB hz hk hS => ?_)
  subst hp
  subst ht
  obtain ⟨hP', hD'⟩ := ab_join_app hX.1 hX.2.1 hk (ab_hx_free hX) hB.1 hB.2.2
  exact kk _ _ ⟨hP', hD', hS, hX.2.2.2⟩
/-- invokestatic of a method of the class's own -/
theorem ab_ki_callS {wr : va_W} {u : S} {F : Int32 × S} (X : ab_cx p s m args c cc nL own D tys) (hX : ab_hx D (wr ++ w u) A H0 H locs) (hM : ab_ki l D tys w y b n ret rm as u F) (hy : ab_yok y b n (some ret) k) (hv : Cond.static y ∈ AL) (hlk : Cond.methodLink own index y ∈ AL)
    (hlen : as.length = k) (hl : ls.size = nL) (hst : st = as.reverse ++ rest) (hroom : (rest.map fun v => v.category).sum ≤ 8)
    (hrm : rm.cells = 0 ∧ rm.slots = 0 ∧ rm.frames + 1 ≤ R.frames ∧ 8 + (n + 11) + rm.locals ≤ R.locals) (hcs : cells ≤ R.cells ∧ slots ≤ R.slots) (hdg : decode cc pc = .ok (.invokestatic index, 3))
    (kk : ∀ (H1 : Heap) (locs1 : List Loc), ab_hx D (wr ++ w F.2) A H0 H1 locs1 → W p l e R s m args below meth c H1 locs1 cells slots Q (F0 m (pc + 3) ls (.int F.1 :: rest))) : W p l e R s m args below meth c H locs cells slots Q (F0 m pc ls st) := by
  refine va_calli (va_runS (As := as) (rest := rest) (n := k) ⟨X.1, X.2.1, X.2.2.1, X.2.2.2.1, X.2.2.2.2.1⟩ (hM H.size) ⟨ab_cx_B X hy hlk hrm, X.2.2.2.2.1 _ hv⟩ ⟨ab_ky_blind, ab_ky_pre X hX _⟩ rfl hlen hl hst (lv_room hroom) hdg hcs) hX.2.2.1 (fun q _ h => ab_hx_free hX q h) (ab_hx_free hX) (fun r u' t H1 locs1 ht hvm hp hB hz hk hS => ?_)
  obtain ⟨rfl, rfl⟩ := hp
  subst ht
  obtain ⟨hP', hD'⟩ := ab_join_app hX.1 hX.2.1 hk (ab_hx_free hX) hB.1 hB.2.2
  exact kk _ _ ⟨hP', hD', hS, hX.2.2.2⟩
/-- getfield, putfield of a class's own field -/
theorem ab_gx {ws : va_W} {a : Nat} (X : ab_cx p s m args c cc nL own D tys) (hX : ab_hx D ws A H0 H locs) (q0 ci f : Nat) {C : String} {T : u_T} {N : Nat} {fs : List Value} {v : Value} (hc : CL[ci]? = some (C, T, N)) (he : ws[q0]? = some (a, .inr (ci, fs))) (hf : f < N) (hin : ∀ w ∈ u_ws C T N, w ∈ AL) (hT : (T f).1 = C)
    (hlk : Cond.fieldLink own index C (T f).2.1 (T f).2.2.1 ∈ AL) (hv : fs[f]? = some v) (hdg : decode cc pc = .ok (.getfield index, 3))
    (kk : W p l e R s m args below meth c H locs cells slots Q (F0 m (pc + 3) ls (v :: rest))) : W p l e R s m args below meth c H locs cells slots Q (F0 m pc ls (.ref a :: rest)) :=
  va_get X.1 X.2.1 X.2.2.2.2.1 hin X.2.2.2.1 X.2.2.2.2.2 hX.1 q0 he hc f hf (X.2.2.2.2.1 _ hlk) (fun x h => by rw [hT] at h; exact h) hv hdg kk
theorem ab_px {ws ws' : va_W} {a : Nat} (X : ab_cx p s m args c cc nL own D tys) (hX : ab_hx D ws A H0 H locs) (q0 ci f : Nat) {C : String} {T : u_T} {N : Nat} {fs : List Value} {v : Value} {ty : FieldType} (ty0 : Nat → FieldType) (hty : ∀ k, k < N → parseFieldDescriptor (T k).2.2.1 = some (ty0 k)) (hnm : ∀ a, a < N → ∀ b, b < N → a ≠ b → (T a).2.1 ≠ (T b).2.1)
    (hc : CL[ci]? = some (C, T, N)) (he : ws[q0]? = some (a, .inr (ci, fs))) (hf : f < N) (hin : ∀ w ∈ u_ws C T N, w ∈ AL) (hT : (T f).1 = C) (hlk : Cond.fieldLink own index C (T f).2.1 (T f).2.2.1 ∈ AL) (hfin : (T f).2.2.2 = false) (hd : ty0 f = ty) (hn : narrow ty v = v) (hfit : fits ty v = true) (hlen : f < fs.length)
    (hws : ws.set q0 (a, .inr (ci, fs.set f v)) = ws') (hdg : decode cc pc = .ok (.putfield index, 3))
    (kk : ∀ (H1 : Heap) (locs1 : List Loc), ab_hx D ws' A H0 H1 locs1 → W p l e R s m args below meth c H1 locs1 cells slots Q (F0 m (pc + 3) ls rest)) : W p l e R s m args below meth c H locs cells slots Q (F0 m pc ls (v :: .ref a :: rest)) := by
  subst hws
  subst hd
  exact va_put X.1 X.2.1 X.2.2.2.2.1 hin ty0 hty hnm X.2.2.2.1 X.2.2.2.2.2 hX.1 hX.2.1 hX.2.2.1 q0 he hc f hf (X.2.2.2.2.1 _ hlk) (fun x h => by rw [hT] at h; exact h) hfin (hty f hf) hn hfit hlen hdg (fun H1 locs1 hP hD hS => kk H1 locs1 ⟨hP, hD, hS, hX.2.2.2⟩)
/-- iaload, iastore; baload, bastore of booleans -/
theorem ab_ald {ws : va_W} {a : Nat} (X : ab_cx p s m args c cc nL own D tys) (hX : ab_hx D ws A H0 H locs) (q0 t0 : Nat) {cA : ClassId} {n : Nat} {f : Nat → Int32} (ha : ws[q0]? = some (a, .inl (cA, n, .inl f))) (ht : tys[t0]? = some (cA, .int)) {i : Int32} (hin : vp_in i n) {j : Nat} (hj : i.toNatClampNeg = j) (hdg : decode cc pc = .ok (.iaload, 1))
    (kk : W p l e R s m args below meth c H locs cells slots Q (F0 m (pc + 1) ls (.int (f j) :: rest))) : W p l e R s m args below meth c H locs cells slots Q (F0 m pc ls (.int i :: .ref a :: rest)) := by
  subst hj
  exact va_iald X.1 X.2.1 X.2.2.2.2.2 hX.1 q0 t0 ha ht hin hdg kk
theorem ab_ast {ws ws' : va_W} {a : Nat} (X : ab_cx p s m args c cc nL own D tys) (hX : ab_hx D ws A H0 H locs) (q0 t0 : Nat) {cA : ClassId} {n : Nat} {f : Nat → Int32} (ha : ws[q0]? = some (a, .inl (cA, n, .inl f))) (ht : tys[t0]? = some (cA, .int)) {i x : Int32} (hin : vp_in i n) {j : Nat} (hj : i.toNatClampNeg = j)
    (hws : ws.set q0 (a, .inl (cA, n, .inl (upd f j x))) = ws') (hdg : decode cc pc = .ok (.iastore, 1))
    (kk : ∀ (H1 : Heap) (locs1 : List Loc), ab_hx D ws' A H0 H1 locs1 → W p l e R s m args below meth c H1 locs1 cells slots Q (F0 m (pc + 1) ls rest)) : W p l e R s m args below meth c H locs cells slots Q (F0 m pc ls (.int x :: .int i :: .ref a :: rest)) := by
  subst hj
  subst hws
  exact va_iast X.1 X.2.1 X.2.2.2.2.2 hX.1 hX.2.1 hX.2.2.1 q0 t0 ha ht hin hdg (fun H1 locs1 hP hD hS => kk H1 locs1 ⟨hP, hD, hS, hX.2.2.2⟩)
theorem ab_aldz {ws : va_W} {a : Nat} (X : ab_cx p s m args c cc nL own D tys) (hX : ab_hx D ws A H0 H locs) (q0 t0 : Nat) {cA : ClassId} {n : Nat} {f : Nat → Int32} (ha : ws[q0]? = some (a, .inl (cA, n, .inl f))) (ht : tys[t0]? = some (cA, .boolean)) {i : Int32} (hin : vp_in i n) {j : Nat} (hj : i.toNatClampNeg = j) (hdg : decode cc pc = .ok (.baload, 1))
    (kk : W p l e R s m args below meth c H locs cells slots Q (F0 m (pc + 1) ls (.int (f j) :: rest))) : W p l e R s m args below meth c H locs cells slots Q (F0 m pc ls (.int i :: .ref a :: rest)) := by
  subst hj
  exact va_zald X.1 X.2.1 X.2.2.2.2.2 hX.1 q0 t0 ha ht hin hdg kk
theorem ab_astz {ws ws' : va_W} {a : Nat} (X : ab_cx p s m args c cc nL own D tys) (hX : ab_hx D ws A H0 H locs) (q0 t0 : Nat) {cA : ClassId} {n : Nat} {f : Nat → Int32} (ha : ws[q0]? = some (a, .inl (cA, n, .inl f))) (ht : tys[t0]? = some (cA, .boolean)) {i x : Int32} (hin : vp_in i n) {j : Nat} (hj : i.toNatClampNeg = j) (hn : vp_nar .boolean x = x)
    (hws : ws.set q0 (a, .inl (cA, n, .inl (upd f j x))) = ws') (hdg : decode cc pc = .ok (.bastore, 1))
    (kk : ∀ (H1 : Heap) (locs1 : List Loc), ab_hx D ws' A H0 H1 locs1 → W p l e R s m args below meth c H1 locs1 cells slots Q (F0 m (pc + 1) ls rest)) : W p l e R s m args below meth c H locs cells slots Q (F0 m pc ls (.int x :: .int i :: .ref a :: rest)) := by
  subst hj
  subst hws
  exact va_zast X.1 X.2.1 X.2.2.2.2.2 hX.1 hX.2.1 hX.2.2.1 q0 t0 ha ht hin hdg (fun H1 locs1 hP hD hS => kk H1 locs1 ⟨by rw [hn] at hP; exact hP, by rw [hn] at hD; exact hD, hS, hX.2.2.2⟩)
/-- aaload; System.arraycopy of ints, whole arrays -/
theorem ab_aldr {ws : va_W} {a : Nat} (X : ab_cx p s m args c cc nL own D tys) (hX : ab_hx D ws A H0 H locs) (q0 t0 : Nat) {cA : ClassId} {C : String} {n : Nat} {f : Nat → Option Nat} (ha : ws[q0]? = some (a, .inl (cA, n, .inr (.inr (.inr (.inr f)))))) (ht : tys[t0]? = some (cA, .object C)) {i : Int32} (hin : vp_in i n) {v : Value} (hv : va_rf (f i.toNatClampNeg) = v) (hdg : decode cc pc = .ok (.aaload, 1))
    (kk : W p l e R s m args below meth c H locs cells slots Q (F0 m (pc + 1) ls (v :: rest))) : W p l e R s m args below meth c H locs cells slots Q (F0 m pc ls (.int i :: .ref a :: rest)) := by
  subst hv
  exact va_aldq X.1 X.2.1 X.2.2.2.2.2 hX.1 q0 t0 ha ht hin hdg kk
theorem ab_copy {ws ws' : va_W} {a a0 : Nat} (X : ab_cx p s m args c cc nL own D tys) (hX : ab_hx D ws A H0 H locs) (hl : ls.size = nL) (q0 q1 t0 : Nat) {c0 : ClassId} {n : Nat} {f g : Nat → Int32} {N : Int32} (ha0 : ws[q0]? = some (a0, .inl (c0, n, .inl f))) (ha1 : ws[q1]? = some (a, .inl (c0, n, .inl g))) (ht : tys[t0]? = some (c0, .int))
    (hw : Cond.methodLink own index arraycopyName ∈ AL ∧ Cond.native arraycopyName ∈ AL ∧ Cond.static arraycopyName ∈ AL ∧ Cond.initialized "java/lang/System" ∈ AL) (hN : ¬ N < 0 ∧ N.toNatClampNeg = n) (hroom : 1 ≤ R.frames ∧ (rest.map fun v => v.category).sum + (nativeFrameWords "java/lang/System" "arraycopy" 5 + 11) ≤ R.locals)
    (hws : ws.set q1 (a, .inl (c0, n, .inl (va_cpy f g 0 0 n))) = ws') (hdg : decode cc pc = .ok (.invokestatic index, 3))
    (kk : ∀ (H1 : Heap) (locs1 : List Loc), ab_hx D ws' A H0 H1 locs1 → W p l e R s m args below meth c H1 locs1 cells slots Q (F0 m (pc + 3) ls rest)) : W p l e R s m args below meth c H locs cells slots Q (F0 m pc ls (.int N :: .int 0 :: .ref a :: .int 0 :: .ref a0 :: rest)) := by
  obtain ⟨hN0, rfl⟩ := hN
  subst hws
  exact va_copyi X.1 X.2.1 (X.2.2.1.trans hl.symm) X.2.2.2.1 (X.2.2.2.2.1 _ hw.1) (X.2.2.2.2.1 _ hw.2.1) (X.2.2.2.2.1 _ hw.2.2.1) (X.2.2.2.2.1 _ hw.2.2.2) X.2.2.2.2.2 hX.1 hX.2.1 hX.2.2.1 q0 q1 t0 t0 ha0 ha1 ht ht rfl (by decide) (by decide) hN0 (by rw [show (0 : Int32).toNatClampNeg = 0 from rfl]; omega) (by rw [show (0 : Int32).toNatClampNeg = 0 from rfl]; omega) (fun _ _ => rfl) hroom.1 hroom.2 hdg (fun H1 locs1 hP hD hS => kk H1 locs1 ⟨hP, hD, hS, hX.2.2.2⟩)
/-- switches: the key is known -/
theorem ab_swIn {dflt lo hi off : Int} {offs : Array Int} {len tgt : Nat} {x v : Int32} (hexec : p.tables.exec = Jvm.exec) (hb : c.code = cc) (hdg : decode cc pc = .ok (.tableswitch dflt lo hi offs, len)) (h : x = v) (h1 : ¬ v.toInt < lo) (h2 : ¬ hi < v.toInt) (ho : offs[(v.toInt - lo).toNat]? = some off) (ht : (pc : Int) + off = (tgt : Int))
    (kk : W p l e R s m args below meth c H locs cells slots Q (F0 m tgt ls rest)) : W p l e R s m args below meth c H locs cells slots Q (F0 m pc ls (.int x :: rest)) := by
  subst h
  exact lv_tableIn hexec hb hdg h1 h2 ho ht kk
theorem ab_swLk {dflt off : Int} {ps : Array (Int × Int)} {len tgt : Nat} {x v : Int32} (hexec : p.tables.exec = Jvm.exec) (hb : c.code = cc) (hdg : decode cc pc = .ok (.lookupswitch dflt ps, len)) (hp : (ps.toList.zip (ps.toList.drop 1)).all (fun (a, next) => a.1 < next.1) = true) (h : x = v) (ho : Op.lookupswitch.offset ps.toList dflt v.toInt = off) (ht : (pc : Int) + off = (tgt : Int))
    (kk : W p l e R s m args below meth c H locs cells slots Q (F0 m tgt ls rest)) : W p l e R s m args below meth c H locs cells slots Q (F0 m pc ls (.int x :: rest)) := by
  subst h
  exact lv_lookup hexec hb hdg hp ho ht kk
/-- calls of methods that only read -/
theorem ab_kr_callV {wr : va_W} {u : S} {r : Int32} {a : Nat} (X : ab_cx p s m args c cc nL own D tys) (hX : ab_hx D (wr ++ w u) A H0 H locs) (hM : ab_ki l D tys w y b n ret rm (.ref a :: as) u (r, u)) (hy : ab_yok y b n (some ret) k) (hv : ab_yok_V y) (hlk : Cond.methodLink own index y ∈ AL)
    (q0 ci : Nat) {fs : List Value} {T : u_T} {N : Nat} (hc : CL[ci]? = some (y.cls, T, N)) (he : (wr ++ w u)[q0]? = some (a, .inr (ci, fs))) (hlen : as.length = k) (hl : ls.size = nL) (hst : st = as.reverse ++ .ref a :: rest) (hroom : (rest.map fun v => v.category).sum ≤ 8)
    (hrm : rm.cells = 0 ∧ rm.slots = 0 ∧ rm.frames + 1 ≤ R.frames ∧ 8 + (n + 11) + rm.locals ≤ R.locals) (hcs : cells ≤ R.cells ∧ slots ≤ R.slots) (hdg : decode cc pc = .ok (.invokevirtual index, 3))
    (kk : ∀ (H1 : Heap) (locs1 : List Loc), ab_hx D (wr ++ w u) A H0 H1 locs1 → W p l e R s m args below meth c H1 locs1 cells slots Q (F0 m (pc + 3) ls (.int r :: rest))) : W p l e R s m args below meth c H locs cells slots Q (F0 m pc ls st) :=
  ab_ki_callV X hX hM hy hv hlk q0 ci hc he hlen hl hst hroom hrm hcs hdg kk
theorem ab_kr_callS {wr : va_W} {u : S} {r : Int32} (X : ab_cx p s m args c cc nL own D tys) (hX : ab_hx D (wr ++ w u) A H0 H locs) (hM : ab_ki l D tys w y b n ret rm as u (r, u)) (hy : ab_yok y b n (some ret) k) (hv : Cond.static y ∈ AL) (hlk : Cond.methodLink own index y ∈ AL)
    (hlen : as.length = k) (hl : ls.size = nL) (hst : st = as.reverse ++ rest) (hroom : (rest.map fun v => v.category).sum ≤ 8)
    (hrm : rm.cells = 0 ∧ rm.slots = 0 ∧ rm.frames + 1 ≤ R.frames ∧ 8 + (n + 11) + rm.locals ≤ R.locals) (hcs : cells ≤ R.cells ∧ slots ≤ R.slots) (hdg : decode cc pc = .ok (.invokestatic index, 3))
    (kk : ∀ (H1 : Heap) (locs1 : List Loc), ab_hx D (wr ++ w u) A H0 H1 locs1 → W p l e R s m args below meth c H1 locs1 cells slots Q (F0 m (pc + 3) ls (.int r :: rest))) : W p l e R s m args below meth c H locs cells slots Q (F0 m pc ls st) :=
  ab_ki_callS X hX hM hy hv hlk hlen hl hst hroom hrm hcs hdg kk
/-- a value that is decided on several roads, joined -/
theorem ab_jn {g : JFrame} (pcJ : Nat) (x : Int32) (hJ : W p l e R s m args below meth c H locs cells slots Q (F0 m pcJ ls (.int x :: rest))) (hB : W p l e R s m args below meth c H locs cells slots Q (F0 m pcJ ls (.int x :: rest)) → W p l e R s m args below meth c H locs cells slots Q g) : W p l e R s m args below meth c H locs cells slots Q g := hB hJ
theorem ab_jt {x v : Int32} (h : x = v) (hJ : W p l e R s m args below meth c H locs cells slots Q (F0 m pc ls (.int x :: rest))) : W p l e R s m args below meth c H locs cells slots Q (F0 m pc ls (.int v :: rest)) := h ▸ hJ
end LY
/-! numbers in range -/
theorem ab_mono {i : Int32} {n m : Nat} (h : vp_in i n) (hm : n ≤ m) : vp_in i m := fun q => h (q.elim Or.inl (fun z => Or.inr (Nat.le_trans hm z)))
theorem ab_inc {i : Int32} {n : Nat} (h : (!(decide (i < 0)) && decide (i.toNatClampNeg < n)) = true) : vp_in i n := by
  simp only [Bool.and_eq_true, Bool.not_eq_true', decide_eq_true_eq, decide_eq_false_iff_not] at h
  exact fun q => q.elim h.1 (fun z => absurd h.2 (Nat.not_lt.mpr z))
theorem ab_inm (x : Int32) {m : Int32} (k : Nat) {n : Nat} (hm : m.toBitVec.toNat = 2 ^ k - 1) (h : k ≤ 30 ∧ 2 ^ k ≤ n) : vp_in (x &&& m) n := ab_mono (pk_andIn x k hm h.1) h.2
theorem ab_ltN {N j : Nat} {i n : Int32} (h : ¬ n ≤ i) (hi : i = nI j) (hj : j ≤ N) (hn : n = nI N) (hN : N < 2 ^ 30) : j < N := by
  rcases Nat.lt_or_ge j N with h' | h'
  · exact h'
  · exfalso
    subst hi; subst hn
    exact h (nI_le h' (by omega))
theorem ab_inA {x : Int32} (h : ¬ 512 ≤ (x &&& 1023)) : vp_in (x &&& 1023) 512 := by
  obtain ⟨j, hj, e⟩ := pk_andE x (m := 1023) 10 rfl
  rw [e] at h ⊢
  exact vp_in_nI (Nat.lt_of_not_le fun q => h (nI_le q (by omega))) (by decide)
theorem ab_inB {x : Int32} (h : 512 ≤ (x &&& 1023)) : vp_in ((x &&& 1023) - 512) 512 := by
  obtain ⟨j, hj, e⟩ := pk_andE x (m := 1023) 10 rfl
  rw [e] at h ⊢
  have hj5 : 512 ≤ j := Nat.le_of_not_lt fun q => absurd h (nI_ge q (by decide))
  rw [show (512 : Int32) = nI 512 from rfl, pk_sub hj5]
  exact vp_in_nI (by omega) (by decide)
theorem ab_inB' {x : Int32} (h : ¬ (x &&& 1023) < 512) : vp_in ((x &&& 1023) - 512) 512 := by
  obtain ⟨j, hj, e⟩ := pk_andE x (m := 1023) 10 rfl
  rw [e] at h ⊢
  have hj5 : 512 ≤ j := Nat.le_of_not_lt fun q => h (nI_lt q (by decide))
  rw [show (512 : Int32) = nI 512 from rfl, pk_sub hj5]
  exact vp_in_nI (by omega) (by decide)
theorem ab_inC {x : Int32} (h1 : ¬ x < 0) (h2 : ¬ 512 ≤ x) : vp_in x 512 := by
  obtain ⟨j, hj, rfl⟩ := nI_of h1
  exact vp_in_nI (Nat.lt_of_not_le fun q => h2 (nI_le q hj)) (by decide)
theorem ab_inN {N j : Nat} {i n : Int32} (h : ¬ n ≤ i) (hi : i = nI j) (hj : j ≤ N) (hn : n = nI N) (hN : N < 2 ^ 30) : vp_in i N := by
  have := ab_ltN h hi hj hn hN
  subst hi
  exact vp_in_nI this (by omega)
theorem ab_in2 (x : Int32) : vp_in (2 * (x &&& 3)) 8 := by
  obtain ⟨j, hj, e⟩ := pk_andE x (m := 3) 2 rfl
  rw [e, show (2 : Int32) = nI 2 from rfl, pk_mul]
  exact vp_in_nI (by omega) (by decide)
theorem ab_in21 (x : Int32) : vp_in (2 * (x &&& 3) + 1) 8 := by
  obtain ⟨j, hj, e⟩ := pk_andE x (m := 3) 2 rfl
  rw [e, show (2 : Int32) = nI 2 from rfl, pk_mul, nI_1]
  exact vp_in_nI (by omega) (by decide)
