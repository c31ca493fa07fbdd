/-! A call that may throw, and its catching: over the library's ThrowLaws, Cold, ColdWords, ContractLoose, Free/Laws. -/
def ab_WX (p : Program) (l : Launch) (e : Env) (R : Room) (s : State) (m : MethodId) (args : Array Value) (below : List Frame) (meth : Method) (c : Code) (H : Heap) (locs : List Loc) (cells slots : Nat) (Q : State → Prop) (g : JFrame) (q : Addr) : Prop :=
  ∀ T : State, T.heap = H → Stand p l e R s m args below meth c T locs cells slots → ∃ t, Steps p.tables e below ((T.setTop g).pushFrame (.throwing q)) t ∧ Q t
section CT
variable {p : Program} {l : Launch} {e : Env} {R : Room} {s : State} {m : MethodId} {args : Array Value} {below : List Frame} {meth : Method} {c : Code} {H : Heap} {locs : List Loc} {cells slots : Nat} {Q : State → Prop}
variable {cc b : ByteArray} {nL n pc index k : Nat} {ls : Array Slot} {rest st as : List Value} {D : va_G} {tys : List (ClassId × FieldType)} {A : Nat → Prop} {H0 : Heap} {own : String} {y : MethodName} {ret : FieldType} {rm : Room} {S : Type} {w : S → va_W}
set_option maxHeartbeats 1000000 in
theorem ab_kx_callV {wr : va_W} {u : S} {F : Nat × (Int32 × S)} {a : Nat} (X : ab_cx p s m args c cc nL own D tys) (hT : ab_TH A s s.heap ∧ ab_SR s) (hX : ab_hx D (wr ++ w u) A s.heap H locs) (hM : ab_kx l D tys w y b n ret rm (.ref a :: as) u F) (hy : ab_yok y b n (some ret) k) (hv : ab_yok_V y) (hlk : Cond.methodLink own index y ∈ AL)
    (q0 ci : Nat) {fs : List Value} {T : u_T} {N : Nat} (hc : CL[ci]? = some (y.cls, T, N)) (he : (wr ++ w u)[q0]? = some (a, .inr (ci, fs))) (hlen : as.length = k) (hl : ls.size = nL) (hst : st = as.reverse ++ .ref a :: rest) (hroom : (rest.map fun v => v.category).sum ≤ 8)
    (hrm : rm.cells = 1 ∧ rm.slots = 6 ∧ rm.frames + 1 ≤ R.frames ∧ 8 + (n + 11) + rm.locals ≤ R.locals) (hcs : cells + 1 ≤ R.cells ∧ slots + 6 ≤ R.slots) (hdg : decode cc pc = .ok (.invokevirtual index, 3))
    (kk : F.1 = 0 → ∀ (H1 : Heap) (locs1 : List Loc), ab_hx D (wr ++ w F.2.2) A s.heap H1 locs1 → W p l e R s m args below meth c H1 locs1 (cells + 1) (slots + 6) Q (F0 m (pc + 3) ls (.int F.2.1 :: rest)))
    (kx : F.1 ≠ 0 → ∀ (H1 : Heap) (locs1 : List Loc) (q : Addr) (ce : Cell), ab_hx D (wr ++ w F.2.2) A s.heap H1 locs1 → H1[q]? = some ce → ce.vm = .none → s.vm.findClass (ab_Xn F.1) = some ce.cls → ab_WX p l e R s m args below meth c H1 locs1 (cells + 1) (slots + 6) Q (F0 m pc ls rest) q) : W p l e R s m args below meth c H locs cells slots Q (F0 m pc ls st) := by
  intro T0 hT0 XS
  subst hT0
  have wd : ∀ w ∈ AL, w.before args s = true := X.2.2.2.2.1
  have hcode := wd _ hy.1
  obtain ⟨cellB, hcB, hoB, hclB⟩ := va_recv X.2.2.2.2.2 hX.1 hc he
  -- the receiver's method
  obtain ⟨mk, methM, hnamed, hmethM, hstM, habM⟩ := Cond.instanceMethod_spec (wd _ hv.1)
  obtain ⟨methM', cM, hmethM', hcM, -, hlM, -, -, -, hsigM⟩ := Cond.code_spec hnamed hcode
  cases hmethM.symm.trans hmethM'
  obtain ⟨c2, r2, m2, q1, q2, q3, q4, kP, hkP, hkPi⟩ := Cond.selects_spec (wd _ hv.2)
  cases hclB.symm.trans q1
  cases (State.methodFound?_of_named hnamed ⟨hy.2.2.1, hy.2.2.2.1⟩).symm.trans q2
  cases hnamed.symm.trans q3
  have hselP : selectMethod e.platform s.vm cellB.cls mk = .method mk := by rw [Launch.admits_selectMethod XS.admits]; exact q4
  have hlenS : ∀ sig, parseMethodDescriptor y.desc = some sig → as.length = sig.parameters.length := by
    intro sig h
    have h2 := hy.2.2.2.2
    rw [h] at h2
    rw [hlen]; exact (Option.some.inj h2).symm
  obtain ⟨vm₁, X₁, hstep₁⟩ := XS.invokevirtual X.1 X.2.2.2.1 (wd _ hlk) hnamed hmethM hstM hkP hkPi ⟨hy.2.2.1, hy.2.2.2.1⟩ (a := a) (cell := cellB) hcB
    (fun z h => by rw [h] at hoB; cases hoB) hselP hmethM habM hkP hkPi (g := F0 m pc ls st) rfl (argsL := as) (rest := rest) (hlenS _ hsigM) hst (by rw [X.2.1]; exact hdg)
  obtain ⟨U, hU⟩ : ∃ z, z = T0.setVm vm₁ := ⟨_, rfl⟩
  rw [← hU] at X₁ hstep₁
  have hUh : U.heap = T0.heap := by rw [hU]; rfl
  have hW1 : s.WarmedH U.vm := X₁.warmed
  have hn : U.methodNamed? y = some mk := X₁.named hnamed
  -- its contract at this call
  have hPc : va_Pc (.ref a :: as) (ab_kx_P D tys (w u) T0.heap.size) (Value.ref a :: as).toArray (U.calling (F0 m pc ls rest) mk (Value.ref a :: as).toArray) := by
    have h1 := ab_ky_blind _ _ (F0 m pc ls rest) mk (ab_ky_pre X hX (.ref a :: as) U hUh hW1)
    refine ⟨rfl, h1.2, ?_, ab_SR.same (s := U) rfl (hT.2.warm hW1)⟩
    have h2 : ab_TH (va_A (w u) T0.heap.size) U U.heap := by
      rw [hUh]
      exact ab_TH.moved hW1.alike ((hT.1.kept hX.2.2.1.2.1).narrow (ab_hx_free hX))
    exact ab_TH.moved (u := U) (U := U.calling (F0 m pc ls rest) mk (Value.ref a :: as).toArray) (Vm.Alike.refl U.vm) h2
  have hpre : (headSpec (Cond.code y b n (some ret) :: AL) rm).pre.before (Value.ref a :: as).toArray U = true := atoms_intro fun w hw => by
    rcases List.mem_cons.mp hw with rfl | hw
    · exact word_at hW1 (ab_good _ hy.1) hcode
    · exact word_at hW1 (ab_good _ hw) (wd _ hw)
  obtain ⟨methY, cY, hmY, hcY, -, hlY, -, -, -, -⟩ := Cond.code_spec hn (word_at (a' := (Value.ref a :: as).toArray) hW1 (ab_good _ hy.1) hcode)
  obtain ⟨kY, hkY, -⟩ := className_of_methodNamed hn
  have hinitY : kY.init = .initialized := Cond.initialized_spec (findClass_of_methodNamed hn) hkY (word_at (a' := (Value.ref a :: as).toArray) hW1 (ab_good _ hy.2.1) (wd _ hy.2.1))
  have h : At U (F0 m pc ls rest).method c below := X₁.here
  have hW8 : 2 * (F0 m pc ls rest).monitorRoom + (rest.map fun v => v.category).sum ≤ 8 := lv_room hroom
  have happ : (headSpec (Cond.code y b n (some ret) :: AL) rm).appliesLoose y e.platform (U.calling (F0 m pc ls rest) mk (Value.ref a :: as).toArray) = true :=
    Spec.appliesLoose_calling (g := F0 m pc ls rest) h (by rw [X.2.1]; exact hdg) hn hkY hinitY
      (X₁.room_calling (g := F0 m pc ls rest) (R' := rm) (hl.trans X.2.2.1.symm) hmY hcY hrm.2.2.1 (by rw [hlY]; show 2 * (F0 m pc ls rest).monitorRoom + (rest.map fun v => v.category).sum + (n + 11) + rm.locals ≤ R.locals; have := hrm.2.2.2; omega) (by rw [hrm.1]; exact hcs.1) (by rw [hrm.2.1]; exact hcs.2)) hpre
  obtain ⟨mid, hmid⟩ := h.above
  have hfr : (U.setTop (F0 m pc ls rest)).frames = (.java (F0 m pc ls rest) :: mid) ++ below := by rw [State.frames_setTop' _ h.top, hmid]; rfl
  obtain ⟨o, s₂, hsteps, -, hend, hq⟩ := Steps.callFree (hM T0.heap.size) p X₁.admits X₁.cas X₁.clock (acts := []) hfr happ hPc trivial
  rw [State.frames_setTop' _ h.top] at hend
  obtain ⟨g₀, hg0⟩ := Option.isSome_iff_exists.mp h.top
  obtain ⟨r, hr⟩ := State.topJava?_eq_some.mp hg0
  have hr' : (({ U with heap := s₂.heap, slotsUsed := s₂.slotsUsed } : State).setVm s₂.vm).frames = .java g₀ :: r := hr
  obtain ⟨V, hV⟩ : ∃ V, V = U.calling (F0 m pc ls rest) mk (Value.ref a :: as).toArray := ⟨_, rfl⟩
  have hq' : ab_kx_Q D tys w (va_A (w u) T0.heap.size) F (U.calling (F0 m pc ls rest) mk (Value.ref a :: as).toArray) o s₂ := hq
  rw [← hV] at hq'
  have hVh : V.heap = U.heap := by rw [hV]; rfl
  have hVv : V.vm = U.vm := by rw [hV]; rfl
  obtain ⟨hcase, ⟨hP1, hK1, hD1⟩, hFr, hW₂, L, hsm, hL⟩ := hq'
  obtain ⟨e2, g2, g3, g4, g5, g6⟩ := id hsm
  have e3 : s₂ = ({ V.setFrames s₂.frames with heap := s₂.heap, slotsUsed := s₂.slotsUsed } : State).setVm s₂.vm := by
    have h9 := congrArg (fun x : State => x.setVm s₂.vm) e2
    exact h9
  rw [hV] at e3
  rw [hV] at hFr hcase
  have hW' : U.WarmedH s₂.vm := by rw [hV] at hW₂; exact hW₂
  have hsame : U.sameButNew ({ U with heap := s₂.heap, slotsUsed := s₂.slotsUsed } : State) L 1 6 := by
    rw [hV] at g2 g3 g4 g5 g6
    refine ⟨?_, g2, g3, g4, g5, g6⟩
    obtain ⟨t, ht, -⟩ := State.frames_cons hr
    show ({ U with heap := s₂.heap, slotsUsed := s₂.slotsUsed } : State) = { U.setFrames U.frames with heap := s₂.heap, slotsUsed := s₂.slotsUsed }
    rw [State.setFrames_self ht]
  have hS' : Stand p l e R s m args below meth c (({ U with heap := s₂.heap, slotsUsed := s₂.slotsUsed } : State).setVm s₂.vm) (locs ++ L) (cells + 1) (slots + 6) :=
    ⟨X₁.admits, X₁.cas, X₁.clock, X₁.frames, X₁.room, X₁.hears, X₁.method, X₁.code, (X₁.here.setHeapUsed s₂.heap s₂.slotsUsed).setVm hW'.alike, X₁.tail, State.WarmedH.trans X₁.warmed hW', X₁.limits, X₁.bytes, X₁.same.trans (hsame.setVm s.vm)⟩
  -- the world behind it
  have hkeep : ∀ q : Nat, q < T0.heap.size → ¬ va_A (w u) T0.heap.size q → s₂.heap[q]? = T0.heap[q]? := fun q h1 h2 => by
    have h9 := hFr.2 q (by show q < U.heap.size; rw [hUh]; exact h1) h2
    exact h9.trans (by show U.heap[q]? = _; rw [hUh])
  obtain ⟨hPj, hDj⟩ := ab_join_app hX.1 hX.2.1 hkeep (ab_hx_free hX) hP1 hD1
  have hz : T0.heap.size ≤ s₂.heap.size := by
    have h9 := hFr.1
    rw [← hUh]; exact h9
  have hX' : ab_hx D (wr ++ w F.2.2) A s.heap s₂.heap (locs ++ L) := by
    refine ⟨hPj, hDj, ⟨Nat.le_trans hX.2.2.1.1 hz, fun q h1 h2 => ?_, fun q hq => ?_⟩, hX.2.2.2⟩
    · rw [hkeep q (Nat.lt_of_lt_of_le h1 hX.2.2.1.1) (fun z => h2 (ab_hx_free hX q z))]
      exact hX.2.2.1.2.1 q h1 h2
    · rcases List.mem_append.mp hq with h | h
      · exact hX.2.2.1.2.2 q h
      · exact ab_hx_free hX _ (hL q h)
  rcases hcase with ⟨hF, rfl⟩ | ⟨hF, q, ce, rfl, hce, hcv, hcl⟩
  · obtain ⟨c₂, i₂, len₂, hc₂, hd₂, hf₂⟩ := hend
    have hcc : c₂ = c := by
      have h1 : s₂.code? m = U.code? m := by rw [State.code?_eq, State.code?_eq, hW'.alike.method?]
      exact Option.some.inj (hc₂.symm.trans (h1.trans h.code))
    subst hcc
    have hlen2 : len₂ = 3 := by
      have hd9 : decode c₂.code pc = .ok (.invokevirtual index, 3) := by rw [X.2.1]; exact hdg
      have hd8 : decode c₂.code pc = .ok (i₂, len₂) := hd₂
      rw [hd9] at hd8; cases hd8; rfl
    subst hlen2
    have hs₂ : s₂ = (({ U with heap := s₂.heap, slotsUsed := s₂.slotsUsed } : State).setVm s₂.vm).setTop (F0 m (pc + 3) ls (.int F.2.1 :: rest)) := by
      refine e3.trans ?_
      rw [hf₂, State.calling_eq h.top, State.setFrames_setFrames, State.setTop_of_frames _ hr', hr]
      rfl
    obtain ⟨t2, a1, b1⟩ := kk hF s₂.heap (locs ++ L) hX' (({ U with heap := s₂.heap, slotsUsed := s₂.slotsUsed } : State).setVm s₂.vm) rfl hS'
    rw [← hs₂] at a1
    exact ⟨t2, hstep₁ _ fun acts => by rw [doInvoke_state]; exact hsteps.trans a1, b1⟩
  · have hf₂ : s₂.frames = .throwing q :: .java (F0 m pc ls rest) :: U.frames.tail := hend
    have hs₂ : s₂ = ((({ U with heap := s₂.heap, slotsUsed := s₂.slotsUsed } : State).setVm s₂.vm).setTop (F0 m pc ls rest)).pushFrame (.throwing q) := by
      refine e3.trans ?_
      rw [hf₂, State.calling_eq h.top, State.setFrames_setFrames, State.pushFrame, State.frames_setTop _ hr', State.setTop_of_frames _ hr', State.setFrames_setFrames, hr]
      rfl
    have hcl' : s.vm.findClass (ab_Xn F.1) = some ce.cls := by
      have h1 : U.vm.findClass (ab_Xn F.1) = some ce.cls := hcl
      rw [hW1.alike.findClass] at h1
      exact h1
    obtain ⟨t2, a1, b1⟩ := kx hF s₂.heap (locs ++ L) q ce hX' hce hcv hcl' (({ U with heap := s₂.heap, slotsUsed := s₂.slotsUsed } : State).setVm s₂.vm) rfl hS'
    rw [← hs₂] at a1
    exact ⟨t2, hstep₁ _ fun acts => by rw [doInvoke_state]; exact hsteps.trans a1, b1⟩
end CT
/-! the search for a handler; the class of a row may be linked only now -/
section FH
variable {Q : Handler → Pre} {E : CtlPost} {e : Env} {d : Bool} {acts : List Action} {s : State} {f : JFrame} {a : Addr}
theorem ab_goY {x : ExceptionTableEntry} {t : List ExceptionTableEntry} {c : ClassId} {cell : Cell} (hx : covers x f.pc = true) (h0 : x.catchType ≠ 0) (hl : s.vm.ClassLinks e.platform f.method.cls x.catchType c) (hcell : s.heap[a]? = some cell) (hobj : ∀ k, cell.vm ≠ .statics k)
    (hk : ∃ k, s.vm.classes[cell.cls]? = some k) (hc : ∃ k, s.vm.classes[c]? = some k) (hfit : s.vm.assignable cell.cls c = true) :
    wp (findHandler.go f a (x :: t)) Q E e d acts s ↔ Q (.found x.handlerPc) d acts (s.setVm (s.vm.noted f.method.cls x.catchType (.cls c))) := by
  simp only [covers] at hx
  obtain ⟨ha, ht⟩ := (resolveClass_links e.toSetting hl).op (op := VmOp.resolveClass f.method.cls x.catchType) rfl
  have hal : s.vm.Alike (s.vm.noted f.method.cls x.catchType (.cls c)) := (Vm.Alike.refl s.vm).noted _ _ _
  obtain ⟨k1, hk1⟩ := hk
  obtain ⟨k2, hk2⟩ := hc
  obtain ⟨k1', hk1', -⟩ := hal.2.2 _ _ hk1
  obtain ⟨k2', hk2', -⟩ := hal.2.2 _ _ hk2
  have hfit' : (s.vm.noted f.method.cls x.catchType (.cls c)).assignable cell.cls c = true := by rw [hal.assignable]; exact hfit
  simp [findHandler.go, hx, h0, ha, ht, hcell, hobj, hk1', hk2', hfit', VmOp.dirties, VmOp.acts]
theorem ab_goN {x : ExceptionTableEntry} {t : List ExceptionTableEntry} {c : ClassId} {cell : Cell} (hx : covers x f.pc = true) (h0 : x.catchType ≠ 0) (hl : s.vm.ClassLinks e.platform f.method.cls x.catchType c) (hcell : s.heap[a]? = some cell) (hobj : ∀ k, cell.vm ≠ .statics k)
    (hk : ∃ k, s.vm.classes[cell.cls]? = some k) (hc : ∃ k, s.vm.classes[c]? = some k) (hno : s.vm.assignable cell.cls c = false) :
    wp (findHandler.go f a (x :: t)) Q E e d acts s ↔ wp (findHandler.go f a t) Q E e d acts (s.setVm (s.vm.noted f.method.cls x.catchType (.cls c))) := by
  simp only [covers] at hx
  obtain ⟨ha, ht⟩ := (resolveClass_links e.toSetting hl).op (op := VmOp.resolveClass f.method.cls x.catchType) rfl
  have hal : s.vm.Alike (s.vm.noted f.method.cls x.catchType (.cls c)) := (Vm.Alike.refl s.vm).noted _ _ _
  obtain ⟨k1, hk1⟩ := hk
  obtain ⟨k2, hk2⟩ := hc
  obtain ⟨k1', hk1', -⟩ := hal.2.2 _ _ hk1
  obtain ⟨k2', hk2', -⟩ := hal.2.2 _ _ hk2
  have hno' : (s.vm.noted f.method.cls x.catchType (.cls c)).assignable cell.cls c = false := by rw [hal.assignable]; exact hno
  simp [findHandler.go, hx, h0, ha, ht, hcell, hobj, hk1', hk2', hno', VmOp.dirties, VmOp.acts]
end FH
section CH
variable {p : Program} {l : Launch} {e : Env} {R : Room} {s : State} {m : MethodId} {args : Array Value} {below : List Frame} {meth : Method} {c : Code} {H : Heap} {locs : List Loc} {cells slots : Nat} {Q : State → Prop} {pc : Nat} {ls : Array Slot} {rest : List Value}
theorem ab_found {T : State} (X : Stand p l e R s m args below meth c T locs cells slots) {g : JFrame} (hg : g.method = m) {a : Addr} {hpc : Nat} {vm' : Vm} (hW' : s.WarmedH vm')
    (hfind : ∀ (Q : Handler → Pre) (E : CtlPost) (d : Bool) (acts : List Action), wp (findHandler g a) Q E e d acts ((T.setTop g).pushFrame (.throwing a)) ↔ Q (.found hpc) d acts (((T.setTop g).pushFrame (.throwing a)).setVm vm')) {target : State}
    (hrest : Steps p.tables e below ((T.setVm vm').setTop { g with pc := hpc, stack := [.ref a] }) target) : Steps p.tables e below ((T.setTop g).pushFrame (.throwing a)) target := by
  have h : At T g.method c below := by rw [hg]; exact X.here
  obtain ⟨hgo, hw⟩ := h.throwing a
  refine Steps.head hgo hw ?_
  have hst : (stepThrowing e ((T.setTop g).pushFrame (.throwing a)) a (.java g :: T.frames.tail)).Is ((((T.setTop g).pushFrame (.throwing a)).setVm vm').setFrames (.java { g with pc := hpc, stack := [.ref a] } :: T.frames.tail)) [] := by
    simp only [stepThrowing, searchFrame, vmDo]
    generalize hr : Sem.go _ e false [] ((T.setTop g).pushFrame (.throwing a)) = res
    obtain ⟨as, rfl, ha⟩ := Sem.eq_ok_of hr (a := Handler.found hpc) (s' := ((T.setTop g).pushFrame (.throwing a)).setVm vm') (acts' := []) (by simp [hfind _ _ _ _])
    exact ⟨rfl, ha⟩
  rw [stepThread_throwing (frames_entered h.top _), hst.1]
  obtain ⟨g₀, hg0⟩ := Option.isSome_iff_exists.mp h.top
  obtain ⟨r, hr⟩ := State.topJava?_eq_some.mp hg0
  have hr' : (T.setVm vm').frames = .java g₀ :: r := hr
  rw [State.setTop_of_frames _ hr'] at hrest
  have hsf : ∀ (u : State) (F G : List Frame), ((u.setFrames F).setVm vm').setFrames G = (u.setVm vm').setFrames G := fun u F G => by
    have h1 : (u.setFrames F).setVm vm' = (u.setVm vm').setFrames F := rfl
    rw [h1, State.setFrames_setFrames]
  rw [hr, List.tail_cons, State.pushFrame, hsf, State.setTop_of_frames _ hr, hsf]
  exact hrest
theorem ab_catch {own : String} {x1 x2 : ExceptionTableEntry} {k : Nat} {ce : Cell} {q : Addr} (hown : s.vm.findClass own = some m.cls) (htab : c.exceptionTable.toList = [x1, x2]) (hc1 : covers x1 pc = true) (hc2 : covers x2 pc = true) (h01 : x1.catchType ≠ 0) (h02 : x2.catchType ≠ 0)
    (hl1 : (Cond.classLink own x1.catchType "java/lang/IllegalArgumentException").before args s = true) (hl2 : (Cond.classLink own x2.catchType "java/lang/IllegalStateException").before args s = true)
    (hy1 : (Cond.castable "java/lang/IllegalArgumentException" "java/lang/IllegalArgumentException").before args s = true) (hy2 : (Cond.castable "java/lang/IllegalStateException" "java/lang/IllegalStateException").before args s = true) (hno : va_Nc "java/lang/IllegalStateException" "java/lang/IllegalArgumentException" s)
    (hk0 : k ≠ 0) (hcell : H[q]? = some ce) (hv : ce.vm = .none) (hcl : s.vm.findClass (ab_Xn k) = some ce.cls)
    (kk : W p l e R s m args below meth c H locs cells slots Q (F0 m (if k = 1 then x1.handlerPc else x2.handlerPc) ls [.ref q])) : ab_WX p l e R s m args below meth c H locs cells slots Q (F0 m pc ls rest) q := by
  intro T hT X
  have hpl : e.platform.magicAccessors = ({} : Platform).magicAccessors := by rw [X.admits.platform]
  obtain ⟨c1, f1, L1⟩ := Cond.classLink_spec hown hl1 e.platform hpl
  obtain ⟨c2, f2, L2⟩ := Cond.classLink_spec hown hl2 e.platform hpl
  have hobj : ∀ z, ce.vm ≠ .statics z := fun z h => by rw [hv] at h; cases h
  have hcell' : ((T.setTop (F0 m pc ls rest)).pushFrame (.throwing q)).heap[q]? = some ce := by rw [Stand.throwing_heap, hT]; exact hcell
  have hvm : ((T.setTop (F0 m pc ls rest)).pushFrame (.throwing q)).vm = T.vm := Stand.throwing_vm _ _ _
  have hal := X.warmed.alike
  obtain ⟨k9, hk9, -⟩ := Vm.findClass_spec hcl
  obtain ⟨k9', hk9', -⟩ := hal.2.2 _ _ hk9
  obtain ⟨dk1, _, _, kt1, hd1, _, _, _, _, hkt1, _, hop1⟩ := L1.here
  obtain ⟨dk2, _, _, kt2, hd2, _, _, _, _, hkt2, _, hop2⟩ := L2.here
  obtain ⟨kt1', hkt1', -⟩ := hal.2.2 _ _ hkt1
  have hm' : ((T.setTop (F0 m pc ls rest)).pushFrame (.throwing q)).vm.method? (F0 m pc ls rest).method = some meth := by rw [hvm]; exact X.method'
  have hW1 : s.WarmedH (T.vm.noted m.cls x1.catchType (.cls c1)) := X.warmed.noted hd1 hop1 (State.rightAt_cls L1)
  by_cases e1 : k = 1
  · subst e1
    obtain ⟨c3, c4, g3, g4, hfit⟩ := Cond.castable_spec hy1
    cases Option.some.inj (g3.symm.trans hcl)
    cases Option.some.inj (g4.symm.trans f1)
    rw [if_pos rfl] at kk
    obtain ⟨t2, a1, b1⟩ := kk (T.setVm (T.vm.noted m.cls x1.catchType (.cls c1))) hT (X.noted hW1)
    refine ⟨t2, ab_found X (g := F0 m pc ls rest) rfl hW1 (fun Q E d acts => ?_) a1, b1⟩
    rw [W.findHandler_eq hm' X.code, htab, ab_goY hc1 h01 (by rw [hvm]; exact X.warmed.classLinks L1) hcell' hobj (by rw [hvm]; exact ⟨k9', hk9'⟩) (by rw [hvm]; exact ⟨kt1', hkt1'⟩) (by rw [hvm, hal.assignable]; exact hfit), hvm]
  · have hX2 : ab_Xn k = "java/lang/IllegalStateException" := by unfold ab_Xn; rw [if_neg e1]
    rw [hX2] at hcl
    obtain ⟨a8, b8, n1, n2, n3⟩ := hno
    cases Option.some.inj (n1.symm.trans hcl)
    cases Option.some.inj (n2.symm.trans f1)
    obtain ⟨c3, c4, g3, g4, hfit⟩ := Cond.castable_spec hy2
    cases Option.some.inj (g3.symm.trans hcl)
    cases Option.some.inj (g4.symm.trans f2)
    rw [if_neg e1] at kk
    have hW2 : s.WarmedH ((T.vm.noted m.cls x1.catchType (.cls c1)).noted m.cls x2.catchType (.cls c2)) := hW1.noted hd2 hop2 (State.rightAt_cls L2)
    obtain ⟨k9'', hk9'', -⟩ := hW1.alike.2.2 _ _ hk9
    obtain ⟨kt2', hkt2', -⟩ := hW1.alike.2.2 _ _ hkt2
    obtain ⟨t2, a1, b1⟩ := kk (T.setVm ((T.vm.noted m.cls x1.catchType (.cls c1)).noted m.cls x2.catchType (.cls c2))) hT (X.noted hW2)
    refine ⟨t2, ab_found X (g := F0 m pc ls rest) rfl hW2 (fun Q E d acts => ?_) a1, b1⟩
    rw [W.findHandler_eq hm' X.code, htab, ab_goN hc1 h01 (by rw [hvm]; exact X.warmed.classLinks L1) hcell' hobj (by rw [hvm]; exact ⟨k9', hk9'⟩) (by rw [hvm]; exact ⟨kt1', hkt1'⟩) (by rw [hvm, hal.assignable]; exact n3), hvm]
    exact ab_goY (s := ((T.setTop (F0 m pc ls rest)).pushFrame (.throwing q)).setVm (T.vm.noted m.cls x1.catchType (.cls c1))) hc2 h02 (hW1.classLinks L2) hcell' hobj ⟨k9'', hk9''⟩ ⟨kt2', hkt2'⟩ (by show (T.vm.noted m.cls x1.catchType (.cls c1)).assignable ce.cls c2 = true; rw [hW1.alike.assignable]; exact hfit)
end CH
