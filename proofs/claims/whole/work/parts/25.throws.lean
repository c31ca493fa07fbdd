/-! Methods that may throw (launches that keep no traces): their contract, the throw, the call, the catch. Over the library: BundleOwnThrow (ctorThrowS), StandThrows (leaveThrown), Free/Laws (Steps.callFree), Stand (room_calling). -/
/-- the String constants are resolved; the words on faces hold -/
def ab_SR (U : State) : Prop := (∀ (own : String) (k : Nat) (tx : String), Cond.stringRef own k tx ∈ lw_tbl → ∃ a : Nat, vk_R own k tx a U) ∧ ∀ w ∈ lw_tbl, (w.onTables && w.faceAtom) = true → w.before #[] U = true
theorem ab_fa {s U : State} {w : Cond} {args args' : Array Value} (hW : s.WarmedH U.vm) (hf : (w.onTables && w.faceAtom) = true) (h : w.before args s = true) : w.before args' U = true := by
  rw [Bool.and_eq_true] at hf
  have h1 := Cond.faceAtom_setVm hW.alike w hf.2 h
  rw [Cond.onTables_vm (A := args) (A' := args') (U := s) (U' := U) U.vm w hf.1, State.setVm_self] at h1
  exact h1
theorem ab_SR.warm {s U : State} (hW : s.WarmedH U.vm) (h : ab_SR s) : ab_SR U := ⟨fun own k tx hm => (h.1 own k tx hm).elim fun a q => ⟨a, vk_R.warm hW q⟩, fun w hw hf => ab_fa hW hf (h.2 w hw hf)⟩
theorem ab_SR.same {s U : State} (hv : U.vm = s.vm) (h : ab_SR s) : ab_SR U := ab_SR.warm (by rw [hv]; exact State.WarmedH.refl s) h
def ab_Xn (k : Nat) : String := if k = 1 then "java/lang/IllegalArgumentException" else "java/lang/IllegalStateException"
/-- where a static field of Throwable lies -/
def ab_TL (n d : String) (A : Nat → Prop) (U : State) (H : Heap) : Prop := ∃ (c : ClassId) (k : Class) (i : Nat) (f : Field) (a : Nat) (cell : Cell), U.vm.findClass Bundle.tN = some c ∧ U.fieldFound? Bundle.tN n d = some (c, k, i, f) ∧ f.isStatic = true ∧ k.statics = some a ∧ H[a]? = some cell ∧ cell.vm.isStatics = true ∧ cell.cls = c ∧ f.slot < cell.slots.size ∧ k.staticTypes[f.slot]? = some f.type ∧ ¬ A a
theorem ab_TL.moved {n d : String} {A : Nat → Prop} {u U : State} {H : Heap} (hvm : u.vm.Alike U.vm) (h : ab_TL n d A u H) : ab_TL n d A U H := by
  obtain ⟨c, k, i, f, a, cell, h1, h2, h3, h4, h5, h6, h7, h8, h9, h10⟩ := h
  obtain ⟨k', hi', he⟩ := State.fieldFound?_setVm hvm h2
  exact ⟨c, k', i, f, a, cell, by rw [hvm.findClass]; exact h1, hi', h3, by rw [he]; exact h4, h5, h6, h7, h8, by rw [he]; exact h9, h10⟩
theorem ab_TL.kept {n d : String} {A : Nat → Prop} {U : State} {H H1 : Heap} (h : ab_TL n d A U H) (hq : ∀ a : Nat, a < H.size → ¬ A a → H1[a]? = H[a]?) : ab_TL n d A U H1 := by
  obtain ⟨c, k, i, f, a, cell, h1, h2, h3, h4, h5, h6, h7, h8, h9, h10⟩ := h
  exact ⟨c, k, i, f, a, cell, h1, h2, h3, h4, (hq a (Array.getElem?_eq_some_iff.mp h5).1 h10).trans h5, h6, h7, h8, h9, h10⟩
theorem ab_TL.narrow {n d : String} {A B : Nat → Prop} {U : State} {H : Heap} (h : ab_TL n d A U H) (hAB : ∀ q, B q → A q) : ab_TL n d B U H := by
  obtain ⟨c, k, i, f, a, cell, h1, h2, h3, h4, h5, h6, h7, h8, h9, h10⟩ := h
  exact ⟨c, k, i, f, a, cell, h1, h2, h3, h4, h5, h6, h7, h8, h9, fun z => h10 (hAB _ z)⟩
theorem ab_TL.word {n d : String} {A : Nat → Prop} {s : State} {args : Array Value} (h : ab_TL n d A s s.heap) : (Cond.laysStatic Bundle.tN n d).before args s = true := by
  obtain ⟨c, k, i, f, a, cell, h1, h2, h3, h4, h5, h6, h7, h8, h9, -⟩ := h
  exact Cond.laysStatic_of h1 h2 h3 h4 h5 h6 h7 h8 h9
theorem ab_Zw {C n d : String} {v : Value} {A : Nat → Prop} {s : State} {args : Array Value} (h : va_Z C n d v A s s.heap) (hv : v.isRef = true) : (Cond.isRef (.static C n d)).before args s = true := by
  obtain ⟨cf, kf, fi, f, a, cell, h1, h2, h3, h4, h5, h6, h7, -⟩ := h
  have he : (Term.static C n d).eval args s none [] s = some v := by simp [Term.eval, State.fieldNamed?, h1, h2, h4, h5, h6, h7]
  simp only [Cond.before, Cond.holds, Cond.value, he]
  cases v <;> simp_all [Value.isRef]
theorem ab_Zqw {C n d : String} {A : Nat → Prop} {s : State} {args : Array Value} (h : va_Zq C n d A s s.heap) : (Cond.isRef (.static C n d)).before args s = true :=
  h.elim (fun h => ab_Zw h rfl) (fun ⟨_, h⟩ => ab_Zw h rfl)
/-- what a new exception reads of the heap -/
def ab_TH (A : Nat → Prop) (U : State) (H : Heap) : Prop :=
  (va_Zq Bundle.tN "UNASSIGNED_STACK" Bundle.steD A U H ∧ ab_TL "UNASSIGNED_STACK" Bundle.steD A U H) ∧ va_Zq Bundle.tN "SUPPRESSED_SENTINEL" Bundle.listD A U H ∧ ab_TL "SUPPRESSED_SENTINEL" Bundle.listD A U H
theorem ab_TH.moved {A : Nat → Prop} {u U : State} {H : Heap} (hvm : u.vm.Alike U.vm) (h : ab_TH A u H) : ab_TH A U H := ⟨⟨va_Zq.moved hvm h.1.1, ab_TL.moved hvm h.1.2⟩, va_Zq.moved hvm h.2.1, ab_TL.moved hvm h.2.2⟩
theorem ab_TH.kept {A : Nat → Prop} {U : State} {H H1 : Heap} (h : ab_TH A U H) (hq : ∀ a : Nat, a < H.size → ¬ A a → H1[a]? = H[a]?) : ab_TH A U H1 := ⟨⟨va_Zq.kept h.1.1 hq, ab_TL.kept h.1.2 hq⟩, va_Zq.kept h.2.1 hq, ab_TL.kept h.2.2 hq⟩
theorem ab_TH.narrow {A B : Nat → Prop} {U : State} {H : Heap} (h : ab_TH A U H) (hAB : ∀ q, B q → A q) : ab_TH B U H := ⟨⟨va_Zq.narrow h.1.1 hAB, ab_TL.narrow h.1.2 hAB⟩, va_Zq.narrow h.2.1 hAB, ab_TL.narrow h.2.2 hAB⟩
/-- the words of a throw but the four that speak of the heap -/
def ab_no (w : Cond) : Bool := decide (w ≠ .isRef (.static Bundle.tN "UNASSIGNED_STACK" Bundle.steD)) && decide (w ≠ .isRef (.static Bundle.tN "SUPPRESSED_SENTINEL" Bundle.listD)) && decide (w ≠ .laysStatic Bundle.tN "UNASSIGNED_STACK" Bundle.steD) && decide (w ≠ .laysStatic Bundle.tN "SUPPRESSED_SENTINEL" Bundle.listD)
theorem ab_own4 {A : Nat → Prop} {args : Array Value} {s : State} {L : List Cond} (hT : ab_TH A s s.heap) (h : ∀ w ∈ L.filter ab_no, w.before args s = true) : ∀ w ∈ L, w.before args s = true := by
  intro w hw
  by_cases e1 : w = .isRef (.static Bundle.tN "UNASSIGNED_STACK" Bundle.steD)
  · rw [e1]; exact ab_Zqw hT.1.1
  by_cases e2 : w = .isRef (.static Bundle.tN "SUPPRESSED_SENTINEL" Bundle.listD)
  · rw [e2]; exact ab_Zqw hT.2.1
  by_cases e3 : w = .laysStatic Bundle.tN "UNASSIGNED_STACK" Bundle.steD
  · rw [e3]; exact hT.1.2.word
  by_cases e4 : w = .laysStatic Bundle.tN "SUPPRESSED_SENTINEL" Bundle.listD
  · rw [e4]; exact hT.2.2.word
  exact h w (List.mem_filter.mpr ⟨hw, by unfold ab_no; rw [decide_eq_true e1, decide_eq_true e2, decide_eq_true e3, decide_eq_true e4]; rfl⟩)
/-- F.1 = 0: it answers F.2.1; else it throws (1: IllegalArgumentException, 2: IllegalStateException); its world is w F.2.2 either way -/
def ab_kx_Q {S : Type} (D : va_G) (tys : List (ClassId × FieldType)) (w : S → va_W) (A : Nat → Prop) (F : Nat × (Int32 × S)) (st : State) (o : Outcome) (t : State) : Prop :=
  ((F.1 = 0 ∧ o = .returned (some (.int F.2.1))) ∨ (F.1 ≠ 0 ∧ ∃ (q : Addr) (ce : Cell), o = .threw q ∧ t.heap[q]? = some ce ∧ ce.vm = .none ∧ st.vm.findClass (ab_Xn F.1) = some ce.cls)) ∧
  ab_ky_B D tys w A F.2.2 t ∧ va_F A st t ∧ st.WarmedH t.vm ∧ ∃ L : List Loc, st.sameButNew ({ t with vm := st.vm } : State) L 1 6 ∧ ∀ q ∈ L, A q.base
def ab_kx_P (D : va_G) (tys : List (ClassId × FieldType)) (ws : va_W) (sz : Nat) (U : State) : Prop := ab_ky_P D tys ws sz U ∧ ab_TH (va_A ws sz) U U.heap ∧ ab_SR U
def ab_kx (l : Launch) (D : va_G) (tys : List (ClassId × FieldType)) {S : Type} (w : S → va_W) (y : MethodName) (b : ByteArray) (n : Nat) (ret : FieldType) (rm : Room) (as : List Value) (u : S) (F : Nat × (Int32 × S)) : Prop :=
  ∀ sz : Nat, MetFree l y (headSpec (Cond.code y b n (some ret) :: AL) rm) (va_Pc as (ab_kx_P D tys (w u) sz)) (fun _ _ _ _ _ => True) (fun _ st o t => ab_kx_Q D tys w (va_A (w u) sz) F st o t)
def ab_kx_E {S : Type} (below : List Frame) (args : Array Value) (s : State) (D : va_G) (tys : List (ClassId × FieldType)) (w : S → va_W) (A : Nat → Prop) (F : Nat × (Int32 × S)) : State → Prop := fun t => ∃ o, t.status = .running ∧ Ended t below o ∧ ab_kx_Q D tys w A F s o t
section TX
variable {p : Program} {l : Launch} {e : Env} {R : Room} {s : State} {m : MethodId} {args : Array Value} {below : List Frame} {meth : Method} {c : Code} {H : Heap} {locs : List Loc} {cells slots : Nat} {Q : State → Prop}
variable {cc b : ByteArray} {nL n pc index k : Nat} {ls : Array Slot} {rest st as : List Value} {D : va_G} {tys : List (ClassId × FieldType)} {A : Nat → Prop} {H0 : Heap} {own : String} {y : MethodName} {ret : FieldType} {rm : Room} {S : Type} {w : S → va_W}
theorem ab_kx_ofW {u : S} {F : Nat × (Int32 × S)} (hy : plainName y.cls = true) (hn : (lg_sl as).length ≤ n)
    (body : ∀ (p : Program) (e : Env) (s : State) (m : MethodId) (below : List Frame) (meth : Method) (c : Code) (ls : Array Slot) (A : Nat → Prop), ab_cx p s m as.toArray c b n y.cls D tys → (ab_TH A s s.heap ∧ c.exceptionTable.toList = [] ∧ ab_SR s) → meth.sig.returnType = some ret → meth.locks = false → lv_has ls n (lv_args 0 as) → ab_hx D (w u) A s.heap s.heap [] →
      W p l e rm s m as.toArray below meth c s.heap [] 0 0 (ab_kx_E below as.toArray s D tys w A F) (F0 m 0 ls [])) : ab_kx l D tys w y b n ret rm as u F := by
  intro sz
  refine MetFree.of_bodyS (code := b) (maxLocals := n) (ret := some ret) hy ?_ ?_
  · intro args s m h hn
    obtain ⟨meth, c, h1, h2, h3, h4, h5, h6, -, -⟩ := Cond.code_spec hn (atoms_spec (ws := Cond.code y b n (some ret) :: AL) h _ List.mem_cons_self)
    exact ⟨meth, c, h1, h2, h3, h4, h5, h6⟩
  · intro p e s m args below meth c s₁ B hml hv _
    obtain ⟨rfl, ⟨hsz, hP, hK, hD0⟩, hT, hSR⟩ := hv
    subst hsz
    have hts := atoms_spec (ws := Cond.code y b n (some ret) :: AL) B.pre
    have hh0 : s₁.heap = s.heap := by rw [B.state]; rfl
    have hex : c.exceptionTable.toList = [] := by
      have h9 := B.noHandlers (hts _ List.mem_cons_self)
      rw [Array.isEmpty_iff] at h9
      rw [h9]
    have kk : W p l e rm s m as.toArray below meth c s.heap [] 0 0 (ab_kx_E below as.toArray s D tys w (va_A (w u) s.heap.size) F) (entryFrame m as.toArray n) := by
      rw [lg_entry_eq]
      exact body p e s m below meth c _ (va_A (w u) s.heap.size) ⟨B.exec, B.bytes, hml, findClass_of_methodNamed B.named, fun w hw => hts w (List.mem_cons_of_mem _ hw), hK⟩ ⟨hT, hex, hSR⟩ B.returns B.notSynchronized (lv_entry as hn) ⟨hP, hD0.self, va_S.rf, fun q h => Or.inr h⟩
    obtain ⟨t, a1, o, b1, b2, b3⟩ := kk s₁ hh0 (Stand.of_body B)
    exact ⟨t, o, a1, b1, b2, b3⟩
theorem ab_kx_ret {u' : S} {F : Nat × (Int32 × S)} {v : Int32} (X : ab_cx p s m args c cc nL own D tys) (hr : meth.sig.returnType = some ret) (hk : meth.locks = false) (hX : ab_hx D (w u') A s.heap H locs) (hn : narrow ret (.int v) = .int v) (hp : F = (0, (v, u'))) (hdg : decode cc pc = .ok (.ireturn, 1)) :
    W p l e R s m args below meth c H locs 0 0 (ab_kx_E below args s D tys w A F) (F0 m pc ls [.int v]) := by
  intro T hT XS
  subst hp
  obtain ⟨t, a1, o, b1, b2, ⟨⟨b3, b5⟩, b4⟩, L, hL, hLf⟩ := W.zret (Qc := fun _ st o t => (o = .returned (some (.int v)) ∧ ab_ky_B D tys w A u' t) ∧ va_F A st t) (free := A) X.1 X.2.1 hr hn (fun t ht hW => ⟨⟨rfl, by rw [ht]; exact hX.1, va_K.moved hW.alike X.2.2.2.2.2, hX.2.1⟩, hX.2.2.1.F ht⟩) hX.2.2.1.2.2 hdg (hlocks := hk) T hT XS
  exact ⟨t, a1, o, b1, b2, Or.inl ⟨rfl, b3⟩, b5, b4, hL.2.1, L, hL.2.2.mono (Nat.zero_le _) (Nat.zero_le _), hLf⟩
/-- the same frame, seen from here: as if the method were called anew in this heap -/
theorem ab_anew {T : State} (X : Stand p l e R s m args below meth c T locs cells slots) {R' : Room} (hf : R'.frames ≤ R.frames) (hl : R'.locals ≤ R.locals) (hc : cells + R'.cells ≤ R.cells) (hs : slots + R'.slots ≤ R.slots) :
    Stand p l e R' ((T.setVm s.vm).setFrames (.invoking m args :: below)) m args below meth c T [] 0 0 := by
  have htop : (T.setVm s.vm).topJava?.isSome := X.here.top
  have hF : ((T.setVm s.vm).setFrames (.invoking m args :: below)).frames = .invoking m args :: below := State.frames_setFrames _ (State.cur_lt_of_top htop)
  obtain ⟨g₀, hg0⟩ := Option.isSome_iff_exists.mp htop
  obtain ⟨r, hr⟩ := State.topJava?_eq_some.mp hg0
  have hl9 : e.platform.stackLimits (T.setVm s.vm).me = e.platform.stackLimits s.me := X.limits
  have hb9 : (T.setVm s.vm).me.stackBytes = s.me.stackBytes := X.bytes
  refine ⟨X.admits, X.cas, X.clock, hF, ?_, X.hears, X.method, X.code, X.here, X.tail, X.warmed, ?_, ?_, ?_⟩
  · have h := X.room
    have hU : ((T.setVm s.vm).setFrames (.invoking m args :: below)).localsInUse = s.localsInUse := by
      rw [State.localsInUse_invoking hF (meth := meth) (c := c) X.method X.code, State.localsInUse_invoking X.frames X.method X.code]
    simp only [State.hasRoom, Bool.and_eq_true, decide_eq_true_eq] at h ⊢
    obtain ⟨⟨⟨⟨h1, h2, h3, h4, h5, h6⟩, h7⟩, h8⟩, h9⟩ := h
    rw [X.frames, List.length_cons] at h2 h3
    have q1 := X.heapSize
    have q2 := X.used
    simp only [hF, hU, List.length_cons, State.stackLimits_setFrames, State.stackBytes_setFrames, hl9, hb9]
    refine ⟨⟨⟨⟨by omega, by omega, by omega, by omega, by omega, h6⟩, ?_⟩, ?_⟩, X.book⟩
    · show T.heap.size + R'.cells ≤ e.platform.maxCells
      omega
    · show T.slotsUsed + R'.slots ≤ e.platform.maxSlots
      omega
  · rw [State.stackLimits_setFrames]; rfl
  · rw [State.stackBytes_setFrames]; rfl
  · refine ⟨?_, Nat.le_refl _, Nat.le_refl _, ?_, ?_, fun a c9 h9 => ⟨c9, h9, rfl, rfl, fun _ _ => rfl⟩⟩
    · obtain ⟨t, ht, -⟩ := State.frames_cons hr
      show T.setVm s.vm = { ((T.setVm s.vm).setFrames (.invoking m args :: below)).setFrames (T.setVm s.vm).frames with heap := T.heap, slotsUsed := T.slotsUsed }
      rw [State.setFrames_setFrames, State.setFrames_self ht]
      rfl
    · show T.slotsUsed = T.slotsUsed + ((T.heap.toList.drop T.heap.size).map (·.slots.size)).sum
      rw [List.drop_eq_nil_of_le (Nat.le_of_eq Array.length_toList)]
      rfl
    · show ((T.heap.toList.drop T.heap.size).map (·.slots.size)).sum ≤ 0
      rw [List.drop_eq_nil_of_le (Nat.le_of_eq Array.length_toList)]
      exact Nat.le_refl _
/-- the words of 'throw new cls("..")' at own's entries ik, is, ic -/
def ab_xw (own : String) (ik is ic : Nat) (cls text : String) (names : List String) : Prop :=
  Bundle.fit cls = true ∧ (∀ n ∈ names, Bundle.fit n = true) ∧ Cond.classLink own ik cls ∈ AL ∧ Cond.initialized cls ∈ AL ∧ Cond.stringRef own is text ∈ lw_tbl ∧ ∀ w ∈ (Bundle.ownAtoms own ic cls names).filter ab_no, w ∈ AL ∨ (w ∈ lw_tbl ∧ (w.onTables && w.faceAtom) = true)
theorem ab_kx_throw {u' : S} {F : Nat × (Int32 × S)} {ik is ic : Nat} {cls text : String} {names : List String} (hst : l.stackTraces = false) (X : ab_cx p s m args c cc nL own D tys) (hT : ab_TH A s s.heap ∧ c.exceptionTable.toList = [] ∧ ab_SR s) (hk : meth.locks = false) (hX : ab_hx D (w u') A s.heap H locs) (hl : ls.size = nL)
    (hw : ab_xw own ik is ic cls text names) (hcls : ab_Xn k = cls) (hp : F = (k, (0, u'))) (hk0 : (k == 0) = false) (hroom : names.length + 3 < R.frames ∧ 13 * (names.length + 1) + 43 ≤ R.locals ∧ 1 ≤ R.cells ∧ 6 ≤ R.slots)
    (d0 : decode cc pc = .ok (.new ik, 3)) (d3 : decode cc (pc + 3) = .ok (.dup, 1)) (d4 : decode cc (pc + 4) = .ok (.ldc is, 2)) (d6 : decode cc (pc + 6) = .ok (.invokespecial ic, 3)) (d9 : decode cc (pc + 9) = .ok (.athrow, 1)) :
    W p l e R s m args below meth c H locs 0 0 (ab_kx_E below args s D tys w A F) (F0 m pc ls []) := by
  intro T hTH XS
  subst hp
  obtain ⟨hfit, hnames, hck, hcini, hcstr, hat⟩ := hw
  obtain ⟨hT, hex, hstrs⟩ := hT
  have hexec := X.1
  have hb := X.2.1
  have htr : e.platform.stackTraces = false := (show e.platform.stackTraces = l.stackTraces by rw [XS.admits.platform]).trans hst
  have Y := ab_anew XS (R' := { frames := R.frames, locals := R.locals, cells := 1, slots := 6 }) (Nat.le_refl _) (Nat.le_refl _) (by rw [Nat.zero_add]; exact hroom.2.2.1) (by rw [Nat.zero_add]; exact hroom.2.2.2)
  obtain ⟨s', hA⟩ : ∃ z, z = (T.setVm s.vm).setFrames (.invoking m args :: below) := ⟨_, rfl⟩
  rw [← hA] at Y
  have hvm : s'.vm = s.vm := by rw [hA]; rfl
  have hhp : s'.heap = H := by rw [hA]; exact hTH
  have hW0 : s.WarmedH s'.vm := by rw [hvm]; exact State.WarmedH.refl s
  have wd : ∀ w ∈ AL, w.before args s' = true := fun w hw => word_at hW0 (ab_good w hw) (X.2.2.2.2.1 w hw)
  have hT' : ab_TH A s' s'.heap := by rw [hhp]; exact ab_TH.moved hW0.alike (hT.kept hX.2.2.1.2.1)
  have h : ∀ w ∈ Bundle.ownAtoms own ic cls names, w.before args s' = true := ab_own4 hT' (fun w hw => (hat w hw).elim (wd w) (fun z => ab_fa hW0 z.2 (hstrs.2 w z.1 z.2)))
  have hown' : s'.vm.findClass own = some m.cls := by rw [hvm]; exact X.2.2.2.1
  have hins : (Cond.instantiable cls 6).before args s' = true := h _ (by simp [Bundle.ownAtoms])
  obtain ⟨vm₁, cX, kX, hfX, hkX, -, -, X₁, st1⟩ := Y.newCold hexec (own := own) (C := cls) (index := ik) (n := 6) hown' (wd _ hck) hins (wd _ hcini)
    (g := F0 m pc ls []) rfl (by rw [hb]; exact d0) (Nat.le_refl _) (Nat.le_refl _)
  generalize hT1 : (T.setVm vm₁).pushCell { cls := cX, slots := kX.instanceTypes.map defaultValue, vm := .none } = T1 at X₁ st1
  have hcat : (Value.ref T.heap.size).category = 1 := rfl
  have hcellA : T1.heap[T.heap.size]? = some (freshCell cX kX) := by rw [← hT1]; exact State.heap_pushCell_size _ _
  have d3' : decode c.code (pc + 3) = .ok (.dup, 1) := by rw [hb]; exact d3
  have d4' : decode c.code (pc + 4) = .ok (.ldc is, 2) := by rw [hb]; exact d4
  obtain ⟨sa, hsa⟩ := hstrs.1 own is text hcstr
  have hstr' : vk_R own is text sa s' := vk_R.warm hW0 hsa
  obtain ⟨U, hsteps, hrun, hend, hW, hsame, ce, hce, hO⟩ := X₁.ctorThrowS hexec htr (own := own) (cls := cls) (names := names) (ic := ic) hown' hfit hnames h (fun x hx => nomatch hx) hfX hkX hcellA (by rw [hhp, hTH]; exact Nat.le_refl _) (msg := .ref sa) rfl
    (g := { method := m, pc := pc + 6, locals := ls, stack := .ref sa :: .ref T.heap.size :: .ref T.heap.size :: [], locked := none }) rfl (hl.trans X.2.2.1.symm) rfl rfl (rest := []) rfl
    (by rw [hb]; exact d6) (by rw [hb]; exact d9) (fun x hx => by rw [hex] at hx; cases hx) hroom.1 (by simp only [List.map_cons, List.map_nil, List.sum_cons, List.sum_nil, hcat]; have := hroom.2.1; show _ ≤ R.locals; omega) hk
  have hsz : s'.heap.size ≤ U.heap.size ∧ ∀ q : Nat, q < s'.heap.size → U.heap[q]? = s'.heap[q]? := by
    obtain ⟨-, h2, -, -, -, h6⟩ := id hsame
    refine ⟨h2, fun q hq => ?_⟩
    obtain ⟨c9, e1, e2, e3, e4⟩ := h6 q _ (Array.getElem?_eq_getElem hq)
    have hs : c9.slots = (s'.heap[q]).slots := Array.ext_getElem? fun i => e4 i (fun hm => nomatch hm)
    have h9 : c9 = s'.heap[q] := by rw [hs] at e2; exact e2
    have e5 : U.heap[q]? = some c9 := e1
    rw [e5, h9, Array.getElem?_eq_getElem hq]
  rw [hhp] at hsz
  have hWs : s.WarmedH U.vm := State.WarmedH.trans hW0 hW
  have hcl : s.vm.findClass cls = some ce.cls := by have h9 := hO.cls; rw [hvm] at h9; exact h9
  have hall : s.sameButNew ({ U with vm := s.vm } : State) locs 1 6 := by
    subst hA
    obtain ⟨e1, e2⟩ := hsame
    rw [State.setFrames_setFrames] at e1
    have h2 : (T.setVm s.vm).sameButNew ({ U with vm := s.vm } : State) [] (0 + 1) (0 + 6) := ⟨e1, e2⟩
    have h3 := XS.same.trans h2
    rw [List.append_nil] at h3
    exact h3
  have hP : va_P D CL (w u') U.heap := fun j q hj => (hX.1 j q hj).kept (hsz.2 q.1 (hX.1 j q hj).lt)
  refine ⟨U, ?_, .threw T.heap.size, hrun, hend, Or.inr ⟨fun z => by rw [show k = 0 from z] at hk0; exact absurd hk0 (by decide), T.heap.size, ce, rfl, hce, hO.vm, ?_⟩, ⟨hP, va_K.moved hWs.alike X.2.2.2.2.2, hX.2.1⟩, ⟨Nat.le_trans hX.2.2.1.1 hsz.1, fun q h1 h2 => (hsz.2 q (Nat.lt_of_lt_of_le h1 hX.2.2.1.1)).trans (hX.2.2.1.2.1 q h1 h2)⟩, hWs, locs, hall, hX.2.2.1.2.2⟩
  · refine st1 _ ?_
    show Steps p.tables e below (T1.setTop { method := m, pc := pc + 3, locals := ls, stack := .ref T.heap.size :: [], locked := none }) _
    jvm_step X₁.here [X₁.here.top, hexec, d3', Value.category]
    exact X₁.ldcString hexec (own := own) (text := text) (index := is) (a := sa) hown' hstr'.1 hstr'.2
      (g := { method := m, pc := pc + 4, locals := ls, stack := .ref T.heap.size :: .ref T.heap.size :: [], locked := none }) rfl d4' _ hsteps
  · show s.vm.findClass (ab_Xn k) = some ce.cls
    rw [hcls]; exact hcl
end TX
