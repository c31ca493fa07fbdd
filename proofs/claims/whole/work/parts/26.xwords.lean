theorem tw_462 : Jvm.Cond.classLink "ArcadeBoard" 86 "java/lang/IllegalArgumentException" ∈ AL := ab_in (ab_t2 (List.mem_of_getElem? (i := 117) (by decide +kernel))) rfl
theorem tw_463 : Jvm.Cond.initialized "java/lang/IllegalArgumentException" ∈ AL := ab_in (ab_t1 (List.mem_of_getElem? (i := 14) (by decide +kernel))) rfl
theorem xa_IAE : ((Bundle.ownAtoms "ArcadeBoard" 90 "java/lang/IllegalArgumentException" ["java/lang/RuntimeException", "java/lang/Exception"]).filter ab_no).all (fun w => decide (w ∈ lw_tbl) && (goodWord w || (w.onTables && w.faceAtom))) = true := by decide +kernel
theorem xw_IAE {is : Nat} {text : String} (h : Cond.stringRef "ArcadeBoard" is text ∈ lw_tbl) : ab_xw "ArcadeBoard" 86 is 90 "java/lang/IllegalArgumentException" text ["java/lang/RuntimeException", "java/lang/Exception"] := by
  refine ⟨by decide +kernel, by decide +kernel, tw_462, tw_463, h, fun w hw => ?_⟩
  have q := List.all_eq_true.mp xa_IAE w hw
  rw [Bool.and_eq_true, decide_eq_true_eq, Bool.or_eq_true] at q
  exact q.2.elim (fun z => Or.inl (ab_in q.1 z)) (fun z => Or.inr ⟨q.1, z⟩)
theorem tw_464 : Jvm.Cond.classLink "ArcadeBoard" 93 "java/lang/IllegalStateException" ∈ AL := ab_in (ab_t2 (List.mem_of_getElem? (i := 184) (by decide +kernel))) rfl
theorem tw_465 : Jvm.Cond.initialized "java/lang/IllegalStateException" ∈ AL := ab_in (ab_t1 (List.mem_of_getElem? (i := 15) (by decide +kernel))) rfl
theorem xa_ISE : ((Bundle.ownAtoms "ArcadeBoard" 97 "java/lang/IllegalStateException" ["java/lang/RuntimeException", "java/lang/Exception"]).filter ab_no).all (fun w => decide (w ∈ lw_tbl) && (goodWord w || (w.onTables && w.faceAtom))) = true := by decide +kernel
theorem xw_ISE {is : Nat} {text : String} (h : Cond.stringRef "ArcadeBoard" is text ∈ lw_tbl) : ab_xw "ArcadeBoard" 93 is 97 "java/lang/IllegalStateException" text ["java/lang/RuntimeException", "java/lang/Exception"] := by
  refine ⟨by decide +kernel, by decide +kernel, tw_464, tw_465, h, fun w hw => ?_⟩
  have q := List.all_eq_true.mp xa_ISE w hw
  rw [Bool.and_eq_true, decide_eq_true_eq, Bool.or_eq_true] at q
  exact q.2.elim (fun z => Or.inl (ab_in q.1 z)) (fun z => Or.inr ⟨q.1, z⟩)
