section
/-! Names: the skeleton's PART A (kit/laws/SKELETON.whole.lean.txt), the words, the classes. Laid by wip/whole/gen. -/
-- ===== PART A: goes FIRST, ahead of the names: the tables' words, and 'selects' of the private methods out of them =====
/-- a private method of a class that the tables say can be made, by its rows of tables_1 -/
def lw_okq (q : MethodName × Nat) : Prop := (q.1.cls ≠ "java/lang/invoke/MethodHandle" ∧ q.1.cls ≠ "java/lang/invoke/VarHandle") ∧ Cond.instantiable q.1.cls q.2 ∈ tables_1 ∧ Cond.privateMethod q.1 ∈ tables_1 ∧ Cond.instanceMethod q.1 ∈ tables_1
theorem lw_p0 : lw_okq (⟨"java/lang/Throwable", "fillInStackTrace", "(I)Ljava/lang/Throwable;"⟩, 6) := ⟨⟨by decide +kernel, by decide +kernel⟩, List.mem_of_getElem? (i := 395) (by decide +kernel), List.mem_of_getElem? (i := 393) (by decide +kernel), List.mem_of_getElem? (i := 394) (by decide +kernel)⟩
theorem lw_p1 : lw_okq (⟨"ArcadeBoard$Processor", "takeCall", "()I"⟩, 6) := ⟨⟨by decide +kernel, by decide +kernel⟩, List.mem_of_getElem? (i := 196) (by decide +kernel), List.mem_of_getElem? (i := 458) (by decide +kernel), List.mem_of_getElem? (i := 459) (by decide +kernel)⟩
theorem lw_p2 : lw_okq (⟨"ArcadeBoard$Processor", "goWithReturn", "(I)V"⟩, 6) := ⟨⟨by decide +kernel, by decide +kernel⟩, List.mem_of_getElem? (i := 196) (by decide +kernel), List.mem_of_getElem? (i := 462) (by decide +kernel), List.mem_of_getElem? (i := 463) (by decide +kernel)⟩
theorem lw_p3 : lw_okq (⟨"ArcadeBoard$Processor", "nextByte", "()I"⟩, 6) := ⟨⟨by decide +kernel, by decide +kernel⟩, List.mem_of_getElem? (i := 196) (by decide +kernel), List.mem_of_getElem? (i := 474) (by decide +kernel), List.mem_of_getElem? (i := 475) (by decide +kernel)⟩
theorem lw_p4 : lw_okq (⟨"ArcadeBoard$Processor", "operate", "(I)I"⟩, 6) := ⟨⟨by decide +kernel, by decide +kernel⟩, List.mem_of_getElem? (i := 196) (by decide +kernel), List.mem_of_getElem? (i := 480) (by decide +kernel), List.mem_of_getElem? (i := 481) (by decide +kernel)⟩
theorem lw_p5 : lw_okq (⟨"ArcadeBoard$Processor", "operateOnData", "(II)I"⟩, 6) := ⟨⟨by decide +kernel, by decide +kernel⟩, List.mem_of_getElem? (i := 196) (by decide +kernel), List.mem_of_getElem? (i := 484) (by decide +kernel), List.mem_of_getElem? (i := 485) (by decide +kernel)⟩
theorem lw_p6 : lw_okq (⟨"ArcadeBoard$Processor", "setOrAddPair", "(I)I"⟩, 6) := ⟨⟨by decide +kernel, by decide +kernel⟩, List.mem_of_getElem? (i := 196) (by decide +kernel), List.mem_of_getElem? (i := 488) (by decide +kernel), List.mem_of_getElem? (i := 489) (by decide +kernel)⟩
theorem lw_p7 : lw_okq (⟨"ArcadeBoard$Processor", "nextWord", "()I"⟩, 6) := ⟨⟨by decide +kernel, by decide +kernel⟩, List.mem_of_getElem? (i := 196) (by decide +kernel), List.mem_of_getElem? (i := 492) (by decide +kernel), List.mem_of_getElem? (i := 493) (by decide +kernel)⟩
theorem lw_p8 : lw_okq (⟨"ArcadeBoard$Processor", "moveByAddress", "(I)I"⟩, 6) := ⟨⟨by decide +kernel, by decide +kernel⟩, List.mem_of_getElem? (i := 196) (by decide +kernel), List.mem_of_getElem? (i := 510) (by decide +kernel), List.mem_of_getElem? (i := 511) (by decide +kernel)⟩
theorem lw_p9 : lw_okq (⟨"ArcadeBoard$Arithmetic", "turnTo", "(II)V"⟩, 1) := ⟨⟨by decide +kernel, by decide +kernel⟩, List.mem_of_getElem? (i := 202) (by decide +kernel), List.mem_of_getElem? (i := 559) (by decide +kernel), List.mem_of_getElem? (i := 560) (by decide +kernel)⟩
theorem lw_p10 : lw_okq (⟨"ArcadeBoard$Processor", "move", "(II)I"⟩, 6) := ⟨⟨by decide +kernel, by decide +kernel⟩, List.mem_of_getElem? (i := 196) (by decide +kernel), List.mem_of_getElem? (i := 563) (by decide +kernel), List.mem_of_getElem? (i := 564) (by decide +kernel)⟩
theorem lw_p11 : lw_okq (⟨"ArcadeBoard$Arithmetic", "sum", "(III)I"⟩, 1) := ⟨⟨by decide +kernel, by decide +kernel⟩, List.mem_of_getElem? (i := 202) (by decide +kernel), List.mem_of_getElem? (i := 571) (by decide +kernel), List.mem_of_getElem? (i := 572) (by decide +kernel)⟩
theorem lw_p12 : lw_okq (⟨"ArcadeBoard$Arithmetic", "difference", "(III)I"⟩, 1) := ⟨⟨by decide +kernel, by decide +kernel⟩, List.mem_of_getElem? (i := 202) (by decide +kernel), List.mem_of_getElem? (i := 575) (by decide +kernel), List.mem_of_getElem? (i := 576) (by decide +kernel)⟩
theorem lw_p13 : lw_okq (⟨"ArcadeBoard$Arithmetic", "logical", "(II)I"⟩, 1) := ⟨⟨by decide +kernel, by decide +kernel⟩, List.mem_of_getElem? (i := 202) (by decide +kernel), List.mem_of_getElem? (i := 579) (by decide +kernel), List.mem_of_getElem? (i := 580) (by decide +kernel)⟩
theorem lw_p14 : lw_okq (⟨"ArcadeBoard$Processor", "operateOnFlow", "(II)I"⟩, 6) := ⟨⟨by decide +kernel, by decide +kernel⟩, List.mem_of_getElem? (i := 196) (by decide +kernel), List.mem_of_getElem? (i := 583) (by decide +kernel), List.mem_of_getElem? (i := 584) (by decide +kernel)⟩
theorem lw_p15 : lw_okq (⟨"ArcadeBoard$Processor", "holds", "(I)Z"⟩, 6) := ⟨⟨by decide +kernel, by decide +kernel⟩, List.mem_of_getElem? (i := 196) (by decide +kernel), List.mem_of_getElem? (i := 587) (by decide +kernel), List.mem_of_getElem? (i := 588) (by decide +kernel)⟩
def lw_privs_1 : List (MethodName × Nat) := [(⟨"java/lang/Throwable", "fillInStackTrace", "(I)Ljava/lang/Throwable;"⟩, 6), (⟨"ArcadeBoard$Processor", "takeCall", "()I"⟩, 6), (⟨"ArcadeBoard$Processor", "goWithReturn", "(I)V"⟩, 6), (⟨"ArcadeBoard$Processor", "nextByte", "()I"⟩, 6), (⟨"ArcadeBoard$Processor", "operate", "(I)I"⟩, 6), (⟨"ArcadeBoard$Processor", "operateOnData", "(II)I"⟩, 6), (⟨"ArcadeBoard$Processor", "setOrAddPair", "(I)I"⟩, 6), (⟨"ArcadeBoard$Processor", "nextWord", "()I"⟩, 6), (⟨"ArcadeBoard$Processor", "moveByAddress", "(I)I"⟩, 6), (⟨"ArcadeBoard$Arithmetic", "turnTo", "(II)V"⟩, 1), (⟨"ArcadeBoard$Processor", "move", "(II)I"⟩, 6), (⟨"ArcadeBoard$Arithmetic", "sum", "(III)I"⟩, 1), (⟨"ArcadeBoard$Arithmetic", "difference", "(III)I"⟩, 1), (⟨"ArcadeBoard$Arithmetic", "logical", "(II)I"⟩, 1), (⟨"ArcadeBoard$Processor", "operateOnFlow", "(II)I"⟩, 6), (⟨"ArcadeBoard$Processor", "holds", "(I)Z"⟩, 6)]
theorem lw_r1 : ∀ q ∈ lw_privs_1, lw_okq q := List.forall_mem_cons.mpr ⟨lw_p0, List.forall_mem_cons.mpr ⟨lw_p1, List.forall_mem_cons.mpr ⟨lw_p2, List.forall_mem_cons.mpr ⟨lw_p3, List.forall_mem_cons.mpr ⟨lw_p4, List.forall_mem_cons.mpr ⟨lw_p5, List.forall_mem_cons.mpr ⟨lw_p6, List.forall_mem_cons.mpr ⟨lw_p7, List.forall_mem_cons.mpr ⟨lw_p8, List.forall_mem_cons.mpr ⟨lw_p9, List.forall_mem_cons.mpr ⟨lw_p10, List.forall_mem_cons.mpr ⟨lw_p11, List.forall_mem_cons.mpr ⟨lw_p12, List.forall_mem_cons.mpr ⟨lw_p13, List.forall_mem_cons.mpr ⟨lw_p14, List.forall_mem_cons.mpr ⟨lw_p15, fun _ h => absurd h List.not_mem_nil⟩⟩⟩⟩⟩⟩⟩⟩⟩⟩⟩⟩⟩⟩⟩⟩
theorem lw_p16 : lw_okq (⟨"ArcadeBoard$Processor", "returnIf", "(Z)I"⟩, 6) := ⟨⟨by decide +kernel, by decide +kernel⟩, List.mem_of_getElem? (i := 196) (by decide +kernel), List.mem_of_getElem? (i := 591) (by decide +kernel), List.mem_of_getElem? (i := 592) (by decide +kernel)⟩
theorem lw_p17 : lw_okq (⟨"ArcadeBoard$Processor", "popOrGo", "(I)I"⟩, 6) := ⟨⟨by decide +kernel, by decide +kernel⟩, List.mem_of_getElem? (i := 196) (by decide +kernel), List.mem_of_getElem? (i := 599) (by decide +kernel), List.mem_of_getElem? (i := 600) (by decide +kernel)⟩
theorem lw_p18 : lw_okq (⟨"ArcadeBoard$Processor", "popAAndFlags", "()V"⟩, 6) := ⟨⟨by decide +kernel, by decide +kernel⟩, List.mem_of_getElem? (i := 196) (by decide +kernel), List.mem_of_getElem? (i := 603) (by decide +kernel), List.mem_of_getElem? (i := 604) (by decide +kernel)⟩
theorem lw_p19 : lw_okq (⟨"ArcadeBoard$Processor", "goIf", "(Z)I"⟩, 6) := ⟨⟨by decide +kernel, by decide +kernel⟩, List.mem_of_getElem? (i := 196) (by decide +kernel), List.mem_of_getElem? (i := 607) (by decide +kernel), List.mem_of_getElem? (i := 608) (by decide +kernel)⟩
theorem lw_p20 : lw_okq (⟨"ArcadeBoard$Processor", "goOrExchange", "(I)I"⟩, 6) := ⟨⟨by decide +kernel, by decide +kernel⟩, List.mem_of_getElem? (i := 196) (by decide +kernel), List.mem_of_getElem? (i := 611) (by decide +kernel), List.mem_of_getElem? (i := 612) (by decide +kernel)⟩
theorem lw_p21 : lw_okq (⟨"ArcadeBoard$Processor", "goWithReturnIf", "(Z)I"⟩, 6) := ⟨⟨by decide +kernel, by decide +kernel⟩, List.mem_of_getElem? (i := 196) (by decide +kernel), List.mem_of_getElem? (i := 627) (by decide +kernel), List.mem_of_getElem? (i := 628) (by decide +kernel)⟩
theorem lw_p22 : lw_okq (⟨"ArcadeBoard$Processor", "pushPair", "(I)I"⟩, 6) := ⟨⟨by decide +kernel, by decide +kernel⟩, List.mem_of_getElem? (i := 196) (by decide +kernel), List.mem_of_getElem? (i := 631) (by decide +kernel), List.mem_of_getElem? (i := 632) (by decide +kernel)⟩
theorem lw_p23 : lw_okq (⟨"ArcadeBoard$Clock", "endFrame", "()V"⟩, 1) := ⟨⟨by decide +kernel, by decide +kernel⟩, List.mem_of_getElem? (i := 186) (by decide +kernel), List.mem_of_getElem? (i := 639) (by decide +kernel), List.mem_of_getElem? (i := 640) (by decide +kernel)⟩
theorem lw_p24 : lw_okq (⟨"ArcadeBoardModel", "reset", "()V"⟩, 30) := ⟨⟨by decide +kernel, by decide +kernel⟩, List.mem_of_getElem? (i := 653) (by decide +kernel), List.mem_of_getElem? (i := 768) (by decide +kernel), List.mem_of_getElem? (i := 769) (by decide +kernel)⟩
theorem lw_p25 : lw_okq (⟨"ArcadeBoardModel", "step", "()V"⟩, 30) := ⟨⟨by decide +kernel, by decide +kernel⟩, List.mem_of_getElem? (i := 653) (by decide +kernel), List.mem_of_getElem? (i := 780) (by decide +kernel), List.mem_of_getElem? (i := 781) (by decide +kernel)⟩
theorem lw_p26 : lw_okq (⟨"ArcadeBoardModel", "push", "(I)V"⟩, 30) := ⟨⟨by decide +kernel, by decide +kernel⟩, List.mem_of_getElem? (i := 653) (by decide +kernel), List.mem_of_getElem? (i := 784) (by decide +kernel), List.mem_of_getElem? (i := 785) (by decide +kernel)⟩
theorem lw_p27 : lw_okq (⟨"ArcadeBoardModel", "write", "(II)V"⟩, 30) := ⟨⟨by decide +kernel, by decide +kernel⟩, List.mem_of_getElem? (i := 653) (by decide +kernel), List.mem_of_getElem? (i := 788) (by decide +kernel), List.mem_of_getElem? (i := 789) (by decide +kernel)⟩
theorem lw_p28 : lw_okq (⟨"ArcadeBoardModel", "operation", "()V"⟩, 30) := ⟨⟨by decide +kernel, by decide +kernel⟩, List.mem_of_getElem? (i := 653) (by decide +kernel), List.mem_of_getElem? (i := 792) (by decide +kernel), List.mem_of_getElem? (i := 793) (by decide +kernel)⟩
theorem lw_p29 : lw_okq (⟨"ArcadeBoardModel", "next", "()I"⟩, 30) := ⟨⟨by decide +kernel, by decide +kernel⟩, List.mem_of_getElem? (i := 653) (by decide +kernel), List.mem_of_getElem? (i := 796) (by decide +kernel), List.mem_of_getElem? (i := 797) (by decide +kernel)⟩
theorem lw_p30 : lw_okq (⟨"ArcadeBoardModel", "read", "(I)I"⟩, 30) := ⟨⟨by decide +kernel, by decide +kernel⟩, List.mem_of_getElem? (i := 653) (by decide +kernel), List.mem_of_getElem? (i := 800) (by decide +kernel), List.mem_of_getElem? (i := 801) (by decide +kernel)⟩
theorem lw_p31 : lw_okq (⟨"ArcadeBoardModel", "lowOperation", "(II)V"⟩, 30) := ⟨⟨by decide +kernel, by decide +kernel⟩, List.mem_of_getElem? (i := 653) (by decide +kernel), List.mem_of_getElem? (i := 804) (by decide +kernel), List.mem_of_getElem? (i := 805) (by decide +kernel)⟩
def lw_privs_2 : List (MethodName × Nat) := [(⟨"ArcadeBoard$Processor", "returnIf", "(Z)I"⟩, 6), (⟨"ArcadeBoard$Processor", "popOrGo", "(I)I"⟩, 6), (⟨"ArcadeBoard$Processor", "popAAndFlags", "()V"⟩, 6), (⟨"ArcadeBoard$Processor", "goIf", "(Z)I"⟩, 6), (⟨"ArcadeBoard$Processor", "goOrExchange", "(I)I"⟩, 6), (⟨"ArcadeBoard$Processor", "goWithReturnIf", "(Z)I"⟩, 6), (⟨"ArcadeBoard$Processor", "pushPair", "(I)I"⟩, 6), (⟨"ArcadeBoard$Clock", "endFrame", "()V"⟩, 1), (⟨"ArcadeBoardModel", "reset", "()V"⟩, 30), (⟨"ArcadeBoardModel", "step", "()V"⟩, 30), (⟨"ArcadeBoardModel", "push", "(I)V"⟩, 30), (⟨"ArcadeBoardModel", "write", "(II)V"⟩, 30), (⟨"ArcadeBoardModel", "operation", "()V"⟩, 30), (⟨"ArcadeBoardModel", "next", "()I"⟩, 30), (⟨"ArcadeBoardModel", "read", "(I)I"⟩, 30), (⟨"ArcadeBoardModel", "lowOperation", "(II)V"⟩, 30)]
theorem lw_r2 : ∀ q ∈ lw_privs_2, lw_okq q := List.forall_mem_cons.mpr ⟨lw_p16, List.forall_mem_cons.mpr ⟨lw_p17, List.forall_mem_cons.mpr ⟨lw_p18, List.forall_mem_cons.mpr ⟨lw_p19, List.forall_mem_cons.mpr ⟨lw_p20, List.forall_mem_cons.mpr ⟨lw_p21, List.forall_mem_cons.mpr ⟨lw_p22, List.forall_mem_cons.mpr ⟨lw_p23, List.forall_mem_cons.mpr ⟨lw_p24, List.forall_mem_cons.mpr ⟨lw_p25, List.forall_mem_cons.mpr ⟨lw_p26, List.forall_mem_cons.mpr ⟨lw_p27, List.forall_mem_cons.mpr ⟨lw_p28, List.forall_mem_cons.mpr ⟨lw_p29, List.forall_mem_cons.mpr ⟨lw_p30, List.forall_mem_cons.mpr ⟨lw_p31, fun _ h => absurd h List.not_mem_nil⟩⟩⟩⟩⟩⟩⟩⟩⟩⟩⟩⟩⟩⟩⟩⟩
theorem lw_p32 : lw_okq (⟨"ArcadeBoardModel", "nextWord", "()I"⟩, 30) := ⟨⟨by decide +kernel, by decide +kernel⟩, List.mem_of_getElem? (i := 653) (by decide +kernel), List.mem_of_getElem? (i := 808) (by decide +kernel), List.mem_of_getElem? (i := 809) (by decide +kernel)⟩
theorem lw_p33 : lw_okq (⟨"ArcadeBoardModel", "setPair", "(II)V"⟩, 30) := ⟨⟨by decide +kernel, by decide +kernel⟩, List.mem_of_getElem? (i := 653) (by decide +kernel), List.mem_of_getElem? (i := 812) (by decide +kernel), List.mem_of_getElem? (i := 813) (by decide +kernel)⟩
theorem lw_p34 : lw_okq (⟨"ArcadeBoardModel", "pair", "(I)I"⟩, 30) := ⟨⟨by decide +kernel, by decide +kernel⟩, List.mem_of_getElem? (i := 653) (by decide +kernel), List.mem_of_getElem? (i := 816) (by decide +kernel), List.mem_of_getElem? (i := 817) (by decide +kernel)⟩
theorem lw_p35 : lw_okq (⟨"ArcadeBoardModel", "carry", "(I)V"⟩, 30) := ⟨⟨by decide +kernel, by decide +kernel⟩, List.mem_of_getElem? (i := 653) (by decide +kernel), List.mem_of_getElem? (i := 820) (by decide +kernel), List.mem_of_getElem? (i := 821) (by decide +kernel)⟩
theorem lw_p36 : lw_okq (⟨"ArcadeBoardModel", "get", "(I)I"⟩, 30) := ⟨⟨by decide +kernel, by decide +kernel⟩, List.mem_of_getElem? (i := 653) (by decide +kernel), List.mem_of_getElem? (i := 824) (by decide +kernel), List.mem_of_getElem? (i := 825) (by decide +kernel)⟩
theorem lw_p37 : lw_okq (⟨"ArcadeBoardModel", "result", "(I)I"⟩, 30) := ⟨⟨by decide +kernel, by decide +kernel⟩, List.mem_of_getElem? (i := 653) (by decide +kernel), List.mem_of_getElem? (i := 828) (by decide +kernel), List.mem_of_getElem? (i := 829) (by decide +kernel)⟩
theorem lw_p38 : lw_okq (⟨"ArcadeBoardModel", "set", "(II)V"⟩, 30) := ⟨⟨by decide +kernel, by decide +kernel⟩, List.mem_of_getElem? (i := 653) (by decide +kernel), List.mem_of_getElem? (i := 832) (by decide +kernel), List.mem_of_getElem? (i := 833) (by decide +kernel)⟩
theorem lw_p39 : lw_okq (⟨"ArcadeBoardModel", "turnA", "(I)V"⟩, 30) := ⟨⟨by decide +kernel, by decide +kernel⟩, List.mem_of_getElem? (i := 653) (by decide +kernel), List.mem_of_getElem? (i := 836) (by decide +kernel), List.mem_of_getElem? (i := 837) (by decide +kernel)⟩
theorem lw_p40 : lw_okq (⟨"ArcadeBoardModel", "operate", "(II)V"⟩, 30) := ⟨⟨by decide +kernel, by decide +kernel⟩, List.mem_of_getElem? (i := 653) (by decide +kernel), List.mem_of_getElem? (i := 840) (by decide +kernel), List.mem_of_getElem? (i := 841) (by decide +kernel)⟩
theorem lw_p41 : lw_okq (⟨"ArcadeBoardModel", "highOperation", "(II)V"⟩, 30) := ⟨⟨by decide +kernel, by decide +kernel⟩, List.mem_of_getElem? (i := 653) (by decide +kernel), List.mem_of_getElem? (i := 844) (by decide +kernel), List.mem_of_getElem? (i := 845) (by decide +kernel)⟩
theorem lw_p42 : lw_okq (⟨"ArcadeBoardModel", "holds", "(I)Z"⟩, 30) := ⟨⟨by decide +kernel, by decide +kernel⟩, List.mem_of_getElem? (i := 653) (by decide +kernel), List.mem_of_getElem? (i := 848) (by decide +kernel), List.mem_of_getElem? (i := 849) (by decide +kernel)⟩
theorem lw_p43 : lw_okq (⟨"ArcadeBoardModel", "pop", "()I"⟩, 30) := ⟨⟨by decide +kernel, by decide +kernel⟩, List.mem_of_getElem? (i := 653) (by decide +kernel), List.mem_of_getElem? (i := 852) (by decide +kernel), List.mem_of_getElem? (i := 853) (by decide +kernel)⟩
theorem lw_p44 : lw_okq (⟨"ArcadeBoardModel", "popOrSo", "(I)V"⟩, 30) := ⟨⟨by decide +kernel, by decide +kernel⟩, List.mem_of_getElem? (i := 653) (by decide +kernel), List.mem_of_getElem? (i := 856) (by decide +kernel), List.mem_of_getElem? (i := 857) (by decide +kernel)⟩
theorem lw_p45 : lw_okq (⟨"ArcadeBoardModel", "setFlags", "(I)V"⟩, 30) := ⟨⟨by decide +kernel, by decide +kernel⟩, List.mem_of_getElem? (i := 653) (by decide +kernel), List.mem_of_getElem? (i := 860) (by decide +kernel), List.mem_of_getElem? (i := 861) (by decide +kernel)⟩
theorem lw_p46 : lw_okq (⟨"ArcadeBoardModel", "others", "(I)V"⟩, 30) := ⟨⟨by decide +kernel, by decide +kernel⟩, List.mem_of_getElem? (i := 653) (by decide +kernel), List.mem_of_getElem? (i := 864) (by decide +kernel), List.mem_of_getElem? (i := 865) (by decide +kernel)⟩
theorem lw_p47 : lw_okq (⟨"ArcadeBoardModel", "out", "(II)V"⟩, 30) := ⟨⟨by decide +kernel, by decide +kernel⟩, List.mem_of_getElem? (i := 653) (by decide +kernel), List.mem_of_getElem? (i := 868) (by decide +kernel), List.mem_of_getElem? (i := 869) (by decide +kernel)⟩
def lw_privs_3 : List (MethodName × Nat) := [(⟨"ArcadeBoardModel", "nextWord", "()I"⟩, 30), (⟨"ArcadeBoardModel", "setPair", "(II)V"⟩, 30), (⟨"ArcadeBoardModel", "pair", "(I)I"⟩, 30), (⟨"ArcadeBoardModel", "carry", "(I)V"⟩, 30), (⟨"ArcadeBoardModel", "get", "(I)I"⟩, 30), (⟨"ArcadeBoardModel", "result", "(I)I"⟩, 30), (⟨"ArcadeBoardModel", "set", "(II)V"⟩, 30), (⟨"ArcadeBoardModel", "turnA", "(I)V"⟩, 30), (⟨"ArcadeBoardModel", "operate", "(II)V"⟩, 30), (⟨"ArcadeBoardModel", "highOperation", "(II)V"⟩, 30), (⟨"ArcadeBoardModel", "holds", "(I)Z"⟩, 30), (⟨"ArcadeBoardModel", "pop", "()I"⟩, 30), (⟨"ArcadeBoardModel", "popOrSo", "(I)V"⟩, 30), (⟨"ArcadeBoardModel", "setFlags", "(I)V"⟩, 30), (⟨"ArcadeBoardModel", "others", "(I)V"⟩, 30), (⟨"ArcadeBoardModel", "out", "(II)V"⟩, 30)]
theorem lw_r3 : ∀ q ∈ lw_privs_3, lw_okq q := List.forall_mem_cons.mpr ⟨lw_p32, List.forall_mem_cons.mpr ⟨lw_p33, List.forall_mem_cons.mpr ⟨lw_p34, List.forall_mem_cons.mpr ⟨lw_p35, List.forall_mem_cons.mpr ⟨lw_p36, List.forall_mem_cons.mpr ⟨lw_p37, List.forall_mem_cons.mpr ⟨lw_p38, List.forall_mem_cons.mpr ⟨lw_p39, List.forall_mem_cons.mpr ⟨lw_p40, List.forall_mem_cons.mpr ⟨lw_p41, List.forall_mem_cons.mpr ⟨lw_p42, List.forall_mem_cons.mpr ⟨lw_p43, List.forall_mem_cons.mpr ⟨lw_p44, List.forall_mem_cons.mpr ⟨lw_p45, List.forall_mem_cons.mpr ⟨lw_p46, List.forall_mem_cons.mpr ⟨lw_p47, fun _ h => absurd h List.not_mem_nil⟩⟩⟩⟩⟩⟩⟩⟩⟩⟩⟩⟩⟩⟩⟩⟩
theorem lw_p48 : lw_okq (⟨"ArcadeBoardModel", "in", "(I)I"⟩, 30) := ⟨⟨by decide +kernel, by decide +kernel⟩, List.mem_of_getElem? (i := 653) (by decide +kernel), List.mem_of_getElem? (i := 872) (by decide +kernel), List.mem_of_getElem? (i := 873) (by decide +kernel)⟩
theorem lw_p49 : lw_okq (⟨"ArcadeBoardModel", "flags", "()I"⟩, 30) := ⟨⟨by decide +kernel, by decide +kernel⟩, List.mem_of_getElem? (i := 653) (by decide +kernel), List.mem_of_getElem? (i := 876) (by decide +kernel), List.mem_of_getElem? (i := 877) (by decide +kernel)⟩
theorem lw_p50 : lw_okq (⟨"ArcadeBoardModel", "more", "(I)I"⟩, 30) := ⟨⟨by decide +kernel, by decide +kernel⟩, List.mem_of_getElem? (i := 653) (by decide +kernel), List.mem_of_getElem? (i := 892) (by decide +kernel), List.mem_of_getElem? (i := 893) (by decide +kernel)⟩
def lw_privs_4 : List (MethodName × Nat) := [(⟨"ArcadeBoardModel", "in", "(I)I"⟩, 30), (⟨"ArcadeBoardModel", "flags", "()I"⟩, 30), (⟨"ArcadeBoardModel", "more", "(I)I"⟩, 30)]
theorem lw_r4 : ∀ q ∈ lw_privs_4, lw_okq q := List.forall_mem_cons.mpr ⟨lw_p48, List.forall_mem_cons.mpr ⟨lw_p49, List.forall_mem_cons.mpr ⟨lw_p50, fun _ h => absurd h List.not_mem_nil⟩⟩⟩
def lw_privs : List (MethodName × Nat) := lw_privs_1 ++ (lw_privs_2 ++ (lw_privs_3 ++ (lw_privs_4)))
def lw_tbl : List Cond := k2_sels lw_privs ++ tables_1
theorem lw_privs_ok : ∀ q ∈ lw_privs, lw_okq q := by
  show ∀ q ∈ lw_privs_1 ++ (lw_privs_2 ++ (lw_privs_3 ++ (lw_privs_4))), lw_okq q
  exact List.forall_mem_append.mpr ⟨lw_r1, List.forall_mem_append.mpr ⟨lw_r2, List.forall_mem_append.mpr ⟨lw_r3, lw_r4⟩⟩⟩
/-- the words that the walks use: all of the tables' that stay as they are -/
def AL : List Cond := lw_tbl.filter goodWord
theorem ab_good : ∀ w ∈ AL, (w.onTables && w.keeps) = true ∨ ∃ ty, w = .arrayClass ty := fun w h => good_of_word (List.mem_filter.mp h).2
theorem ab_al {w : Cond} (h : w ∈ AL) : w ∈ lw_tbl := (List.mem_filter.mp h).1
theorem ab_t1 {w : Cond} (h : w ∈ tables_1_1) : w ∈ lw_tbl := List.mem_append_right _ (show w ∈ tables_1 from List.mem_append_left _ h)
theorem ab_t2 {w : Cond} (h : w ∈ tables_1_2) : w ∈ lw_tbl := List.mem_append_right _ (show w ∈ tables_1 from List.mem_append_right _ (List.mem_append_left _ h))
theorem ab_t3 {w : Cond} (h : w ∈ tables_1_3) : w ∈ lw_tbl := List.mem_append_right _ (show w ∈ tables_1 from List.mem_append_right _ (List.mem_append_right _ (List.mem_append_left _ h)))
theorem ab_t4 {w : Cond} (h : w ∈ tables_1_4) : w ∈ lw_tbl := List.mem_append_right _ (show w ∈ tables_1 from List.mem_append_right _ (List.mem_append_right _ (List.mem_append_right _ (h))))
theorem ab_s1 {w : Cond} (h : w ∈ k2_sels lw_privs_1) : w ∈ lw_tbl := List.mem_append_left _ (by
  obtain ⟨q, hq, rfl⟩ := List.mem_map.mp h
  exact List.mem_map.mpr ⟨q, show q ∈ lw_privs from List.mem_append_left _ hq, rfl⟩)
theorem ab_s2 {w : Cond} (h : w ∈ k2_sels lw_privs_2) : w ∈ lw_tbl := List.mem_append_left _ (by
  obtain ⟨q, hq, rfl⟩ := List.mem_map.mp h
  exact List.mem_map.mpr ⟨q, show q ∈ lw_privs from List.mem_append_right _ (List.mem_append_left _ hq), rfl⟩)
theorem ab_s3 {w : Cond} (h : w ∈ k2_sels lw_privs_3) : w ∈ lw_tbl := List.mem_append_left _ (by
  obtain ⟨q, hq, rfl⟩ := List.mem_map.mp h
  exact List.mem_map.mpr ⟨q, show q ∈ lw_privs from List.mem_append_right _ (List.mem_append_right _ (List.mem_append_left _ hq)), rfl⟩)
theorem ab_s4 {w : Cond} (h : w ∈ k2_sels lw_privs_4) : w ∈ lw_tbl := List.mem_append_left _ (by
  obtain ⟨q, hq, rfl⟩ := List.mem_map.mp h
  exact List.mem_map.mpr ⟨q, show q ∈ lw_privs from List.mem_append_right _ (List.mem_append_right _ (List.mem_append_right _ (hq))), rfl⟩)
theorem ab_in {w : Cond} (h : w ∈ lw_tbl) (hg : goodWord w = true) : w ∈ AL := List.mem_filter.mpr ⟨h, hg⟩
def R_Arithmetic : String := "ArcadeBoard$Arithmetic"
def T_Arithmetic : u_T := fun k => match k with
  | _ => ("ArcadeBoard$Arithmetic", "state", "LArcadeBoard$State;", true)
def ty_Arithmetic : Nat → FieldType := fun k => match k with
  | _ => .object "ArcadeBoard$State"
theorem nm_Arithmetic : ∀ a, a < 1 → ∀ b, b < 1 → a ≠ b → (T_Arithmetic a).2.1 ≠ (T_Arithmetic b).2.1 := by decide +kernel
theorem ty_Arithmetic_ok : ∀ k, k < 1 → parseFieldDescriptor (T_Arithmetic k).2.2.1 = some (ty_Arithmetic k) := by decide +kernel
theorem in_Arithmetic_0 : u_lay R_Arithmetic T_Arithmetic 0 ∈ AL := ab_in (ab_t1 (List.mem_of_getElem? (i := 208) (by decide +kernel))) (by decide +kernel)
theorem in_Arithmetic : ∀ w ∈ u_ws R_Arithmetic T_Arithmetic 1, w ∈ AL := by
  intro w h
  obtain ⟨k, hk, rfl⟩ := List.mem_map.mp h
  have hk := List.mem_range.mp hk
  match k, hk with
  | 0, _ => exact in_Arithmetic_0
def R_Clock : String := "ArcadeBoard$Clock"
def T_Clock : u_T := fun k => match k with
  | _ => ("ArcadeBoard$Clock", "state", "LArcadeBoard$State;", true)
def ty_Clock : Nat → FieldType := fun k => match k with
  | _ => .object "ArcadeBoard$State"
theorem nm_Clock : ∀ a, a < 1 → ∀ b, b < 1 → a ≠ b → (T_Clock a).2.1 ≠ (T_Clock b).2.1 := by decide +kernel
theorem ty_Clock_ok : ∀ k, k < 1 → parseFieldDescriptor (T_Clock k).2.2.1 = some (ty_Clock k) := by decide +kernel
theorem in_Clock_0 : u_lay R_Clock T_Clock 0 ∈ AL := ab_in (ab_t1 (List.mem_of_getElem? (i := 192) (by decide +kernel))) (by decide +kernel)
theorem in_Clock : ∀ w ∈ u_ws R_Clock T_Clock 1, w ∈ AL := by
  intro w h
  obtain ⟨k, hk, rfl⟩ := List.mem_map.mp h
  have hk := List.mem_range.mp hk
  match k, hk with
  | 0, _ => exact in_Clock_0
def R_Memory : String := "ArcadeBoard$Memory"
def T_Memory : u_T := fun k => match k with
  | 0 => ("ArcadeBoard$Memory", "program", "[I", true)
  | _ => ("ArcadeBoard$Memory", "state", "LArcadeBoard$State;", true)
def ty_Memory : Nat → FieldType := fun k => match k with
  | 0 => .array .int
  | _ => .object "ArcadeBoard$State"
theorem nm_Memory : ∀ a, a < 2 → ∀ b, b < 2 → a ≠ b → (T_Memory a).2.1 ≠ (T_Memory b).2.1 := by decide +kernel
theorem ty_Memory_ok : ∀ k, k < 2 → parseFieldDescriptor (T_Memory k).2.2.1 = some (ty_Memory k) := by decide +kernel
theorem in_Memory_0 : u_lay R_Memory T_Memory 0 ∈ AL := ab_in (ab_t1 (List.mem_of_getElem? (i := 135) (by decide +kernel))) (by decide +kernel)
theorem in_Memory_1 : u_lay R_Memory T_Memory 1 ∈ AL := ab_in (ab_t1 (List.mem_of_getElem? (i := 137) (by decide +kernel))) (by decide +kernel)
theorem in_Memory : ∀ w ∈ u_ws R_Memory T_Memory 2, w ∈ AL := by
  intro w h
  obtain ⟨k, hk, rfl⟩ := List.mem_map.mp h
  have hk := List.mem_range.mp hk
  match k, hk with
  | 0, _ => exact in_Memory_0
  | 1, _ => exact in_Memory_1
def R_Ports : String := "ArcadeBoard$Ports"
def T_Ports : u_T := fun k => match k with
  | 0 => ("ArcadeBoard$Ports", "state", "LArcadeBoard$State;", true)
  | 1 => ("ArcadeBoard$Ports", "sounds", "LArcadeBoard$Sounds;", true)
  | 2 => ("ArcadeBoard$Ports", "dips", "I", false)
  | _ => ("ArcadeBoard$Ports", "inputs", "I", false)
def ty_Ports : Nat → FieldType := fun k => match k with
  | 0 => .object "ArcadeBoard$State"
  | 1 => .object "ArcadeBoard$Sounds"
  | 2 => .int
  | _ => .int
theorem nm_Ports : ∀ a, a < 4 → ∀ b, b < 4 → a ≠ b → (T_Ports a).2.1 ≠ (T_Ports b).2.1 := by decide +kernel
theorem ty_Ports_ok : ∀ k, k < 4 → parseFieldDescriptor (T_Ports k).2.2.1 = some (ty_Ports k) := by decide +kernel
theorem in_Ports_0 : u_lay R_Ports T_Ports 0 ∈ AL := ab_in (ab_t1 (List.mem_of_getElem? (i := 176) (by decide +kernel))) (by decide +kernel)
theorem in_Ports_1 : u_lay R_Ports T_Ports 1 ∈ AL := ab_in (ab_t1 (List.mem_of_getElem? (i := 178) (by decide +kernel))) (by decide +kernel)
theorem in_Ports_2 : u_lay R_Ports T_Ports 2 ∈ AL := ab_in (ab_t1 (List.mem_of_getElem? (i := 180) (by decide +kernel))) (by decide +kernel)
theorem in_Ports_3 : u_lay R_Ports T_Ports 3 ∈ AL := ab_in (ab_t1 (List.mem_of_getElem? (i := 182) (by decide +kernel))) (by decide +kernel)
theorem in_Ports : ∀ w ∈ u_ws R_Ports T_Ports 4, w ∈ AL := by
  intro w h
  obtain ⟨k, hk, rfl⟩ := List.mem_map.mp h
  have hk := List.mem_range.mp hk
  match k, hk with
  | 0, _ => exact in_Ports_0
  | 1, _ => exact in_Ports_1
  | 2, _ => exact in_Ports_2
  | 3, _ => exact in_Ports_3
def R_Processor : String := "ArcadeBoard$Processor"
def T_Processor : u_T := fun k => match k with
  | 0 => ("ArcadeBoard$Processor", "state", "LArcadeBoard$State;", true)
  | 1 => ("ArcadeBoard$Processor", "memory", "LArcadeBoard$Memory;", true)
  | 2 => ("ArcadeBoard$Processor", "registers", "LArcadeBoard$Registers;", true)
  | 3 => ("ArcadeBoard$Processor", "arithmetic", "LArcadeBoard$Arithmetic;", true)
  | 4 => ("ArcadeBoard$Processor", "ports", "LArcadeBoard$Ports;", true)
  | _ => ("ArcadeBoard$Processor", "clock", "LArcadeBoard$Clock;", true)
def ty_Processor : Nat → FieldType := fun k => match k with
  | 0 => .object "ArcadeBoard$State"
  | 1 => .object "ArcadeBoard$Memory"
  | 2 => .object "ArcadeBoard$Registers"
  | 3 => .object "ArcadeBoard$Arithmetic"
  | 4 => .object "ArcadeBoard$Ports"
  | _ => .object "ArcadeBoard$Clock"
theorem nm_Processor : ∀ a, a < 6 → ∀ b, b < 6 → a ≠ b → (T_Processor a).2.1 ≠ (T_Processor b).2.1 := by decide +kernel
theorem ty_Processor_ok : ∀ k, k < 6 → parseFieldDescriptor (T_Processor k).2.2.1 = some (ty_Processor k) := by decide +kernel
theorem in_Processor_0 : u_lay R_Processor T_Processor 0 ∈ AL := ab_in (ab_t1 (List.mem_of_getElem? (i := 217) (by decide +kernel))) (by decide +kernel)
theorem in_Processor_1 : u_lay R_Processor T_Processor 1 ∈ AL := ab_in (ab_t1 (List.mem_of_getElem? (i := 219) (by decide +kernel))) (by decide +kernel)
theorem in_Processor_2 : u_lay R_Processor T_Processor 2 ∈ AL := ab_in (ab_t1 (List.mem_of_getElem? (i := 221) (by decide +kernel))) (by decide +kernel)
theorem in_Processor_3 : u_lay R_Processor T_Processor 3 ∈ AL := ab_in (ab_t1 (List.mem_of_getElem? (i := 223) (by decide +kernel))) (by decide +kernel)
theorem in_Processor_4 : u_lay R_Processor T_Processor 4 ∈ AL := ab_in (ab_t1 (List.mem_of_getElem? (i := 225) (by decide +kernel))) (by decide +kernel)
theorem in_Processor_5 : u_lay R_Processor T_Processor 5 ∈ AL := ab_in (ab_t1 (List.mem_of_getElem? (i := 227) (by decide +kernel))) (by decide +kernel)
theorem in_Processor : ∀ w ∈ u_ws R_Processor T_Processor 6, w ∈ AL := by
  intro w h
  obtain ⟨k, hk, rfl⟩ := List.mem_map.mp h
  have hk := List.mem_range.mp hk
  match k, hk with
  | 0, _ => exact in_Processor_0
  | 1, _ => exact in_Processor_1
  | 2, _ => exact in_Processor_2
  | 3, _ => exact in_Processor_3
  | 4, _ => exact in_Processor_4
  | 5, _ => exact in_Processor_5
def R_Registers : String := "ArcadeBoard$Registers"
def T_Registers : u_T := fun k => match k with
  | 0 => ("ArcadeBoard$Registers", "state", "LArcadeBoard$State;", true)
  | _ => ("ArcadeBoard$Registers", "memory", "LArcadeBoard$Memory;", true)
def ty_Registers : Nat → FieldType := fun k => match k with
  | 0 => .object "ArcadeBoard$State"
  | _ => .object "ArcadeBoard$Memory"
theorem nm_Registers : ∀ a, a < 2 → ∀ b, b < 2 → a ≠ b → (T_Registers a).2.1 ≠ (T_Registers b).2.1 := by decide +kernel
theorem ty_Registers_ok : ∀ k, k < 2 → parseFieldDescriptor (T_Registers k).2.2.1 = some (ty_Registers k) := by decide +kernel
theorem in_Registers_0 : u_lay R_Registers T_Registers 0 ∈ AL := ab_in (ab_t1 (List.mem_of_getElem? (i := 148) (by decide +kernel))) (by decide +kernel)
theorem in_Registers_1 : u_lay R_Registers T_Registers 1 ∈ AL := ab_in (ab_t1 (List.mem_of_getElem? (i := 150) (by decide +kernel))) (by decide +kernel)
theorem in_Registers : ∀ w ∈ u_ws R_Registers T_Registers 2, w ∈ AL := by
  intro w h
  obtain ⟨k, hk, rfl⟩ := List.mem_map.mp h
  have hk := List.mem_range.mp hk
  match k, hk with
  | 0, _ => exact in_Registers_0
  | 1, _ => exact in_Registers_1
def R_Sounds : String := "ArcadeBoard$Sounds"
def T_Sounds : u_T := fun k => match k with
  | 0 => ("ArcadeBoard$Sounds", "latest", "[I", true)
  | _ => ("ArcadeBoard$Sounds", "count", "I", false)
def ty_Sounds : Nat → FieldType := fun k => match k with
  | 0 => .array .int
  | _ => .int
theorem nm_Sounds : ∀ a, a < 2 → ∀ b, b < 2 → a ≠ b → (T_Sounds a).2.1 ≠ (T_Sounds b).2.1 := by decide +kernel
theorem ty_Sounds_ok : ∀ k, k < 2 → parseFieldDescriptor (T_Sounds k).2.2.1 = some (ty_Sounds k) := by decide +kernel
theorem in_Sounds_0 : u_lay R_Sounds T_Sounds 0 ∈ AL := ab_in (ab_t1 (List.mem_of_getElem? (i := 161) (by decide +kernel))) (by decide +kernel)
theorem in_Sounds_1 : u_lay R_Sounds T_Sounds 1 ∈ AL := ab_in (ab_t1 (List.mem_of_getElem? (i := 163) (by decide +kernel))) (by decide +kernel)
theorem in_Sounds : ∀ w ∈ u_ws R_Sounds T_Sounds 2, w ∈ AL := by
  intro w h
  obtain ⟨k, hk, rfl⟩ := List.mem_map.mp h
  have hk := List.mem_range.mp hk
  match k, hk with
  | 0, _ => exact in_Sounds_0
  | 1, _ => exact in_Sounds_1
def R_State : String := "ArcadeBoard$State"
def T_State : u_T := fun k => match k with
  | 0 => ("ArcadeBoard$State", "ram", "[I", true)
  | 1 => ("ArcadeBoard$State", "registers", "[I", true)
  | 2 => ("ArcadeBoard$State", "flags", "I", false)
  | 3 => ("ArcadeBoard$State", "sp", "I", false)
  | 4 => ("ArcadeBoard$State", "pc", "I", false)
  | 5 => ("ArcadeBoard$State", "interrupts", "Z", false)
  | 6 => ("ArcadeBoard$State", "switchedOn", "Z", false)
  | 7 => ("ArcadeBoard$State", "halted", "Z", false)
  | 8 => ("ArcadeBoard$State", "call", "I", false)
  | 9 => ("ArcadeBoard$State", "shift", "I", false)
  | 10 => ("ArcadeBoard$State", "offset", "I", false)
  | 11 => ("ArcadeBoard$State", "watch", "I", false)
  | 12 => ("ArcadeBoard$State", "time", "I", false)
  | 13 => ("ArcadeBoard$State", "frames", "I", false)
  | 14 => ("ArcadeBoard$State", "coinCount", "I", false)
  | 15 => ("ArcadeBoard$State", "lastTo3", "I", false)
  | _ => ("ArcadeBoard$State", "lastTo5", "I", false)
def ty_State : Nat → FieldType := fun k => match k with
  | 0 => .array .int
  | 1 => .array .int
  | 2 => .int
  | 3 => .int
  | 4 => .int
  | 5 => .boolean
  | 6 => .boolean
  | 7 => .boolean
  | 8 => .int
  | 9 => .int
  | 10 => .int
  | 11 => .int
  | 12 => .int
  | 13 => .int
  | 14 => .int
  | 15 => .int
  | _ => .int
theorem nm_State : ∀ a, a < 17 → ∀ b, b < 17 → a ≠ b → (T_State a).2.1 ≠ (T_State b).2.1 := by decide +kernel
theorem ty_State_ok : ∀ k, k < 17 → parseFieldDescriptor (T_State k).2.2.1 = some (ty_State k) := by decide +kernel
theorem in_State_0 : u_lay R_State T_State 0 ∈ AL := ab_in (ab_t1 (List.mem_of_getElem? (i := 91) (by decide +kernel))) (by decide +kernel)
theorem in_State_1 : u_lay R_State T_State 1 ∈ AL := ab_in (ab_t1 (List.mem_of_getElem? (i := 93) (by decide +kernel))) (by decide +kernel)
theorem in_State_2 : u_lay R_State T_State 2 ∈ AL := ab_in (ab_t1 (List.mem_of_getElem? (i := 95) (by decide +kernel))) (by decide +kernel)
theorem in_State_3 : u_lay R_State T_State 3 ∈ AL := ab_in (ab_t1 (List.mem_of_getElem? (i := 97) (by decide +kernel))) (by decide +kernel)
theorem in_State_4 : u_lay R_State T_State 4 ∈ AL := ab_in (ab_t1 (List.mem_of_getElem? (i := 99) (by decide +kernel))) (by decide +kernel)
theorem in_State_5 : u_lay R_State T_State 5 ∈ AL := ab_in (ab_t1 (List.mem_of_getElem? (i := 101) (by decide +kernel))) (by decide +kernel)
theorem in_State_6 : u_lay R_State T_State 6 ∈ AL := ab_in (ab_t1 (List.mem_of_getElem? (i := 103) (by decide +kernel))) (by decide +kernel)
theorem in_State_7 : u_lay R_State T_State 7 ∈ AL := ab_in (ab_t1 (List.mem_of_getElem? (i := 105) (by decide +kernel))) (by decide +kernel)
theorem in_State_8 : u_lay R_State T_State 8 ∈ AL := ab_in (ab_t1 (List.mem_of_getElem? (i := 107) (by decide +kernel))) (by decide +kernel)
theorem in_State_9 : u_lay R_State T_State 9 ∈ AL := ab_in (ab_t1 (List.mem_of_getElem? (i := 109) (by decide +kernel))) (by decide +kernel)
theorem in_State_10 : u_lay R_State T_State 10 ∈ AL := ab_in (ab_t1 (List.mem_of_getElem? (i := 111) (by decide +kernel))) (by decide +kernel)
theorem in_State_11 : u_lay R_State T_State 11 ∈ AL := ab_in (ab_t1 (List.mem_of_getElem? (i := 113) (by decide +kernel))) (by decide +kernel)
theorem in_State_12 : u_lay R_State T_State 12 ∈ AL := ab_in (ab_t1 (List.mem_of_getElem? (i := 115) (by decide +kernel))) (by decide +kernel)
theorem in_State_13 : u_lay R_State T_State 13 ∈ AL := ab_in (ab_t1 (List.mem_of_getElem? (i := 117) (by decide +kernel))) (by decide +kernel)
theorem in_State_14 : u_lay R_State T_State 14 ∈ AL := ab_in (ab_t1 (List.mem_of_getElem? (i := 119) (by decide +kernel))) (by decide +kernel)
theorem in_State_15 : u_lay R_State T_State 15 ∈ AL := ab_in (ab_t1 (List.mem_of_getElem? (i := 121) (by decide +kernel))) (by decide +kernel)
theorem in_State_16 : u_lay R_State T_State 16 ∈ AL := ab_in (ab_t1 (List.mem_of_getElem? (i := 123) (by decide +kernel))) (by decide +kernel)
theorem in_State : ∀ w ∈ u_ws R_State T_State 17, w ∈ AL := by
  intro w h
  obtain ⟨k, hk, rfl⟩ := List.mem_map.mp h
  have hk := List.mem_range.mp hk
  match k, hk with
  | 0, _ => exact in_State_0
  | 1, _ => exact in_State_1
  | 2, _ => exact in_State_2
  | 3, _ => exact in_State_3
  | 4, _ => exact in_State_4
  | 5, _ => exact in_State_5
  | 6, _ => exact in_State_6
  | 7, _ => exact in_State_7
  | 8, _ => exact in_State_8
  | 9, _ => exact in_State_9
  | 10, _ => exact in_State_10
  | 11, _ => exact in_State_11
  | 12, _ => exact in_State_12
  | 13, _ => exact in_State_13
  | 14, _ => exact in_State_14
  | 15, _ => exact in_State_15
  | 16, _ => exact in_State_16
  | k + 17, h => exact absurd h (by omega)
def R_AB : String := "ArcadeBoard"
def T_AB : u_T := fun k => match k with
  | 0 => ("ArcadeBoard", "state", "LArcadeBoard$State;", true)
  | 1 => ("ArcadeBoard", "memory", "LArcadeBoard$Memory;", true)
  | 2 => ("ArcadeBoard", "registers", "LArcadeBoard$Registers;", true)
  | 3 => ("ArcadeBoard", "sounds", "LArcadeBoard$Sounds;", true)
  | 4 => ("ArcadeBoard", "ports", "LArcadeBoard$Ports;", true)
  | 5 => ("ArcadeBoard", "clock", "LArcadeBoard$Clock;", true)
  | 6 => ("ArcadeBoard", "processor", "LArcadeBoard$Processor;", true)
  | 7 => ("ArcadeBoard", "slots", "[LArcadeBoard$State;", true)
  | 8 => ("ArcadeBoard", "filled", "[Z", true)
  | _ => ("ArcadeBoard", "on", "Z", false)
def ty_AB : Nat → FieldType := fun k => match k with
  | 0 => .object "ArcadeBoard$State"
  | 1 => .object "ArcadeBoard$Memory"
  | 2 => .object "ArcadeBoard$Registers"
  | 3 => .object "ArcadeBoard$Sounds"
  | 4 => .object "ArcadeBoard$Ports"
  | 5 => .object "ArcadeBoard$Clock"
  | 6 => .object "ArcadeBoard$Processor"
  | 7 => .array (.object "ArcadeBoard$State")
  | 8 => .array .boolean
  | _ => .boolean
theorem nm_AB : ∀ a, a < 10 → ∀ b, b < 10 → a ≠ b → (T_AB a).2.1 ≠ (T_AB b).2.1 := by decide +kernel
theorem ty_AB_ok : ∀ k, k < 10 → parseFieldDescriptor (T_AB k).2.2.1 = some (ty_AB k) := by decide +kernel
theorem in_AB_0 : u_lay R_AB T_AB 0 ∈ AL := ab_in (ab_t2 (List.mem_of_getElem? (i := 1) (by decide +kernel))) (by decide +kernel)
theorem in_AB_1 : u_lay R_AB T_AB 1 ∈ AL := ab_in (ab_t2 (List.mem_of_getElem? (i := 3) (by decide +kernel))) (by decide +kernel)
theorem in_AB_2 : u_lay R_AB T_AB 2 ∈ AL := ab_in (ab_t2 (List.mem_of_getElem? (i := 5) (by decide +kernel))) (by decide +kernel)
theorem in_AB_3 : u_lay R_AB T_AB 3 ∈ AL := ab_in (ab_t2 (List.mem_of_getElem? (i := 7) (by decide +kernel))) (by decide +kernel)
theorem in_AB_4 : u_lay R_AB T_AB 4 ∈ AL := ab_in (ab_t2 (List.mem_of_getElem? (i := 9) (by decide +kernel))) (by decide +kernel)
theorem in_AB_5 : u_lay R_AB T_AB 5 ∈ AL := ab_in (ab_t2 (List.mem_of_getElem? (i := 11) (by decide +kernel))) (by decide +kernel)
theorem in_AB_6 : u_lay R_AB T_AB 6 ∈ AL := ab_in (ab_t2 (List.mem_of_getElem? (i := 13) (by decide +kernel))) (by decide +kernel)
theorem in_AB_7 : u_lay R_AB T_AB 7 ∈ AL := ab_in (ab_t2 (List.mem_of_getElem? (i := 15) (by decide +kernel))) (by decide +kernel)
theorem in_AB_8 : u_lay R_AB T_AB 8 ∈ AL := ab_in (ab_t2 (List.mem_of_getElem? (i := 17) (by decide +kernel))) (by decide +kernel)
theorem in_AB_9 : u_lay R_AB T_AB 9 ∈ AL := ab_in (ab_t2 (List.mem_of_getElem? (i := 19) (by decide +kernel))) (by decide +kernel)
theorem in_AB : ∀ w ∈ u_ws R_AB T_AB 10, w ∈ AL := by
  intro w h
  obtain ⟨k, hk, rfl⟩ := List.mem_map.mp h
  have hk := List.mem_range.mp hk
  match k, hk with
  | 0, _ => exact in_AB_0
  | 1, _ => exact in_AB_1
  | 2, _ => exact in_AB_2
  | 3, _ => exact in_AB_3
  | 4, _ => exact in_AB_4
  | 5, _ => exact in_AB_5
  | 6, _ => exact in_AB_6
  | 7, _ => exact in_AB_7
  | 8, _ => exact in_AB_8
  | 9, _ => exact in_AB_9
def R_MD : String := "ArcadeBoardModel"
def T_MD : u_T := fun k => match k with
  | 0 => ("ArcadeBoardModel", "thrown", "I", false)
  | 1 => ("ArcadeBoardModel", "memory", "[I", true)
  | 2 => ("ArcadeBoardModel", "on", "Z", false)
  | 3 => ("ArcadeBoardModel", "dips", "I", false)
  | 4 => ("ArcadeBoardModel", "inputs", "I", false)
  | 5 => ("ArcadeBoardModel", "reg", "[I", true)
  | 6 => ("ArcadeBoardModel", "fs", "Z", false)
  | 7 => ("ArcadeBoardModel", "fz", "Z", false)
  | 8 => ("ArcadeBoardModel", "fh", "Z", false)
  | 9 => ("ArcadeBoardModel", "fp", "Z", false)
  | 10 => ("ArcadeBoardModel", "fk", "Z", false)
  | 11 => ("ArcadeBoardModel", "sp", "I", false)
  | 12 => ("ArcadeBoardModel", "pc", "I", false)
  | 13 => ("ArcadeBoardModel", "enabled", "Z", false)
  | 14 => ("ArcadeBoardModel", "justOn", "Z", false)
  | 15 => ("ArcadeBoardModel", "halted", "Z", false)
  | 16 => ("ArcadeBoardModel", "call", "I", false)
  | 17 => ("ArcadeBoardModel", "shift", "I", false)
  | 18 => ("ArcadeBoardModel", "offset", "I", false)
  | 19 => ("ArcadeBoardModel", "watch", "I", false)
  | 20 => ("ArcadeBoardModel", "time", "I", false)
  | 21 => ("ArcadeBoardModel", "frames", "I", false)
  | 22 => ("ArcadeBoardModel", "coins", "I", false)
  | 23 => ("ArcadeBoardModel", "port3", "I", false)
  | 24 => ("ArcadeBoardModel", "port5", "I", false)
  | 25 => ("ArcadeBoardModel", "sounds", "I", false)
  | 26 => ("ArcadeBoardModel", "latest", "[I", true)
  | 27 => ("ArcadeBoardModel", "saved", "[Z", true)
  | 28 => ("ArcadeBoardModel", "kept", "[I", true)
  | _ => ("ArcadeBoardModel", "states", "I", false)
def ty_MD : Nat → FieldType := fun k => match k with
  | 0 => .int
  | 1 => .array .int
  | 2 => .boolean
  | 3 => .int
  | 4 => .int
  | 5 => .array .int
  | 6 => .boolean
  | 7 => .boolean
  | 8 => .boolean
  | 9 => .boolean
  | 10 => .boolean
  | 11 => .int
  | 12 => .int
  | 13 => .boolean
  | 14 => .boolean
  | 15 => .boolean
  | 16 => .int
  | 17 => .int
  | 18 => .int
  | 19 => .int
  | 20 => .int
  | 21 => .int
  | 22 => .int
  | 23 => .int
  | 24 => .int
  | 25 => .int
  | 26 => .array .int
  | 27 => .array .boolean
  | 28 => .array .int
  | _ => .int
theorem nm_MD : ∀ a, a < 30 → ∀ b, b < 30 → a ≠ b → (T_MD a).2.1 ≠ (T_MD b).2.1 := by decide +kernel
theorem ty_MD_ok : ∀ k, k < 30 → parseFieldDescriptor (T_MD k).2.2.1 = some (ty_MD k) := by decide +kernel
theorem in_MD_0 : u_lay R_MD T_MD 0 ∈ AL := ab_in (ab_t3 (List.mem_of_getElem? (i := 208) (by decide +kernel))) (by decide +kernel)
theorem in_MD_1 : u_lay R_MD T_MD 1 ∈ AL := ab_in (ab_t3 (List.mem_of_getElem? (i := 210) (by decide +kernel))) (by decide +kernel)
theorem in_MD_2 : u_lay R_MD T_MD 2 ∈ AL := ab_in (ab_t3 (List.mem_of_getElem? (i := 212) (by decide +kernel))) (by decide +kernel)
theorem in_MD_3 : u_lay R_MD T_MD 3 ∈ AL := ab_in (ab_t3 (List.mem_of_getElem? (i := 214) (by decide +kernel))) (by decide +kernel)
theorem in_MD_4 : u_lay R_MD T_MD 4 ∈ AL := ab_in (ab_t3 (List.mem_of_getElem? (i := 216) (by decide +kernel))) (by decide +kernel)
theorem in_MD_5 : u_lay R_MD T_MD 5 ∈ AL := ab_in (ab_t3 (List.mem_of_getElem? (i := 218) (by decide +kernel))) (by decide +kernel)
theorem in_MD_6 : u_lay R_MD T_MD 6 ∈ AL := ab_in (ab_t3 (List.mem_of_getElem? (i := 220) (by decide +kernel))) (by decide +kernel)
theorem in_MD_7 : u_lay R_MD T_MD 7 ∈ AL := ab_in (ab_t3 (List.mem_of_getElem? (i := 222) (by decide +kernel))) (by decide +kernel)
theorem in_MD_8 : u_lay R_MD T_MD 8 ∈ AL := ab_in (ab_t3 (List.mem_of_getElem? (i := 224) (by decide +kernel))) (by decide +kernel)
theorem in_MD_9 : u_lay R_MD T_MD 9 ∈ AL := ab_in (ab_t3 (List.mem_of_getElem? (i := 226) (by decide +kernel))) (by decide +kernel)
theorem in_MD_10 : u_lay R_MD T_MD 10 ∈ AL := ab_in (ab_t3 (List.mem_of_getElem? (i := 228) (by decide +kernel))) (by decide +kernel)
theorem in_MD_11 : u_lay R_MD T_MD 11 ∈ AL := ab_in (ab_t3 (List.mem_of_getElem? (i := 230) (by decide +kernel))) (by decide +kernel)
theorem in_MD_12 : u_lay R_MD T_MD 12 ∈ AL := ab_in (ab_t3 (List.mem_of_getElem? (i := 232) (by decide +kernel))) (by decide +kernel)
theorem in_MD_13 : u_lay R_MD T_MD 13 ∈ AL := ab_in (ab_t3 (List.mem_of_getElem? (i := 234) (by decide +kernel))) (by decide +kernel)
theorem in_MD_14 : u_lay R_MD T_MD 14 ∈ AL := ab_in (ab_t3 (List.mem_of_getElem? (i := 236) (by decide +kernel))) (by decide +kernel)
theorem in_MD_15 : u_lay R_MD T_MD 15 ∈ AL := ab_in (ab_t3 (List.mem_of_getElem? (i := 238) (by decide +kernel))) (by decide +kernel)
theorem in_MD_16 : u_lay R_MD T_MD 16 ∈ AL := ab_in (ab_t4 (List.mem_of_getElem? (i := 0) (by decide +kernel))) (by decide +kernel)
theorem in_MD_17 : u_lay R_MD T_MD 17 ∈ AL := ab_in (ab_t4 (List.mem_of_getElem? (i := 2) (by decide +kernel))) (by decide +kernel)
theorem in_MD_18 : u_lay R_MD T_MD 18 ∈ AL := ab_in (ab_t4 (List.mem_of_getElem? (i := 4) (by decide +kernel))) (by decide +kernel)
theorem in_MD_19 : u_lay R_MD T_MD 19 ∈ AL := ab_in (ab_t4 (List.mem_of_getElem? (i := 6) (by decide +kernel))) (by decide +kernel)
theorem in_MD_20 : u_lay R_MD T_MD 20 ∈ AL := ab_in (ab_t4 (List.mem_of_getElem? (i := 8) (by decide +kernel))) (by decide +kernel)
theorem in_MD_21 : u_lay R_MD T_MD 21 ∈ AL := ab_in (ab_t4 (List.mem_of_getElem? (i := 10) (by decide +kernel))) (by decide +kernel)
theorem in_MD_22 : u_lay R_MD T_MD 22 ∈ AL := ab_in (ab_t4 (List.mem_of_getElem? (i := 12) (by decide +kernel))) (by decide +kernel)
theorem in_MD_23 : u_lay R_MD T_MD 23 ∈ AL := ab_in (ab_t4 (List.mem_of_getElem? (i := 14) (by decide +kernel))) (by decide +kernel)
theorem in_MD_24 : u_lay R_MD T_MD 24 ∈ AL := ab_in (ab_t4 (List.mem_of_getElem? (i := 16) (by decide +kernel))) (by decide +kernel)
theorem in_MD_25 : u_lay R_MD T_MD 25 ∈ AL := ab_in (ab_t4 (List.mem_of_getElem? (i := 18) (by decide +kernel))) (by decide +kernel)
theorem in_MD_26 : u_lay R_MD T_MD 26 ∈ AL := ab_in (ab_t4 (List.mem_of_getElem? (i := 20) (by decide +kernel))) (by decide +kernel)
theorem in_MD_27 : u_lay R_MD T_MD 27 ∈ AL := ab_in (ab_t4 (List.mem_of_getElem? (i := 22) (by decide +kernel))) (by decide +kernel)
theorem in_MD_28 : u_lay R_MD T_MD 28 ∈ AL := ab_in (ab_t4 (List.mem_of_getElem? (i := 24) (by decide +kernel))) (by decide +kernel)
theorem in_MD_29 : u_lay R_MD T_MD 29 ∈ AL := ab_in (ab_t4 (List.mem_of_getElem? (i := 26) (by decide +kernel))) (by decide +kernel)
theorem in_MD : ∀ w ∈ u_ws R_MD T_MD 30, w ∈ AL := by
  intro w h
  obtain ⟨k, hk, rfl⟩ := List.mem_map.mp h
  have hk := List.mem_range.mp hk
  match k, hk with
  | 0, _ => exact in_MD_0
  | 1, _ => exact in_MD_1
  | 2, _ => exact in_MD_2
  | 3, _ => exact in_MD_3
  | 4, _ => exact in_MD_4
  | 5, _ => exact in_MD_5
  | 6, _ => exact in_MD_6
  | 7, _ => exact in_MD_7
  | 8, _ => exact in_MD_8
  | 9, _ => exact in_MD_9
  | 10, _ => exact in_MD_10
  | 11, _ => exact in_MD_11
  | 12, _ => exact in_MD_12
  | 13, _ => exact in_MD_13
  | 14, _ => exact in_MD_14
  | 15, _ => exact in_MD_15
  | 16, _ => exact in_MD_16
  | 17, _ => exact in_MD_17
  | 18, _ => exact in_MD_18
  | 19, _ => exact in_MD_19
  | 20, _ => exact in_MD_20
  | 21, _ => exact in_MD_21
  | 22, _ => exact in_MD_22
  | 23, _ => exact in_MD_23
  | 24, _ => exact in_MD_24
  | 25, _ => exact in_MD_25
  | 26, _ => exact in_MD_26
  | 27, _ => exact in_MD_27
  | 28, _ => exact in_MD_28
  | 29, _ => exact in_MD_29
  | k + 30, h => exact absurd h (by omega)
abbrev CL : List vw_C := [(R_Arithmetic, T_Arithmetic, 1), (R_Clock, T_Clock, 1), (R_Memory, T_Memory, 2), (R_Ports, T_Ports, 4), (R_Processor, T_Processor, 6), (R_Registers, T_Registers, 2), (R_Sounds, T_Sounds, 2), (R_State, T_State, 17), (R_AB, T_AB, 10), (R_MD, T_MD, 30)]
end
section
abbrev SS : Type := Nat → Nat → Int32
/-- element k of array a is v now (array 0: the numbers by themselves) -/
def stt (u : SS) (a k : Nat) (v : Int32) : SS := va_up u a (upd (u a) k v)
abbrev tyC (t : Nat → ClassId) : List (ClassId × FieldType) := [(t 0, .int), (t 1, .boolean), (t 2, .object "ArcadeBoard$State"), (t 3, .long)]
def wC (t : Nat → ClassId) (q : Nat → Nat) (u : SS) : va_W := [(q 0, .inr (4, [.ref (q 1), .ref (q 4), .ref (q 6), .ref (q 7), .ref (q 8), .ref (q 11)])),
  (q 1, .inr (7, [.ref (q 2), .ref (q 3), .int (u 0 0), .int (u 0 1), .int (u 0 2), .int (u 0 3), .int (u 0 4), .int (u 0 5), .int (u 0 6), .int (u 0 7), .int (u 0 8), .int (u 0 9), .int (u 0 10), .int (u 0 11), .int (u 0 12), .int (u 0 13), .int (u 0 14)])),
  (q 2, .inl (t 0, 512, .inl (u 1))),
  (q 3, .inl (t 0, 8, .inl (u 2))),
  (q 4, .inr (2, [.ref (q 5), .ref (q 1)])),
  (q 5, .inl (t 0, 512, .inl (u 3))),
  (q 6, .inr (5, [.ref (q 1), .ref (q 4)])),
  (q 7, .inr (0, [.ref (q 1)])),
  (q 8, .inr (3, [.ref (q 1), .ref (q 9), .int (u 0 15), .int (u 0 16)])),
  (q 9, .inr (6, [.ref (q 10), .int (u 0 17)])),
  (q 10, .inl (t 0, 8, .inl (u 4))),
  (q 11, .inr (1, [.ref (q 1)]))]
def wM (t : Nat → ClassId) (q : Nat → Nat) (u : SS) : va_W := [(q 0, .inr (9, [.int (u 0 0), .ref (q 1), .int (u 0 1), .int (u 0 2), .int (u 0 3), .ref (q 2), .int (u 0 4), .int (u 0 5), .int (u 0 6), .int (u 0 7), .int (u 0 8), .int (u 0 9), .int (u 0 10), .int (u 0 11), .int (u 0 12), .int (u 0 13), .int (u 0 14), .int (u 0 15), .int (u 0 16), .int (u 0 17), .int (u 0 18), .int (u 0 19), .int (u 0 20), .int (u 0 21), .int (u 0 22), .int (u 0 23), .ref (q 3), .ref (q 4), .ref (q 5), .int (u 0 24)])),
  (q 1, .inl (t 0, 1024, .inl (u 1))),
  (q 2, .inl (t 0, 8, .inl (u 2))),
  (q 3, .inl (t 0, 8, .inl (u 3))),
  (q 4, .inl (t 1, 2, .inl (u 4))),
  (q 5, .inl (t 0, 1080, .inl (u 5)))]
def wA (t : Nat → ClassId) (q : Nat → Nat) (z : SS) : va_W := [(q 12, .inr (8, [.ref (q 1), .ref (q 4), .ref (q 6), .ref (q 9), .ref (q 8), .ref (q 11), .ref (q 0), .ref (q 13), .ref (q 14), .int (z 0 0)])),
  (q 13, .inl (t 2, 2, .inr (.inr (.inr (.inr (fun k => some (if k = 0 then q 15 else q 18))))))),
  (q 14, .inl (t 1, 2, .inl (z 7))),
  (q 15, .inr (7, [.ref (q 16), .ref (q 17), .int (z 1 0), .int (z 1 1), .int (z 1 2), .int (z 1 3), .int (z 1 4), .int (z 1 5), .int (z 1 6), .int (z 1 7), .int (z 1 8), .int (z 1 9), .int (z 1 10), .int (z 1 11), .int (z 1 12), .int (z 1 13), .int (z 1 14)])),
  (q 16, .inl (t 0, 512, .inl (z 2))),
  (q 17, .inl (t 0, 8, .inl (z 3))),
  (q 18, .inr (7, [.ref (q 19), .ref (q 20), .int (z 4 0), .int (z 4 1), .int (z 4 2), .int (z 4 3), .int (z 4 4), .int (z 4 5), .int (z 4 6), .int (z 4 7), .int (z 4 8), .int (z 4 9), .int (z 4 10), .int (z 4 11), .int (z 4 12), .int (z 4 13), .int (z 4 14)])),
  (q 19, .inl (t 0, 512, .inl (z 5))),
  (q 20, .inl (t 0, 8, .inl (z 6)))]
def wT (t : Nat → ClassId) (q : Nat → Nat) (s : SS × SS) : va_W := wA t q s.1 ++ wC t q s.2
end
section
/-! what the methods compute, laid out of their bytecode by wip/whole/gen -/
def f_Memory_at (u : SS) (x1 : Int32) : Int32 :=
  (if 512 ≤ (x1 &&& 1023) then (u 1 (((x1 &&& 1023) - 512).toNatClampNeg)) else (u 3 ((x1 &&& 1023).toNatClampNeg)) : Int32)
def f_Memory_put (u : SS) (x1 : Int32) (x2 : Int32) : SS :=
  if (x1 &&& 1023) < 512 then
    u
  else
    (stt u 1 (((x1 &&& 1023) - 512).toNatClampNeg) (x2 &&& 255))
def f_Memory_wordAt (u : SS) (x1 : Int32) : Int32 :=
  (f_Memory_at u x1) ||| ((f_Memory_at u (x1 + 1)) <<< ((8 : Int32) &&& 31))
def f_Memory_putWord (u : SS) (x1 : Int32) (x2 : Int32) : SS :=
  (f_Memory_put (f_Memory_put u x1 x2) (x1 + 1) (x2 >>> ((8 : Int32) &&& 31)))
def f_Memory_push (u : SS) (x1 : Int32) : SS :=
  (stt (f_Memory_put (f_Memory_put u ((u 0 1) - 1) (x1 >>> ((8 : Int32) &&& 31))) (((f_Memory_put u ((u 0 1) - 1) (x1 >>> ((8 : Int32) &&& 31))) 0 1) - 2) x1) 0 1 ((((f_Memory_put (f_Memory_put u ((u 0 1) - 1) (x1 >>> ((8 : Int32) &&& 31))) (((f_Memory_put u ((u 0 1) - 1) (x1 >>> ((8 : Int32) &&& 31))) 0 1) - 2) x1) 0 1) - 2) &&& 65535))
def f_Memory_pop (u : SS) : Int32 × SS :=
  ((f_Memory_at u (u 0 1)) ||| ((f_Memory_at u ((u 0 1) + 1)) <<< ((8 : Int32) &&& 31)), (stt u 0 1 (((u 0 1) + 2) &&& 65535)))
def f_Memory_burn (u : SS) (x1 : Int32) (x2 : Int32) : SS :=
  if x1 < 0 then
    u
  else
    if 512 ≤ x1 then
      u
    else
      (stt u 3 ((x1).toNatClampNeg) (x2 &&& 255))
def g_Memory_sumOfByte_4 : Nat → SS → Int32 → Int32 → Int32
  | 0, u, _, _ => 0
  | k + 1, u, v1, v2 =>
    if 8 ≤ v2 then
      v1
    else
      g_Memory_sumOfByte_4 k u (if (v1 &&& 32768) = 0 then ((v1 <<< ((1 : Int32) &&& 31)) &&& 65535) else (((v1 <<< ((1 : Int32) &&& 31)) &&& 65535) ^^^ 4129) : Int32) (v2 + 1)
def f_Memory_sumOfByte (u : SS) (x1 : Int32) : Int32 :=
  g_Memory_sumOfByte_4 9 u x1 0
def g_Memory_programSum_5 : Nat → SS → Int32 → Int32 → Int32
  | 0, u, _, _ => 0
  | k + 1, u, v1, v2 =>
    if 512 ≤ v2 then
      v1
    else
      g_Memory_programSum_5 k u (f_Memory_sumOfByte u (v1 ^^^ ((u 3 ((v2).toNatClampNeg)) <<< ((8 : Int32) &&& 31)))) (v2 + 1)
def f_Memory_programSum (u : SS) : Int32 :=
  g_Memory_programSum_5 513 u 65535 0
def f_Registers_pair (u : SS) (x1 : Int32) : Int32 :=
  if x1 = 3 then
    u 0 1
  else
    ((u 2 ((2 * (x1 &&& 3)).toNatClampNeg)) <<< ((8 : Int32) &&& 31)) ||| (u 2 (((2 * (x1 &&& 3)) + 1).toNatClampNeg))
def f_Registers_value (u : SS) (x1 : Int32) : Int32 :=
  if x1 = 6 then
    (f_Memory_at u (f_Registers_pair u 2))
  else
    u 2 ((x1 &&& 7).toNatClampNeg)
def f_Registers_set (u : SS) (x1 : Int32) (x2 : Int32) : SS :=
  if x1 = 6 then
    (f_Memory_put u (f_Registers_pair u 2) x2)
  else
    (stt u 2 ((x1 &&& 7).toNatClampNeg) (x2 &&& 255))
def f_Registers_setPair (u : SS) (x1 : Int32) (x2 : Int32) : SS :=
  if x1 = 3 then
    (stt u 0 1 (x2 &&& 65535))
  else
    (stt (stt u 2 ((2 * (x1 &&& 3)).toNatClampNeg) ((x2 >>> ((8 : Int32) &&& 31)) &&& 255)) 2 (((2 * (x1 &&& 3)) + 1).toNatClampNeg) (x2 &&& 255))
def f_Arithmetic_carry (u : SS) : Int32 :=
  (u 0 0) &&& 1
def f_Arithmetic_setCarry (u : SS) (x1 : Int32) : SS :=
  (stt u 0 0 (((u 0 0) &&& (-2)) ||| (x1 &&& 1)))
def f_JI_bitCount (u : SS) (x1 : Int32) : Int32 :=
  (((((((x1 - (((x1.toUInt32 >>> ((1 : Int32).toUInt32 &&& Int32.toUInt32 31)).toInt32) &&& 1431655765)) &&& 858993459) + ((((x1 - (((x1.toUInt32 >>> ((1 : Int32).toUInt32 &&& Int32.toUInt32 31)).toInt32) &&& 1431655765)).toUInt32 >>> ((2 : Int32).toUInt32 &&& Int32.toUInt32 31)).toInt32) &&& 858993459)) + (((((x1 - (((x1.toUInt32 >>> ((1 : Int32).toUInt32 &&& Int32.toUInt32 31)).toInt32) &&& 1431655765)) &&& 858993459) + ((((x1 - (((x1.toUInt32 >>> ((1 : Int32).toUInt32 &&& Int32.toUInt32 31)).toInt32) &&& 1431655765)).toUInt32 >>> ((2 : Int32).toUInt32 &&& Int32.toUInt32 31)).toInt32) &&& 858993459)).toUInt32 >>> ((4 : Int32).toUInt32 &&& Int32.toUInt32 31)).toInt32)) &&& 252645135) + (((((((x1 - (((x1.toUInt32 >>> ((1 : Int32).toUInt32 &&& Int32.toUInt32 31)).toInt32) &&& 1431655765)) &&& 858993459) + ((((x1 - (((x1.toUInt32 >>> ((1 : Int32).toUInt32 &&& Int32.toUInt32 31)).toInt32) &&& 1431655765)).toUInt32 >>> ((2 : Int32).toUInt32 &&& Int32.toUInt32 31)).toInt32) &&& 858993459)) + (((((x1 - (((x1.toUInt32 >>> ((1 : Int32).toUInt32 &&& Int32.toUInt32 31)).toInt32) &&& 1431655765)) &&& 858993459) + ((((x1 - (((x1.toUInt32 >>> ((1 : Int32).toUInt32 &&& Int32.toUInt32 31)).toInt32) &&& 1431655765)).toUInt32 >>> ((2 : Int32).toUInt32 &&& Int32.toUInt32 31)).toInt32) &&& 858993459)).toUInt32 >>> ((4 : Int32).toUInt32 &&& Int32.toUInt32 31)).toInt32)) &&& 252645135).toUInt32 >>> ((8 : Int32).toUInt32 &&& Int32.toUInt32 31)).toInt32)) + ((((((((x1 - (((x1.toUInt32 >>> ((1 : Int32).toUInt32 &&& Int32.toUInt32 31)).toInt32) &&& 1431655765)) &&& 858993459) + ((((x1 - (((x1.toUInt32 >>> ((1 : Int32).toUInt32 &&& Int32.toUInt32 31)).toInt32) &&& 1431655765)).toUInt32 >>> ((2 : Int32).toUInt32 &&& Int32.toUInt32 31)).toInt32) &&& 858993459)) + (((((x1 - (((x1.toUInt32 >>> ((1 : Int32).toUInt32 &&& Int32.toUInt32 31)).toInt32) &&& 1431655765)) &&& 858993459) + ((((x1 - (((x1.toUInt32 >>> ((1 : Int32).toUInt32 &&& Int32.toUInt32 31)).toInt32) &&& 1431655765)).toUInt32 >>> ((2 : Int32).toUInt32 &&& Int32.toUInt32 31)).toInt32) &&& 858993459)).toUInt32 >>> ((4 : Int32).toUInt32 &&& Int32.toUInt32 31)).toInt32)) &&& 252645135) + (((((((x1 - (((x1.toUInt32 >>> ((1 : Int32).toUInt32 &&& Int32.toUInt32 31)).toInt32) &&& 1431655765)) &&& 858993459) + ((((x1 - (((x1.toUInt32 >>> ((1 : Int32).toUInt32 &&& Int32.toUInt32 31)).toInt32) &&& 1431655765)).toUInt32 >>> ((2 : Int32).toUInt32 &&& Int32.toUInt32 31)).toInt32) &&& 858993459)) + (((((x1 - (((x1.toUInt32 >>> ((1 : Int32).toUInt32 &&& Int32.toUInt32 31)).toInt32) &&& 1431655765)) &&& 858993459) + ((((x1 - (((x1.toUInt32 >>> ((1 : Int32).toUInt32 &&& Int32.toUInt32 31)).toInt32) &&& 1431655765)).toUInt32 >>> ((2 : Int32).toUInt32 &&& Int32.toUInt32 31)).toInt32) &&& 858993459)).toUInt32 >>> ((4 : Int32).toUInt32 &&& Int32.toUInt32 31)).toInt32)) &&& 252645135).toUInt32 >>> ((8 : Int32).toUInt32 &&& Int32.toUInt32 31)).toInt32)).toUInt32 >>> ((16 : Int32).toUInt32 &&& Int32.toUInt32 31)).toInt32)) &&& 63
def f_Arithmetic_resultFlags (u : SS) (x1 : Int32) : Int32 :=
  (((x1 &&& 128) ||| (if x1 = 0 then 64 else 0 : Int32)) ||| (if ((f_JI_bitCount u x1) &&& 1) = 0 then 4 else 0 : Int32)) ||| 2
def f_Arithmetic_sum (u : SS) (x1 : Int32) (x2 : Int32) (x3 : Int32) : Int32 × SS :=
  (((x1 + x2) + x3) &&& 255, (stt u 0 0 (((f_Arithmetic_resultFlags u (((x1 + x2) + x3) &&& 255)) ||| ((((x1 &&& 15) + (x2 &&& 15)) + x3) &&& 16)) ||| (((x1 + x2) + x3) >>> ((8 : Int32) &&& 31)))))
def f_Arithmetic_difference (u : SS) (x1 : Int32) (x2 : Int32) (x3 : Int32) : Int32 × SS :=
  (((x1 - x2) - x3) &&& 255, (stt u 0 0 (((f_Arithmetic_resultFlags u (((x1 - x2) - x3) &&& 255)) ||| (((((x1 &&& 15) + ((x2 ^^^ (-1)) &&& 15)) + 1) - x3) &&& 16)) ||| (if 0 ≤ ((x1 - x2) - x3) then 0 else 1 : Int32))))
def f_Arithmetic_logical (u : SS) (x1 : Int32) (x2 : Int32) : Int32 × SS :=
  (x1, (stt u 0 0 ((f_Arithmetic_resultFlags u x1) ||| x2)))
def f_Arithmetic_operate (u : SS) (x1 : Int32) (x2 : Int32) : SS :=
  if x1 = 0 then
    (stt ((f_Arithmetic_sum u (u 2 7) x2 0).2) 2 7 ((f_Arithmetic_sum u (u 2 7) x2 0).1))
  else
    if x1 = 1 then
      (stt ((f_Arithmetic_sum u (u 2 7) x2 (f_Arithmetic_carry u)).2) 2 7 ((f_Arithmetic_sum u (u 2 7) x2 (f_Arithmetic_carry u)).1))
    else
      if x1 = 2 then
        (stt ((f_Arithmetic_difference u (u 2 7) x2 0).2) 2 7 ((f_Arithmetic_difference u (u 2 7) x2 0).1))
      else
        if x1 = 3 then
          (stt ((f_Arithmetic_difference u (u 2 7) x2 (f_Arithmetic_carry u)).2) 2 7 ((f_Arithmetic_difference u (u 2 7) x2 (f_Arithmetic_carry u)).1))
        else
          if x1 = 4 then
            (stt ((f_Arithmetic_logical u ((u 2 7) &&& x2) ((((u 2 7) ||| x2) &&& 8) * 2)).2) 2 7 ((f_Arithmetic_logical u ((u 2 7) &&& x2) ((((u 2 7) ||| x2) &&& 8) * 2)).1))
          else
            if x1 = 5 then
              (stt ((f_Arithmetic_logical u ((u 2 7) ^^^ x2) 0).2) 2 7 ((f_Arithmetic_logical u ((u 2 7) ^^^ x2) 0).1))
            else
              if x1 = 6 then
                (stt ((f_Arithmetic_logical u ((u 2 7) ||| x2) 0).2) 2 7 ((f_Arithmetic_logical u ((u 2 7) ||| x2) 0).1))
              else
                ((f_Arithmetic_difference u (u 2 7) x2 0).2)
def f_Arithmetic_oneMore (u : SS) (x1 : Int32) : Int32 × SS :=
  ((x1 + 1) &&& 255, (stt u 0 0 (((f_Arithmetic_resultFlags u ((x1 + 1) &&& 255)) ||| (((x1 &&& 15) + 1) &&& 16)) ||| (f_Arithmetic_carry u))))
def f_Arithmetic_oneLess (u : SS) (x1 : Int32) : Int32 × SS :=
  ((x1 - 1) &&& 255, (stt u 0 0 (((f_Arithmetic_resultFlags u ((x1 - 1) &&& 255)) ||| (if (x1 &&& 15) = 0 then 0 else 16 : Int32)) ||| (f_Arithmetic_carry u))))
def f_Arithmetic_growHL (u : SS) (x1 : Int32) : SS :=
  (f_Arithmetic_setCarry (stt (stt u 2 4 ((((((u 2 4) <<< ((8 : Int32) &&& 31)) ||| (u 2 5)) + x1) >>> ((8 : Int32) &&& 31)) &&& 255)) 2 5 (((((u 2 4) <<< ((8 : Int32) &&& 31)) ||| (u 2 5)) + x1) &&& 255)) (((((u 2 4) <<< ((8 : Int32) &&& 31)) ||| (u 2 5)) + x1) >>> ((16 : Int32) &&& 31)))
def g_Arithmetic_adjust_60 (u : SS) (v1 : Int32) (v2 : Int32) (v3 : Int32) : SS :=
  (stt (stt u 2 7 ((v1 + v3) &&& 255)) 0 0 (((f_Arithmetic_resultFlags (stt u 2 7 ((v1 + v3) &&& 255)) ((v1 + v3) &&& 255)) ||| (((v1 &&& 15) + (v3 &&& 15)) &&& 16)) ||| v2))
def g_Arithmetic_adjust_43 (u : SS) (v1 : Int32) (v2 : Int32) (v3 : Int32) : SS :=
  if 153 < v1 then
    g_Arithmetic_adjust_60 u v1 1 (v3 + 96)
  else
    if v2 = 1 then
      g_Arithmetic_adjust_60 u v1 1 (v3 + 96)
    else
      g_Arithmetic_adjust_60 u v1 v2 v3
def f_Arithmetic_adjust (u : SS) : SS :=
  if 9 < ((u 2 7) &&& 15) then
    g_Arithmetic_adjust_43 u (u 2 7) (f_Arithmetic_carry u) 6
  else
    if ((u 0 0) &&& 16) = 0 then
      g_Arithmetic_adjust_43 u (u 2 7) (f_Arithmetic_carry u) 0
    else
      g_Arithmetic_adjust_43 u (u 2 7) (f_Arithmetic_carry u) 6
def f_Arithmetic_turnTo (u : SS) (x1 : Int32) (x2 : Int32) : SS :=
  (f_Arithmetic_setCarry (stt u 2 7 (x1 &&& 255)) x2)
def f_Arithmetic_turn (u : SS) (x1 : Int32) : SS :=
  if x1 = 0 then
    (f_Arithmetic_turnTo u (((u 2 7) <<< ((1 : Int32) &&& 31)) ||| ((u 2 7) >>> ((7 : Int32) &&& 31))) ((u 2 7) >>> ((7 : Int32) &&& 31)))
  else
    if x1 = 1 then
      (f_Arithmetic_turnTo u (((u 2 7) >>> ((1 : Int32) &&& 31)) ||| ((u 2 7) <<< ((7 : Int32) &&& 31))) (u 2 7))
    else
      if x1 = 2 then
        (f_Arithmetic_turnTo u (((u 2 7) <<< ((1 : Int32) &&& 31)) ||| (f_Arithmetic_carry u)) ((u 2 7) >>> ((7 : Int32) &&& 31)))
      else
        if x1 = 3 then
          (f_Arithmetic_turnTo u (((u 2 7) >>> ((1 : Int32) &&& 31)) ||| ((f_Arithmetic_carry u) <<< ((7 : Int32) &&& 31))) (u 2 7))
        else
          if x1 = 4 then
            u
          else
            if x1 = 5 then
              (stt u 2 7 ((u 2 7) ^^^ 255))
            else
              if x1 = 6 then
                (f_Arithmetic_setCarry u 1)
              else
                if x1 = 7 then
                  (f_Arithmetic_setCarry u ((f_Arithmetic_carry u) ^^^ 1))
                else
                  u
def f_Clock_reset (u : SS) : SS :=
  (stt (stt (stt (stt (stt (stt (stt u 0 2 0) 0 7 0) 0 8 0) 0 9 0) 0 3 0) 0 5 0) 0 6 0)
def g_Clock_endFrame_51 (u : SS) : SS :=
  if ((u 0 9) + 1) < 4 then
    (stt u 0 9 ((u 0 9) + 1))
  else
    (f_Clock_reset (stt u 0 9 ((u 0 9) + 1)))
def f_Clock_endFrame (u : SS) : SS :=
  if (u 0 12) ≤ 0 then
    g_Clock_endFrame_51 (stt (stt u 0 10 ((u 0 10) - 2560)) 0 11 ((u 0 11) + 1))
  else
    g_Clock_endFrame_51 (stt (stt (stt u 0 10 ((u 0 10) - 2560)) 0 11 ((u 0 11) + 1)) 0 12 ((u 0 12) - 1))
def g_Clock_pass_74 (u : SS) : SS :=
  if (u 0 10) < 2560 then
    u
  else
    (f_Clock_endFrame u)
def g_Clock_pass_46 (u : SS) (v2 : Int32) : SS :=
  if 2048 ≤ v2 then
    g_Clock_pass_74 u
  else
    if (u 0 10) < 2048 then
      g_Clock_pass_74 u
    else
      g_Clock_pass_74 (stt u 0 6 2)
def f_Clock_pass (u : SS) (x1 : Int32) : SS :=
  if 1024 ≤ (u 0 10) then
    g_Clock_pass_46 (stt u 0 10 ((u 0 10) + x1)) (u 0 10)
  else
    if ((u 0 10) + x1) < 1024 then
      g_Clock_pass_46 (stt u 0 10 ((u 0 10) + x1)) (u 0 10)
    else
      g_Clock_pass_46 (stt (stt u 0 10 ((u 0 10) + x1)) 0 6 1) (u 0 10)
def f_Ports_setSwitches (u : SS) (x1 : Int32) (x2 : Int32) : Int32 × SS :=
  if x1 = 0 then
    (1, (stt u 0 15 (x2 &&& 255)))
  else
    if x1 = 1 then
      (1, (stt u 0 16 (x2 &&& 254)))
    else
      (0, u)
def f_Ports_in (u : SS) (x1 : Int32) : Int32 :=
  if x1 = 0 then
    u 0 15
  else
    if x1 = 1 then
      (if (u 0 12) ≤ 0 then (u 0 16) else ((u 0 16) + 1) : Int32)
    else
      if x1 = 2 then
        0
      else
        if x1 = 3 then
          (((u 0 7) <<< ((u 0 8) &&& 31)) >>> ((8 : Int32) &&& 31)) &&& 255
        else
          0
def g_Sounds_trigger_2 : Nat → SS → Int32 → Int32 → Int32 → SS
  | 0, u, _, _, _ => u
  | k + 1, u, v1, v2, v3 =>
    if 8 ≤ v3 then
      u
    else
      if ((v2 >>> (v3 &&& 31)) &&& 1) = 1 then
        g_Sounds_trigger_2 k (stt (stt u 4 (((u 0 17) &&& 7).toNatClampNeg) ((8 * v1) + v3)) 0 17 ((u 0 17) + 1)) v1 v2 (v3 + 1)
      else
        g_Sounds_trigger_2 k u v1 v2 (v3 + 1)
def f_Sounds_trigger (u : SS) (x1 : Int32) (x2 : Int32) : SS :=
  g_Sounds_trigger_2 9 u x1 x2 0
def f_Ports_out (u : SS) (x1 : Int32) (x2 : Int32) : SS :=
  if x1 = 2 then
    (stt u 0 8 (x2 &&& 7))
  else
    if x1 = 3 then
      (stt (f_Sounds_trigger u 3 (x2 &&& ((u 0 13) ^^^ (-1)))) 0 13 x2)
    else
      if x1 = 4 then
        (stt u 0 7 (((u 0 7) >>> ((8 : Int32) &&& 31)) ||| (x2 <<< ((8 : Int32) &&& 31))))
      else
        if x1 = 5 then
          (stt (f_Sounds_trigger u 5 (x2 &&& ((u 0 14) ^^^ (-1)))) 0 14 x2)
        else
          if x1 = 6 then
            (stt u 0 9 0)
          else
            u
def f_Sounds_count (u : SS) : Int32 :=
  u 0 17
def f_Sounds_latestBut (u : SS) (x1 : Int32) : Int32 :=
  if x1 < 0 then
    (-1)
  else
    if 7 < x1 then
      (-1)
    else
      if x1 < (u 0 17) then
        u 4 (((((u 0 17) - 1) - x1) &&& 7).toNatClampNeg)
      else
        (-1)
def f_Processor_goWithReturn (u : SS) (x1 : Int32) : SS :=
  (stt (f_Memory_push u (u 0 2)) 0 2 x1)
def f_Processor_takeCall (u : SS) : Int32 × SS :=
  (11, (f_Processor_goWithReturn (stt (stt (stt u 0 6 0) 0 3 0) 0 5 0) (8 * (u 0 6))))
def f_Processor_nextByte (u : SS) : Int32 × SS :=
  ((f_Memory_at u (u 0 2)), (stt u 0 2 (((u 0 2) + 1) &&& 65535)))
def f_Processor_nextWord (u : SS) : Int32 × SS :=
  ((f_Memory_at u (u 0 2)) ||| ((f_Memory_at u ((u 0 2) + 1)) <<< ((8 : Int32) &&& 31)), (stt u 0 2 (((u 0 2) + 2) &&& 65535)))
def f_Processor_setOrAddPair (u : SS) (x1 : Int32) : Int32 × SS :=
  if (x1 - x1 / 2 * 2) = 0 then
    (10, (f_Registers_setPair ((f_Processor_nextWord u).2) (x1 / 2) ((f_Processor_nextWord u).1)))
  else
    (10, (f_Arithmetic_growHL u (f_Registers_pair u (x1 / 2))))
def f_Processor_moveByAddress (u : SS) (x1 : Int32) : Int32 × SS :=
  if x1 = 0 then
    (7, (f_Memory_put u (f_Registers_pair u (x1 / 2)) (u 2 7)))
  else
    if x1 = 1 then
      (7, (stt u 2 7 (f_Memory_at u (f_Registers_pair u (x1 / 2)))))
    else
      if x1 = 2 then
        (7, (f_Memory_put u (f_Registers_pair u (x1 / 2)) (u 2 7)))
      else
        if x1 = 3 then
          (7, (stt u 2 7 (f_Memory_at u (f_Registers_pair u (x1 / 2)))))
        else
          if x1 = 4 then
            (16, (f_Memory_putWord ((f_Processor_nextWord u).2) ((f_Processor_nextWord u).1) (f_Registers_pair ((f_Processor_nextWord u).2) 2)))
          else
            if x1 = 5 then
              (16, (f_Registers_setPair ((f_Processor_nextWord u).2) 2 (f_Memory_wordAt ((f_Processor_nextWord u).2) ((f_Processor_nextWord u).1))))
            else
              if x1 = 6 then
                (13, (f_Memory_put ((f_Processor_nextWord u).2) ((f_Processor_nextWord u).1) (((f_Processor_nextWord u).2) 2 7)))
              else
                (13, (stt ((f_Processor_nextWord u).2) 2 7 (f_Memory_at ((f_Processor_nextWord u).2) ((f_Processor_nextWord u).1))))
def f_Processor_operateOnData (u : SS) (x1 : Int32) (x2 : Int32) : Int32 × SS :=
  if x2 = 0 then
    (4, u)
  else
    if x2 = 1 then
      ((f_Processor_setOrAddPair u x1).1, ((f_Processor_setOrAddPair u x1).2))
    else
      if x2 = 2 then
        ((f_Processor_moveByAddress u x1).1, ((f_Processor_moveByAddress u x1).2))
      else
        if x2 = 3 then
          (5, (f_Registers_setPair u (x1 / 2) ((f_Registers_pair u (x1 / 2)) + (if (x1 - x1 / 2 * 2) = 0 then 1 else (-1) : Int32))))
        else
          if x2 = 4 then
            ((if x1 = 6 then 10 else 5 : Int32), (f_Registers_set ((f_Arithmetic_oneMore u (f_Registers_value u x1)).2) x1 ((f_Arithmetic_oneMore u (f_Registers_value u x1)).1)))
          else
            if x2 = 5 then
              ((if x1 = 6 then 10 else 5 : Int32), (f_Registers_set ((f_Arithmetic_oneLess u (f_Registers_value u x1)).2) x1 ((f_Arithmetic_oneLess u (f_Registers_value u x1)).1)))
            else
              if x2 = 6 then
                ((if x1 = 6 then 10 else 7 : Int32), (f_Registers_set ((f_Processor_nextByte u).2) x1 ((f_Processor_nextByte u).1)))
              else
                if x1 = 4 then
                  (4, (f_Arithmetic_adjust u))
                else
                  (4, (f_Arithmetic_turn u x1))
def f_Processor_move (u : SS) (x1 : Int32) (x2 : Int32) : Int32 × SS :=
  if x1 = 6 then
    if x2 = 6 then
      (7, (stt u 0 5 1))
    else
      ((if x1 = 6 then 7 else (if x2 = 6 then 7 else 5 : Int32) : Int32), (f_Registers_set u x1 (f_Registers_value u x2)))
  else
    ((if x1 = 6 then 7 else (if x2 = 6 then 7 else 5 : Int32) : Int32), (f_Registers_set u x1 (f_Registers_value u x2)))
def f_Processor_holds (u : SS) (x1 : Int32) : Int32 :=
  if (x1 / 2) = 0 then
    (if (if ((u 0 0) &&& 64) = 0 then 0 else 1 : Int32) = (if (x1 - x1 / 2 * 2) = 1 then 1 else 0 : Int32) then 1 else 0 : Int32)
  else
    if (x1 / 2) = 1 then
      (if (if ((u 0 0) &&& 1) = 0 then 0 else 1 : Int32) = (if (x1 - x1 / 2 * 2) = 1 then 1 else 0 : Int32) then 1 else 0 : Int32)
    else
      if (x1 / 2) = 2 then
        (if (if ((u 0 0) &&& 4) = 0 then 0 else 1 : Int32) = (if (x1 - x1 / 2 * 2) = 1 then 1 else 0 : Int32) then 1 else 0 : Int32)
      else
        (if (if ((u 0 0) &&& 128) = 0 then 0 else 1 : Int32) = (if (x1 - x1 / 2 * 2) = 1 then 1 else 0 : Int32) then 1 else 0 : Int32)
def f_Processor_returnIf (u : SS) (x1 : Int32) : Int32 × SS :=
  if x1 = 0 then
    (5, u)
  else
    (11, (stt ((f_Memory_pop u).2) 0 2 ((f_Memory_pop u).1)))
def f_Processor_popAAndFlags (u : SS) : SS :=
  (stt (stt ((f_Memory_pop u).2) 2 7 (((f_Memory_pop u).1) >>> ((8 : Int32) &&& 31))) 0 0 ((((f_Memory_pop u).1) &&& 213) ||| 2))
def f_Processor_popOrGo (u : SS) (x1 : Int32) : Int32 × SS :=
  if x1 = 1 then
    (10, (stt ((f_Memory_pop u).2) 0 2 ((f_Memory_pop u).1)))
  else
    if x1 = 2 then
      (10, (f_Registers_setPair ((f_Memory_pop u).2) (x1 / 2) ((f_Memory_pop u).1)))
    else
      if x1 = 3 then
        (10, (stt ((f_Memory_pop u).2) 0 2 ((f_Memory_pop u).1)))
      else
        if x1 = 4 then
          (10, (f_Registers_setPair ((f_Memory_pop u).2) (x1 / 2) ((f_Memory_pop u).1)))
        else
          if x1 = 5 then
            (5, (stt u 0 2 (f_Registers_pair u 2)))
          else
            if x1 = 6 then
              (10, (f_Processor_popAAndFlags u))
            else
              if x1 = 7 then
                (5, (stt u 0 1 (f_Registers_pair u 2)))
              else
                (10, (f_Registers_setPair ((f_Memory_pop u).2) (x1 / 2) ((f_Memory_pop u).1)))
def f_Processor_goIf (u : SS) (x1 : Int32) : Int32 × SS :=
  if x1 = 0 then
    (10, ((f_Processor_nextWord u).2))
  else
    (10, (stt ((f_Processor_nextWord u).2) 0 2 ((f_Processor_nextWord u).1)))
def f_Processor_goOrExchange (u : SS) (x1 : Int32) : Int32 × SS :=
  if x1 = 2 then
    (10, (f_Ports_out ((f_Processor_nextByte u).2) ((f_Processor_nextByte u).1) (((f_Processor_nextByte u).2) 2 7)))
  else
    if x1 = 3 then
      (10, (stt ((f_Processor_nextByte u).2) 2 7 (f_Ports_in ((f_Processor_nextByte u).2) ((f_Processor_nextByte u).1))))
    else
      if x1 = 4 then
        (18, (f_Registers_setPair (f_Memory_putWord u (u 0 1) (f_Registers_pair u 2)) 2 (f_Memory_wordAt u (u 0 1))))
      else
        if x1 = 5 then
          (5, (f_Registers_setPair (f_Registers_setPair u 1 (f_Registers_pair u 2)) 2 (f_Registers_pair u 1)))
        else
          if x1 = 6 then
            (4, (stt u 0 3 0))
          else
            if x1 = 7 then
              (4, (stt u 0 3 1))
            else
              (10, (stt ((f_Processor_nextWord u).2) 0 2 ((f_Processor_nextWord u).1)))
def f_Processor_goWithReturnIf (u : SS) (x1 : Int32) : Int32 × SS :=
  if x1 = 0 then
    (11, ((f_Processor_nextWord u).2))
  else
    (17, (stt (f_Memory_push ((f_Processor_nextWord u).2) (((f_Processor_nextWord u).2) 0 2)) 0 2 ((f_Processor_nextWord u).1)))
def f_Processor_pushPair (u : SS) (x1 : Int32) : Int32 × SS :=
  if x1 = 3 then
    (11, (f_Memory_push u (((u 2 7) <<< ((8 : Int32) &&& 31)) ||| (u 0 0))))
  else
    (11, (f_Memory_push u (f_Registers_pair u x1)))
def f_Processor_operateOnFlow (u : SS) (x1 : Int32) (x2 : Int32) : Int32 × SS :=
  if x2 = 0 then
    ((f_Processor_returnIf u (f_Processor_holds u x1)).1, ((f_Processor_returnIf u (f_Processor_holds u x1)).2))
  else
    if x2 = 1 then
      ((f_Processor_popOrGo u x1).1, ((f_Processor_popOrGo u x1).2))
    else
      if x2 = 2 then
        ((f_Processor_goIf u (f_Processor_holds u x1)).1, ((f_Processor_goIf u (f_Processor_holds u x1)).2))
      else
        if x2 = 3 then
          ((f_Processor_goOrExchange u x1).1, ((f_Processor_goOrExchange u x1).2))
        else
          if x2 = 4 then
            ((f_Processor_goWithReturnIf u (f_Processor_holds u x1)).1, ((f_Processor_goWithReturnIf u (f_Processor_holds u x1)).2))
          else
            if x2 = 5 then
              if (x1 - x1 / 2 * 2) = 0 then
                ((f_Processor_pushPair u (x1 / 2)).1, ((f_Processor_pushPair u (x1 / 2)).2))
              else
                ((f_Processor_goWithReturnIf u 1).1, ((f_Processor_goWithReturnIf u 1).2))
            else
              (11, (f_Processor_goWithReturn u (8 * x1)))
def f_Processor_operate (u : SS) (x1 : Int32) : Int32 × SS :=
  if (x1 >>> ((6 : Int32) &&& 31)) = 0 then
    ((f_Processor_operateOnData u ((x1 >>> ((3 : Int32) &&& 31)) &&& 7) (x1 &&& 7)).1, ((f_Processor_operateOnData u ((x1 >>> ((3 : Int32) &&& 31)) &&& 7) (x1 &&& 7)).2))
  else
    if (x1 >>> ((6 : Int32) &&& 31)) = 1 then
      ((f_Processor_move u ((x1 >>> ((3 : Int32) &&& 31)) &&& 7) (x1 &&& 7)).1, ((f_Processor_move u ((x1 >>> ((3 : Int32) &&& 31)) &&& 7) (x1 &&& 7)).2))
    else
      if (x1 >>> ((6 : Int32) &&& 31)) = 2 then
        ((if (x1 &&& 7) = 6 then 7 else 4 : Int32), (f_Arithmetic_operate u ((x1 >>> ((3 : Int32) &&& 31)) &&& 7) (f_Registers_value u (x1 &&& 7))))
      else
        if (x1 &&& 7) = 6 then
          (7, (f_Arithmetic_operate ((f_Processor_nextByte u).2) ((x1 >>> ((3 : Int32) &&& 31)) &&& 7) ((f_Processor_nextByte u).1)))
        else
          ((f_Processor_operateOnFlow u ((x1 >>> ((3 : Int32) &&& 31)) &&& 7) (x1 &&& 7)).1, ((f_Processor_operateOnFlow u ((x1 >>> ((3 : Int32) &&& 31)) &&& 7) (x1 &&& 7)).2))
def g_Processor_step_70 (u : SS) (v1 : Int32) (v2 : Int32) : Int32 × SS :=
  (v2, (f_Clock_pass (stt u 0 4 (if (u 0 3) = 0 then 0 else (if v1 = 0 then 1 else 0 : Int32) : Int32)) v2))
def f_Processor_step (u : SS) : Int32 × SS :=
  if (u 0 3) = 0 then
    if (u 0 5) = 0 then
      g_Processor_step_70 ((f_Processor_operate ((f_Processor_nextByte u).2) ((f_Processor_nextByte u).1)).2) (u 0 3) ((f_Processor_operate ((f_Processor_nextByte u).2) ((f_Processor_nextByte u).1)).1)
    else
      g_Processor_step_70 u (u 0 3) 4
  else
    if (u 0 4) = 0 then
      if (u 0 6) = 0 then
        if (u 0 5) = 0 then
          g_Processor_step_70 ((f_Processor_operate ((f_Processor_nextByte u).2) ((f_Processor_nextByte u).1)).2) (u 0 3) ((f_Processor_operate ((f_Processor_nextByte u).2) ((f_Processor_nextByte u).1)).1)
        else
          g_Processor_step_70 u (u 0 3) 4
      else
        g_Processor_step_70 ((f_Processor_takeCall u).2) (u 0 3) ((f_Processor_takeCall u).1)
    else
      if (u 0 5) = 0 then
        g_Processor_step_70 ((f_Processor_operate ((f_Processor_nextByte u).2) ((f_Processor_nextByte u).1)).2) (u 0 3) ((f_Processor_operate ((f_Processor_nextByte u).2) ((f_Processor_nextByte u).1)).1)
      else
        g_Processor_step_70 u (u 0 3) 4
def f_MD_thrown (u : SS) : Int32 :=
  u 0 0
def f_MD_read (u : SS) (x1 : Int32) : Int32 :=
  u 1 ((x1 &&& 1023).toNatClampNeg)
def f_MD_write (u : SS) (x1 : Int32) (x2 : Int32) : SS :=
  (stt u 1 ((x1 &&& 1023).toNatClampNeg) (if 512 ≤ (x1 &&& 1023) then (x2 &&& 255) else (u 1 ((x1 &&& 1023).toNatClampNeg)) : Int32))
def f_MD_next (u : SS) : Int32 × SS :=
  ((f_MD_read u (u 0 10)), (stt u 0 10 (((u 0 10) + 1) &&& 65535)))
def f_MD_nextWord (u : SS) : Int32 × SS :=
  (((f_MD_next u).1) + (256 * ((f_MD_next ((f_MD_next u).2)).1)), ((f_MD_next ((f_MD_next u).2)).2))
def f_MD_pair (u : SS) (x1 : Int32) : Int32 :=
  (if x1 = 3 then (u 0 9) else ((256 * (u 2 ((2 * x1).toNatClampNeg))) + (u 2 (((2 * x1) + 1).toNatClampNeg))) : Int32)
def f_MD_setPair (u : SS) (x1 : Int32) (x2 : Int32) : SS :=
  if x1 = 3 then
    (stt u 0 9 (x2 &&& 65535))
  else
    (stt (stt u 2 ((2 * x1).toNatClampNeg) ((x2 &&& 65535) / 256)) 2 (((2 * x1) + 1).toNatClampNeg) ((x2 &&& 65535) - (x2 &&& 65535) / 256 * 256))
def f_MD_get (u : SS) (x1 : Int32) : Int32 :=
  if x1 = 6 then
    (f_MD_read u (f_MD_pair u 2))
  else
    u 2 ((x1).toNatClampNeg)
def f_MD_set (u : SS) (x1 : Int32) (x2 : Int32) : SS :=
  if x1 = 6 then
    (f_MD_write u (f_MD_pair u 2) x2)
  else
    (stt u 2 ((x1).toNatClampNeg) (x2 &&& 255))
def f_MD_push (u : SS) (x1 : Int32) : SS :=
  (stt (f_MD_write (f_MD_write u ((u 0 9) - 1) (x1 / 256)) (((f_MD_write u ((u 0 9) - 1) (x1 / 256)) 0 9) - 2) (x1 - x1 / 256 * 256)) 0 9 ((((f_MD_write (f_MD_write u ((u 0 9) - 1) (x1 / 256)) (((f_MD_write u ((u 0 9) - 1) (x1 / 256)) 0 9) - 2) (x1 - x1 / 256 * 256)) 0 9) - 2) &&& 65535))
def f_MD_pop (u : SS) : Int32 × SS :=
  ((f_MD_read u (u 0 9)) + (256 * (f_MD_read u ((u 0 9) + 1))), (stt u 0 9 (((u 0 9) + 2) &&& 65535)))
def f_MD_flags (u : SS) : Int32 :=
  (((((if (u 0 4) = 0 then 0 else 128 : Int32) + (if (u 0 5) = 0 then 0 else 64 : Int32)) + (if (u 0 6) = 0 then 0 else 16 : Int32)) + (if (u 0 7) = 0 then 0 else 4 : Int32)) + 2) + (if (u 0 8) = 0 then 0 else 1 : Int32)
def f_MD_setFlags (u : SS) (x1 : Int32) : SS :=
  (stt (stt (stt (stt (stt u 0 4 (if (x1 &&& 128) = 0 then 0 else 1 : Int32)) 0 5 (if (x1 &&& 64) = 0 then 0 else 1 : Int32)) 0 6 (if (x1 &&& 16) = 0 then 0 else 1 : Int32)) 0 7 (if (x1 &&& 4) = 0 then 0 else 1 : Int32)) 0 8 (if (x1 &&& 1) = 0 then 0 else 1 : Int32))
def g_MD_result_39 : Nat → SS → Int32 → Int32 → Int32 → Int32 × SS
  | 0, u, _, _, _ => (0, u)
  | k + 1, u, v2, v3, v4 =>
    if 8 ≤ v4 then
      (v2, (stt u 0 7 (if (v3 - v3 / 2 * 2) = 0 then 1 else 0 : Int32)))
    else
      g_MD_result_39 k u v2 (v3 + ((v2 >>> (v4 &&& 31)) &&& 1)) (v4 + 1)
def f_MD_result (u : SS) (x1 : Int32) : Int32 × SS :=
  g_MD_result_39 9 (stt (stt u 0 4 (if (x1 &&& 255) ≤ 127 then 0 else 1 : Int32)) 0 5 (if (x1 &&& 255) = 0 then 1 else 0 : Int32)) (x1 &&& 255) 0 0
def f_MD_holds (u : SS) (x1 : Int32) : Int32 :=
  (if (if 2 ≤ x1 then (if 4 ≤ x1 then (if 6 ≤ x1 then (u 0 4) else (u 0 7) : Int32) else (u 0 8) : Int32) else (u 0 5) : Int32) = (if (x1 - x1 / 2 * 2) = 1 then 1 else 0 : Int32) then 1 else 0 : Int32)
def f_MD_operate (u : SS) (x1 : Int32) (x2 : Int32) : SS :=
  if 2 ≤ x1 then
    if x1 < 4 then
      (stt ((f_MD_result (stt (stt u 0 8 (if 0 ≤ (((u 2 7) - x2) - (if (u 0 8) = 0 then 0 else (if x1 = 1 then 1 else (if x1 = 3 then 1 else 0 : Int32) : Int32) : Int32)) then 0 else 1 : Int32)) 0 6 (if (((((u 2 7) - (u 2 7) / 16 * 16) + (15 - (x2 - x2 / 16 * 16))) + 1) - (if (u 0 8) = 0 then 0 else (if x1 = 1 then 1 else (if x1 = 3 then 1 else 0 : Int32) : Int32) : Int32)) ≤ 15 then 0 else 1 : Int32)) (((u 2 7) - x2) - (if (u 0 8) = 0 then 0 else (if x1 = 1 then 1 else (if x1 = 3 then 1 else 0 : Int32) : Int32) : Int32))).2) 2 7 (if x1 = 7 then (u 2 7) else ((f_MD_result (stt (stt u 0 8 (if 0 ≤ (((u 2 7) - x2) - (if (u 0 8) = 0 then 0 else (if x1 = 1 then 1 else (if x1 = 3 then 1 else 0 : Int32) : Int32) : Int32)) then 0 else 1 : Int32)) 0 6 (if (((((u 2 7) - (u 2 7) / 16 * 16) + (15 - (x2 - x2 / 16 * 16))) + 1) - (if (u 0 8) = 0 then 0 else (if x1 = 1 then 1 else (if x1 = 3 then 1 else 0 : Int32) : Int32) : Int32)) ≤ 15 then 0 else 1 : Int32)) (((u 2 7) - x2) - (if (u 0 8) = 0 then 0 else (if x1 = 1 then 1 else (if x1 = 3 then 1 else 0 : Int32) : Int32) : Int32))).1) : Int32))
    else
      if x1 = 7 then
        (stt ((f_MD_result (stt (stt u 0 8 (if 0 ≤ (((u 2 7) - x2) - (if (u 0 8) = 0 then 0 else (if x1 = 1 then 1 else (if x1 = 3 then 1 else 0 : Int32) : Int32) : Int32)) then 0 else 1 : Int32)) 0 6 (if (((((u 2 7) - (u 2 7) / 16 * 16) + (15 - (x2 - x2 / 16 * 16))) + 1) - (if (u 0 8) = 0 then 0 else (if x1 = 1 then 1 else (if x1 = 3 then 1 else 0 : Int32) : Int32) : Int32)) ≤ 15 then 0 else 1 : Int32)) (((u 2 7) - x2) - (if (u 0 8) = 0 then 0 else (if x1 = 1 then 1 else (if x1 = 3 then 1 else 0 : Int32) : Int32) : Int32))).2) 2 7 (if x1 = 7 then (u 2 7) else ((f_MD_result (stt (stt u 0 8 (if 0 ≤ (((u 2 7) - x2) - (if (u 0 8) = 0 then 0 else (if x1 = 1 then 1 else (if x1 = 3 then 1 else 0 : Int32) : Int32) : Int32)) then 0 else 1 : Int32)) 0 6 (if (((((u 2 7) - (u 2 7) / 16 * 16) + (15 - (x2 - x2 / 16 * 16))) + 1) - (if (u 0 8) = 0 then 0 else (if x1 = 1 then 1 else (if x1 = 3 then 1 else 0 : Int32) : Int32) : Int32)) ≤ 15 then 0 else 1 : Int32)) (((u 2 7) - x2) - (if (u 0 8) = 0 then 0 else (if x1 = 1 then 1 else (if x1 = 3 then 1 else 0 : Int32) : Int32) : Int32))).1) : Int32))
      else
        (stt ((f_MD_result (stt (stt u 0 8 0) 0 6 (if x1 = 4 then (if (((u 2 7) ||| x2) &&& 8) = 0 then 0 else 1 : Int32) else 0 : Int32)) (if x1 = 4 then ((u 2 7) &&& x2) else (if x1 = 5 then ((u 2 7) ^^^ x2) else ((u 2 7) ||| x2) : Int32) : Int32)).2) 2 7 ((f_MD_result (stt (stt u 0 8 0) 0 6 (if x1 = 4 then (if (((u 2 7) ||| x2) &&& 8) = 0 then 0 else 1 : Int32) else 0 : Int32)) (if x1 = 4 then ((u 2 7) &&& x2) else (if x1 = 5 then ((u 2 7) ^^^ x2) else ((u 2 7) ||| x2) : Int32) : Int32)).1))
  else
    (stt ((f_MD_result (stt (stt u 0 8 (if (((u 2 7) + x2) + (if (u 0 8) = 0 then 0 else (if x1 = 1 then 1 else (if x1 = 3 then 1 else 0 : Int32) : Int32) : Int32)) ≤ 255 then 0 else 1 : Int32)) 0 6 (if ((((u 2 7) - (u 2 7) / 16 * 16) + (x2 - x2 / 16 * 16)) + (if (u 0 8) = 0 then 0 else (if x1 = 1 then 1 else (if x1 = 3 then 1 else 0 : Int32) : Int32) : Int32)) ≤ 15 then 0 else 1 : Int32)) (((u 2 7) + x2) + (if (u 0 8) = 0 then 0 else (if x1 = 1 then 1 else (if x1 = 3 then 1 else 0 : Int32) : Int32) : Int32))).2) 2 7 ((f_MD_result (stt (stt u 0 8 (if (((u 2 7) + x2) + (if (u 0 8) = 0 then 0 else (if x1 = 1 then 1 else (if x1 = 3 then 1 else 0 : Int32) : Int32) : Int32)) ≤ 255 then 0 else 1 : Int32)) 0 6 (if ((((u 2 7) - (u 2 7) / 16 * 16) + (x2 - x2 / 16 * 16)) + (if (u 0 8) = 0 then 0 else (if x1 = 1 then 1 else (if x1 = 3 then 1 else 0 : Int32) : Int32) : Int32)) ≤ 15 then 0 else 1 : Int32)) (((u 2 7) + x2) + (if (u 0 8) = 0 then 0 else (if x1 = 1 then 1 else (if x1 = 3 then 1 else 0 : Int32) : Int32) : Int32))).1))
def f_MD_turnA (u : SS) (x1 : Int32) : SS :=
  if x1 = 0 then
    (stt (stt u 2 7 (((2 * (u 2 7)) - (2 * (u 2 7)) / 256 * 256) + ((u 2 7) >>> ((7 : Int32) &&& 31)))) 0 8 (if ((u 2 7) >>> ((7 : Int32) &&& 31)) = 1 then 1 else 0 : Int32))
  else
    if x1 = 1 then
      (stt (stt u 2 7 (((u 2 7) / 2) + (128 * ((u 2 7) &&& 1)))) 0 8 (if ((u 2 7) &&& 1) = 1 then 1 else 0 : Int32))
    else
      if x1 = 2 then
        (stt (stt u 2 7 (((2 * (u 2 7)) - (2 * (u 2 7)) / 256 * 256) + (if (u 0 8) = 0 then 0 else 1 : Int32))) 0 8 (if ((u 2 7) >>> ((7 : Int32) &&& 31)) = 1 then 1 else 0 : Int32))
      else
        if x1 = 3 then
          (stt (stt u 2 7 (((u 2 7) / 2) + (128 * (if (u 0 8) = 0 then 0 else 1 : Int32)))) 0 8 (if ((u 2 7) &&& 1) = 1 then 1 else 0 : Int32))
        else
          if x1 = 4 then
            (stt ((f_MD_result (stt (stt u 0 8 (if (u 0 8) = 0 then (if (if 153 < (u 2 7) then 1 else (if (u 0 8) = 0 then 0 else 1 : Int32) : Int32) = 0 then 0 else 1 : Int32) else 1 : Int32)) 0 6 (if (((u 2 7) - (u 2 7) / 16 * 16) + ((if (if 153 < (u 2 7) then 1 else (if (u 0 8) = 0 then 0 else 1 : Int32) : Int32) = 0 then (if 9 < ((u 2 7) - (u 2 7) / 16 * 16) then 6 else (if (u 0 6) = 0 then 0 else 6 : Int32) : Int32) else ((if 9 < ((u 2 7) - (u 2 7) / 16 * 16) then 6 else (if (u 0 6) = 0 then 0 else 6 : Int32) : Int32) + 96) : Int32) - (if (if 153 < (u 2 7) then 1 else (if (u 0 8) = 0 then 0 else 1 : Int32) : Int32) = 0 then (if 9 < ((u 2 7) - (u 2 7) / 16 * 16) then 6 else (if (u 0 6) = 0 then 0 else 6 : Int32) : Int32) else ((if 9 < ((u 2 7) - (u 2 7) / 16 * 16) then 6 else (if (u 0 6) = 0 then 0 else 6 : Int32) : Int32) + 96) : Int32) / 16 * 16)) ≤ 15 then 0 else 1 : Int32)) ((u 2 7) + (if (if 153 < (u 2 7) then 1 else (if (u 0 8) = 0 then 0 else 1 : Int32) : Int32) = 0 then (if 9 < ((u 2 7) - (u 2 7) / 16 * 16) then 6 else (if (u 0 6) = 0 then 0 else 6 : Int32) : Int32) else ((if 9 < ((u 2 7) - (u 2 7) / 16 * 16) then 6 else (if (u 0 6) = 0 then 0 else 6 : Int32) : Int32) + 96) : Int32))).2) 2 7 ((f_MD_result (stt (stt u 0 8 (if (u 0 8) = 0 then (if (if 153 < (u 2 7) then 1 else (if (u 0 8) = 0 then 0 else 1 : Int32) : Int32) = 0 then 0 else 1 : Int32) else 1 : Int32)) 0 6 (if (((u 2 7) - (u 2 7) / 16 * 16) + ((if (if 153 < (u 2 7) then 1 else (if (u 0 8) = 0 then 0 else 1 : Int32) : Int32) = 0 then (if 9 < ((u 2 7) - (u 2 7) / 16 * 16) then 6 else (if (u 0 6) = 0 then 0 else 6 : Int32) : Int32) else ((if 9 < ((u 2 7) - (u 2 7) / 16 * 16) then 6 else (if (u 0 6) = 0 then 0 else 6 : Int32) : Int32) + 96) : Int32) - (if (if 153 < (u 2 7) then 1 else (if (u 0 8) = 0 then 0 else 1 : Int32) : Int32) = 0 then (if 9 < ((u 2 7) - (u 2 7) / 16 * 16) then 6 else (if (u 0 6) = 0 then 0 else 6 : Int32) : Int32) else ((if 9 < ((u 2 7) - (u 2 7) / 16 * 16) then 6 else (if (u 0 6) = 0 then 0 else 6 : Int32) : Int32) + 96) : Int32) / 16 * 16)) ≤ 15 then 0 else 1 : Int32)) ((u 2 7) + (if (if 153 < (u 2 7) then 1 else (if (u 0 8) = 0 then 0 else 1 : Int32) : Int32) = 0 then (if 9 < ((u 2 7) - (u 2 7) / 16 * 16) then 6 else (if (u 0 6) = 0 then 0 else 6 : Int32) : Int32) else ((if 9 < ((u 2 7) - (u 2 7) / 16 * 16) then 6 else (if (u 0 6) = 0 then 0 else 6 : Int32) : Int32) + 96) : Int32))).1))
          else
            if x1 = 5 then
              (stt u 2 7 (255 - (u 2 7)))
            else
              (stt u 0 8 (if x1 = 6 then 1 else (if (u 0 8) = 0 then 1 else 0 : Int32) : Int32))
def f_MD_carry (u : SS) (x1 : Int32) : SS :=
  if 4 ≤ x1 then
    if x1 = 4 then
      (f_MD_write (f_MD_write (stt ((f_MD_nextWord u).2) 0 24 (if 6 ≤ x1 then 13 else 16 : Int32)) ((f_MD_nextWord u).1) (((f_MD_nextWord u).2) 2 5)) (((f_MD_nextWord u).1) + 1) ((f_MD_write (stt ((f_MD_nextWord u).2) 0 24 (if 6 ≤ x1 then 13 else 16 : Int32)) ((f_MD_nextWord u).1) (((f_MD_nextWord u).2) 2 5)) 2 4))
    else
      if x1 = 5 then
        (stt (stt (stt ((f_MD_nextWord u).2) 0 24 (if 6 ≤ x1 then 13 else 16 : Int32)) 2 4 (f_MD_read (stt ((f_MD_nextWord u).2) 0 24 (if 6 ≤ x1 then 13 else 16 : Int32)) (((f_MD_nextWord u).1) + 1))) 2 5 (f_MD_read (stt ((f_MD_nextWord u).2) 0 24 (if 6 ≤ x1 then 13 else 16 : Int32)) ((f_MD_nextWord u).1)))
      else
        if x1 = 6 then
          (f_MD_write (stt ((f_MD_nextWord u).2) 0 24 (if 6 ≤ x1 then 13 else 16 : Int32)) ((f_MD_nextWord u).1) (((f_MD_nextWord u).2) 2 7))
        else
          (stt (stt ((f_MD_nextWord u).2) 0 24 (if 6 ≤ x1 then 13 else 16 : Int32)) 2 7 (f_MD_read (stt ((f_MD_nextWord u).2) 0 24 (if 6 ≤ x1 then 13 else 16 : Int32)) ((f_MD_nextWord u).1)))
  else
    if (x1 - x1 / 2 * 2) = 0 then
      (f_MD_write (stt u 0 24 7) (f_MD_pair (stt u 0 24 7) (x1 / 2)) (u 2 7))
    else
      (stt (stt u 0 24 7) 2 7 (f_MD_read (stt u 0 24 7) (f_MD_pair (stt u 0 24 7) (x1 / 2))))
def f_MD_lowOperation (u : SS) (x1 : Int32) (x2 : Int32) : SS :=
  if x2 = 0 then
    (stt u 0 24 4)
  else
    if x2 = 1 then
      if (x1 - x1 / 2 * 2) = 0 then
        (f_MD_setPair ((f_MD_nextWord (stt u 0 24 10)).2) (x1 / 2) ((f_MD_nextWord (stt u 0 24 10)).1))
      else
        (f_MD_setPair (stt (stt u 0 24 10) 0 8 (if ((f_MD_pair (stt u 0 24 10) 2) + (f_MD_pair (stt u 0 24 10) (x1 / 2))) ≤ 65535 then 0 else 1 : Int32)) 2 ((f_MD_pair (stt u 0 24 10) 2) + (f_MD_pair (stt u 0 24 10) (x1 / 2))))
    else
      if x2 = 2 then
        (f_MD_carry u x1)
      else
        if x2 = 3 then
          (f_MD_setPair (stt u 0 24 5) (x1 / 2) ((f_MD_pair (stt u 0 24 5) (x1 / 2)) + (if (x1 - x1 / 2 * 2) = 0 then 1 else (-1) : Int32)))
        else
          if 6 ≤ x2 then
            if x2 = 6 then
              (f_MD_set ((f_MD_next (stt u 0 24 (if x1 = 6 then 10 else 7 : Int32))).2) x1 ((f_MD_next (stt u 0 24 (if x1 = 6 then 10 else 7 : Int32))).1))
            else
              (f_MD_turnA (stt u 0 24 4) x1)
          else
            (f_MD_set ((f_MD_result (stt (stt u 0 24 (if x1 = 6 then 10 else 5 : Int32)) 0 6 (if x2 = 4 then (if ((f_MD_get (stt u 0 24 (if x1 = 6 then 10 else 5 : Int32)) x1) - (f_MD_get (stt u 0 24 (if x1 = 6 then 10 else 5 : Int32)) x1) / 16 * 16) = 15 then 1 else 0 : Int32) else (if ((f_MD_get (stt u 0 24 (if x1 = 6 then 10 else 5 : Int32)) x1) - (f_MD_get (stt u 0 24 (if x1 = 6 then 10 else 5 : Int32)) x1) / 16 * 16) ≤ 0 then 0 else 1 : Int32) : Int32)) (if x2 = 4 then ((f_MD_get (stt u 0 24 (if x1 = 6 then 10 else 5 : Int32)) x1) + 1) else ((f_MD_get (stt u 0 24 (if x1 = 6 then 10 else 5 : Int32)) x1) - 1) : Int32)).2) x1 ((f_MD_result (stt (stt u 0 24 (if x1 = 6 then 10 else 5 : Int32)) 0 6 (if x2 = 4 then (if ((f_MD_get (stt u 0 24 (if x1 = 6 then 10 else 5 : Int32)) x1) - (f_MD_get (stt u 0 24 (if x1 = 6 then 10 else 5 : Int32)) x1) / 16 * 16) = 15 then 1 else 0 : Int32) else (if ((f_MD_get (stt u 0 24 (if x1 = 6 then 10 else 5 : Int32)) x1) - (f_MD_get (stt u 0 24 (if x1 = 6 then 10 else 5 : Int32)) x1) / 16 * 16) ≤ 0 then 0 else 1 : Int32) : Int32)) (if x2 = 4 then ((f_MD_get (stt u 0 24 (if x1 = 6 then 10 else 5 : Int32)) x1) + 1) else ((f_MD_get (stt u 0 24 (if x1 = 6 then 10 else 5 : Int32)) x1) - 1) : Int32)).1))
def f_MD_popOrSo (u : SS) (x1 : Int32) : SS :=
  if x1 = 1 then
    (stt ((f_MD_pop (stt u 0 24 (if x1 = 5 then 5 else (if x1 = 7 then 5 else 10 : Int32) : Int32))).2) 0 10 ((f_MD_pop (stt u 0 24 (if x1 = 5 then 5 else (if x1 = 7 then 5 else 10 : Int32) : Int32))).1))
  else
    if x1 = 3 then
      (stt ((f_MD_pop (stt u 0 24 (if x1 = 5 then 5 else (if x1 = 7 then 5 else 10 : Int32) : Int32))).2) 0 10 ((f_MD_pop (stt u 0 24 (if x1 = 5 then 5 else (if x1 = 7 then 5 else 10 : Int32) : Int32))).1))
    else
      if x1 = 5 then
        (stt (stt u 0 24 (if x1 = 5 then 5 else (if x1 = 7 then 5 else 10 : Int32) : Int32)) 0 10 (f_MD_pair (stt u 0 24 (if x1 = 5 then 5 else (if x1 = 7 then 5 else 10 : Int32) : Int32)) 2))
      else
        if x1 = 7 then
          (stt (stt u 0 24 (if x1 = 5 then 5 else (if x1 = 7 then 5 else 10 : Int32) : Int32)) 0 9 (f_MD_pair (stt u 0 24 (if x1 = 5 then 5 else (if x1 = 7 then 5 else 10 : Int32) : Int32)) 2))
        else
          if x1 = 6 then
            (f_MD_setFlags (stt ((f_MD_pop (stt u 0 24 (if x1 = 5 then 5 else (if x1 = 7 then 5 else 10 : Int32) : Int32))).2) 2 7 (((f_MD_pop (stt u 0 24 (if x1 = 5 then 5 else (if x1 = 7 then 5 else 10 : Int32) : Int32))).1) / 256)) (((f_MD_pop (stt u 0 24 (if x1 = 5 then 5 else (if x1 = 7 then 5 else 10 : Int32) : Int32))).1) - ((f_MD_pop (stt u 0 24 (if x1 = 5 then 5 else (if x1 = 7 then 5 else 10 : Int32) : Int32))).1) / 256 * 256))
          else
            (f_MD_setPair ((f_MD_pop (stt u 0 24 (if x1 = 5 then 5 else (if x1 = 7 then 5 else 10 : Int32) : Int32))).2) (x1 / 2) ((f_MD_pop (stt u 0 24 (if x1 = 5 then 5 else (if x1 = 7 then 5 else 10 : Int32) : Int32))).1))
def g_MD_out_86 : Nat → SS → Int32 → Int32 → Int32 → Int32 → SS
  | 0, u, _, _, _, _ => u
  | k + 1, u, v1, v2, v3, v4 =>
    if 8 ≤ v4 then
      (stt (stt u 0 21 (if v1 = 3 then v2 else (u 0 21) : Int32)) 0 22 (if v1 = 5 then v2 else (u 0 22) : Int32))
    else
      if ((v2 >>> (v4 &&& 31)) &&& 1) = 1 then
        if ((v3 >>> (v4 &&& 31)) &&& 1) = 0 then
          g_MD_out_86 k (stt (stt u 3 (((u 0 23) - (u 0 23) / 8 * 8).toNatClampNeg) ((8 * v1) + v4)) 0 23 ((u 0 23) + 1)) v1 v2 v3 (v4 + 1)
        else
          g_MD_out_86 k u v1 v2 v3 (v4 + 1)
      else
        g_MD_out_86 k u v1 v2 v3 (v4 + 1)
def f_MD_out (u : SS) (x1 : Int32) (x2 : Int32) : SS :=
  if x1 = 2 then
    (stt u 0 16 (x2 &&& 7))
  else
    if x1 = 4 then
      (stt u 0 15 (((u 0 15) / 256) + (256 * x2)))
    else
      if x1 = 6 then
        (stt u 0 17 0)
      else
        if x1 = 3 then
          g_MD_out_86 9 u x1 x2 (if x1 = 3 then (u 0 21) else (u 0 22) : Int32) 0
        else
          if x1 = 5 then
            g_MD_out_86 9 u x1 x2 (if x1 = 3 then (u 0 21) else (u 0 22) : Int32) 0
          else
            u
def f_MD_in (u : SS) (x1 : Int32) : Int32 :=
  if x1 = 0 then
    u 0 2
  else
    if x1 = 1 then
      (u 0 3) + (if (u 0 20) ≤ 0 then 0 else 1 : Int32)
    else
      (if x1 = 3 then ((((u 0 15) <<< ((u 0 16) &&& 31)) >>> ((8 : Int32) &&& 31)) &&& 255) else 0 : Int32)
def f_MD_others (u : SS) (x1 : Int32) : SS :=
  if 2 ≤ x1 then
    if x1 = 2 then
      (f_MD_out ((f_MD_next (stt u 0 24 (if 4 ≤ x1 then (if x1 = 4 then 18 else (if x1 = 5 then 5 else 4 : Int32) : Int32) else 10 : Int32))).2) ((f_MD_next (stt u 0 24 (if 4 ≤ x1 then (if x1 = 4 then 18 else (if x1 = 5 then 5 else 4 : Int32) : Int32) else 10 : Int32))).1) (((f_MD_next (stt u 0 24 (if 4 ≤ x1 then (if x1 = 4 then 18 else (if x1 = 5 then 5 else 4 : Int32) : Int32) else 10 : Int32))).2) 2 7))
    else
      if x1 = 3 then
        (stt ((f_MD_next (stt u 0 24 (if 4 ≤ x1 then (if x1 = 4 then 18 else (if x1 = 5 then 5 else 4 : Int32) : Int32) else 10 : Int32))).2) 2 7 (f_MD_in ((f_MD_next (stt u 0 24 (if 4 ≤ x1 then (if x1 = 4 then 18 else (if x1 = 5 then 5 else 4 : Int32) : Int32) else 10 : Int32))).2) ((f_MD_next (stt u 0 24 (if 4 ≤ x1 then (if x1 = 4 then 18 else (if x1 = 5 then 5 else 4 : Int32) : Int32) else 10 : Int32))).1)))
      else
        if x1 = 4 then
          (f_MD_setPair (f_MD_write (f_MD_write (stt u 0 24 (if 4 ≤ x1 then (if x1 = 4 then 18 else (if x1 = 5 then 5 else 4 : Int32) : Int32) else 10 : Int32)) (u 0 9) (u 2 5)) (((f_MD_write (stt u 0 24 (if 4 ≤ x1 then (if x1 = 4 then 18 else (if x1 = 5 then 5 else 4 : Int32) : Int32) else 10 : Int32)) (u 0 9) (u 2 5)) 0 9) + 1) ((f_MD_write (stt u 0 24 (if 4 ≤ x1 then (if x1 = 4 then 18 else (if x1 = 5 then 5 else 4 : Int32) : Int32) else 10 : Int32)) (u 0 9) (u 2 5)) 2 4)) 2 ((f_MD_read (stt u 0 24 (if 4 ≤ x1 then (if x1 = 4 then 18 else (if x1 = 5 then 5 else 4 : Int32) : Int32) else 10 : Int32)) (u 0 9)) + (256 * (f_MD_read (stt u 0 24 (if 4 ≤ x1 then (if x1 = 4 then 18 else (if x1 = 5 then 5 else 4 : Int32) : Int32) else 10 : Int32)) ((u 0 9) + 1)))))
        else
          if x1 = 5 then
            (f_MD_setPair (f_MD_setPair (stt u 0 24 (if 4 ≤ x1 then (if x1 = 4 then 18 else (if x1 = 5 then 5 else 4 : Int32) : Int32) else 10 : Int32)) 1 (f_MD_pair (stt u 0 24 (if 4 ≤ x1 then (if x1 = 4 then 18 else (if x1 = 5 then 5 else 4 : Int32) : Int32) else 10 : Int32)) 2)) 2 (f_MD_pair (stt u 0 24 (if 4 ≤ x1 then (if x1 = 4 then 18 else (if x1 = 5 then 5 else 4 : Int32) : Int32) else 10 : Int32)) 1))
          else
            (stt (stt (stt u 0 24 (if 4 ≤ x1 then (if x1 = 4 then 18 else (if x1 = 5 then 5 else 4 : Int32) : Int32) else 10 : Int32)) 0 12 (if x1 = 7 then (if (u 0 11) = 0 then 1 else 0 : Int32) else 0 : Int32)) 0 11 (if x1 = 7 then 1 else 0 : Int32))
  else
    (stt ((f_MD_nextWord (stt u 0 24 (if 4 ≤ x1 then (if x1 = 4 then 18 else (if x1 = 5 then 5 else 4 : Int32) : Int32) else 10 : Int32))).2) 0 10 ((f_MD_nextWord (stt u 0 24 (if 4 ≤ x1 then (if x1 = 4 then 18 else (if x1 = 5 then 5 else 4 : Int32) : Int32) else 10 : Int32))).1))
def f_MD_highOperation (u : SS) (x1 : Int32) (x2 : Int32) : SS :=
  if x2 = 0 then
    if (f_MD_holds (stt u 0 24 (if (f_MD_holds u x1) = 0 then 5 else 11 : Int32)) x1) = 0 then
      (stt (stt u 0 24 (if (f_MD_holds u x1) = 0 then 5 else 11 : Int32)) 0 10 (u 0 10))
    else
      (stt ((f_MD_pop (stt u 0 24 (if (f_MD_holds u x1) = 0 then 5 else 11 : Int32))).2) 0 10 ((f_MD_pop (stt u 0 24 (if (f_MD_holds u x1) = 0 then 5 else 11 : Int32))).1))
  else
    if x2 = 1 then
      (f_MD_popOrSo u x1)
    else
      if x2 = 2 then
        (stt ((f_MD_nextWord (stt u 0 24 10)).2) 0 10 (if (f_MD_holds ((f_MD_nextWord (stt u 0 24 10)).2) x1) = 0 then (((f_MD_nextWord (stt u 0 24 10)).2) 0 10) else ((f_MD_nextWord (stt u 0 24 10)).1) : Int32))
      else
        if x2 = 3 then
          (f_MD_others u x1)
        else
          if x2 = 4 then
            if (f_MD_holds (stt ((f_MD_nextWord u).2) 0 24 (if (f_MD_holds ((f_MD_nextWord u).2) x1) = 0 then 11 else 17 : Int32)) x1) = 0 then
              (stt ((f_MD_nextWord u).2) 0 24 (if (f_MD_holds ((f_MD_nextWord u).2) x1) = 0 then 11 else 17 : Int32))
            else
              (stt (f_MD_push (stt ((f_MD_nextWord u).2) 0 24 (if (f_MD_holds ((f_MD_nextWord u).2) x1) = 0 then 11 else 17 : Int32)) (((f_MD_nextWord u).2) 0 10)) 0 10 ((f_MD_nextWord u).1))
          else
            if x2 = 5 then
              if (x1 - x1 / 2 * 2) = 0 then
                if x1 = 6 then
                  (f_MD_push (stt u 0 24 11) ((256 * (u 2 7)) + (f_MD_flags (stt u 0 24 11))))
                else
                  (f_MD_push (stt u 0 24 11) (f_MD_pair (stt u 0 24 11) (x1 / 2)))
              else
                (stt (f_MD_push ((f_MD_nextWord (stt u 0 24 17)).2) (((f_MD_nextWord (stt u 0 24 17)).2) 0 10)) 0 10 ((f_MD_nextWord (stt u 0 24 17)).1))
            else
              if x2 = 6 then
                (f_MD_operate ((f_MD_next (stt u 0 24 7)).2) x1 ((f_MD_next (stt u 0 24 7)).1))
              else
                (stt (f_MD_push (stt u 0 24 11) (u 0 10)) 0 10 (8 * x1))
def f_MD_reset (u : SS) : SS :=
  (stt (stt (stt (stt (stt (stt (stt (stt u 0 10 0) 0 15 0) 0 16 0) 0 17 0) 0 11 0) 0 12 0) 0 13 0) 0 14 0)
def f_MD_operation (u : SS) : SS :=
  if ((f_MD_next u).1) = 118 then
    (stt (stt ((f_MD_next u).2) 0 13 1) 0 24 7)
  else
    if (((f_MD_next u).1) >>> ((6 : Int32) &&& 31)) = 0 then
      (f_MD_lowOperation ((f_MD_next u).2) ((((f_MD_next u).1) >>> ((3 : Int32) &&& 31)) &&& 7) (((f_MD_next u).1) &&& 7))
    else
      if (((f_MD_next u).1) >>> ((6 : Int32) &&& 31)) = 1 then
        (f_MD_set (stt ((f_MD_next u).2) 0 24 (if ((((f_MD_next u).1) >>> ((3 : Int32) &&& 31)) &&& 7) = 6 then 7 else (if (((f_MD_next u).1) &&& 7) = 6 then 7 else 5 : Int32) : Int32)) ((((f_MD_next u).1) >>> ((3 : Int32) &&& 31)) &&& 7) (f_MD_get (stt ((f_MD_next u).2) 0 24 (if ((((f_MD_next u).1) >>> ((3 : Int32) &&& 31)) &&& 7) = 6 then 7 else (if (((f_MD_next u).1) &&& 7) = 6 then 7 else 5 : Int32) : Int32)) (((f_MD_next u).1) &&& 7)))
      else
        if (((f_MD_next u).1) >>> ((6 : Int32) &&& 31)) = 2 then
          (f_MD_operate (stt ((f_MD_next u).2) 0 24 (if (((f_MD_next u).1) &&& 7) = 6 then 7 else 4 : Int32)) ((((f_MD_next u).1) >>> ((3 : Int32) &&& 31)) &&& 7) (f_MD_get (stt ((f_MD_next u).2) 0 24 (if (((f_MD_next u).1) &&& 7) = 6 then 7 else 4 : Int32)) (((f_MD_next u).1) &&& 7)))
        else
          (f_MD_highOperation ((f_MD_next u).2) ((((f_MD_next u).1) >>> ((3 : Int32) &&& 31)) &&& 7) (((f_MD_next u).1) &&& 7))
def g_MD_step_90 (u : SS) : SS :=
  if ((u 0 18) + (u 0 24)) < 2560 then
    (stt (stt u 0 18 ((u 0 18) + (u 0 24))) 0 14 (if 1024 ≤ (u 0 18) then (if 2048 ≤ (u 0 18) then (u 0 14) else (if ((u 0 18) + (u 0 24)) < 2048 then (u 0 14) else 2 : Int32) : Int32) else (if ((u 0 18) + (u 0 24)) < 1024 then (if 2048 ≤ (u 0 18) then (u 0 14) else (if ((u 0 18) + (u 0 24)) < 2048 then (u 0 14) else 2 : Int32) : Int32) else 1 : Int32) : Int32))
  else
    if ((u 0 17) + 1) = 4 then
      (f_MD_reset (stt (stt (stt (stt (stt (stt u 0 18 ((u 0 18) + (u 0 24))) 0 14 (if 1024 ≤ (u 0 18) then (if 2048 ≤ (u 0 18) then (u 0 14) else (if ((u 0 18) + (u 0 24)) < 2048 then (u 0 14) else 2 : Int32) : Int32) else (if ((u 0 18) + (u 0 24)) < 1024 then (if 2048 ≤ (u 0 18) then (u 0 14) else (if ((u 0 18) + (u 0 24)) < 2048 then (u 0 14) else 2 : Int32) : Int32) else 1 : Int32) : Int32)) 0 18 (((u 0 18) + (u 0 24)) - 2560)) 0 19 ((u 0 19) + 1)) 0 20 (if (u 0 20) ≤ 0 then 0 else ((u 0 20) - 1) : Int32)) 0 17 ((u 0 17) + 1)))
    else
      (stt (stt (stt (stt (stt (stt u 0 18 ((u 0 18) + (u 0 24))) 0 14 (if 1024 ≤ (u 0 18) then (if 2048 ≤ (u 0 18) then (u 0 14) else (if ((u 0 18) + (u 0 24)) < 2048 then (u 0 14) else 2 : Int32) : Int32) else (if ((u 0 18) + (u 0 24)) < 1024 then (if 2048 ≤ (u 0 18) then (u 0 14) else (if ((u 0 18) + (u 0 24)) < 2048 then (u 0 14) else 2 : Int32) : Int32) else 1 : Int32) : Int32)) 0 18 (((u 0 18) + (u 0 24)) - 2560)) 0 19 ((u 0 19) + 1)) 0 20 (if (u 0 20) ≤ 0 then 0 else ((u 0 20) - 1) : Int32)) 0 17 ((u 0 17) + 1))
def f_MD_step (u : SS) : SS :=
  if (u 0 11) = 0 then
    if (u 0 13) = 0 then
      g_MD_step_90 (f_MD_operation (stt u 0 12 0))
    else
      g_MD_step_90 (stt (stt u 0 12 0) 0 24 4)
  else
    if (u 0 12) = 0 then
      if (u 0 14) ≤ 0 then
        if (u 0 13) = 0 then
          g_MD_step_90 (f_MD_operation (stt u 0 12 0))
        else
          g_MD_step_90 (stt (stt u 0 12 0) 0 24 4)
      else
        g_MD_step_90 (stt (stt (stt (f_MD_push (stt (stt (stt u 0 12 0) 0 11 0) 0 13 0) (u 0 10)) 0 10 (8 * ((f_MD_push (stt (stt (stt u 0 12 0) 0 11 0) 0 13 0) (u 0 10)) 0 14))) 0 14 0) 0 24 11)
    else
      if (u 0 13) = 0 then
        g_MD_step_90 (f_MD_operation (stt u 0 12 0))
      else
        g_MD_step_90 (stt (stt u 0 12 0) 0 24 4)
def g_MD_load_40 : Nat → SS → Int32 → Int32 → Int32 → Int32 → Int32 × SS
  | 0, u, _, _, _, _ => (0, u)
  | k + 1, u, v1, v2, v3, v4 =>
    if v3 ≤ v4 then
      (1, u)
    else
      g_MD_load_40 k (stt u 1 ((v1 + v4).toNatClampNeg) ((v2 >>> ((8 * v4) &&& 31)) &&& 255)) v1 v2 v3 (v4 + 1)
def f_MD_load (u : SS) (x1 : Int32) (x2 : Int32) (x3 : Int32) : Int32 × SS :=
  if (u 0 1) = 0 then
    if x3 < 1 then
      (0, (stt u 0 0 0))
    else
      if 4 < x3 then
        (0, (stt u 0 0 0))
      else
        if x1 < 0 then
          (0, (stt u 0 0 0))
        else
          if x1 ≤ (512 - x3) then
            g_MD_load_40 5 (stt u 0 0 0) x1 x2 x3 0
          else
            (0, (stt u 0 0 0))
  else
    (0, (stt u 0 0 0))
def g_MD_check_32 : Nat → Int32 → Int32 → Int32 → Int32
  | 0, _, _, _ => 0
  | k + 1, v1, v2, v3 =>
    if 8 ≤ v3 then
      v1
    else
      g_MD_check_32 k (if (if v1 ≤ 32767 then 0 else 1 : Int32) = 0 then ((2 * v1) &&& 65535) else (((2 * v1) &&& 65535) ^^^ 4129) : Int32) v2 (v3 + 1)
def g_MD_check_10 : Nat → SS → Int32 → Int32 → Int32 × SS
  | 0, u, _, _ => (0, u)
  | k + 1, u, v1, v2 =>
    if 512 ≤ v2 then
      (v1, u)
    else
      g_MD_check_10 k u (g_MD_check_32 9 (v1 ^^^ ((u 1 ((v2).toNatClampNeg)) * 256)) v2 0) (v2 + 1)
def f_MD_check (u : SS) : Int32 × SS :=
  g_MD_check_10 513 (stt u 0 0 0) 65535 0
def f_MD_power (u : SS) (x1 : Int32) : Int32 × SS :=
  if (if (if ((f_MD_check u).1) = x1 then 1 else 0 : Int32) = 0 then 1 else (if (((f_MD_check u).2) 0 1) = 0 then 0 else 2 : Int32) : Int32) ≤ 0 then
    (1, (f_MD_reset (stt (stt ((f_MD_check u).2) 0 0 (if (if ((f_MD_check u).1) = x1 then 1 else 0 : Int32) = 0 then 1 else (if (((f_MD_check u).2) 0 1) = 0 then 0 else 2 : Int32) : Int32)) 0 1 1)))
  else
    (0, (stt ((f_MD_check u).2) 0 0 (if (if ((f_MD_check u).1) = x1 then 1 else 0 : Int32) = 0 then 1 else (if (((f_MD_check u).2) 0 1) = 0 then 0 else 2 : Int32) : Int32)))
def f_MD_off (u : SS) : Int32 × SS :=
  (u 0 1, (stt (stt u 0 0 0) 0 1 0))
def g_MD_run_34 : Nat → SS → Int32 → Int32 → Int32 → Int32 × SS
  | 0, u, _, _, _ => (0, u)
  | k + 1, u, v1, v2, v3 =>
    if v1 ≤ v3 then
      (v2, u)
    else
      if (u 0 0) = 0 then
        g_MD_run_34 k (f_MD_step u) v1 (v2 + ((f_MD_step u) 0 24)) (v3 + 1)
      else
        (v2, u)
def f_MD_run (u : SS) (x1 : Int32) : Int32 × SS :=
  g_MD_run_34 61 (stt u 0 0 (if x1 < 0 then 1 else (if x1 ≤ 60 then (if (u 0 1) = 0 then 2 else 0 : Int32) else 1 : Int32) : Int32)) x1 0 0
def f_MD_switches (u : SS) (x1 : Int32) (x2 : Int32) : Int32 × SS :=
  if x1 = 0 then
    (1, (stt (stt (stt u 0 0 0) 0 2 (if x1 = 0 then (x2 &&& 255) else (u 0 2) : Int32)) 0 3 (if x1 = 1 then (x2 &&& 254) else (u 0 3) : Int32)))
  else
    if x1 = 1 then
      (1, (stt (stt (stt u 0 0 0) 0 2 (if x1 = 0 then (x2 &&& 255) else (u 0 2) : Int32)) 0 3 (if x1 = 1 then (x2 &&& 254) else (u 0 3) : Int32)))
    else
      (0, (stt u 0 0 0))
def f_MD_coin (u : SS) : Int32 × SS :=
  if (u 0 20) ≤ 0 then
    (1, (stt (stt u 0 0 0) 0 20 3))
  else
    (0, (stt u 0 0 0))
def f_MD_more (u : SS) (x1 : Int32) : Int32 :=
  if x1 = 9 then
    u 0 9
  else
    if x1 = 10 then
      u 0 10
    else
      if x1 = 11 then
        (if (u 0 11) = 0 then 0 else 1 : Int32)
      else
        if x1 = 12 then
          (if (u 0 13) = 0 then 0 else 1 : Int32)
        else
          if x1 = 13 then
            u 0 14
          else
            if x1 = 14 then
              u 0 15
            else
              if x1 = 15 then
                u 0 16
              else
                if x1 = 16 then
                  u 0 17
                else
                  if x1 = 17 then
                    u 0 18
                  else
                    if x1 = 18 then
                      u 0 19
                    else
                      u 0 20
def f_MD_look (u : SS) (x1 : Int32) : Int32 × SS :=
  if x1 < 0 then
    ((-1), (stt u 0 0 0))
  else
    if x1 ≤ 19 then
      if 8 ≤ x1 then
        if x1 = 8 then
          ((f_MD_flags (stt u 0 0 0)), (stt u 0 0 0))
        else
          ((f_MD_more (stt u 0 0 0) x1), (stt u 0 0 0))
      else
        ((f_MD_get (stt u 0 0 0) x1), (stt u 0 0 0))
    else
      ((-1), (stt u 0 0 0))
def f_MD_peek (u : SS) (x1 : Int32) : Int32 × SS :=
  ((if x1 < 0 then (-1) else (if 1024 ≤ x1 then (-1) else (u 1 ((x1).toNatClampNeg)) : Int32) : Int32), (stt u 0 0 0))
def f_MD_dot (u : SS) (x1 : Int32) (x2 : Int32) : Int32 × SS :=
  ((if x1 < 0 then 0 else (if 64 ≤ x1 then 0 else (if x2 < 0 then 0 else (if 32 ≤ x2 then 0 else (if (((u 1 (((768 + (8 * x2)) + (x1 / 8)).toNatClampNeg)) >>> ((x1 - x1 / 8 * 8) &&& 31)) &&& 1) = 1 then 1 else 0 : Int32) : Int32) : Int32) : Int32) : Int32), (stt u 0 0 0))
def f_MD_sound (u : SS) (x1 : Int32) : Int32 × SS :=
  if x1 = (-1) then
    (u 0 23, (stt u 0 0 0))
  else
    ((if x1 < 0 then (-1) else (if 8 ≤ x1 then (-1) else (if (u 0 23) ≤ x1 then (-1) else (u 3 (((((u 0 23) - 1) - x1) - (((u 0 23) - 1) - x1) / 8 * 8).toNatClampNeg)) : Int32) : Int32) : Int32), (stt u 0 0 0))
def g_MD_save_147 : Nat → SS → Int32 → Int32 → Int32 → Int32 × SS
  | 0, u, _, _, _ => (0, u)
  | k + 1, u, v1, v2, v3 =>
    if 512 ≤ v3 then
      (1, u)
    else
      g_MD_save_147 k (stt u 5 (((v2 + 23) + v3).toNatClampNeg) (u 1 ((512 + v3).toNatClampNeg))) v1 v2 (v3 + 1)
def g_MD_save_73 : Nat → SS → Int32 → Int32 → Int32 → Int32 × SS
  | 0, u, _, _, _ => (0, u)
  | k + 1, u, v1, v2, v3 =>
    if 20 ≤ v3 then
      g_MD_save_147 513 (stt (stt (stt u 5 ((v2 + 20).toNatClampNeg) (u 0 21)) 5 ((v2 + 21).toNatClampNeg) (u 0 22)) 5 ((v2 + 22).toNatClampNeg) (if (u 0 12) = 0 then 0 else 1 : Int32)) v1 v2 0
    else
      g_MD_save_73 k (stt u 5 ((v2 + v3).toNatClampNeg) (f_MD_more u v3)) v1 v2 (v3 + 1)
def g_MD_save_31 : Nat → SS → Int32 → Int32 → Int32 → Int32 × SS
  | 0, u, _, _, _ => (0, u)
  | k + 1, u, v1, v2, v3 =>
    if 8 ≤ v3 then
      g_MD_save_73 12 (stt u 5 ((v2 + 8).toNatClampNeg) (f_MD_flags u)) v1 v2 9
    else
      g_MD_save_31 k (stt u 5 ((v2 + v3).toNatClampNeg) (u 2 ((v3).toNatClampNeg))) v1 v2 (v3 + 1)
def f_MD_save (u : SS) (x1 : Int32) : Int32 × SS :=
  if x1 = 0 then
    g_MD_save_31 9 (stt (stt u 0 0 0) 4 ((x1).toNatClampNeg) 1) x1 (540 * x1) 0
  else
    if x1 = 1 then
      g_MD_save_31 9 (stt (stt u 0 0 0) 4 ((x1).toNatClampNeg) 1) x1 (540 * x1) 0
    else
      (0, (stt u 0 0 0))
def g_MD_restore_313 : Nat → SS → Int32 → Int32 → Int32 × SS
  | 0, u, _, _ => (0, u)
  | k + 1, u, v3, v4 =>
    if 512 ≤ v4 then
      (1, u)
    else
      g_MD_restore_313 k (stt u 1 ((512 + v4).toNatClampNeg) (u 5 (((v3 + 23) + v4).toNatClampNeg))) v3 (v4 + 1)
def g_MD_restore_59 : Nat → SS → Int32 → Int32 → Int32 × SS
  | 0, u, _, _ => (0, u)
  | k + 1, u, v3, v4 =>
    if 8 ≤ v4 then
      g_MD_restore_313 513 (stt (stt (stt (stt (stt (stt (stt (stt (stt (stt (stt (stt (stt (stt (f_MD_setFlags u (u 5 ((v3 + 8).toNatClampNeg))) 0 9 ((f_MD_setFlags u (u 5 ((v3 + 8).toNatClampNeg))) 5 ((v3 + 9).toNatClampNeg))) 0 10 ((f_MD_setFlags u (u 5 ((v3 + 8).toNatClampNeg))) 5 ((v3 + 10).toNatClampNeg))) 0 11 (if ((f_MD_setFlags u (u 5 ((v3 + 8).toNatClampNeg))) 5 ((v3 + 11).toNatClampNeg)) = 1 then 1 else 0 : Int32)) 0 13 (if ((f_MD_setFlags u (u 5 ((v3 + 8).toNatClampNeg))) 5 ((v3 + 12).toNatClampNeg)) = 1 then 1 else 0 : Int32)) 0 14 ((f_MD_setFlags u (u 5 ((v3 + 8).toNatClampNeg))) 5 ((v3 + 13).toNatClampNeg))) 0 15 ((f_MD_setFlags u (u 5 ((v3 + 8).toNatClampNeg))) 5 ((v3 + 14).toNatClampNeg))) 0 16 ((f_MD_setFlags u (u 5 ((v3 + 8).toNatClampNeg))) 5 ((v3 + 15).toNatClampNeg))) 0 17 ((f_MD_setFlags u (u 5 ((v3 + 8).toNatClampNeg))) 5 ((v3 + 16).toNatClampNeg))) 0 18 ((f_MD_setFlags u (u 5 ((v3 + 8).toNatClampNeg))) 5 ((v3 + 17).toNatClampNeg))) 0 19 ((f_MD_setFlags u (u 5 ((v3 + 8).toNatClampNeg))) 5 ((v3 + 18).toNatClampNeg))) 0 20 ((f_MD_setFlags u (u 5 ((v3 + 8).toNatClampNeg))) 5 ((v3 + 19).toNatClampNeg))) 0 21 ((f_MD_setFlags u (u 5 ((v3 + 8).toNatClampNeg))) 5 ((v3 + 20).toNatClampNeg))) 0 22 ((f_MD_setFlags u (u 5 ((v3 + 8).toNatClampNeg))) 5 ((v3 + 21).toNatClampNeg))) 0 12 (if ((f_MD_setFlags u (u 5 ((v3 + 8).toNatClampNeg))) 5 ((v3 + 22).toNatClampNeg)) = 1 then 1 else 0 : Int32)) v3 0
    else
      g_MD_restore_59 k (stt u 2 ((v4).toNatClampNeg) (u 5 ((v3 + v4).toNatClampNeg))) v3 (v4 + 1)
def f_MD_restore (u : SS) (x1 : Int32) : Int32 × SS :=
  if (if (if x1 = 0 then 1 else (if x1 = 1 then 1 else 0 : Int32) : Int32) = 0 then 1 else (if (u 4 ((x1).toNatClampNeg)) = 0 then 2 else 0 : Int32) : Int32) ≤ 0 then
    g_MD_restore_59 9 (stt u 0 0 (if (if x1 = 0 then 1 else (if x1 = 1 then 1 else 0 : Int32) : Int32) = 0 then 1 else (if (u 4 ((x1).toNatClampNeg)) = 0 then 2 else 0 : Int32) : Int32)) (540 * x1) 0
  else
    (0, (stt u 0 0 (if (if x1 = 0 then 1 else (if x1 = 1 then 1 else 0 : Int32) : Int32) = 0 then 1 else (if (u 4 ((x1).toNatClampNeg)) = 0 then 2 else 0 : Int32) : Int32)))
def f_State_become_3_10 (z u : SS) : (SS × SS) :=
  ((stt (stt (stt (stt (stt (stt (stt (stt (stt (stt (stt (stt (stt (stt (stt (va_up (va_up z 2 (va_cpy (u 1) (z 2) 0 0 512)) 3 (va_cpy (u 2) (z 3) 0 0 8)) 1 0 (u 0 0)) 1 1 (u 0 1)) 1 2 (u 0 2)) 1 3 (u 0 3)) 1 4 (u 0 4)) 1 5 (u 0 5)) 1 6 (u 0 6)) 1 7 (u 0 7)) 1 8 (u 0 8)) 1 9 (u 0 9)) 1 10 (u 0 10)) 1 11 (u 0 11)) 1 12 (u 0 12)) 1 13 (u 0 13)) 1 14 (u 0 14)), u)
def f_State_become_6_10 (z u : SS) : (SS × SS) :=
  ((stt (stt (stt (stt (stt (stt (stt (stt (stt (stt (stt (stt (stt (stt (stt (va_up (va_up z 5 (va_cpy (u 1) (z 5) 0 0 512)) 6 (va_cpy (u 2) (z 6) 0 0 8)) 4 0 (u 0 0)) 4 1 (u 0 1)) 4 2 (u 0 2)) 4 3 (u 0 3)) 4 4 (u 0 4)) 4 5 (u 0 5)) 4 6 (u 0 6)) 4 7 (u 0 7)) 4 8 (u 0 8)) 4 9 (u 0 9)) 4 10 (u 0 10)) 4 11 (u 0 11)) 4 12 (u 0 12)) 4 13 (u 0 13)) 4 14 (u 0 14)), u)
def f_State_become_10_3 (z u : SS) : (SS × SS) :=
  (z, (stt (stt (stt (stt (stt (stt (stt (stt (stt (stt (stt (stt (stt (stt (stt (va_up (va_up u 1 (va_cpy (z 2) (u 1) 0 0 512)) 2 (va_cpy (z 3) (u 2) 0 0 8)) 0 0 (z 1 0)) 0 1 (z 1 1)) 0 2 (z 1 2)) 0 3 (z 1 3)) 0 4 (z 1 4)) 0 5 (z 1 5)) 0 6 (z 1 6)) 0 7 (z 1 7)) 0 8 (z 1 8)) 0 9 (z 1 9)) 0 10 (z 1 10)) 0 11 (z 1 11)) 0 12 (z 1 12)) 0 13 (z 1 13)) 0 14 (z 1 14)))
def f_State_become_10_6 (z u : SS) : (SS × SS) :=
  (z, (stt (stt (stt (stt (stt (stt (stt (stt (stt (stt (stt (stt (stt (stt (stt (va_up (va_up u 1 (va_cpy (z 5) (u 1) 0 0 512)) 2 (va_cpy (z 6) (u 2) 0 0 8)) 0 0 (z 4 0)) 0 1 (z 4 1)) 0 2 (z 4 2)) 0 3 (z 4 3)) 0 4 (z 4 4)) 0 5 (z 4 5)) 0 6 (z 4 6)) 0 7 (z 4 7)) 0 8 (z 4 8)) 0 9 (z 4 9)) 0 10 (z 4 10)) 0 11 (z 4 11)) 0 12 (z 4 12)) 0 13 (z 4 13)) 0 14 (z 4 14)))
def g_AB_load_35 : Nat → SS → SS → Int32 → Int32 → Int32 → Int32 → Int32 × (SS × SS)
  | 0, z, u, _, _, _, _ => (0, (z, u))
  | k + 1, z, u, v1, v2, v3, v4 =>
    if v3 ≤ v4 then
      (1, (z, u))
    else
      g_AB_load_35 k z (f_Memory_burn u (v1 + v4) (v2 >>> ((8 * v4) &&& 31))) v1 v2 v3 (v4 + 1)
def f_AB_load (z u : SS) (x1 : Int32) (x2 : Int32) (x3 : Int32) : Int32 × (SS × SS) :=
  if (z 0 0) = 0 then
    if x3 < 1 then
      (0, (z, u))
    else
      if 4 < x3 then
        (0, (z, u))
      else
        if x1 < 0 then
          (0, (z, u))
        else
          if x1 ≤ (512 - x3) then
            g_AB_load_35 5 z u x1 x2 x3 0
          else
            (0, (z, u))
  else
    (0, (z, u))
def f_AB_check (z u : SS) : Int32 :=
  (f_Memory_programSum u)
def f_AB_power (z u : SS) (x1 : Int32) : Nat × (Int32 × (SS × SS)) :=
  if (f_Memory_programSum u) = x1 then
    if (z 0 0) = 0 then
      (0, (1, ((stt z 0 0 1), (f_Clock_reset u))))
    else
      (2, (0, (z, u)))
  else
    (1, (0, (z, u)))
def f_AB_off (z u : SS) : Int32 × (SS × SS) :=
  (z 0 0, ((stt z 0 0 0), u))
def g_AB_run_41 : Nat → SS → SS → Int32 → Int32 → Int32 → Nat × (Int32 × (SS × SS))
  | 0, z, u, _, _, _ => (0, (0, (z, u)))
  | k + 1, z, u, v1, v2, v3 =>
    if v1 ≤ v3 then
      (0, (v2, (z, u)))
    else
      g_AB_run_41 k z ((f_Processor_step u).2) v1 (v2 + ((f_Processor_step u).1)) (v3 + 1)
def f_AB_run (z u : SS) (x1 : Int32) : Nat × (Int32 × (SS × SS)) :=
  if x1 < 0 then
    (1, (0, (z, u)))
  else
    if x1 ≤ 60 then
      if (z 0 0) = 0 then
        (2, (0, (z, u)))
      else
        g_AB_run_41 61 z u x1 0 0
    else
      (1, (0, (z, u)))
def f_AB_switches (z u : SS) (x1 : Int32) (x2 : Int32) : Int32 × (SS × SS) :=
  ((f_Ports_setSwitches u x1 x2).1, (z, ((f_Ports_setSwitches u x1 x2).2)))
def f_AB_coin (z u : SS) : Int32 × (SS × SS) :=
  if (u 0 12) ≤ 0 then
    (1, (z, (stt u 0 12 3)))
  else
    (0, (z, u))
def f_AB_look (z u : SS) (x1 : Int32) : Int32 :=
  if x1 < 0 then
    if x1 = 8 then
      u 0 0
    else
      if x1 = 9 then
        u 0 1
      else
        if x1 = 10 then
          u 0 2
        else
          if x1 = 11 then
            (if (u 0 3) = 0 then 0 else 1 : Int32)
          else
            if x1 = 12 then
              (if (u 0 5) = 0 then 0 else 1 : Int32)
            else
              if x1 = 13 then
                u 0 6
              else
                if x1 = 14 then
                  u 0 7
                else
                  if x1 = 15 then
                    u 0 8
                  else
                    if x1 = 16 then
                      u 0 9
                    else
                      if x1 = 17 then
                        u 0 10
                      else
                        if x1 = 18 then
                          u 0 11
                        else
                          if x1 = 19 then
                            u 0 12
                          else
                            (-1)
  else
    if 7 < x1 then
      if x1 = 8 then
        u 0 0
      else
        if x1 = 9 then
          u 0 1
        else
          if x1 = 10 then
            u 0 2
          else
            if x1 = 11 then
              (if (u 0 3) = 0 then 0 else 1 : Int32)
            else
              if x1 = 12 then
                (if (u 0 5) = 0 then 0 else 1 : Int32)
              else
                if x1 = 13 then
                  u 0 6
                else
                  if x1 = 14 then
                    u 0 7
                  else
                    if x1 = 15 then
                      u 0 8
                    else
                      if x1 = 16 then
                        u 0 9
                      else
                        if x1 = 17 then
                          u 0 10
                        else
                          if x1 = 18 then
                            u 0 11
                          else
                            if x1 = 19 then
                              u 0 12
                            else
                              (-1)
    else
      (f_Registers_value u x1)
def f_AB_peek (z u : SS) (x1 : Int32) : Int32 :=
  if x1 < 0 then
    (-1)
  else
    if x1 < 1024 then
      (f_Memory_at u x1)
    else
      (-1)
def f_AB_dot (z u : SS) (x1 : Int32) (x2 : Int32) : Int32 :=
  if x1 < 0 then
    0
  else
    if 64 ≤ x1 then
      0
    else
      if x2 < 0 then
        0
      else
        if x2 < 32 then
          (if (((f_Memory_at u ((768 + (8 * x2)) + (x1 / 8))) >>> ((x1 - x1 / 8 * 8) &&& 31)) &&& 1) = 1 then 1 else 0 : Int32)
        else
          0
def f_AB_sound (z u : SS) (x1 : Int32) : Int32 :=
  if x1 = (-1) then
    (f_Sounds_count u)
  else
    (f_Sounds_latestBut u x1)
def f_AB_save (z u : SS) (x1 : Int32) : Int32 × (SS × SS) :=
  if x1 < 0 then
    (0, (z, u))
  else
    if x1 < 2 then
      if x1 = 0 then
        (1, ((stt ((f_State_become_3_10 z u).1) 7 0 1), ((f_State_become_3_10 z u).2)))
      else
        (1, ((stt ((f_State_become_6_10 z u).1) 7 1 1), ((f_State_become_6_10 z u).2)))
    else
      (0, (z, u))
def f_AB_restore (z u : SS) (x1 : Int32) : Nat × (Int32 × (SS × SS)) :=
  if x1 < 0 then
    (1, (0, (z, u)))
  else
    if x1 < 2 then
      if x1 = 0 then
        if (z 7 0) = 0 then
          (2, (0, (z, u)))
        else
          (0, (1, (((f_State_become_10_3 z u).1), ((f_State_become_10_3 z u).2))))
      else
        if (z 7 1) = 0 then
          (2, (0, (z, u)))
        else
          (0, (1, (((f_State_become_10_6 z u).1), ((f_State_become_10_6 z u).2))))
    else
      (1, (0, (z, u)))
end
section
/-! Pure: the class's state u (scalars u 0, ram u 1, registers u 2, program u 3, latest u 4) against the reference's v (scalars v 0, memory v 1, reg v 2, latest v 3). -/
theorem stt_s (u : SS) (a k : Nat) (x : Int32) : stt u a k x a k = x := by unfold stt va_up upd; rw [if_pos rfl, if_pos rfl]
theorem stt_ap (u : SS) (a k : Nat) (x : Int32) (b j : Nat) : stt u a k x b j = if b = a ∧ j = k then x else u b j := by
  unfold stt va_up upd
  by_cases h : b = a
  · subst h
    by_cases h2 : j = k
    · subst h2; rw [if_pos rfl, if_pos rfl, if_pos ⟨rfl, rfl⟩]
    · rw [if_pos rfl, if_neg h2, if_neg (fun q => h2 q.2)]
  · rw [if_neg h, if_neg (fun q => h q.1)]
theorem stt_n {u : SS} {a k : Nat} {x : Int32} {b j : Nat} (h : ¬ (b = a ∧ j = k)) : stt u a k x b j = u b j := by rw [stt_ap, if_neg h]
theorem stt_a {u : SS} {a k : Nat} {x : Int32} {b j : Nat} (h : b ≠ a) : stt u a k x b j = u b j := stt_n (fun q => h q.1)
theorem stt_k {u : SS} {a k : Nat} {x : Int32} {b j : Nat} (h : j ≠ k) : stt u a k x b j = u b j := stt_n (fun q => h q.2)
theorem stt_comm {u : SS} {a k b j : Nat} {x y : Int32} (h : ¬ (b = a ∧ j = k)) : stt (stt u a k x) b j y = stt (stt u b j y) a k x := by
  funext c i
  simp only [stt_ap]
  by_cases h1 : c = b ∧ i = j
  · rw [if_pos h1, if_neg (fun q => h ⟨by omega, by omega⟩), if_pos h1]
  · rw [if_neg h1, if_neg h1]
theorem stt_id {u : SS} {a k : Nat} : stt u a k (u a k) = u := by
  funext c i; rw [stt_ap]; by_cases h : c = a ∧ i = k
  · rw [if_pos h, h.1, h.2]
  · rw [if_neg h]
theorem stt_stt {u : SS} {a k : Nat} {x y : Int32} : stt (stt u a k x) a k y = stt u a k y := by
  funext c i; simp only [stt_ap]; by_cases h : c = a ∧ i = k
  · rw [if_pos h, if_pos h]
  · rw [if_neg h, if_neg h, if_neg h]
/-- the place in the reference of the class's scalar k -/
def ab_ix (k : Nat) : Nat := match k with
  | 1 => 9 | 2 => 10 | 3 => 11 | 5 => 13 | 6 => 14 | 7 => 15 | 8 => 16 | 9 => 17 | 10 => 18 | 11 => 19 | 12 => 20 | 13 => 21 | 14 => 22 | 15 => 2 | 16 => 3 | 17 => 23 | _ => 99
/-- bounds of the scalars; B: of the sounds -/
def ab_bd (B : Nat) (k : Nat) : Nat := match k with
  | 1 => 65536 | 2 => 65536 | 3 => 2 | 5 => 2 | 6 => 3 | 7 => 65536 | 8 => 8 | 9 => 4 | 10 => 2560 | 12 => 4 | 13 => 256 | 14 => 256 | 15 => 256 | 16 => 255 | 17 => B + 1 | _ => 4294967296
def ab_by (x : Int32) : Prop := ∃ n : Nat, n < 256 ∧ x = nI n
def ab_wd (x : Int32) : Prop := ∃ n : Nat, n < 65536 ∧ x = nI n
def ab_bo (x : Int32) : Prop := x = 0 ∨ x = 1
theorem ab_any (x : Int32) : ∃ n : Nat, n < 4294967296 ∧ x = nI n := ⟨x.toBitVec.toNat, x.toBitVec.isLt, by apply Int32.toBitVec_inj.mp; apply BitVec.eq_of_toNat_eq; exact (Nat.mod_eq_of_lt x.toBitVec.isLt).symm⟩
def ab_Q (bd : Nat → Nat) (jc : Int32 → Int32 → Int32 → Prop) (u v : SS) : Prop :=
  (∀ k, k < 18 → k ≠ 0 → k ≠ 4 → u 0 k = v 0 (ab_ix k) ∧ ∃ n : Nat, n < bd k ∧ u 0 k = nI n) ∧
  (u 0 0 = f_MD_flags v ∧ ∀ k, 4 ≤ k → k ≤ 8 → ab_bo (v 0 k)) ∧
  (jc (u 0 3) (u 0 4) (v 0 12) ∧ ab_bo (u 0 4) ∧ ab_bo (v 0 12)) ∧
  (∀ k, k < 512 → u 3 k = v 1 k ∧ ab_by (u 3 k)) ∧
  (∀ k, k < 512 → u 1 k = v 1 (512 + k) ∧ ab_by (u 1 k)) ∧
  (∀ k, k < 8 → u 2 k = v 2 k ∧ ab_by (u 2 k)) ∧
  (∀ k, k < 8 → u 4 k = v 3 k)
def ab_jR (i s j : Int32) : Prop := i = 1 → s = j
def ab_jO (b : Int32) (i s j : Int32) : Prop := j = (if i = 0 then 0 else (if b = 0 then 1 else 0 : Int32) : Int32)
section EQ
variable {bd : Nat → Nat} {jc : Int32 → Int32 → Int32 → Prop} {u v : SS}
theorem ab_Q_sc (h : ab_Q bd jc u v) (k : Nat) (h1 : k < 18 := by decide) (h2 : k ≠ 0 := by decide) (h3 : k ≠ 4 := by decide) : u 0 k = v 0 (ab_ix k) := (h.1 k h1 h2 h3).1
theorem ab_Q_bd (h : ab_Q bd jc u v) (k : Nat) (h1 : k < 18 := by decide) (h2 : k ≠ 0 := by decide) (h3 : k ≠ 4 := by decide) : ∃ n : Nat, n < bd k ∧ u 0 k = nI n := (h.1 k h1 h2 h3).2
theorem ab_ixne0 : ∀ k, k < 18 → ∀ j, j < 18 → (ab_ix k = 99 ∨ ab_ix j = 99 ∨ k = j ∨ ab_ix k ≠ ab_ix j) := by decide +kernel
theorem ab_ix99 : ∀ k, k < 18 → (k = 0 ∨ k = 4 ∨ ab_ix k ≠ 99) := by decide +kernel
theorem ab_ixfl0 : ∀ k, k < 18 → (ab_ix k < 4 ∨ 8 < ab_ix k) ∧ ab_ix k ≠ 12 ∧ 2 ≤ ab_ix k ∧ ab_ix k ≠ 24 := by decide +kernel
theorem ab_ixne (k : Nat) (h1 : k < 18) (h2 : k ≠ 0) (h3 : k ≠ 4) (j : Nat) (j1 : j < 18) (j2 : j ≠ 0) (j3 : j ≠ 4) (h : k ≠ j) : ab_ix k ≠ ab_ix j := by
  have a := ab_ix99 k h1
  have b := ab_ix99 j j1
  have c := ab_ixne0 k h1 j j1
  omega
theorem ab_ixfl (k : Nat) (h1 : k < 18) (h2 : k ≠ 0) (h3 : k ≠ 4) : (ab_ix k < 4 ∨ 8 < ab_ix k) ∧ ab_ix k ≠ 12 ∧ ab_ix k ≠ 0 ∧ ab_ix k ≠ 1 ∧ ab_ix k ≠ 24 := by
  have a := ab_ixfl0 k h1
  omega
theorem ab_fl_n {a k : Nat} {x : Int32} (h : a ≠ 0 ∨ k < 4 ∨ 8 < k) : f_MD_flags (stt v a k x) = f_MD_flags v := by
  unfold f_MD_flags
  rw [stt_n (b := 0) (j := 4) (by omega), stt_n (b := 0) (j := 5) (by omega), stt_n (b := 0) (j := 6) (by omega), stt_n (b := 0) (j := 7) (by omega), stt_n (b := 0) (j := 8) (by omega)]
/-- a scalar is set on both sides; its bound may change -/
theorem ab_Q_set (h : ab_Q bd jc u v) (k m : Nat) {n : Nat} {x y : Int32} (hx : x = nI n) (hn : n < m) (hy : y = x) (h1 : k < 18 := by decide) (h2 : k ≠ 0 := by decide) (h3 : k ≠ 4 := by decide) (h4 : k ≠ 3 := by decide) : ab_Q (va_up bd k m) jc (stt u 0 k x) (stt v 0 (ab_ix k) y) := by
  subst hy
  have hf := ab_ixfl k h1 h2 h3
  refine ⟨fun j j1 j2 j3 => ?_, ⟨?_, fun j j1 j2 => ?_⟩, ⟨?_, ?_, ?_⟩, ?_, ?_, ?_, ?_⟩
  · by_cases e : j = k
    · subst e; rw [stt_s, stt_s]; exact ⟨rfl, n, by unfold va_up; rw [if_pos rfl]; exact hn, hx⟩
    · rw [stt_k e, stt_k (ab_ixne j j1 j2 j3 k h1 h2 h3 e)]; unfold va_up; rw [if_neg e]; exact h.1 j j1 j2 j3
  · rw [stt_k (Ne.symm h2), ab_fl_n (Or.inr hf.1)]; exact h.2.1.1
  · rw [stt_k (by omega)]; exact h.2.1.2 j j1 j2
  · rw [stt_k (Ne.symm h4), stt_k (Ne.symm h3), stt_k (Ne.symm hf.2.1)]; exact h.2.2.1.1
  · rw [stt_k (Ne.symm h3)]; exact h.2.2.1.2.1
  · rw [stt_k (Ne.symm hf.2.1)]; exact h.2.2.1.2.2
  · intro j hj; rw [stt_a (by decide), stt_a (by decide)]; exact h.2.2.2.1 j hj
  · intro j hj; rw [stt_a (by decide), stt_a (by decide)]; exact h.2.2.2.2.1 j hj
  · intro j hj; rw [stt_a (by decide), stt_a (by decide)]; exact h.2.2.2.2.2.1 j hj
  · intro j hj; rw [stt_a (by decide), stt_a (by decide)]; exact h.2.2.2.2.2.2 j hj
theorem ab_Q_mono {bd' : Nat → Nat} (h : ab_Q bd jc u v) (hb : ∀ k, k < 18 → bd k ≤ bd' k) : ab_Q bd' jc u v :=
  ⟨fun k h1 h2 h3 => ⟨(h.1 k h1 h2 h3).1, (h.1 k h1 h2 h3).2.elim fun n q => ⟨n, Nat.lt_of_lt_of_le q.1 (hb k h1), q.2⟩⟩, h.2⟩
theorem ab_Q_put (h : ab_Q bd jc u v) (k : Nat) {n : Nat} {x y : Int32} (hx : x = nI n) (hn : n < bd k) (hy : y = x) (h1 : k < 18 := by decide) (h2 : k ≠ 0 := by decide) (h3 : k ≠ 4 := by decide) (h4 : k ≠ 3 := by decide) : ab_Q bd jc (stt u 0 k x) (stt v 0 (ab_ix k) y) := by
  refine ab_Q_mono (ab_Q_set h k (bd k) hx hn hy h1 h2 h3 h4) (fun j _ => ?_)
  unfold va_up
  split
  · rename_i e; rw [e]; exact Nat.le_refl _
  · exact Nat.le_refl _
/-- a place of the reference that the class doesn't have: thrown, on, states, saved, kept -/
theorem ab_Q_own (h : ab_Q bd jc u v) (k : Nat) (x : Int32) (hk : k = 0 ∨ k = 1 ∨ k = 24) : ab_Q bd jc u (stt v 0 k x) := by
  have e9 : ∀ j, 3 < j → j < 24 → stt v 0 k x 0 j = v 0 j := fun j a b => stt_k (by omega)
  refine ⟨fun j j1 j2 j3 => ?_, ⟨?_, fun j j1 j2 => ?_⟩, ⟨?_, h.2.2.1.2.1, ?_⟩, ?_, ?_, ?_, ?_⟩
  · have := ab_ixfl j j1 j2 j3; rw [stt_k (by omega)]; exact h.1 j j1 j2 j3
  · rw [ab_fl_n (by omega)]; exact h.2.1.1
  · rw [e9 j (by omega) (by omega)]; exact h.2.1.2 j j1 j2
  · rw [e9 12 (by decide) (by decide)]; exact h.2.2.1.1
  · rw [e9 12 (by decide) (by decide)]; exact h.2.2.1.2.2
  · intro j hj; rw [stt_a (by decide)]; exact h.2.2.2.1 j hj
  · intro j hj; rw [stt_a (by decide)]; exact h.2.2.2.2.1 j hj
  · intro j hj; rw [stt_a (by decide)]; exact h.2.2.2.2.2.1 j hj
  · intro j hj; rw [stt_a (by decide)]; exact h.2.2.2.2.2.2 j hj
theorem ab_Q_far (h : ab_Q bd jc u v) (a k : Nat) (x : Int32) (ha : 3 < a) : ab_Q bd jc u (stt v a k x) := by
  have e9 : ∀ b j, b < 4 → stt v a k x b j = v b j := fun b j q => stt_a (by omega)
  refine ⟨fun j j1 j2 j3 => ?_, ⟨?_, fun j j1 j2 => ?_⟩, ⟨?_, h.2.2.1.2.1, ?_⟩, ?_, ?_, ?_, ?_⟩
  · rw [e9 _ _ (by decide)]; exact h.1 j j1 j2 j3
  · rw [ab_fl_n (by omega)]; exact h.2.1.1
  · rw [e9 _ _ (by decide)]; exact h.2.1.2 j j1 j2
  · rw [e9 _ _ (by decide)]; exact h.2.2.1.1
  · rw [e9 _ _ (by decide)]; exact h.2.2.1.2.2
  · intro j hj; rw [e9 _ _ (by decide)]; exact h.2.2.2.1 j hj
  · intro j hj; rw [e9 _ _ (by decide)]; exact h.2.2.2.2.1 j hj
  · intro j hj; rw [e9 _ _ (by decide)]; exact h.2.2.2.2.2.1 j hj
  · intro j hj; rw [e9 _ _ (by decide)]; exact h.2.2.2.2.2.2 j hj
/-- a register -/
theorem ab_Q_reg (h : ab_Q bd jc u v) (k : Nat) {x y : Int32} (hx : ab_by x) (hy : y = x) : ab_Q bd jc (stt u 2 k x) (stt v 2 k y) := by
  subst hy
  refine ⟨fun j j1 j2 j3 => ?_, ⟨?_, fun j j1 j2 => ?_⟩, ⟨?_, ?_, ?_⟩, ?_, ?_, ?_, ?_⟩
  · rw [stt_a (by decide), stt_a (by decide)]; exact h.1 j j1 j2 j3
  · rw [stt_a (by decide), ab_fl_n (by omega)]; exact h.2.1.1
  · rw [stt_a (by decide)]; exact h.2.1.2 j j1 j2
  · rw [stt_a (by decide), stt_a (by decide), stt_a (by decide)]; exact h.2.2.1.1
  · rw [stt_a (by decide)]; exact h.2.2.1.2.1
  · rw [stt_a (by decide)]; exact h.2.2.1.2.2
  · intro j hj; rw [stt_a (by decide), stt_a (by decide)]; exact h.2.2.2.1 j hj
  · intro j hj; rw [stt_a (by decide), stt_a (by decide)]; exact h.2.2.2.2.1 j hj
  · intro j hj
    by_cases e : j = k
    · subst e; rw [stt_s, stt_s]; exact ⟨rfl, hx⟩
    · rw [stt_k e, stt_k e]; exact h.2.2.2.2.2.1 j hj
  · intro j hj; rw [stt_a (by decide), stt_a (by decide)]; exact h.2.2.2.2.2.2 j hj
/-- a cell of the ram -/
theorem ab_Q_ram (h : ab_Q bd jc u v) (k : Nat) {x y : Int32} (hk : k < 512) (hx : ab_by x) (hy : y = x) : ab_Q bd jc (stt u 1 k x) (stt v 1 (512 + k) y) := by
  subst hy
  refine ⟨fun j j1 j2 j3 => ?_, ⟨?_, fun j j1 j2 => ?_⟩, ⟨?_, ?_, ?_⟩, ?_, ?_, ?_, ?_⟩
  · rw [stt_a (by decide), stt_a (by decide)]; exact h.1 j j1 j2 j3
  · rw [stt_a (by decide), ab_fl_n (by omega)]; exact h.2.1.1
  · rw [stt_a (by decide)]; exact h.2.1.2 j j1 j2
  · rw [stt_a (by decide), stt_a (by decide), stt_a (by decide)]; exact h.2.2.1.1
  · rw [stt_a (by decide)]; exact h.2.2.1.2.1
  · rw [stt_a (by decide)]; exact h.2.2.1.2.2
  · intro j hj; rw [stt_a (by decide), stt_k (by omega)]; exact h.2.2.2.1 j hj
  · intro j hj
    by_cases e : j = k
    · subst e; rw [stt_s, stt_s]; exact ⟨rfl, hx⟩
    · rw [stt_k e, stt_k (by omega)]; exact h.2.2.2.2.1 j hj
  · intro j hj; rw [stt_a (by decide), stt_a (by decide)]; exact h.2.2.2.2.2.1 j hj
  · intro j hj; rw [stt_a (by decide), stt_a (by decide)]; exact h.2.2.2.2.2.2 j hj
/-- a cell of the program -/
theorem ab_Q_rom (h : ab_Q bd jc u v) (k : Nat) {x y : Int32} (hk : k < 512) (hx : ab_by x) (hy : y = x) : ab_Q bd jc (stt u 3 k x) (stt v 1 k y) := by
  subst hy
  refine ⟨fun j j1 j2 j3 => ?_, ⟨?_, fun j j1 j2 => ?_⟩, ⟨?_, ?_, ?_⟩, ?_, ?_, ?_, ?_⟩
  · rw [stt_a (by decide), stt_a (by decide)]; exact h.1 j j1 j2 j3
  · rw [stt_a (by decide), ab_fl_n (by omega)]; exact h.2.1.1
  · rw [stt_a (by decide)]; exact h.2.1.2 j j1 j2
  · rw [stt_a (by decide), stt_a (by decide), stt_a (by decide)]; exact h.2.2.1.1
  · rw [stt_a (by decide)]; exact h.2.2.1.2.1
  · rw [stt_a (by decide)]; exact h.2.2.1.2.2
  · intro j hj
    by_cases e : j = k
    · subst e; rw [stt_s, stt_s]; exact ⟨rfl, hx⟩
    · rw [stt_k e, stt_k e]; exact h.2.2.2.1 j hj
  · intro j hj; rw [stt_a (by decide), stt_k (by omega)]; exact h.2.2.2.2.1 j hj
  · intro j hj; rw [stt_a (by decide), stt_a (by decide)]; exact h.2.2.2.2.2.1 j hj
  · intro j hj; rw [stt_a (by decide), stt_a (by decide)]; exact h.2.2.2.2.2.2 j hj
/-- one of the latest sounds -/
theorem ab_Q_lat (h : ab_Q bd jc u v) (k : Nat) {x y : Int32} (hy : y = x) : ab_Q bd jc (stt u 4 k x) (stt v 3 k y) := by
  subst hy
  refine ⟨fun j j1 j2 j3 => ?_, ⟨?_, fun j j1 j2 => ?_⟩, ⟨?_, ?_, ?_⟩, ?_, ?_, ?_, ?_⟩
  · rw [stt_a (by decide), stt_a (by decide)]; exact h.1 j j1 j2 j3
  · rw [stt_a (by decide), ab_fl_n (by omega)]; exact h.2.1.1
  · rw [stt_a (by decide)]; exact h.2.1.2 j j1 j2
  · rw [stt_a (by decide), stt_a (by decide), stt_a (by decide)]; exact h.2.2.1.1
  · rw [stt_a (by decide)]; exact h.2.2.1.2.1
  · rw [stt_a (by decide)]; exact h.2.2.1.2.2
  · intro j hj; rw [stt_a (by decide), stt_a (by decide)]; exact h.2.2.2.1 j hj
  · intro j hj; rw [stt_a (by decide), stt_a (by decide)]; exact h.2.2.2.2.1 j hj
  · intro j hj; rw [stt_a (by decide), stt_a (by decide)]; exact h.2.2.2.2.2.1 j hj
  · intro j hj
    by_cases e : j = k
    · subst e; rw [stt_s, stt_s]
    · rw [stt_k e, stt_k e]; exact h.2.2.2.2.2.2 j hj
/-- the interrupts and what goes with them -/
theorem ab_Q_int (h : ab_Q bd jc u v) {jc' : Int32 → Int32 → Int32 → Prop} {i s j : Int32} (hi : ab_bo i) (h3 : 2 ≤ bd 3) (hs : ab_bo s) (hj : ab_bo j) (hc : jc' i s j) : ab_Q bd jc' (stt (stt u 0 3 i) 0 4 s) (stt (stt v 0 11 i) 0 12 j) := by
  refine ⟨fun k k1 k2 k3 => ?_, ⟨?_, fun k k1 k2 => ?_⟩, ⟨?_, ?_, ?_⟩, ?_, ?_, ?_, ?_⟩
  · have hf := ab_ixfl k k1 k2 k3
    rw [stt_k k3, stt_k hf.2.1]
    by_cases e : k = 3
    · subst e; rw [stt_s, show ab_ix 3 = 11 from rfl, stt_s]; refine ⟨rfl, ?_⟩
      rcases hi with e | e
      · exact ⟨0, by omega, e⟩
      · exact ⟨1, by omega, e⟩
    · rw [stt_k e, stt_k (show ab_ix k ≠ 11 from ab_ixne k k1 k2 k3 3 (by decide) (by decide) (by decide) e)]; exact h.1 k k1 k2 k3
  · rw [stt_k (by decide), stt_k (by decide), ab_fl_n (by omega), ab_fl_n (by omega)]; exact h.2.1.1
  · rw [stt_k (by omega), stt_k (by omega)]; exact h.2.1.2 k k1 k2
  · rw [stt_k (k := 4) (by decide), stt_s, stt_s, stt_s]; exact hc
  · rw [stt_s]; exact hs
  · rw [stt_s]; exact hj
  · intro j hj; simp only [stt_ap]; exact h.2.2.2.1 j hj
  · intro j hj; simp only [stt_ap]; exact h.2.2.2.2.1 j hj
  · intro j hj; simp only [stt_ap]; exact h.2.2.2.2.2.1 j hj
  · intro j hj; simp only [stt_ap]; exact h.2.2.2.2.2.2 j hj
end EQ

theorem ab_N (x : Int32) : x = nI x.toBitVec.toNat := by apply Int32.toBitVec_inj.mp; apply BitVec.eq_of_toNat_eq; exact (Nat.mod_eq_of_lt x.toBitVec.isLt).symm
theorem ab_nor {a b : Nat} (ha : a < 2 ^ 32) (hb : b < 2 ^ 32) : nI a ||| nI b = nI (a ||| b) := by
  apply Int32.toBitVec_inj.mp; apply BitVec.eq_of_toNat_eq
  rw [Int32.toBitVec_or, BitVec.toNat_or, pk_tn ha, pk_tn hb, pk_tn (Nat.or_lt_two_pow ha hb)]
theorem ab_m8 (x : Int32) : x &&& 255 = nI (x.toBitVec.toNat % 256) := pk_and x 8 rfl
theorem ab_m16 (x : Int32) : x &&& 65535 = nI (x.toBitVec.toNat % 65536) := pk_and x 16 rfl
theorem ab_m10 (x : Int32) : x &&& 1023 = nI (x.toBitVec.toNat % 1024) := pk_and x 10 rfl
theorem ab_m8N (n : Nat) : nI n &&& 255 = nI (n % 256) := by
  rw [ab_m8]; show nI ((BitVec.ofNat 32 n).toNat % 256) = _; rw [BitVec.toNat_ofNat, Nat.mod_mod_of_dvd _ (by decide)]
theorem ab_m16N (n : Nat) : nI n &&& 65535 = nI (n % 65536) := by
  rw [ab_m16]; show nI ((BitVec.ofNat 32 n).toNat % 65536) = _; rw [BitVec.toNat_ofNat, Nat.mod_mod_of_dvd _ (by decide)]
theorem ab_m10N (n : Nat) : nI n &&& 1023 = nI (n % 1024) := by
  rw [ab_m10]; show nI ((BitVec.ofNat 32 n).toNat % 1024) = _; rw [BitVec.toNat_ofNat, Nat.mod_mod_of_dvd _ (by decide)]
theorem ab_m8b (x : Int32) : ab_by (x &&& 255) := ⟨_, Nat.mod_lt _ (by decide), ab_m8 x⟩
theorem ab_m16w (x : Int32) : ab_wd (x &&& 65535) := ⟨_, Nat.mod_lt _ (by decide), ab_m16 x⟩
theorem ab_m8m (x : Int32) : (x &&& 255) &&& 255 = x &&& 255 := by rw [ab_m8 x, ab_m8N, Nat.mod_mod]
theorem ab_m16m (x : Int32) : (x &&& 65535) &&& 1023 = x &&& 1023 := by rw [ab_m16 x, ab_m10N, ab_m10, Nat.mod_mod_of_dvd _ (by decide)]
theorem ab_m8by {x : Int32} (h : ab_by x) : x &&& 255 = x := by obtain ⟨n, hn, rfl⟩ := h; rw [ab_m8N, Nat.mod_eq_of_lt hn]
theorem ab_m16wd {x : Int32} (h : ab_wd x) : x &&& 65535 = x := by obtain ⟨n, hn, rfl⟩ := h; rw [ab_m16N, Nat.mod_eq_of_lt hn]
theorem ab_wd_of {x : Int32} (h : ab_by x) : ab_wd x := h.elim fun n q => ⟨n, by omega, q.2⟩
theorem ab_wor {a b : Int32} (ha : ab_by a) (hb : ab_by b) : a ||| (b <<< ((8 : Int32) &&& 31)) = a + 256 * b ∧ ab_wd (a + 256 * b) := by
  obtain ⟨m, hm, rfl⟩ := ha
  obtain ⟨n, hn, rfl⟩ := hb
  have e : nI m + 256 * nI n = nI (m + 256 * n) := by rw [show (256 : Int32) = nI 256 from rfl, pk_mul, nI_add]
  refine ⟨?_, m + 256 * n, by omega, e⟩
  rw [e, pk_shlN _ 8 (by decide) (by omega), ab_nor (by omega) (by omega)]
  congr 1
  rw [Nat.or_comm, show n * 2 ^ 8 = 2 ^ 8 * n from Nat.mul_comm _ _, ← Nat.two_pow_add_eq_or_of_lt (by omega : m < 2 ^ 8)]
  omega
theorem ab_wor' {a b : Int32} (ha : ab_by a) (hb : ab_by b) : (b <<< ((8 : Int32) &&& 31)) ||| a = 256 * b + a ∧ ab_wd (256 * b + a) := by
  rw [Int32.or_comm, Int32.add_comm]; exact ab_wor ha hb
section EQ
variable {bd : Nat → Nat} {jc : Int32 → Int32 → Int32 → Prop} {u v : SS}
theorem ab_at (h : ab_Q bd jc u v) (x : Int32) : f_Memory_at u x = f_MD_read v x ∧ ab_by (f_MD_read v x) := by
  unfold f_Memory_at f_MD_read
  rw [ab_m10 x]
  generalize hj : x.toBitVec.toNat % 1024 = j
  have hj' : j < 1024 := hj ▸ Nat.mod_lt _ (by decide)
  by_cases h5 : 512 ≤ j
  · obtain ⟨i, rfl⟩ : ∃ i, j = 512 + i := ⟨j - 512, by omega⟩
    rw [if_pos (show (512 : Int32) ≤ nI (512 + i) from (nI_leI (by decide) (by omega)).mpr h5), show (512 : Int32) = nI 512 from rfl, pk_sub h5, nI_clamp (by omega), nI_clamp (by omega), Nat.add_sub_cancel_left]
    have := h.2.2.2.2.1 i (by omega)
    exact ⟨this.1, this.1 ▸ this.2⟩
  · rw [if_neg (show ¬ (512 : Int32) ≤ nI j from fun q => h5 ((nI_leI (by decide) (by omega)).mp q)), nI_clamp (by omega)]
    have := h.2.2.2.1 j (by omega)
    exact ⟨this.1, this.1 ▸ this.2⟩
theorem ab_put_a {x y : Int32} {b j : Nat} (h : b ≠ 1) : f_Memory_put u x y b j = u b j := by
  unfold f_Memory_put; split
  · rfl
  · exact stt_a h
theorem ab_wr_a {x y : Int32} {b j : Nat} (h : b ≠ 1) : f_MD_write u x y b j = u b j := by unfold f_MD_write; exact stt_a h
theorem ab_put (h : ab_Q bd jc u v) {x y y' : Int32} (e : y &&& 255 = y' &&& 255) : ab_Q bd jc (f_Memory_put u x y) (f_MD_write v x y') := by
  unfold f_Memory_put f_MD_write
  rw [ab_m10 x]
  generalize hj : x.toBitVec.toNat % 1024 = j
  have hj' : j < 1024 := hj ▸ Nat.mod_lt _ (by decide)
  by_cases h5 : 512 ≤ j
  · obtain ⟨i, rfl⟩ : ∃ i, j = 512 + i := ⟨j - 512, by omega⟩
    rw [if_pos (show (512 : Int32) ≤ nI (512 + i) from (nI_leI (by decide) (by omega)).mpr h5), if_neg (show ¬ nI (512 + i) < (512 : Int32) from nI_nlt h5 (by omega)), show (512 : Int32) = nI 512 from rfl, pk_sub h5, nI_clamp (by omega), nI_clamp (by omega), Nat.add_sub_cancel_left]
    exact ab_Q_ram h i (by omega) (ab_m8b _) e.symm
  · rw [if_neg (show ¬ (512 : Int32) ≤ nI j from fun q => h5 ((nI_leI (by decide) (by omega)).mp q)), if_pos (show nI j < (512 : Int32) from (nI_ltI (b := 512) (by omega) (by decide)).mpr (by omega)), stt_id]
    exact h
theorem ab_read_e {x y : Int32} (e : x &&& 1023 = y &&& 1023) : f_MD_read v x = f_MD_read v y := by unfold f_MD_read; rw [e]
theorem ab_read_s {x : Int32} {k : Nat} {z : Int32} : f_MD_read (stt v 0 k z) x = f_MD_read v x := by unfold f_MD_read; exact stt_a (by decide)
theorem ab_pcs (x : Int32) : ((x + 1) &&& 65535) &&& 1023 = (x + 1) &&& 1023 := ab_m16m _
theorem ab_pc2 (x : Int32) : (((x + 1) &&& 65535) + 1) &&& 65535 = (x + 2) &&& 65535 := by
  have e : x + 2 = nI (x.toBitVec.toNat + 2) := by conv => lhs; rw [ab_N x, show (2 : Int32) = nI 2 from rfl, nI_add]
  have e1 : x + 1 = nI (x.toBitVec.toNat + 1) := by conv => lhs; rw [ab_N x, show (1 : Int32) = nI 1 from rfl, nI_add]
  rw [e, e1, ab_m16N, ab_m16N, nI_1, ab_m16N]
  congr 1
  omega
theorem ab_nextByte (h : ab_Q bd jc u v) (hb : 65536 ≤ bd 2) : (f_Processor_nextByte u).1 = (f_MD_next v).1 ∧ ab_by (f_MD_next v).1 ∧ ab_Q bd jc (f_Processor_nextByte u).2 (f_MD_next v).2 := by
  unfold f_Processor_nextByte f_MD_next
  have hp : u 0 2 = v 0 10 := ab_Q_sc h 2
  obtain ⟨n, hn, e⟩ := ab_m16w (u 0 2 + 1)
  refine ⟨by rw [hp]; exact (ab_at h _).1, (ab_at h _).2, ab_Q_put h 2 e (by omega) (by rw [hp])⟩
theorem ab_nextWord (h : ab_Q bd jc u v) (hb : 65536 ≤ bd 2) : (f_Processor_nextWord u).1 = (f_MD_nextWord v).1 ∧ ab_wd (f_MD_nextWord v).1 ∧ ab_Q bd jc (f_Processor_nextWord u).2 (f_MD_nextWord v).2 := by
  have hp : u 0 2 = v 0 10 := ab_Q_sc h 2
  obtain ⟨n, hn, e⟩ := ab_m16w (u 0 2 + 2)
  have e1 : (f_MD_nextWord v).1 = f_MD_read v (v 0 10) + 256 * f_MD_read v (v 0 10 + 1) := by
    show f_MD_read v (v 0 10) + 256 * f_MD_read (stt v 0 10 ((v 0 10 + 1) &&& 65535)) (stt v 0 10 ((v 0 10 + 1) &&& 65535) 0 10) = _
    rw [stt_s, ab_read_s, ab_read_e (ab_pcs _)]
  have e2 : (f_MD_nextWord v).2 = stt v 0 10 ((v 0 10 + 2) &&& 65535) := by
    show stt (stt v 0 10 ((v 0 10 + 1) &&& 65535)) 0 10 ((stt v 0 10 ((v 0 10 + 1) &&& 65535) 0 10 + 1) &&& 65535) = _
    rw [stt_s, stt_stt, ab_pc2]
  have w := ab_wor (ab_at h (u 0 2)).2 (ab_at h (u 0 2 + 1)).2
  refine ⟨?_, ?_, ?_⟩
  · rw [e1, ← hp, ← w.1, ← (ab_at h _).1, ← (ab_at h _).1]; rfl
  · rw [e1, ← hp]; exact w.2
  · rw [e2, ← hp]; exact ab_Q_put h 2 e (by omega) rfl
theorem ab_wordAt (h : ab_Q bd jc u v) (x : Int32) : f_Memory_wordAt u x = f_MD_read v x + 256 * f_MD_read v (x + 1) ∧ ab_wd (f_MD_read v x + 256 * f_MD_read v (x + 1)) := by
  unfold f_Memory_wordAt
  rw [(ab_at h _).1, (ab_at h _).1]
  exact ab_wor (ab_at h _).2 (ab_at h _).2
theorem ab_pop (h : ab_Q bd jc u v) (hb : 65536 ≤ bd 1) : (f_Memory_pop u).1 = (f_MD_pop v).1 ∧ ab_wd (f_MD_pop v).1 ∧ ab_Q bd jc (f_Memory_pop u).2 (f_MD_pop v).2 := by
  unfold f_Memory_pop f_MD_pop
  have hp : u 0 1 = v 0 9 := ab_Q_sc h 1
  obtain ⟨n, hn, e⟩ := ab_m16w (u 0 1 + 2)
  refine ⟨?_, (ab_wordAt h _).2, ab_Q_put h 1 e (by omega) (by rw [hp])⟩
  rw [hp]; exact (ab_wordAt h _).1
theorem ab_hi {x : Int32} (h : ab_wd x) : (x >>> ((8 : Int32) &&& 31)) = x / 256 ∧ ab_by (x / 256) := by
  obtain ⟨n, hn, rfl⟩ := h
  rw [pk_shrN (by omega) _ 8 (by decide), show (256 : Int32) = nI 256 from rfl, pk_div (by omega) (by decide) (by decide)]
  exact ⟨rfl, n / 256, by omega, rfl⟩
theorem ab_lo {x : Int32} (h : ab_wd x) : x &&& 255 = x - x / 256 * 256 ∧ ab_by (x - x / 256 * 256) := by
  obtain ⟨n, hn, rfl⟩ := h
  rw [ab_m8N, show (256 : Int32) = nI 256 from rfl, pk_rem (by omega) (by decide) (by decide)]
  exact ⟨rfl, n % 256, by omega, rfl⟩
theorem ab_push (h : ab_Q bd jc u v) (hb : 65536 ≤ bd 1) {x : Int32} (hx : ab_wd x) : ab_Q bd jc (f_Memory_push u x) (f_MD_push v x) := by
  unfold f_Memory_push f_MD_push
  have hp : u 0 1 = v 0 9 := ab_Q_sc h 1
  obtain ⟨n, hn, e⟩ := ab_m16w (u 0 1 - 2)
  simp only [ab_put_a (show (0 : Nat) ≠ 1 by decide), ab_wr_a (show (0 : Nat) ≠ 1 by decide), ← hp]
  refine ab_Q_put (ab_put (ab_put h ?_) ?_) 1 e (by omega) rfl
  · rw [(ab_hi hx).1]
  · rw [← (ab_lo hx).1, ab_m8m]
/-- pairs of registers -/
theorem ab_2k {k : Nat} (hk : k < 4) : (2 * (nI k &&& 3)).toNatClampNeg = 2 * k ∧ (2 * (nI k &&& 3) + 1).toNatClampNeg = 2 * k + 1 ∧ (2 * nI k).toNatClampNeg = 2 * k ∧ (2 * nI k + 1).toNatClampNeg = 2 * k + 1 := by
  have e : nI k &&& 3 = nI k := by rw [pk_andN (by omega) 2 rfl, Nat.mod_eq_of_lt (by omega)]
  rw [e, show (2 : Int32) = nI 2 from rfl, pk_mul, nI_1, nI_clamp (by omega), nI_clamp (by omega)]
  exact ⟨rfl, rfl, rfl, rfl⟩
theorem ab_n3 {k : Nat} (hk : k < 4) : nI k = 3 ↔ k = 3 := nI_eq (b := 3) (by omega) (by decide)
theorem ab_pair (h : ab_Q bd jc u v) (hb : bd 1 ≤ 65536) {k : Nat} (hk : k < 4) : f_Registers_pair u (nI k) = f_MD_pair v (nI k) ∧ ab_wd (f_MD_pair v (nI k)) := by
  unfold f_Registers_pair f_MD_pair
  obtain ⟨a1, a2, a3, a4⟩ := ab_2k hk
  by_cases e : k = 3
  · rw [if_pos ((ab_n3 hk).mpr e), if_pos ((ab_n3 hk).mpr e)]
    have hp : u 0 1 = v 0 9 := ab_Q_sc h 1
    obtain ⟨n, hn, e⟩ := ab_Q_bd h 1
    exact ⟨hp, n, by omega, by rw [← hp, e]⟩
  · rw [if_neg (fun q => e ((ab_n3 hk).mp q)), if_neg (fun q => e ((ab_n3 hk).mp q)), a1, a2, a3, a4]
    have r1 := h.2.2.2.2.2.1 (2 * k) (by omega)
    have r2 := h.2.2.2.2.2.1 (2 * k + 1) (by omega)
    rw [r1.1, r2.1]
    exact ab_wor' (r2.1 ▸ r2.2) (r1.1 ▸ r1.2)
theorem ab_m16hi (x : Int32) : (x >>> ((8 : Int32) &&& 31)) &&& 255 = (x &&& 65535) / 256 := by
  have h1 : ((x >>> ((8 : Int32) &&& 31)) &&& 255) = ((x >>> ((8 : Int32) &&& 31)) &&& 255) := rfl
  rw [ab_m16, show (256 : Int32) = nI 256 from rfl, pk_div (by omega) (by decide) (by decide), ab_m8]
  congr 1
  have e : (x >>> ((8 : Int32) &&& 31)).toBitVec = x.toBitVec.sshiftRight 8 := rfl
  rw [e]
  have e2 : (x.toBitVec.sshiftRight 8).toNat % 256 = (x.toBitVec.sshiftRight 8).toNat % 2 ^ 8 := rfl
  rw [e2, ← BitVec.toNat_setWidth]
  have e3 : (x.toBitVec.sshiftRight 8).setWidth 8 = (x.toBitVec >>> 8).setWidth 8 := by
    ext i hi
    simp [BitVec.getElem_setWidth, BitVec.getLsbD_sshiftRight]
    rw [if_pos (by omega), decide_eq_false (by omega)]; rfl
  rw [e3, BitVec.toNat_setWidth, BitVec.toNat_ushiftRight, Nat.shiftRight_eq_div_pow]
  omega
theorem ab_m16lo (x : Int32) : x &&& 255 = (x &&& 65535) - (x &&& 65535) / 256 * 256 := by
  rw [← (ab_lo (ab_m16w x)).1, ab_m16 x, ab_m8N, Nat.mod_mod_of_dvd _ (by decide), ab_m8]
theorem ab_setPair (h : ab_Q bd jc u v) (hb : 65536 ≤ bd 1) {k : Nat} (hk : k < 4) (x : Int32) : ab_Q bd jc (f_Registers_setPair u (nI k) x) (f_MD_setPair v (nI k) x) := by
  unfold f_Registers_setPair f_MD_setPair
  obtain ⟨a1, a2, a3, a4⟩ := ab_2k hk
  by_cases e : k = 3
  · rw [if_pos ((ab_n3 hk).mpr e), if_pos ((ab_n3 hk).mpr e)]
    obtain ⟨n, hn, e⟩ := ab_m16w x
    exact ab_Q_put h 1 e (by omega) rfl
  · rw [if_neg (fun q => e ((ab_n3 hk).mp q)), if_neg (fun q => e ((ab_n3 hk).mp q)), a1, a2, a3, a4]
    exact ab_Q_reg (ab_Q_reg h _ (ab_m8b _) (ab_m16hi x).symm) _ (ab_m8b _) (ab_m16lo x).symm
theorem ab_n6 {k : Nat} (hk : k < 8) : nI k = 6 ↔ k = 6 := nI_eq (b := 6) (by omega) (by decide)
theorem ab_a7 {k : Nat} (hk : k < 8) : (nI k &&& 7).toNatClampNeg = k ∧ (nI k).toNatClampNeg = k := by
  rw [pk_andN (by omega) 3 rfl, Nat.mod_eq_of_lt (by omega), nI_clamp (by omega)]; exact ⟨rfl, rfl⟩
theorem ab_value (h : ab_Q bd jc u v) (hb : bd 1 ≤ 65536) {k : Nat} (hk : k < 8) : f_Registers_value u (nI k) = f_MD_get v (nI k) ∧ ab_by (f_MD_get v (nI k)) := by
  unfold f_Registers_value f_MD_get
  by_cases e : k = 6
  · rw [if_pos ((ab_n6 hk).mpr e), if_pos ((ab_n6 hk).mpr e), show (2 : Int32) = nI 2 from rfl, (ab_pair h hb (by decide)).1]
    exact ab_at h _
  · rw [if_neg (fun q => e ((ab_n6 hk).mp q)), if_neg (fun q => e ((ab_n6 hk).mp q)), (ab_a7 hk).1, (ab_a7 hk).2]
    have r := h.2.2.2.2.2.1 k hk
    exact ⟨r.1, r.1 ▸ r.2⟩
theorem ab_set (h : ab_Q bd jc u v) (hb : bd 1 ≤ 65536) {k : Nat} (hk : k < 8) (x : Int32) : ab_Q bd jc (f_Registers_set u (nI k) x) (f_MD_set v (nI k) x) := by
  unfold f_Registers_set f_MD_set
  by_cases e : k = 6
  · rw [if_pos ((ab_n6 hk).mpr e), if_pos ((ab_n6 hk).mpr e), show (2 : Int32) = nI 2 from rfl, (ab_pair h hb (by decide)).1]
    exact ab_put h rfl
  · rw [if_neg (fun q => e ((ab_n6 hk).mp q)), if_neg (fun q => e ((ab_n6 hk).mp q)), (ab_a7 hk).1, (ab_a7 hk).2]
    exact ab_Q_reg h _ (ab_m8b _) rfl
end EQ

/-- the byte of the five flags -/
def ab_FL (s z h p k : Int32) : Int32 := (((((if s = 0 then 0 else 128 : Int32) + (if z = 0 then 0 else 64 : Int32)) + (if h = 0 then 0 else 16 : Int32)) + (if p = 0 then 0 else 4 : Int32)) + 2) + (if k = 0 then 0 else 1 : Int32)
theorem ab_FL_e (v : SS) : f_MD_flags v = ab_FL (v 0 4) (v 0 5) (v 0 6) (v 0 7) (v 0 8) := rfl
def ab_pr (t : Int32) : Int32 := if (t - t / 2 * 2) = 0 then 1 else 0
def ab_par (r : Int32) : Int32 := ab_pr (((((((((0 : Int32) + ((r >>> (((0 : Int32)) &&& 31)) &&& 1)) + ((r >>> (((0 : Int32) + 1) &&& 31)) &&& 1)) + ((r >>> (((0 : Int32) + 1 + 1) &&& 31)) &&& 1)) + ((r >>> (((0 : Int32) + 1 + 1 + 1) &&& 31)) &&& 1)) + ((r >>> (((0 : Int32) + 1 + 1 + 1 + 1) &&& 31)) &&& 1)) + ((r >>> (((0 : Int32) + 1 + 1 + 1 + 1 + 1) &&& 31)) &&& 1)) + ((r >>> (((0 : Int32) + 1 + 1 + 1 + 1 + 1 + 1) &&& 31)) &&& 1)) + ((r >>> (((0 : Int32) + 1 + 1 + 1 + 1 + 1 + 1 + 1) &&& 31)) &&& 1))
def ab_sg (r : Int32) : Int32 := if r ≤ 127 then 0 else 1
def ab_ze (r : Int32) : Int32 := if r = 0 then 1 else 0
theorem ab_res39 (w : SS) (r : Int32) : g_MD_result_39 9 w r 0 0 = (r, stt w 0 7 (ab_par r)) := by
  rw [g_MD_result_39, if_neg (by decide), g_MD_result_39, if_neg (by decide), g_MD_result_39, if_neg (by decide), g_MD_result_39, if_neg (by decide), g_MD_result_39, if_neg (by decide), g_MD_result_39, if_neg (by decide), g_MD_result_39, if_neg (by decide), g_MD_result_39, if_neg (by decide), g_MD_result_39, if_pos (by decide)]
  rfl
theorem ab_res (v : SS) (x : Int32) : f_MD_result v x = (x &&& 255, stt (stt (stt v 0 4 (ab_sg (x &&& 255))) 0 5 (ab_ze (x &&& 255))) 0 7 (ab_par (x &&& 255))) := by
  unfold f_MD_result; exact ab_res39 _ _
theorem ab_bo0 : ab_bo 0 := Or.inl rfl
theorem ab_bo1 : ab_bo 1 := Or.inr rfl
theorem ab_par_bo (r : Int32) : ab_bo (ab_par r) := by
  unfold ab_par ab_pr; split
  · exact ab_bo1
  · exact ab_bo0
theorem ab_sg_bo (r : Int32) : ab_bo (ab_sg r) := by
  unfold ab_sg; split
  · exact ab_bo0
  · exact ab_bo1
theorem ab_ze_bo (r : Int32) : ab_bo (ab_ze r) := by
  unfold ab_ze; split
  · exact ab_bo1
  · exact ab_bo0
/-- 256 cases -/
def ab_rf (x1 : Int32) : Int32 := f_Arithmetic_resultFlags (fun _ _ => 0) x1
theorem ab_rf_e (u : SS) (x : Int32) : f_Arithmetic_resultFlags u x = ab_rf x := rfl
set_option maxRecDepth 100000 in
theorem ab_rf0 : ∀ n, n < 256 → ab_rf (nI n) = ab_FL (ab_sg (nI n)) (ab_ze (nI n)) 0 (ab_par (nI n)) 0 := by decide +kernel
theorem ab_FLor {s z p h k a b : Int32} (hs : ab_bo s) (hz : ab_bo z) (hp : ab_bo p) (h1 : (h = 0 ∧ a = 0) ∨ (h = 1 ∧ a = 16)) (h2 : (k = 0 ∧ b = 0) ∨ (k = 1 ∧ b = 1)) : (ab_FL s z 0 p 0 ||| a) ||| b = ab_FL s z h p k := by
  rcases hs with rfl | rfl <;> rcases hz with rfl | rfl <;> rcases hp with rfl | rfl <;> rcases h1 with ⟨rfl, rfl⟩ | ⟨rfl, rfl⟩ <;> rcases h2 with ⟨rfl, rfl⟩ | ⟨rfl, rfl⟩ <;> decide
theorem ab_rfl {u : SS} {r h k a b : Int32} (hr : ab_by r) (h1 : (h = 0 ∧ a = 0) ∨ (h = 1 ∧ a = 16)) (h2 : (k = 0 ∧ b = 0) ∨ (k = 1 ∧ b = 1)) : (f_Arithmetic_resultFlags u r ||| a) ||| b = ab_FL (ab_sg r) (ab_ze r) h (ab_par r) k := by
  obtain ⟨n, hn, rfl⟩ := hr
  rw [ab_rf_e, ab_rf0 n hn]
  exact ab_FLor (ab_sg_bo _) (ab_ze_bo _) (ab_par_bo _) h1 h2
theorem ab_FL_by {s z h p k : Int32} : ab_by (ab_FL s z h p k) := by
  unfold ab_FL
  split <;> split <;> split <;> split <;> split <;> exact ⟨_, by decide, rfl⟩
theorem ab_FLc {s z h p k x : Int32} (hk : ab_bo k) : ab_FL s z h p k &&& 1 = k ∧ (ab_FL s z h p k &&& (-2)) ||| (x &&& 1) = ab_FL s z h p (x &&& 1) := by
  have hx : x &&& 1 = 0 ∨ x &&& 1 = 1 := by
    obtain ⟨j, hj, e⟩ := pk_andE x (m := 1) 1 rfl
    rw [e]
    rcases (show j = 0 ∨ j = 1 by omega) with rfl | rfl
    · exact Or.inl rfl
    · exact Or.inr rfl
  unfold ab_FL
  rcases hk with rfl | rfl <;> rcases hx with e | e <;> rw [e] <;> split <;> split <;> split <;> split <;> decide
theorem ab_FLt {s z h p k : Int32} (hs : ab_bo s) (hz : ab_bo z) (hh : ab_bo h) (hp : ab_bo p) (hk : ab_bo k) :
    (if (ab_FL s z h p k &&& 64) = 0 then 0 else 1 : Int32) = z ∧ (if (ab_FL s z h p k &&& 1) = 0 then 0 else 1 : Int32) = k ∧ (if (ab_FL s z h p k &&& 4) = 0 then 0 else 1 : Int32) = p ∧ (if (ab_FL s z h p k &&& 128) = 0 then 0 else 1 : Int32) = s ∧ ((ab_FL s z h p k &&& 16) = 0 ↔ h = 0) := by
  rcases hs with rfl | rfl <;> rcases hz with rfl | rfl <;> rcases hp with rfl | rfl <;> rcases hh with rfl | rfl <;> rcases hk with rfl | rfl <;> decide
section EQ
variable {bd : Nat → Nat} {jc : Int32 → Int32 → Int32 → Prop} {u v : SS}
/-- the flags are set -/
theorem ab_Q_fl (h : ab_Q bd jc u v) {v' : SS} {x : Int32} (hv : ∀ b j, ¬ (b = 0 ∧ 4 ≤ j ∧ j ≤ 8) → v' b j = v b j) (hx : x = f_MD_flags v') (hb : ∀ j, 4 ≤ j → j ≤ 8 → ab_bo (v' 0 j)) : ab_Q bd jc (stt u 0 0 x) v' := by
  refine ⟨fun j j1 j2 j3 => ?_, ⟨?_, hb⟩, ⟨?_, ?_, ?_⟩, ?_, ?_, ?_, ?_⟩
  · have := ab_ixfl j j1 j2 j3; rw [stt_k j2, hv _ _ (by omega)]; exact h.1 j j1 j2 j3
  · rw [stt_s]; exact hx
  · rw [stt_k (by decide), stt_k (by decide), hv _ _ (by omega)]; exact h.2.2.1.1
  · rw [stt_k (by decide)]; exact h.2.2.1.2.1
  · rw [hv _ _ (by omega)]; exact h.2.2.1.2.2
  · intro j hj; rw [stt_a (by decide), hv _ _ (by omega)]; exact h.2.2.2.1 j hj
  · intro j hj; rw [stt_a (by decide), hv _ _ (by omega)]; exact h.2.2.2.2.1 j hj
  · intro j hj; rw [stt_a (by decide), hv _ _ (by omega)]; exact h.2.2.2.2.2.1 j hj
  · intro j hj; rw [stt_a (by decide), hv _ _ (by omega)]; exact h.2.2.2.2.2.2 j hj
theorem ab_bo5 {s z hh p k : Int32} {w : SS} (e4 : w 0 4 = s) (e5 : w 0 5 = z) (e6 : w 0 6 = hh) (e7 : w 0 7 = p) (e8 : w 0 8 = k) (hs : ab_bo s) (hz : ab_bo z) (h6 : ab_bo hh) (hp : ab_bo p) (hk : ab_bo k) : ∀ j, 4 ≤ j → j ≤ 8 → ab_bo (w 0 j) := by
  intro j h1 h2
  rcases (show j = 4 ∨ j = 5 ∨ j = 6 ∨ j = 7 ∨ j = 8 by omega) with rfl | rfl | rfl | rfl | rfl
  · rw [e4]; exact hs
  · rw [e5]; exact hz
  · rw [e6]; exact h6
  · rw [e7]; exact hp
  · rw [e8]; exact hk
/-- a result with its half and its carry -/
theorem ab_Q_res (h : ab_Q bd jc u v) {x y hh k : Int32} (h6 : ab_bo hh) (hk : ab_bo k) (hx : y = ab_FL (ab_sg (x &&& 255)) (ab_ze (x &&& 255)) hh (ab_par (x &&& 255)) k) : ab_Q bd jc (stt u 0 0 y) (f_MD_result (stt (stt v 0 8 k) 0 6 hh) x).2 := by
  rw [ab_res]
  dsimp only
  have e4 : stt (stt (stt (stt (stt v 0 8 k) 0 6 hh) 0 4 (ab_sg (x &&& 255))) 0 5 (ab_ze (x &&& 255))) 0 7 (ab_par (x &&& 255)) 0 4 = ab_sg (x &&& 255) := by simp [stt_ap]
  have e5 : stt (stt (stt (stt (stt v 0 8 k) 0 6 hh) 0 4 (ab_sg (x &&& 255))) 0 5 (ab_ze (x &&& 255))) 0 7 (ab_par (x &&& 255)) 0 5 = ab_ze (x &&& 255) := by simp [stt_ap]
  have e6 : stt (stt (stt (stt (stt v 0 8 k) 0 6 hh) 0 4 (ab_sg (x &&& 255))) 0 5 (ab_ze (x &&& 255))) 0 7 (ab_par (x &&& 255)) 0 6 = hh := by simp [stt_ap]
  have e7 : stt (stt (stt (stt (stt v 0 8 k) 0 6 hh) 0 4 (ab_sg (x &&& 255))) 0 5 (ab_ze (x &&& 255))) 0 7 (ab_par (x &&& 255)) 0 7 = ab_par (x &&& 255) := by simp [stt_ap]
  have e8 : stt (stt (stt (stt (stt v 0 8 k) 0 6 hh) 0 4 (ab_sg (x &&& 255))) 0 5 (ab_ze (x &&& 255))) 0 7 (ab_par (x &&& 255)) 0 8 = k := by simp [stt_ap]
  refine ab_Q_fl h (fun b j hn => ?_) ?_ (ab_bo5 e4 e5 e6 e7 e8 (ab_sg_bo _) (ab_ze_bo _) h6 (ab_par_bo _) hk)
  · show stt _ 0 7 _ b j = _
    rw [stt_n (by omega), stt_n (by omega), stt_n (by omega), stt_n (by omega), stt_n (by omega)]
  · rw [ab_FL_e, e4, e5, e6, e7, e8, hx]
end EQ
end
section
/-! sums, differences, logic -/
theorem ab_h16 : ∀ t, t < 32 → (((if nI t ≤ 15 then 0 else 1 : Int32) = 0 ∧ nI t &&& 16 = 0) ∨ ((if nI t ≤ 15 then 0 else 1 : Int32) = 1 ∧ nI t &&& 16 = 16)) := by decide +kernel
theorem ab_r16 {n : Nat} (h : n < 256) : nI n &&& 15 = nI (n % 16) ∧ nI n - nI n / 16 * 16 = nI (n % 16) := ⟨pk_andN (by omega) 4 rfl, pk_rem (d := 16) (by omega) (by decide) (by decide)⟩
theorem ab_n15 : ∀ n, n < 256 → (nI n ^^^ (-1)) &&& 15 = 15 - (nI n - nI n / 16 * 16) := by decide +kernel
theorem ab_c01 {c : Int32} (h : ab_bo c) : ∃ k, k < 2 ∧ c = nI k := h.elim (fun e => ⟨0, by decide, e⟩) (fun e => ⟨1, by decide, e⟩)
theorem ab_and_by {a b : Int32} (ha : ab_by a) : ab_by (a &&& b) := by
  obtain ⟨n, hn, rfl⟩ := ha
  refine ⟨n &&& b.toBitVec.toNat, Nat.lt_of_le_of_lt Nat.and_le_left hn, ?_⟩
  apply Int32.toBitVec_inj.mp; apply BitVec.eq_of_toNat_eq
  rw [Int32.toBitVec_and, BitVec.toNat_and, pk_tn (by omega), pk_tn (Nat.lt_of_le_of_lt Nat.and_le_left (by omega))]
theorem ab_or_by {a b : Int32} (ha : ab_by a) (hb : ab_by b) : ab_by (a ||| b) := by
  obtain ⟨n, hn, rfl⟩ := ha
  obtain ⟨m, hm, rfl⟩ := hb
  exact ⟨n ||| m, Nat.or_lt_two_pow (n := 8) hn hm, ab_nor (by omega) (by omega)⟩
theorem ab_xor_by {a b : Int32} (ha : ab_by a) (hb : ab_by b) : ab_by (a ^^^ b) := by
  obtain ⟨n, hn, rfl⟩ := ha
  obtain ⟨m, hm, rfl⟩ := hb
  have h8 : n ^^^ m < 256 := Nat.xor_lt_two_pow (n := 8) hn hm
  refine ⟨n ^^^ m, h8, ?_⟩
  apply Int32.toBitVec_inj.mp; apply BitVec.eq_of_toNat_eq
  rw [Int32.toBitVec_xor, BitVec.toNat_xor, pk_tn (by omega), pk_tn (by omega), pk_tn (by omega)]
section EQ
variable {bd : Nat → Nat} {jc : Int32 → Int32 → Int32 → Prop} {u v : SS}
theorem ab_Q_ca (h : ab_Q bd jc u v) : f_Arithmetic_carry u = v 0 8 ∧ ab_bo (v 0 8) := by
  unfold f_Arithmetic_carry
  have hk := h.2.1.2 8 (by decide) (by decide)
  rw [h.2.1.1, ab_FL_e]
  exact ⟨(ab_FLc (x := 0) hk).1, hk⟩
theorem ab_sum (h : ab_Q bd jc u v) {a x c : Int32} (ha : ab_by a) (hx : ab_by x) (hc : ab_bo c) :
    ab_Q bd jc (f_Arithmetic_sum u a x c).2 (f_MD_result (stt (stt v 0 8 (if ((a + x) + c) ≤ 255 then 0 else 1 : Int32)) 0 6 (if (((a - a / 16 * 16) + (x - x / 16 * 16)) + c) ≤ 15 then 0 else 1 : Int32)) ((a + x) + c)).2 := by
  obtain ⟨n, hn, rfl⟩ := ha
  obtain ⟨m, hm, rfl⟩ := hx
  obtain ⟨k, hk, rfl⟩ := ab_c01 hc
  unfold f_Arithmetic_sum
  dsimp only
  rw [(ab_r16 hn).1, (ab_r16 hn).2, (ab_r16 hm).1, (ab_r16 hm).2, nI_add, nI_add, nI_add, nI_add]
  have h1 := ab_h16 (n % 16 + m % 16 + k) (by omega)
  have h2 : ((if nI (n + m + k) ≤ 255 then 0 else 1 : Int32) = 0 ∧ nI (n + m + k) >>> ((8 : Int32) &&& 31) = 0) ∨ ((if nI (n + m + k) ≤ 255 then 0 else 1 : Int32) = 1 ∧ nI (n + m + k) >>> ((8 : Int32) &&& 31) = 1) := by
    rw [pk_shrN (by omega) _ 8 (by decide)]
    by_cases q : n + m + k ≤ 255
    · rw [if_pos (show nI (n + m + k) ≤ 255 from (nI_leI (b := 255) (by omega) (by decide)).mpr q), show (n + m + k) / 2 ^ 8 = 0 by omega]; exact Or.inl ⟨rfl, rfl⟩
    · rw [if_neg (show ¬ nI (n + m + k) ≤ 255 from fun z => q ((nI_leI (b := 255) (by omega) (by decide)).mp z)), show (n + m + k) / 2 ^ 8 = 1 by omega]; exact Or.inr ⟨rfl, rfl⟩
  exact ab_Q_res h (h1.elim (fun z => Or.inl z.1) (fun z => Or.inr z.1)) (h2.elim (fun z => Or.inl z.1) (fun z => Or.inr z.1)) (ab_rfl (ab_m8b _) h1 h2)
theorem ab_dif (h : ab_Q bd jc u v) {a x c : Int32} (ha : ab_by a) (hx : ab_by x) (hc : ab_bo c) :
    ab_Q bd jc (f_Arithmetic_difference u a x c).2 (f_MD_result (stt (stt v 0 8 (if 0 ≤ ((a - x) - c) then 0 else 1 : Int32)) 0 6 (if ((((a - a / 16 * 16) + (15 - (x - x / 16 * 16))) + 1) - c) ≤ 15 then 0 else 1 : Int32)) ((a - x) - c)).2 := by
  obtain ⟨n, hn, rfl⟩ := ha
  obtain ⟨m, hm, rfl⟩ := hx
  obtain ⟨k, hk, rfl⟩ := ab_c01 hc
  unfold f_Arithmetic_difference
  dsimp only
  rw [ab_n15 m hm, (ab_r16 hn).1, (ab_r16 hn).2, (ab_r16 hm).2, show (15 : Int32) - nI (m % 16) = nI (15 - m % 16) from pk_sub (a := 15) (by omega), nI_add, nI_1, pk_sub (a := n % 16 + (15 - m % 16) + 1) (by omega)]
  have h1 := ab_h16 (n % 16 + (15 - m % 16) + 1 - k) (by omega)
  have h2 : ((if 0 ≤ nI n - nI m - nI k then 0 else 1 : Int32) = 0 ∧ (if 0 ≤ nI n - nI m - nI k then 0 else 1 : Int32) = 0) ∨ ((if 0 ≤ nI n - nI m - nI k then 0 else 1 : Int32) = 1 ∧ (if 0 ≤ nI n - nI m - nI k then 0 else 1 : Int32) = 1) := by
    split
    · exact Or.inl ⟨rfl, rfl⟩
    · exact Or.inr ⟨rfl, rfl⟩
  exact ab_Q_res h (h1.elim (fun z => Or.inl z.1) (fun z => Or.inr z.1)) (h2.elim (fun z => Or.inl z.1) (fun z => Or.inr z.1)) (ab_rfl (ab_m8b _) h1 h2)
theorem ab_log (h : ab_Q bd jc u v) {r a hh : Int32} (hr : ab_by r) (h1 : (hh = 0 ∧ a = 0) ∨ (hh = 1 ∧ a = 16)) : ab_Q bd jc (f_Arithmetic_logical u r a).2 (f_MD_result (stt (stt v 0 8 0) 0 6 hh) r).2 := by
  unfold f_Arithmetic_logical
  dsimp only
  refine ab_Q_res h (h1.elim (fun z => Or.inl z.1) (fun z => Or.inr z.1)) ab_bo0 ?_
  rw [ab_m8by hr, ← ab_rfl (u := u) hr h1 (Or.inl ⟨rfl, rfl⟩)]
  exact (Int32.or_zero).symm
theorem ab_res1 (v : SS) (x : Int32) : (f_MD_result v x).1 = x &&& 255 := by rw [ab_res]
theorem ab_Qr (h : ab_Q bd jc u v) (k : Nat) (hk : k < 8) : u 2 k = v 2 k ∧ ab_by (v 2 k) := ⟨(h.2.2.2.2.2.1 k hk).1, (h.2.2.2.2.2.1 k hk).1 ▸ (h.2.2.2.2.2.1 k hk).2⟩
theorem ab_and8 {t : Int32} : ((if (t &&& 8) = 0 then 0 else 1 : Int32) = 0 ∧ (t &&& 8) * 2 = 0) ∨ ((if (t &&& 8) = 0 then 0 else 1 : Int32) = 1 ∧ (t &&& 8) * 2 = 16) := by
  have e : t &&& 8 = (t &&& 15) &&& 8 := by rw [Int32.and_assoc]; rfl
  rw [e, pk_and t 4 rfl]
  have hj : t.toBitVec.toNat % 2 ^ 4 < 16 := Nat.mod_lt _ (by decide)
  exact (show ∀ j, j < 16 → (((if (nI j &&& 8) = 0 then 0 else 1 : Int32) = 0 ∧ (nI j &&& 8) * 2 = 0) ∨ ((if (nI j &&& 8) = 0 then 0 else 1 : Int32) = 1 ∧ (nI j &&& 8) * 2 = 16)) by decide +kernel) _ hj
theorem ab_operate (h : ab_Q bd jc u v) {y : Nat} (hy : y < 8) {x : Int32} (hx : ab_by x) : ab_Q bd jc (f_Arithmetic_operate u (nI y) x) (f_MD_operate v (nI y) x) := by
  have ra := ab_Qr h 7 (by decide)
  have rc := ab_Q_ca h
  have k1 : (if v 0 8 = 0 then 0 else 1 : Int32) = v 0 8 := by rcases rc.2 with e | e <;> rw [e] <;> rfl
  have k0 : (if v 0 8 = 0 then 0 else 0 : Int32) = 0 := by split <;> rfl
  unfold f_Arithmetic_operate f_MD_operate
  rw [ra.1, rc.1]
  match y, hy with
  | 0, _ =>
    simp (decide := true) only [↓reduceIte, k0, k1]
    exact ab_Q_reg (ab_sum h ra.2 hx ab_bo0) 7 (ab_m8b _) (ab_res1 _ _)
  | 1, _ =>
    simp (decide := true) only [↓reduceIte, k0, k1]
    exact ab_Q_reg (ab_sum h ra.2 hx rc.2) 7 (ab_m8b _) (ab_res1 _ _)
  | 2, _ =>
    simp (decide := true) only [↓reduceIte, k0, k1]
    exact ab_Q_reg (ab_dif h ra.2 hx ab_bo0) 7 (ab_m8b _) (ab_res1 _ _)
  | 3, _ =>
    simp (decide := true) only [↓reduceIte, k0, k1]
    exact ab_Q_reg (ab_dif h ra.2 hx rc.2) 7 (ab_m8b _) (ab_res1 _ _)
  | 4, _ =>
    simp (decide := true) only [↓reduceIte, k0, k1]
    exact ab_Q_reg (ab_log h (ab_and_by ra.2) ab_and8) 7 (ab_and_by ra.2) ((ab_res1 _ _).trans (ab_m8by (ab_and_by ra.2)))
  | 5, _ =>
    simp (decide := true) only [↓reduceIte, k0, k1]
    exact ab_Q_reg (ab_log h (ab_xor_by ra.2 hx) (Or.inl ⟨rfl, rfl⟩)) 7 (ab_xor_by ra.2 hx) ((ab_res1 _ _).trans (ab_m8by (ab_xor_by ra.2 hx)))
  | 6, _ =>
    simp (decide := true) only [↓reduceIte, k0, k1]
    exact ab_Q_reg (ab_log h (ab_or_by ra.2 hx) (Or.inl ⟨rfl, rfl⟩)) 7 (ab_or_by ra.2 hx) ((ab_res1 _ _).trans (ab_m8by (ab_or_by ra.2 hx)))
  | 7, _ =>
    simp (decide := true) only [↓reduceIte, k0, k1]
    have q := ab_dif h ra.2 hx ab_bo0
    have e : v 2 7 = (f_MD_result (stt (stt v 0 8 (if 0 ≤ ((v 2 7 - x) - 0) then 0 else 1 : Int32)) 0 6 (if ((((v 2 7 - v 2 7 / 16 * 16) + (15 - (x - x / 16 * 16))) + 1) - 0) ≤ 15 then 0 else 1 : Int32)) ((v 2 7 - x) - 0)).2 2 7 := by
      rw [ab_res]; simp only [stt_ap]; rfl
    rw [← stt_id (u := (f_MD_result _ _).2) (a := 2) (k := 7), ← e] at q
    exact q
end EQ

theorem ab_tu0 : ∀ n, n < 256 → (((nI n <<< ((1 : Int32) &&& 31)) ||| (nI n >>> ((7 : Int32) &&& 31))) &&& 255 = ((2 * nI n) - (2 * nI n) / 256 * 256) + (nI n >>> ((7 : Int32) &&& 31)) ∧ (nI n >>> ((7 : Int32) &&& 31)) &&& 1 = (if (nI n >>> ((7 : Int32) &&& 31)) = 1 then 1 else 0 : Int32)) := by decide +kernel
theorem ab_tu1 : ∀ n, n < 256 → (((nI n >>> ((1 : Int32) &&& 31)) ||| (nI n <<< ((7 : Int32) &&& 31))) &&& 255 = (nI n / 2) + (128 * (nI n &&& 1)) ∧ nI n &&& 1 = (if (nI n &&& 1) = 1 then 1 else 0 : Int32)) := by decide +kernel
theorem ab_tu2 : ∀ n, n < 256 → ∀ k, k < 2 → ((nI n <<< ((1 : Int32) &&& 31)) ||| nI k) &&& 255 = ((2 * nI n) - (2 * nI n) / 256 * 256) + (if nI k = 0 then 0 else 1 : Int32) := by decide +kernel
theorem ab_tu3 : ∀ n, n < 256 → ∀ k, k < 2 → ((nI n >>> ((1 : Int32) &&& 31)) ||| (nI k <<< ((7 : Int32) &&& 31))) &&& 255 = (nI n / 2) + (128 * (if nI k = 0 then 0 else 1 : Int32)) := by decide +kernel
theorem ab_tu5 : ∀ n, n < 256 → nI n ^^^ 255 = 255 - nI n ∧ (nI n ^^^ 255) &&& 255 = nI n ^^^ 255 := by decide +kernel
section EQ
variable {bd : Nat → Nat} {jc : Int32 → Int32 → Int32 → Prop} {u v : SS}
theorem ab_and1 (x : Int32) : ab_bo (x &&& 1) := by
  obtain ⟨j, hj, e⟩ := pk_andE x (m := 1) 1 rfl
  rw [e]
  rcases (show j = 0 ∨ j = 1 by omega) with rfl | rfl
  · exact Or.inl rfl
  · exact Or.inr rfl
theorem ab_setC (h : ab_Q bd jc u v) {x k : Int32} (e : x &&& 1 = k) : ab_Q bd jc (f_Arithmetic_setCarry u x) (stt v 0 8 k) := by
  subst e
  unfold f_Arithmetic_setCarry
  have b := h.2.1.2
  refine ab_Q_fl h (fun b j hn => stt_n (by omega)) ?_ (ab_bo5 (stt_k (by decide)) (stt_k (by decide)) (stt_k (by decide)) (stt_k (by decide)) (stt_s _ _ _ _) (b 4 (by decide) (by decide)) (b 5 (by decide) (by decide)) (b 6 (by decide) (by decide)) (b 7 (by decide) (by decide)) (ab_and1 x))
  rw [h.2.1.1, ab_FL_e, ab_FL_e, stt_s, stt_k (by decide), stt_k (by decide), stt_k (by decide), stt_k (by decide)]
  exact (ab_FLc (b 8 (by decide) (by decide))).2
theorem ab_turn (h : ab_Q bd jc u v) {y : Nat} (hy : y < 8) (h4 : y ≠ 4) : ab_Q bd jc (f_Arithmetic_turn u (nI y)) (f_MD_turnA v (nI y)) := by
  have ra := ab_Qr h 7 (by decide)
  have rc := ab_Q_ca h
  unfold f_Arithmetic_turn f_MD_turnA
  rw [ra.1, rc.1]
  obtain ⟨n, hn, e⟩ := ra.2
  obtain ⟨k, hk, ek⟩ := ab_c01 rc.2
  match y, hy with
  | 0, _ =>
    simp (decide := true) only [↓reduceIte]
    unfold f_Arithmetic_turnTo
    rw [e]
    exact ab_setC (ab_Q_reg h 7 (ab_m8b _) (ab_tu0 n hn).1.symm) (ab_tu0 n hn).2
  | 1, _ =>
    simp (decide := true) only [↓reduceIte]
    unfold f_Arithmetic_turnTo
    rw [e]
    exact ab_setC (ab_Q_reg h 7 (ab_m8b _) (ab_tu1 n hn).1.symm) (ab_tu1 n hn).2
  | 2, _ =>
    simp (decide := true) only [↓reduceIte]
    unfold f_Arithmetic_turnTo
    rw [e, ek]
    exact ab_setC (ab_Q_reg h 7 (ab_m8b _) (ab_tu2 n hn k hk).symm) (ab_tu0 n hn).2
  | 3, _ =>
    simp (decide := true) only [↓reduceIte]
    unfold f_Arithmetic_turnTo
    rw [e, ek]
    exact ab_setC (ab_Q_reg h 7 (ab_m8b _) (ab_tu3 n hn k hk).symm) (ab_tu1 n hn).2
  | 5, _ =>
    simp (decide := true) only [↓reduceIte]
    rw [e]
    exact ab_Q_reg h 7 ((ab_tu5 n hn).2 ▸ ab_m8b _) (ab_tu5 n hn).1.symm
  | 6, _ =>
    simp (decide := true) only [↓reduceIte]
    exact ab_setC h rfl
  | 7, _ =>
    simp (decide := true) only [↓reduceIte]
    refine ab_setC h ?_
    rcases rc.2 with q | q <;> rw [q] <;> rfl
def ab_v0 (a h : Int32) : Int32 := if 9 < (a - a / 16 * 16) then 6 else (if h = 0 then 0 else 6 : Int32)
def ab_mo (a k : Int32) : Int32 := if 153 < a then 1 else (if k = 0 then 0 else 1 : Int32)
def ab_va (a h k : Int32) : Int32 := if ab_mo a k = 0 then ab_v0 a h else ab_v0 a h + 96
theorem ab_v0c (a h : Int32) : ab_v0 a h = 6 ∨ ab_v0 a h = 0 := by
  unfold ab_v0; split
  · exact Or.inl rfl
  · split
    · exact Or.inr rfl
    · exact Or.inl rfl
theorem ab_vac (a h k : Int32) : ∃ m, m < 128 ∧ ab_va a h k = nI m := by
  unfold ab_va
  rcases ab_v0c a h with e | e <;> rw [e] <;> split
  · exact ⟨6, by decide, rfl⟩
  · exact ⟨102, by decide, rfl⟩
  · exact ⟨0, by decide, rfl⟩
  · exact ⟨96, by decide, rfl⟩
theorem ab_adj_c (h : ab_Q bd jc u v) : f_Arithmetic_adjust u = g_Arithmetic_adjust_60 u (v 2 7) (ab_mo (v 2 7) (v 0 8)) (ab_va (v 2 7) (v 0 6) (v 0 8)) := by
  have ra := ab_Qr h 7 (by decide)
  have rc := ab_Q_ca h
  have b := h.2.1.2
  have hf := (ab_FLt (b 4 (by decide) (by decide)) (b 5 (by decide) (by decide)) (b 6 (by decide) (by decide)) (b 7 (by decide) (by decide)) (b 8 (by decide) (by decide))).2.2.2.2
  have e43 : ∀ w, g_Arithmetic_adjust_43 u (v 2 7) (v 0 8) w = g_Arithmetic_adjust_60 u (v 2 7) (ab_mo (v 2 7) (v 0 8)) (if ab_mo (v 2 7) (v 0 8) = 0 then w else w + 96) := by
    intro w
    unfold g_Arithmetic_adjust_43 ab_mo
    by_cases q : 153 < v 2 7
    · simp only [if_pos q]; rfl
    · simp only [if_neg q]
      rcases rc.2 with e | e <;> rw [e] <;> rfl
  unfold f_Arithmetic_adjust
  rw [ra.1, rc.1, h.2.1.1, ab_FL_e, e43, e43]
  obtain ⟨n, hn, en⟩ := ra.2
  unfold ab_va ab_v0
  rw [en, (ab_r16 hn).1, (ab_r16 hn).2]
  by_cases q : (9 : Int32) < nI (n % 16)
  · simp only [if_pos q]
  · simp only [if_neg q]
    by_cases q2 : v 0 6 = 0
    · rw [if_pos (hf.mpr q2), if_pos q2]
    · rw [if_neg (fun z => q2 (hf.mp z)), if_neg q2]
theorem ab_adj_m (v : SS) : f_MD_turnA v 4 = stt (f_MD_result (stt (stt v 0 8 (if v 0 8 = 0 then (if ab_mo (v 2 7) (v 0 8) = 0 then 0 else 1 : Int32) else 1 : Int32)) 0 6 (if ((v 2 7 - v 2 7 / 16 * 16) + (ab_va (v 2 7) (v 0 6) (v 0 8) - ab_va (v 2 7) (v 0 6) (v 0 8) / 16 * 16)) ≤ 15 then 0 else 1 : Int32)) (v 2 7 + ab_va (v 2 7) (v 0 6) (v 0 8))).2 2 7 (f_MD_result (stt (stt v 0 8 (if v 0 8 = 0 then (if ab_mo (v 2 7) (v 0 8) = 0 then 0 else 1 : Int32) else 1 : Int32)) 0 6 (if ((v 2 7 - v 2 7 / 16 * 16) + (ab_va (v 2 7) (v 0 6) (v 0 8) - ab_va (v 2 7) (v 0 6) (v 0 8) / 16 * 16)) ≤ 15 then 0 else 1 : Int32)) (v 2 7 + ab_va (v 2 7) (v 0 6) (v 0 8))).1 := by
  unfold f_MD_turnA
  simp (decide := true) only [↓reduceIte]
  rfl
theorem ab_adjust (h : ab_Q bd jc u v) : ab_Q bd jc (f_Arithmetic_adjust u) (f_MD_turnA v 4) := by
  rw [ab_adj_c h, ab_adj_m]
  have ra := ab_Qr h 7 (by decide)
  have rc := ab_Q_ca h
  obtain ⟨m, hm, em⟩ := ab_vac (v 2 7) (v 0 6) (v 0 8)
  obtain ⟨n, hn, en⟩ := ra.2
  have emo : (if v 0 8 = 0 then (if ab_mo (v 2 7) (v 0 8) = 0 then 0 else 1 : Int32) else 1 : Int32) = ab_mo (v 2 7) (v 0 8) ∧ ab_bo (ab_mo (v 2 7) (v 0 8)) := by
    unfold ab_mo
    by_cases q : 153 < v 2 7
    · simp only [if_pos q]; refine ⟨?_, ab_bo1⟩; split <;> rfl
    · simp only [if_neg q]; rcases rc.2 with e | e <;> rw [e]
      · exact ⟨rfl, ab_bo0⟩
      · exact ⟨rfl, ab_bo1⟩
  rw [emo.1]
  generalize hk : ab_mo (v 2 7) (v 0 8) = k at *
  have hkb := emo.2
  unfold g_Arithmetic_adjust_60
  rw [stt_comm (by decide), em, en, (ab_r16 hn).1, (ab_r16 hn).2, (ab_r16 (show m < 256 by omega)).1, (ab_r16 (show m < 256 by omega)).2, nI_add, nI_add]
  have h1 := ab_h16 (n % 16 + m % 16) (by omega)
  refine ab_Q_reg (ab_Q_res h (h1.elim (fun z => Or.inl z.1) (fun z => Or.inr z.1)) hkb ?_) 7 (ab_m8b _) (ab_res1 _ _)
  exact ab_rfl (ab_m8b _) h1 (hkb.elim (fun z => Or.inl ⟨z, z⟩) (fun z => Or.inr ⟨z, z⟩))
theorem ab_i15 : ∀ t, t < 16 → (((if nI t = 15 then 1 else 0 : Int32) = 0 ∧ (nI t + 1) &&& 16 = 0) ∨ ((if nI t = 15 then 1 else 0 : Int32) = 1 ∧ (nI t + 1) &&& 16 = 16)) := by decide +kernel
theorem ab_d15 : ∀ t, t < 16 → (((if nI t ≤ 0 then 0 else 1 : Int32) = 0 ∧ (if nI t = 0 then 0 else 16 : Int32) = 0) ∨ ((if nI t ≤ 0 then 0 else 1 : Int32) = 1 ∧ (if nI t = 0 then 0 else 16 : Int32) = 16)) := by decide +kernel
theorem ab_more (h : ab_Q bd jc u v) {x : Int32} (hx : ab_by x) : ab_Q bd jc (f_Arithmetic_oneMore u x).2 (f_MD_result (stt v 0 6 (if (x - x / 16 * 16) = 15 then 1 else 0 : Int32)) (x + 1)).2 ∧ (f_Arithmetic_oneMore u x).1 = (x + 1) &&& 255 := by
  refine ⟨?_, rfl⟩
  have rc := ab_Q_ca h
  obtain ⟨n, hn, rfl⟩ := hx
  unfold f_Arithmetic_oneMore
  dsimp only
  rw [rc.1, (ab_r16 hn).1, (ab_r16 hn).2]
  have h1 := ab_i15 (n % 16) (by omega)
  have q := ab_Q_res (x := nI n + 1) h (h1.elim (fun z => Or.inl z.1) (fun z => Or.inr z.1)) rc.2 (ab_rfl (u := u) (ab_m8b _) h1 (rc.2.elim (fun z => Or.inl ⟨z, z⟩) (fun z => Or.inr ⟨z, z⟩)))
  rw [stt_id] at q
  exact q
theorem ab_less (h : ab_Q bd jc u v) {x : Int32} (hx : ab_by x) : ab_Q bd jc (f_Arithmetic_oneLess u x).2 (f_MD_result (stt v 0 6 (if (x - x / 16 * 16) ≤ 0 then 0 else 1 : Int32)) (x - 1)).2 ∧ (f_Arithmetic_oneLess u x).1 = (x - 1) &&& 255 := by
  refine ⟨?_, rfl⟩
  have rc := ab_Q_ca h
  obtain ⟨n, hn, rfl⟩ := hx
  unfold f_Arithmetic_oneLess
  dsimp only
  rw [rc.1, (ab_r16 hn).1, (ab_r16 hn).2]
  have h1 := ab_d15 (n % 16) (by omega)
  have q := ab_Q_res (x := nI n - 1) h (h1.elim (fun z => Or.inl z.1) (fun z => Or.inr z.1)) rc.2 (ab_rfl (u := u) (ab_m8b _) h1 (rc.2.elim (fun z => Or.inl ⟨z, z⟩) (fun z => Or.inr ⟨z, z⟩)))
  rw [stt_id] at q
  exact q
theorem ab_sp_c {k : Nat} {x z : Int32} : f_MD_setPair (stt v 0 8 z) (nI 2) x = stt (f_MD_setPair v (nI 2) x) 0 8 z := by
  unfold f_MD_setPair
  simp (decide := true) only [↓reduceIte]
  rw [stt_comm (u := v) (a := 0) (b := 2) (by omega), stt_comm (a := 0) (b := 2) (by omega)]
theorem ab_grow (h : ab_Q bd jc u v) (hb : bd 1 = 65536) {x : Int32} (hx : ab_wd x) : ab_Q bd jc (f_Arithmetic_growHL u x) (f_MD_setPair (stt v 0 8 (if (f_MD_pair v 2 + x) ≤ 65535 then 0 else 1 : Int32)) 2 (f_MD_pair v 2 + x)) := by
  obtain ⟨e, hw⟩ := ab_pair h (by omega) (show 2 < 4 by decide)
  have e2 : ((u 2 4) <<< ((8 : Int32) &&& 31)) ||| (u 2 5) = f_MD_pair v 2 := by rw [show (2 : Int32) = nI 2 from rfl, ← e]; rfl
  unfold f_Arithmetic_growHL
  rw [e2]
  rw [show (2 : Int32) = nI 2 from rfl] at *
  rw [ab_sp_c (k := 2)]
  refine ab_setC ?_ ?_
  · exact ab_setPair h (by omega) (show 2 < 4 by decide) _
  · obtain ⟨m, hm, em⟩ := hw
    obtain ⟨n, hn, rfl⟩ := hx
    rw [em, nI_add, pk_shrN (by omega) _ 16 (by decide)]
    by_cases q : m + n ≤ 65535
    · rw [if_pos (show nI (m + n) ≤ 65535 from (nI_leI (b := 65535) (by omega) (by decide)).mpr q), show (m + n) / 2 ^ 16 = 0 by omega]; rfl
    · rw [if_neg (show ¬ nI (m + n) ≤ 65535 from fun z => q ((nI_leI (b := 65535) (by omega) (by decide)).mp z)), show (m + n) / 2 ^ 16 = 1 by omega]; rfl
end EQ

/-! the reference's methods leave 'states' as it is -/
section FR
variable {v : SS}
theorem fr_write {x y : Int32} : f_MD_write v x y 0 24 = v 0 24 := ab_wr_a (by decide)
theorem fr_next : (f_MD_next v).2 0 24 = v 0 24 := by unfold f_MD_next; dsimp only; rw [stt_k (by decide)]
theorem fr_nextWord : (f_MD_nextWord v).2 0 24 = v 0 24 := (fr_next (v := (f_MD_next v).2)).trans fr_next
theorem fr_setPair {k x : Int32} : f_MD_setPair v k x 0 24 = v 0 24 := by
  unfold f_MD_setPair; split
  · exact stt_k (by decide)
  · rw [stt_a (by decide), stt_a (by decide)]
theorem fr_set {k x : Int32} : f_MD_set v k x 0 24 = v 0 24 := by
  unfold f_MD_set; split
  · exact fr_write
  · exact stt_a (by decide)
theorem fr_push {x : Int32} : f_MD_push v x 0 24 = v 0 24 := by
  unfold f_MD_push; rw [stt_k (by decide), fr_write, fr_write]
theorem fr_pop : (f_MD_pop v).2 0 24 = v 0 24 := by unfold f_MD_pop; dsimp only; rw [stt_k (by decide)]
theorem fr_result {x : Int32} : (f_MD_result v x).2 0 24 = v 0 24 := by rw [ab_res]; dsimp only; rw [stt_k (by decide), stt_k (by decide), stt_k (by decide)]
theorem fr_setFlags {x : Int32} : f_MD_setFlags v x 0 24 = v 0 24 := by
  unfold f_MD_setFlags; rw [stt_k (by decide), stt_k (by decide), stt_k (by decide), stt_k (by decide), stt_k (by decide)]
theorem fr_operate {k x : Int32} : f_MD_operate v k x 0 24 = v 0 24 := by
  unfold f_MD_operate
  split
  · split
    · rw [stt_a (by decide), fr_result, stt_k (by decide), stt_k (by decide)]
    · split
      · rw [stt_a (by decide), fr_result, stt_k (by decide), stt_k (by decide)]
      · rw [stt_a (by decide), fr_result, stt_k (by decide), stt_k (by decide)]
  · rw [stt_a (by decide), fr_result, stt_k (by decide), stt_k (by decide)]
theorem fr_turnA {k : Int32} : f_MD_turnA v k 0 24 = v 0 24 := by
  unfold f_MD_turnA
  split
  · rw [stt_k (by decide), stt_a (by decide)]
  · split
    · rw [stt_k (by decide), stt_a (by decide)]
    · split
      · rw [stt_k (by decide), stt_a (by decide)]
      · split
        · rw [stt_k (by decide), stt_a (by decide)]
        · split
          · rw [stt_a (by decide), fr_result, stt_k (by decide), stt_k (by decide)]
          · split
            · rw [stt_a (by decide)]
            · rw [stt_k (by decide)]
theorem fr_out86 (k : Nat) : ∀ (v : SS) (a b c d : Int32), g_MD_out_86 k v a b c d 0 24 = v 0 24 := by
  induction k with
  | zero => intro v a b c d; rfl
  | succ k ih =>
    intro v a b c d
    rw [g_MD_out_86]
    split
    · rw [stt_k (by decide), stt_k (by decide)]
    · split
      · split
        · rw [ih, stt_k (by decide), stt_a (by decide)]
        · rw [ih]
      · rw [ih]
theorem fr_out {a b : Int32} : f_MD_out v a b 0 24 = v 0 24 := by
  unfold f_MD_out
  split
  · exact stt_k (by decide)
  · split
    · exact stt_k (by decide)
    · split
      · exact stt_k (by decide)
      · split
        · exact fr_out86 _ _ _ _ _ _
        · split
          · exact fr_out86 _ _ _ _ _ _
          · rfl
end FR
theorem ab_half2 {y : Nat} (hy : y < 8) : nI y / 2 = nI (y / 2) ∧ nI y - nI y / 2 * 2 = nI (y % 2) := ⟨pk_div (d := 2) (by omega) (by decide) (by decide), pk_rem (d := 2) (by omega) (by decide) (by decide)⟩
theorem ab_n2 {k : Nat} (hk : k < 2) : nI k = 0 ↔ k = 0 := nI_eq (b := 0) (by omega) (by decide)
section EQ
variable {bd : Nat → Nat} {jc : Int32 → Int32 → Int32 → Prop} {u v : SS}
theorem ab_holds (h : ab_Q bd jc u v) {y : Nat} (hy : y < 8) : f_Processor_holds u (nI y) = f_MD_holds v (nI y) := by
  have b := h.2.1.2
  obtain ⟨hz, hk, hp, hs, _⟩ := ab_FLt (b 4 (by decide) (by decide)) (b 5 (by decide) (by decide)) (b 6 (by decide) (by decide)) (b 7 (by decide) (by decide)) (b 8 (by decide) (by decide))
  unfold f_Processor_holds f_MD_holds
  rw [h.2.1.1, ab_FL_e, hz, hk, hp, hs]
  match y, hy with
  | 0, _ => simp (decide := true) only [↓reduceIte]
  | 1, _ => simp (decide := true) only [↓reduceIte]
  | 2, _ => simp (decide := true) only [↓reduceIte]
  | 3, _ => simp (decide := true) only [↓reduceIte]
  | 4, _ => simp (decide := true) only [↓reduceIte]
  | 5, _ => simp (decide := true) only [↓reduceIte]
  | 6, _ => simp (decide := true) only [↓reduceIte]
  | 7, _ => simp (decide := true) only [↓reduceIte]
theorem ab_holds_s {k : Nat} {x y : Int32} (hk : k < 4 ∨ 8 < k) : f_MD_holds (stt v 0 k x) y = f_MD_holds v y := by
  unfold f_MD_holds; rw [stt_k (j := 4) (by omega), stt_k (j := 5) (by omega), stt_k (j := 7) (by omega), stt_k (j := 8) (by omega)]
/-- what an operation gives: the states that it takes, and the new state -/
def ab_P (bd : Nat → Nat) (jc : Int32 → Int32 → Int32 → Prop) (c : Int32 × SS) (w : SS) : Prop := ab_Q bd jc c.2 w ∧ c.1 = w 0 24
theorem ab_P_mk {c : Int32} {w : SS} (h : ab_Q bd jc u w) (e : w 0 24 = c) : ab_P bd jc (c, u) w := ⟨h, e.symm⟩
theorem ab_Q_st (h : ab_Q bd jc u v) (x : Int32) : ab_Q bd jc u (stt v 0 24 x) := ab_Q_own h 24 x (Or.inr (Or.inr rfl))
theorem ab_data2 (h : ab_Q bd jc u v) (h1 : bd 1 = 65536) (h2 : bd 2 = 65536) {y : Nat} (hy : y < 8) : ab_P bd jc (f_Processor_moveByAddress u (nI y)) (f_MD_carry v (nI y)) := by
  unfold f_Processor_moveByAddress f_MD_carry
  have q7 := ab_Q_st h 7
  match y, hy with
  | 0, _ =>
    simp (decide := true) only [↓reduceIte]
    rw [show nI 0 / 2 = nI 0 from rfl, (ab_pair q7 (by omega) (show 0 < 4 by decide)).1, (ab_Qr h 7 (by decide)).1]
    exact ab_P_mk (ab_put q7 rfl) (by rw [fr_write, stt_s])
  | 1, _ =>
    simp (decide := true) only [↓reduceIte]
    rw [show nI 1 / 2 = nI 0 from rfl, (ab_pair q7 (by omega) (show 0 < 4 by decide)).1, (ab_at q7 _).1]
    exact ab_P_mk (ab_Q_reg q7 7 (ab_at q7 _).2 rfl) (by rw [stt_a (by decide), stt_s])
  | 2, _ =>
    simp (decide := true) only [↓reduceIte]
    rw [show nI 2 / 2 = nI 1 from rfl, (ab_pair q7 (by omega) (show 1 < 4 by decide)).1, (ab_Qr h 7 (by decide)).1]
    exact ab_P_mk (ab_put q7 rfl) (by rw [fr_write, stt_s])
  | 3, _ =>
    simp (decide := true) only [↓reduceIte]
    rw [show nI 3 / 2 = nI 1 from rfl, (ab_pair q7 (by omega) (show 1 < 4 by decide)).1, (ab_at q7 _).1]
    exact ab_P_mk (ab_Q_reg q7 7 (ab_at q7 _).2 rfl) (by rw [stt_a (by decide), stt_s])
  | 4, _ =>
    simp (decide := true) only [↓reduceIte]
    obtain ⟨e, hw, q⟩ := ab_nextWord h (by omega)
    have qs := ab_Q_st q 16
    have r4 := ab_Qr q 4 (by decide)
    have r5 := ab_Qr q 5 (by decide)
    unfold f_Memory_putWord
    rw [ab_wr_a (by decide), stt_a (show (2 : Nat) ≠ 0 by decide), e, show (2 : Int32) = nI 2 from rfl, (ab_pair q (by omega) (show 2 < 4 by decide)).1]
    have pe : f_MD_pair (f_MD_nextWord v).2 (nI 2) = 256 * (f_MD_nextWord v).2 2 4 + (f_MD_nextWord v).2 2 5 := rfl
    obtain ⟨a, ha, ea⟩ := r4.2
    obtain ⟨b, hb, eb⟩ := r5.2
    have pe2 : f_MD_pair (f_MD_nextWord v).2 (nI 2) = nI (256 * a + b) := by rw [pe, ea, eb, show (256 : Int32) = nI 256 from rfl, pk_mul, nI_add]
    refine ab_P_mk (ab_put (ab_put qs ?_) ?_) (by rw [fr_write, fr_write, stt_s])
    · rw [pe2, eb, ab_m8N, ab_m8N]; congr 1; omega
    · rw [pe2, ea, pk_shrN (by omega) _ 8 (by decide)]; congr 2; omega
  | 5, _ =>
    simp (decide := true) only [↓reduceIte]
    obtain ⟨e, hw, q⟩ := ab_nextWord h (by omega)
    have qs := ab_Q_st q 16
    obtain ⟨e2, hw2⟩ := ab_wordAt qs (f_MD_nextWord v).1
    rw [e, e2]
    have a1 := (ab_at qs (f_MD_nextWord v).1).2
    have a2 := (ab_at qs ((f_MD_nextWord v).1 + 1)).2
    obtain ⟨a, ha, ea⟩ := a1
    obtain ⟨b, hb, eb⟩ := a2
    have q2 := ab_setPair qs (by omega) (show 2 < 4 by decide) (f_MD_read (stt (f_MD_nextWord v).2 0 24 16) (f_MD_nextWord v).1 + 256 * f_MD_read (stt (f_MD_nextWord v).2 0 24 16) ((f_MD_nextWord v).1 + 1))
    have ev : f_MD_setPair (stt (f_MD_nextWord v).2 0 24 16) (nI 2) (f_MD_read (stt (f_MD_nextWord v).2 0 24 16) (f_MD_nextWord v).1 + 256 * f_MD_read (stt (f_MD_nextWord v).2 0 24 16) ((f_MD_nextWord v).1 + 1)) = stt (stt (stt (f_MD_nextWord v).2 0 24 16) 2 4 (f_MD_read (stt (f_MD_nextWord v).2 0 24 16) ((f_MD_nextWord v).1 + 1))) 2 5 (f_MD_read (stt (f_MD_nextWord v).2 0 24 16) (f_MD_nextWord v).1) := by
      unfold f_MD_setPair
      simp (decide := true) only [↓reduceIte]
      rw [ab_m16wd hw2, ea, eb, show (256 : Int32) = nI 256 from rfl, pk_mul, nI_add, pk_rem (by omega) (by decide) (by decide), pk_div (by omega) (by decide) (by decide), show (a + 256 * b) / 256 = b by omega, show (a + 256 * b) % 256 = a by omega]
      rfl
    rw [ev] at q2
    exact ab_P_mk q2 (by rw [stt_a (by decide), stt_a (by decide), stt_s])
  | 6, _ =>
    simp (decide := true) only [↓reduceIte]
    obtain ⟨e, hw, q⟩ := ab_nextWord h (by omega)
    rw [e, (ab_Qr q 7 (by decide)).1]
    exact ab_P_mk (ab_put (ab_Q_st q 13) rfl) (by rw [fr_write, stt_s])
  | 7, _ =>
    simp (decide := true) only [↓reduceIte]
    obtain ⟨e, hw, q⟩ := ab_nextWord h (by omega)
    have qs := ab_Q_st q 13
    rw [e, (ab_at qs _).1]
    exact ab_P_mk (ab_Q_reg qs 7 (ab_at qs _).2 rfl) (by rw [stt_a (by decide), stt_s])
theorem ab_low (h : ab_Q bd jc u v) (h1 : bd 1 = 65536) (h2 : bd 2 = 65536) {y z : Nat} (hy : y < 8) (hz : z < 8) : ab_P bd jc (f_Processor_operateOnData u (nI y) (nI z)) (f_MD_lowOperation v (nI y) (nI z)) := by
  unfold f_Processor_operateOnData f_MD_lowOperation
  have hh := ab_half2 hy
  match z, hz with
  | 0, _ => simp (decide := true) only [↓reduceIte]; exact ab_P_mk (ab_Q_st h 4) (stt_s _ _ _ _)
  | 1, _ =>
    simp (decide := true) only [↓reduceIte]
    unfold f_Processor_setOrAddPair
    have qs := ab_Q_st h 10
    rw [hh.2, hh.1]
    by_cases e : y % 2 = 0
    · rw [if_pos ((ab_n2 (by omega)).mpr e), if_pos ((ab_n2 (by omega)).mpr e)]
      obtain ⟨e, hw, q⟩ := ab_nextWord qs (by omega)
      rw [e]
      exact ab_P_mk (ab_setPair q (by omega) (by omega) _) (by rw [fr_setPair, fr_nextWord, stt_s])
    · rw [if_neg (fun z => e ((ab_n2 (by omega)).mp z)), if_neg (fun z => e ((ab_n2 (by omega)).mp z))]
      have p := ab_pair qs (by omega) (show y / 2 < 4 by omega)
      rw [p.1]
      exact ab_P_mk (ab_grow qs h1 p.2) (by rw [fr_setPair, stt_k (by decide), stt_s])
  | 2, _ => simp (decide := true) only [↓reduceIte]; exact ab_data2 h h1 h2 hy
  | 3, _ =>
    simp (decide := true) only [↓reduceIte]
    have qs := ab_Q_st h 5
    rw [hh.2, hh.1, (ab_pair qs (by omega) (show y / 2 < 4 by omega)).1]
    exact ab_P_mk (ab_setPair qs (by omega) (by omega) _) (by rw [fr_setPair, stt_s])
  | 4, _ =>
    simp (decide := true) only [↓reduceIte]
    have qs := ab_Q_st h (if nI y = 6 then 10 else 5 : Int32)
    have g := ab_value qs (by omega) hy
    have m := ab_more qs g.2
    rw [g.1, m.2, ab_res1]
    exact ab_P_mk (ab_set m.1 (by omega) hy _) (by rw [fr_set, fr_result, stt_k (by decide), stt_s])
  | 5, _ =>
    simp (decide := true) only [↓reduceIte]
    have qs := ab_Q_st h (if nI y = 6 then 10 else 5 : Int32)
    have g := ab_value qs (by omega) hy
    have m := ab_less qs g.2
    rw [g.1, m.2, ab_res1]
    exact ab_P_mk (ab_set m.1 (by omega) hy _) (by rw [fr_set, fr_result, stt_k (by decide), stt_s])
  | 6, _ =>
    simp (decide := true) only [↓reduceIte]
    have qs := ab_Q_st h (if nI y = 6 then 10 else 7 : Int32)
    obtain ⟨e, hb, q⟩ := ab_nextByte qs (by omega)
    rw [e]
    exact ab_P_mk (ab_set q (by omega) hy _) (by rw [fr_set, fr_next, stt_s])
  | 7, _ =>
    simp (decide := true) only [↓reduceIte]
    have qs := ab_Q_st h 4
    by_cases e : y = 4
    · subst e
      rw [if_pos (show nI 4 = 4 from rfl)]
      exact ab_P_mk (ab_adjust qs) (by rw [fr_turnA, stt_s])
    · rw [if_neg (show ¬ nI y = 4 from fun z => e ((nI_eq (b := 4) (by omega) (by decide)).mp z))]
      exact ab_P_mk (ab_turn qs hy e) (by rw [fr_turnA, stt_s])
end EQ

/-! one bit of an int -/
theorem ab_bit (x : Int32) {j : Nat} (hj : j < 8) : (x >>> (nI j &&& 31)) &&& 1 = if x.toBitVec.getLsbD j then 1 else 0 := by
  have es : ((nI j &&& 31 : Int32).toBitVec.smod 32).toNat = j := by
    match j, hj with
    | 0, _ => decide
    | 1, _ => decide
    | 2, _ => decide
    | 3, _ => decide
    | 4, _ => decide
    | 5, _ => decide
    | 6, _ => decide
    | 7, _ => decide
  apply Int32.toBitVec_inj.mp
  have e : ((x >>> (nI j &&& 31)) &&& 1).toBitVec = (x.toBitVec.sshiftRight j) &&& 1#32 := by
    show (x.toBitVec.sshiftRight ((nI j &&& 31 : Int32).toBitVec.smod 32).toNat) &&& _ = _
    rw [es]; rfl
  rw [e]
  apply BitVec.eq_of_getLsbD_eq
  intro i hi
  rw [BitVec.getLsbD_and, BitVec.getLsbD_sshiftRight, BitVec.getLsbD_one]
  by_cases h0 : i = 0
  · subst h0
    cases hb : x.toBitVec.getLsbD j
    · simp [hb]; intro _; omega
    · simp [hb]; exact Or.inl (by omega)
  · cases hb : x.toBitVec.getLsbD j
    · simp [h0]
    · simp [h0]
theorem ab_bits (x w : Int32) {j : Nat} (hj : j < 8) : ((x &&& (w ^^^ (-1))) >>> (nI j &&& 31)) &&& 1 = 1 ↔ ((x >>> (nI j &&& 31)) &&& 1 = 1 ∧ (w >>> (nI j &&& 31)) &&& 1 = 0) := by
  rw [ab_bit _ hj, ab_bit _ hj, ab_bit _ hj]
  have e : (x &&& (w ^^^ (-1))).toBitVec.getLsbD j = (x.toBitVec.getLsbD j && !w.toBitVec.getLsbD j) := by
    rw [Int32.toBitVec_and, Int32.toBitVec_xor, BitVec.getLsbD_and, BitVec.getLsbD_xor]
    have : (-1 : Int32).toBitVec.getLsbD j = true := by
      show (BitVec.allOnes 32).getLsbD j = true
      rw [BitVec.getLsbD_allOnes]; exact decide_eq_true (by omega)
    rw [this]; simp
  rw [e]
  cases x.toBitVec.getLsbD j <;> cases w.toBitVec.getLsbD j <;> decide
theorem ab_ge8 {j : Nat} (hj : j ≤ 8) : (8 : Int32) ≤ nI j ↔ 8 ≤ j := nI_leI (a := 8) (by decide) (by omega)
section EQ
variable {jc : Int32 → Int32 → Int32 → Prop}
/-- the sounds that a byte triggers, and the reference's loop -/
theorem ab_trig (B : Nat) (hB : B < 2 ^ 30) (p x w : Int32) (k : Nat) : ∀ (u v : SS) (j : Nat), ab_Q (ab_bd (B + j)) jc u v → j ≤ 8 → 8 < j + k →
    ∃ v' : SS, g_MD_out_86 k v p x w (nI j) = stt (stt v' 0 21 (if p = 3 then x else (v' 0 21) : Int32)) 0 22 (if p = 5 then x else (v' 0 22) : Int32) ∧ ab_Q (ab_bd (B + 8)) jc (g_Sounds_trigger_2 k u p (x &&& (w ^^^ (-1))) (nI j)) v' := by
  induction k with
  | zero => intro u v j _ h1 h2; omega
  | succ k ih =>
    intro u v j h h1 h2
    rw [g_MD_out_86, g_Sounds_trigger_2]
    by_cases e : 8 ≤ j
    · rw [if_pos ((ab_ge8 h1).mpr e), if_pos ((ab_ge8 h1).mpr e)]
      exact ⟨v, rfl, by rw [show (8 : Nat) = j by omega]; exact h⟩
    · rw [if_neg (fun z => e ((ab_ge8 h1).mp z)), if_neg (fun z => e ((ab_ge8 h1).mp z)), nI_1]
      have hm : ab_Q (ab_bd (B + (j + 1))) jc u v := ab_Q_mono h (fun k _ => by unfold ab_bd; split <;> omega)
      by_cases q : (x >>> (nI j &&& 31)) &&& 1 = 1 ∧ (w >>> (nI j &&& 31)) &&& 1 = 0
      · rw [if_pos q.1, if_pos q.2, if_pos ((ab_bits x w (by omega)).mpr q)]
        refine ih _ _ (j + 1) ?_ (by omega) (by omega)
        obtain ⟨n, hn, en⟩ := ab_Q_bd h 17
        have ev : u 0 17 = v 0 23 := ab_Q_sc h 17
        have hn' : n < B + j + 1 := hn
        rw [← ev, en, pk_andN (by omega) 3 rfl, show nI n - nI n / 8 * 8 = nI (n % 8) from pk_rem (d := 8) (by omega) (by decide) (by decide), nI_1]
        refine ab_Q_mono (ab_Q_set (ab_Q_lat h (nI (n % 8)).toNatClampNeg rfl) 17 (B + (j + 1) + 1) rfl (by omega) rfl) (fun k hk => ?_)
        unfold va_up
        split
        · rename_i e; subst e; exact Nat.le_refl _
        · unfold ab_bd; split <;> omega
      · have q' : ¬ ((x &&& (w ^^^ (-1))) >>> (nI j &&& 31)) &&& 1 = 1 := fun z => q ((ab_bits x w (by omega)).mp z)
        rw [if_neg q']
        have e2 : (if (x >>> (nI j &&& 31)) &&& 1 = 1 then (if (w >>> (nI j &&& 31)) &&& 1 = 0 then g_MD_out_86 k (stt (stt v 3 (v 0 23 - v 0 23 / 8 * 8).toNatClampNeg (8 * p + nI j)) 0 23 (v 0 23 + 1)) p x w (nI (j + 1)) else g_MD_out_86 k v p x w (nI (j + 1))) else g_MD_out_86 k v p x w (nI (j + 1))) = g_MD_out_86 k v p x w (nI (j + 1)) := by
          by_cases q1 : (x >>> (nI j &&& 31)) &&& 1 = 1
          · rw [if_pos q1, if_neg (fun z => q ⟨q1, z⟩)]
          · rw [if_neg q1]
        rw [e2]
        exact ih _ _ (j + 1) hm (by omega) (by omega)
variable {u v : SS} {B : Nat}
theorem ab_up8 (h : ab_Q (ab_bd B) jc u v) : ab_Q (ab_bd (B + 8)) jc u v := ab_Q_mono h (fun k _ => by unfold ab_bd; split <;> omega)
theorem ab_out (h : ab_Q (ab_bd B) jc u v) (hB : B < 2 ^ 30) {p x : Int32} (hx : ab_by x) : ab_Q (ab_bd (B + 8)) jc (f_Ports_out u p x) (f_MD_out v p x) := by
  unfold f_Ports_out f_MD_out
  have h8 := ab_up8 h
  obtain ⟨n, hn, rfl⟩ := hx
  by_cases e2 : p = 2
  · subst e2
    simp (decide := true) only [↓reduceIte]
    exact ab_Q_put h8 8 (pk_andN (by omega) 3 rfl) (show _ < 8 by omega) rfl
  by_cases e4 : p = 4
  · subst e4
    simp (decide := true) only [↓reduceIte]
    obtain ⟨m, hm, em⟩ := ab_Q_bd h 7
    have hm' : m < 65536 := hm
    have ev : u 0 7 = v 0 15 := ab_Q_sc h 7
    rw [← ev, em, pk_shrN (by omega) _ 8 (by decide), (ab_wor ⟨m / 2 ^ 8, by omega, rfl⟩ ⟨n, hn, rfl⟩).1]
    obtain ⟨r, hr, er⟩ := (ab_wor ⟨m / 2 ^ 8, by omega, rfl⟩ ⟨n, hn, rfl⟩).2
    refine ab_Q_put h8 7 er (show _ < 65536 by omega) ?_
    rw [show (256 : Int32) = nI 256 from rfl, pk_div (by omega) (by decide) (by decide)]
  by_cases e6 : p = 6
  · subst e6
    simp (decide := true) only [↓reduceIte]
    exact ab_Q_put h8 9 (n := 0) rfl (show _ < 4 by omega) rfl
  by_cases e3 : p = 3
  · subst e3
    simp (decide := true) only [↓reduceIte]
    have ev : u 0 13 = v 0 21 := ab_Q_sc h 13
    obtain ⟨v', e, q⟩ := ab_trig B hB 3 (nI n) (v 0 21) 9 u v 0 h (by omega) (by omega)
    unfold f_Sounds_trigger
    rw [ev]
    rw [show (0 : Int32) = nI 0 from rfl, e]
    simp (decide := true) only [↓reduceIte]
    rw [show stt (stt v' 0 21 (nI n)) 0 22 (v' 0 22) = stt v' 0 21 (nI n) by rw [stt_comm (by decide), stt_id]]
    exact ab_Q_put q 13 rfl (show _ < 256 by omega) rfl
  by_cases e5 : p = 5
  · subst e5
    simp (decide := true) only [↓reduceIte]
    have ev : u 0 14 = v 0 22 := ab_Q_sc h 14
    obtain ⟨v', e, q⟩ := ab_trig B hB 5 (nI n) (v 0 22) 9 u v 0 h (by omega) (by omega)
    unfold f_Sounds_trigger
    rw [ev]
    rw [show (0 : Int32) = nI 0 from rfl, e]
    simp (decide := true) only [↓reduceIte]
    rw [stt_id]
    exact ab_Q_put q 14 rfl (show _ < 256 by omega) rfl
  rw [if_neg e2, if_neg e2, if_neg e4, if_neg e3, if_neg e6, if_neg e3, if_neg e4, if_neg e5, if_neg e6, if_neg e5]
  exact h8
theorem ab_inp (h : ab_Q (ab_bd B) jc u v) {p : Int32} : f_Ports_in u p = f_MD_in v p ∧ ab_by (f_MD_in v p) := by
  unfold f_Ports_in f_MD_in
  have e15 : u 0 15 = v 0 2 := ab_Q_sc h 15
  have e16 : u 0 16 = v 0 3 := ab_Q_sc h 16
  have e12 : u 0 12 = v 0 20 := ab_Q_sc h 12
  have e7 : u 0 7 = v 0 15 := ab_Q_sc h 7
  have e8 : u 0 8 = v 0 16 := ab_Q_sc h 8
  rw [← e15, ← e16, ← e12, ← e7, ← e8]
  by_cases p0 : p = 0
  · rw [if_pos p0, if_pos p0]; obtain ⟨n, hn, e⟩ := ab_Q_bd h 15; exact ⟨rfl, n, hn, e⟩
  by_cases p1 : p = 1
  · rw [if_neg p0, if_neg p0, if_pos p1, if_pos p1]
    obtain ⟨n, hn, e⟩ := ab_Q_bd h 16
    have hn' : n < 255 := hn
    rw [e]
    by_cases q : u 0 12 ≤ 0
    · rw [if_pos q, if_pos q, Int32.add_zero]; exact ⟨rfl, n, by omega, rfl⟩
    · rw [if_neg q, if_neg q, nI_1]
      exact ⟨rfl, n + 1, by omega, rfl⟩
  rw [if_neg p0, if_neg p0, if_neg p1, if_neg p1]
  by_cases p2 : p = 2
  · subst p2; rw [if_pos rfl, if_neg (by decide)]; exact ⟨rfl, 0, by decide, rfl⟩
  rw [if_neg p2]
  by_cases p3 : p = 3
  · rw [if_pos p3]; exact ⟨rfl, ab_m8b _⟩
  · rw [if_neg p3]; exact ⟨rfl, 0, by decide, rfl⟩
end EQ
end
section
section EQ
variable {u v : SS} {B : Nat} {b : Int32} {jc : Int32 → Int32 → Int32 → Prop}
theorem ab_popF (h : ab_Q (ab_bd B) jc u v) : ab_Q (ab_bd B) jc (f_Processor_popAAndFlags u) (f_MD_setFlags (stt (f_MD_pop v).2 2 7 ((f_MD_pop v).1 / 256)) ((f_MD_pop v).1 - (f_MD_pop v).1 / 256 * 256)) := by
  obtain ⟨e, hw, q⟩ := ab_pop h (Nat.le_refl _)
  unfold f_Processor_popAAndFlags
  rw [e, (ab_hi hw).1]
  have q2 := ab_Q_reg q 7 (ab_hi hw).2 rfl
  obtain ⟨n, hn, en⟩ := (ab_lo hw).2
  have fl : ∀ m, m < 256 → (nI m &&& 213) ||| 2 = ab_FL (if (nI m &&& 128) = 0 then 0 else 1 : Int32) (if (nI m &&& 64) = 0 then 0 else 1 : Int32) (if (nI m &&& 16) = 0 then 0 else 1 : Int32) (if (nI m &&& 4) = 0 then 0 else 1 : Int32) (if (nI m &&& 1) = 0 then 0 else 1 : Int32) := by decide +kernel
  have e9 : (f_MD_pop v).1 &&& 213 = nI n &&& 213 := by
    rw [← en, ← (ab_lo hw).1, Int32.and_assoc]; rfl
  rw [e9, en, fl n hn]
  have bo : ∀ x : Int32, ab_bo (if x = 0 then 0 else 1 : Int32) := fun x => by split; exact ab_bo0; exact ab_bo1
  unfold f_MD_setFlags
  refine ab_Q_fl q2 (fun b j hn => ?_) ?_ (ab_bo5 ?_ ?_ ?_ ?_ ?_ (bo (nI n &&& 128)) (bo (nI n &&& 64)) (bo (nI n &&& 16)) (bo (nI n &&& 4)) (bo (nI n &&& 1)))
  · rw [stt_n (by omega), stt_n (by omega), stt_n (by omega), stt_n (by omega), stt_n (by omega)]
  · rw [ab_FL_e]; simp [stt_ap]
  all_goals simp [stt_ap]
theorem ab_popOr (h : ab_Q (ab_bd B) jc u v) {y : Nat} (hy : y < 8) : ab_P (ab_bd B) jc (f_Processor_popOrGo u (nI y)) (f_MD_popOrSo v (nI y)) := by
  unfold f_Processor_popOrGo f_MD_popOrSo
  have go : ∀ c : Int32, ab_P (ab_bd B) jc (c, stt (f_Memory_pop u).2 0 2 (f_Memory_pop u).1) (stt (f_MD_pop (stt v 0 24 c)).2 0 10 (f_MD_pop (stt v 0 24 c)).1) := by
    intro c
    obtain ⟨e, hw, q⟩ := ab_pop (ab_Q_st h c) (Nat.le_refl _)
    obtain ⟨n, hn, en⟩ := hw
    exact ab_P_mk (ab_Q_put q 2 (e.trans en) hn e.symm) (by rw [stt_k (by decide), fr_pop, stt_s])
  have sp : ∀ k, k < 4 → ab_P (ab_bd B) jc (10, f_Registers_setPair (f_Memory_pop u).2 (nI k) (f_Memory_pop u).1) (f_MD_setPair (f_MD_pop (stt v 0 24 10)).2 (nI k) (f_MD_pop (stt v 0 24 10)).1) := by
    intro k hk
    obtain ⟨e, hw, q⟩ := ab_pop (ab_Q_st h 10) (Nat.le_refl _)
    rw [e]
    exact ab_P_mk (ab_setPair q (Nat.le_refl _) hk _) (by rw [fr_setPair, fr_pop, stt_s])
  match y, hy with
  | 0, _ => simp (decide := true) only [↓reduceIte]; exact sp 0 (by decide)
  | 1, _ => simp (decide := true) only [↓reduceIte]; exact go 10
  | 2, _ => simp (decide := true) only [↓reduceIte]; exact sp 1 (by decide)
  | 3, _ => simp (decide := true) only [↓reduceIte]; exact go 10
  | 4, _ => simp (decide := true) only [↓reduceIte]; exact sp 2 (by decide)
  | 5, _ =>
    simp (decide := true) only [↓reduceIte]
    have p := ab_pair (ab_Q_st h 5) (Nat.le_refl _) (show 2 < 4 by decide)
    obtain ⟨n, hn, en⟩ := p.2
    exact ab_P_mk (ab_Q_put (ab_Q_st h 5) 2 (p.1.trans en) hn p.1.symm) (by rw [stt_k (by decide), stt_s])
  | 6, _ =>
    simp (decide := true) only [↓reduceIte]
    exact ab_P_mk (ab_popF (ab_Q_st h 10)) (by rw [fr_setFlags, stt_a (by decide), fr_pop, stt_s])
  | 7, _ =>
    simp (decide := true) only [↓reduceIte]
    have p := ab_pair (ab_Q_st h 5) (Nat.le_refl _) (show 2 < 4 by decide)
    obtain ⟨n, hn, en⟩ := p.2
    exact ab_P_mk (ab_Q_put (ab_Q_st h 5) 1 (p.1.trans en) hn p.1.symm) (by rw [stt_k (by decide), stt_s])
theorem ab_P_up {c : Int32 × SS} {w : SS} (h : ab_P (ab_bd B) jc c w) : ab_P (ab_bd (B + 8)) jc c w := ⟨ab_up8 h.1, h.2⟩
theorem ab_others (h : ab_Q (ab_bd B) (ab_jO b) u v) (hB : B < 2 ^ 30) (h3 : u 0 3 = b) {y : Nat} (hy : y < 8) : ab_P (ab_bd (B + 8)) (ab_jO b) (f_Processor_goOrExchange u (nI y)) (f_MD_others v (nI y)) := by
  unfold f_Processor_goOrExchange f_MD_others
  have go : ab_P (ab_bd B) (ab_jO b) (10, stt (f_Processor_nextWord u).2 0 2 (f_Processor_nextWord u).1) (stt (f_MD_nextWord (stt v 0 24 10)).2 0 10 (f_MD_nextWord (stt v 0 24 10)).1) := by
    obtain ⟨e, hw, q⟩ := ab_nextWord (ab_Q_st h 10) (Nat.le_refl _)
    obtain ⟨n, hn, en⟩ := hw
    exact ab_P_mk (ab_Q_put q 2 (e.trans en) hn e.symm) (by rw [stt_k (by decide), fr_nextWord, stt_s])
  have e11 : u 0 3 = v 0 11 := ab_Q_sc h 3
  match y, hy with
  | 0, _ => simp (decide := true) only [↓reduceIte]; exact ab_P_up go
  | 1, _ => simp (decide := true) only [↓reduceIte]; exact ab_P_up go
  | 2, _ =>
    simp (decide := true) only [↓reduceIte]
    obtain ⟨e, hb, q⟩ := ab_nextByte (ab_Q_st h 10) (Nat.le_refl _)
    have r := ab_Qr q 7 (by decide)
    rw [e, r.1]
    exact ab_P_mk (ab_out q hB r.2) (by rw [fr_out, fr_next, stt_s])
  | 3, _ =>
    simp (decide := true) only [↓reduceIte]
    obtain ⟨e, hb, q⟩ := ab_nextByte (ab_Q_st h 10) (Nat.le_refl _)
    have i := ab_inp q (p := (f_MD_next (stt v 0 24 10)).1)
    rw [e, i.1]
    exact ab_P_up (ab_P_mk (ab_Q_reg q 7 i.2 rfl) (by rw [stt_a (by decide), fr_next, stt_s]))
  | 4, _ =>
    simp (decide := true) only [↓reduceIte]
    have qs := ab_Q_st h 18
    have esp : u 0 1 = v 0 9 := ab_Q_sc h 1
    obtain ⟨e, hw⟩ := ab_wordAt qs (v 0 9)
    have r4 := ab_Qr h 4 (by decide)
    have r5 := ab_Qr h 5 (by decide)
    obtain ⟨a4, ha, ea⟩ := r4.2
    obtain ⟨a5, hb, eb⟩ := r5.2
    have pe2 : f_Registers_pair u (nI 2) = nI (256 * a4 + a5) := by rw [(ab_pair h (Nat.le_refl _) (show 2 < 4 by decide)).1, show f_MD_pair v (nI 2) = 256 * v 2 4 + v 2 5 from rfl, ea, eb, show (256 : Int32) = nI 256 from rfl, pk_mul, nI_add]
    unfold f_Memory_putWord
    rw [show (2 : Int32) = nI 2 from rfl, esp, e, pe2]
    simp only [ab_wr_a (show (0 : Nat) ≠ 1 by decide), ab_wr_a (show (2 : Nat) ≠ 1 by decide), stt_a (show (2 : Nat) ≠ 0 by decide), stt_k (show (9 : Nat) ≠ 24 by decide)]
    refine ab_P_up (ab_P_mk (ab_setPair (ab_put (ab_put qs ?_) ?_) (Nat.le_refl _) (show 2 < 4 by decide) _) (by rw [fr_setPair, fr_write, fr_write, stt_s]))
    · rw [eb, ab_m8N, ab_m8N]; congr 1; omega
    · rw [ea, pk_shrN (by omega) _ 8 (by decide)]; congr 2; omega
  | 5, _ =>
    simp (decide := true) only [↓reduceIte]
    have qs := ab_Q_st h 5
    rw [show (2 : Int32) = nI 2 from rfl, show (1 : Int32) = nI 1 from rfl, (ab_pair qs (Nat.le_refl _) (show 2 < 4 by decide)).1, (ab_pair qs (Nat.le_refl _) (show 1 < 4 by decide)).1]
    exact ab_P_up (ab_P_mk (ab_setPair (ab_setPair qs (Nat.le_refl _) (by decide) _) (Nat.le_refl _) (by decide) _) (by rw [fr_setPair, fr_setPair, stt_s]))
  | 6, _ =>
    simp (decide := true) only [↓reduceIte]
    have q := ab_Q_int (jc' := ab_jO b) (ab_Q_st h 4) ab_bo0 (Nat.le_refl _) h.2.2.1.2.1 ab_bo0 (show ab_jO b 0 (u 0 4) 0 from rfl)
    rw [show stt (stt u 0 3 0) 0 4 (u 0 4) = stt u 0 3 0 by rw [stt_comm (by decide), stt_id], stt_comm (a := 0) (k := 11) (by decide)] at q
    exact ab_P_up (ab_P_mk q (by rw [stt_k (by decide), stt_k (by decide), stt_s]))
  | 7, _ =>
    simp (decide := true) only [↓reduceIte]
    have hj : ab_jO b 1 (u 0 4) (if v 0 11 = 0 then 1 else 0 : Int32) := by
      unfold ab_jO; rw [← e11, h3]; rfl
    have q := ab_Q_int (jc' := ab_jO b) (ab_Q_st h 4) ab_bo1 (Nat.le_refl _) h.2.2.1.2.1 (by split; exact ab_bo1; exact ab_bo0) hj
    rw [show stt (stt u 0 3 1) 0 4 (u 0 4) = stt u 0 3 1 by rw [stt_comm (by decide), stt_id], stt_comm (a := 0) (k := 11) (by decide)] at q
    exact ab_P_up (ab_P_mk q (by rw [stt_k (by decide), stt_k (by decide), stt_s]))
end EQ

section EQ
variable {u v : SS} {B : Nat} {b : Int32} {jc : Int32 → Int32 → Int32 → Prop}
theorem ab_it01 (x y : Int32) : (if x = y then 1 else 0 : Int32) = 0 ∨ (if x = y then 1 else 0 : Int32) = 1 := by
  split
  · exact Or.inr rfl
  · exact Or.inl rfl
theorem ab_holds_w {y : Int32} : f_MD_holds (f_MD_nextWord v).2 y = f_MD_holds v y := by
  show f_MD_holds (stt (stt v 0 10 _) 0 10 _) y = _
  rw [ab_holds_s (by omega), ab_holds_s (by omega)]
theorem ab_hpush (h : ab_Q (ab_bd B) jc u v) {w : Int32} (hw : ab_wd w) : ab_Q (ab_bd B) jc (stt (f_Memory_push u (u 0 2)) 0 2 w) (stt (f_MD_push v (v 0 10)) 0 10 w) := by
  have e2 : u 0 2 = v 0 10 := ab_Q_sc h 2
  obtain ⟨n, hn, en⟩ := ab_Q_bd h 2
  obtain ⟨m, hm, em⟩ := hw
  have q := ab_push h (Nat.le_refl _) ⟨n, hn, en⟩
  rw [← e2]
  exact ab_Q_put q 2 em hm rfl
theorem ab_flow (h : ab_Q (ab_bd B) (ab_jO b) u v) (hB : B < 2 ^ 30) (h3 : u 0 3 = b) {y z : Nat} (hy : y < 8) (hz : z < 8) (h6 : z ≠ 6) : ab_P (ab_bd (B + 8)) (ab_jO b) (f_Processor_operateOnFlow u (nI y) (nI z)) (f_MD_highOperation v (nI y) (nI z)) := by
  unfold f_Processor_operateOnFlow f_MD_highOperation
  have hh := ab_half2 hy
  have hb : f_MD_holds v (nI y) = 0 ∨ f_MD_holds v (nI y) = 1 := ab_it01 _ _
  match z, hz with
  | 0, _ =>
    simp (decide := true) only [↓reduceIte]
    rw [ab_holds_s (by omega), ab_holds h hy]
    unfold f_Processor_returnIf
    rcases hb with e | e <;> rw [e] <;> simp (decide := true) only [↓reduceIte]
    · refine ab_P_up (ab_P_mk ?_ (by rw [stt_k (by decide), stt_s]))
      rw [show stt (stt v 0 24 5) 0 10 (v 0 10) = stt v 0 24 5 by rw [stt_comm (by decide), stt_id]]
      exact ab_Q_st h 5
    · obtain ⟨e, hw, q⟩ := ab_pop (ab_Q_st h 11) (Nat.le_refl _)
      obtain ⟨n, hn, en⟩ := hw
      exact ab_P_up (ab_P_mk (ab_Q_put q 2 (e.trans en) hn e.symm) (by rw [stt_k (by decide), fr_pop, stt_s]))
  | 1, _ => simp (decide := true) only [↓reduceIte]; exact ab_P_up (ab_popOr h hy)
  | 2, _ =>
    simp (decide := true) only [↓reduceIte]
    rw [ab_holds_w, ab_holds_s (by omega), ab_holds h hy]
    unfold f_Processor_goIf
    obtain ⟨e1, hw, q⟩ := ab_nextWord (ab_Q_st h 10) (Nat.le_refl _)
    rcases hb with e | e <;> rw [e] <;> simp (decide := true) only [↓reduceIte]
    · rw [stt_id]
      exact ab_P_up (ab_P_mk q (by rw [fr_nextWord, stt_s]))
    · obtain ⟨n, hn, en⟩ := hw
      exact ab_P_up (ab_P_mk (ab_Q_put q 2 (e1.trans en) hn e1.symm) (by rw [stt_k (by decide), fr_nextWord, stt_s]))
  | 3, _ => simp (decide := true) only [↓reduceIte]; exact ab_others h hB h3 hy
  | 4, _ =>
    simp (decide := true) only [↓reduceIte]
    rw [ab_holds_s (by omega), ab_holds_w, ab_holds h hy]
    unfold f_Processor_goWithReturnIf
    obtain ⟨e1, hw, q⟩ := ab_nextWord h (Nat.le_refl _)
    rcases hb with e | e <;> rw [e] <;> simp (decide := true) only [↓reduceIte]
    · exact ab_P_up (ab_P_mk (ab_Q_st q 11) (stt_s _ _ _ _))
    · rw [e1]
      have q2 := ab_hpush (ab_Q_st q 17) hw
      rw [stt_k (show (10 : Nat) ≠ 24 by decide)] at q2
      exact ab_P_up (ab_P_mk q2 (by rw [stt_k (by decide), fr_push, stt_s]))
  | 5, _ =>
    simp (decide := true) only [↓reduceIte]
    rw [hh.2, hh.1]
    by_cases e : y % 2 = 0
    · rw [if_pos ((ab_n2 (by omega)).mpr e), if_pos ((ab_n2 (by omega)).mpr e)]
      unfold f_Processor_pushPair
      have qs := ab_Q_st h 11
      by_cases e6 : y = 6
      · subst e6
        simp (decide := true) only [↓reduceIte]
        have r := ab_Qr h 7 (by decide)
        rw [r.1, h.2.1.1]
        have w := ab_wor' (a := f_MD_flags v) (by rw [ab_FL_e]; exact ab_FL_by) r.2
        rw [w.1, ab_fl_n (by omega)]
        exact ab_P_up (ab_P_mk (ab_push qs (Nat.le_refl _) w.2) (by rw [fr_push, stt_s]))
      · rw [if_neg (show ¬ nI (y / 2) = 3 from fun z => by have := (ab_n3 (by omega)).mp z; omega), if_neg (fun z => e6 ((ab_n6 hy).mp z))]
        have p := ab_pair qs (Nat.le_refl _) (show y / 2 < 4 by omega)
        rw [p.1]
        exact ab_P_up (ab_P_mk (ab_push qs (Nat.le_refl _) p.2) (by rw [fr_push, stt_s]))
    · rw [if_neg (fun z => e ((ab_n2 (by omega)).mp z)), if_neg (fun z => e ((ab_n2 (by omega)).mp z))]
      unfold f_Processor_goWithReturnIf
      simp (decide := true) only [↓reduceIte]
      obtain ⟨e1, hw, q⟩ := ab_nextWord (ab_Q_st h 17) (Nat.le_refl _)
      rw [e1]
      exact ab_P_up (ab_P_mk (ab_hpush q hw) (by rw [stt_k (by decide), fr_push, fr_nextWord, stt_s]))
  | 7, _ =>
    simp (decide := true) only [↓reduceIte]
    unfold f_Processor_goWithReturn
    have q2 := ab_hpush (ab_Q_st h 11) (w := 8 * nI y) ⟨8 * y, by omega, by rw [show (8 : Int32) = nI 8 from rfl, pk_mul]⟩
    rw [stt_k (show (10 : Nat) ≠ 24 by decide)] at q2
    exact ab_P_up (ab_P_mk q2 (by rw [stt_k (by decide), fr_push, stt_s]))
theorem ab_opn (h : ab_Q (ab_bd B) (ab_jO b) u v) (hB : B < 2 ^ 30) (h3 : u 0 3 = b) : ab_P (ab_bd (B + 8)) (ab_jO b) (f_Processor_operate (f_Processor_nextByte u).2 (f_Processor_nextByte u).1) (f_MD_operation v) := by
  obtain ⟨e, hb, q⟩ := ab_nextByte h (Nat.le_refl _)
  have h3' : (f_Processor_nextByte u).2 0 3 = b := by unfold f_Processor_nextByte; dsimp only; rw [stt_k (by decide)]; exact h3
  unfold f_MD_operation
  rw [e]
  obtain ⟨n, hn, en⟩ := hb
  rw [en]
  generalize (f_Processor_nextByte u).2 = u' at *
  generalize (f_MD_next v).2 = v' at *
  unfold f_Processor_operate
  rw [pk_shrN (by omega) _ 6 (by decide), pk_shrN (by omega) _ 3 (by decide), pk_andN (by omega) 3 rfl, pk_andN (by omega) 3 rfl]
  have hx : n / 2 ^ 6 < 4 := by omega
  have hy : n / 2 ^ 3 % 2 ^ 3 < 8 := by omega
  have hz : n % 2 ^ 3 < 8 := by omega
  have hn8 : n = 64 * (n / 2 ^ 6) + 8 * (n / 2 ^ 3 % 2 ^ 3) + n % 2 ^ 3 := by omega
  have h118 : nI n = 118 ↔ n = 118 := nI_eq (b := 118) (by omega) (by decide)
  generalize n / 2 ^ 6 = x at *
  generalize n / 2 ^ 3 % 2 ^ 3 = y at *
  generalize n % 2 ^ 3 = z at *
  match x, hx with
  | 0, _ =>
    rw [if_neg (show ¬ nI n = 118 from fun q => by have := h118.mp q; omega)]
    simp (decide := true) only [↓reduceIte]
    exact ab_P_up (ab_low q rfl rfl hy hz)
  | 1, _ =>
    simp (decide := true) only [↓reduceIte]
    unfold f_Processor_move
    by_cases e6 : y = 6
    · by_cases z6 : z = 6
      · rw [if_pos (h118.mpr (by omega)), if_pos ((ab_n6 hy).mpr e6), if_pos ((ab_n6 hz).mpr z6)]
        exact ab_P_up (ab_P_mk (ab_Q_st (ab_Q_put q 5 (n := 1) rfl (show 1 < 2 by decide) rfl) 7) (stt_s _ _ _ _))
      · rw [if_neg (show ¬ nI n = 118 from fun q => by have := h118.mp q; omega), if_pos ((ab_n6 hy).mpr e6), if_neg (fun q => z6 ((ab_n6 hz).mp q))]
        have qs := ab_Q_st q (if nI y = 6 then 7 else (if nI z = 6 then 7 else 5 : Int32) : Int32)
        have g := ab_value qs (Nat.le_refl _) hz
        rw [g.1]
        exact ab_P_up (ab_P_mk (ab_set qs (Nat.le_refl _) hy _) (by rw [fr_set, stt_s]))
    · rw [if_neg (show ¬ nI n = 118 from fun q => by have := h118.mp q; omega), if_neg (fun q => e6 ((ab_n6 hy).mp q))]
      have qs := ab_Q_st q (if nI y = 6 then 7 else (if nI z = 6 then 7 else 5 : Int32) : Int32)
      have g := ab_value qs (Nat.le_refl _) hz
      rw [g.1]
      exact ab_P_up (ab_P_mk (ab_set qs (Nat.le_refl _) hy _) (by rw [fr_set, stt_s]))
  | 2, _ =>
    rw [if_neg (show ¬ nI n = 118 from fun q => by have := h118.mp q; omega)]
    simp (decide := true) only [↓reduceIte]
    have qs := ab_Q_st q (if nI z = 6 then 7 else 4 : Int32)
    have g := ab_value qs (Nat.le_refl _) hz
    rw [g.1]
    exact ab_P_up (ab_P_mk (ab_operate qs hy g.2) (by rw [fr_operate, stt_s]))
  | 3, _ =>
    rw [if_neg (show ¬ nI n = 118 from fun q => by have := h118.mp q; omega)]
    simp (decide := true) only [↓reduceIte]
    by_cases z6 : z = 6
    · subst z6
      rw [if_pos (show nI 6 = 6 from rfl)]
      unfold f_MD_highOperation
      simp (decide := true) only [↓reduceIte]
      obtain ⟨e, hb, q2⟩ := ab_nextByte (ab_Q_st q 7) (Nat.le_refl _)
      rw [e]
      exact ab_P_up (ab_P_mk (ab_operate q2 hy hb) (by rw [fr_operate, fr_next, stt_s]))
    · rw [if_neg (fun q => z6 ((ab_n6 hz).mp q))]
      exact ab_flow q hB h3' hy hz z6
end EQ

theorem ab_wr_c {w : SS} {k : Nat} {z x y : Int32} : f_MD_write (stt w 0 k z) x y = stt (f_MD_write w x y) 0 k z := by
  unfold f_MD_write
  rw [stt_a (b := 1) (by decide), stt_comm (b := 1) (by omega)]
theorem ab_push_c {w : SS} {k : Nat} {z x : Int32} (hk : k ≠ 9) : f_MD_push (stt w 0 k z) x = stt (f_MD_push w x) 0 k z := by
  unfold f_MD_push
  rw [stt_k (j := 9) (Ne.symm hk)]
  simp only [ab_wr_c, stt_k (Ne.symm hk)]
  rw [stt_comm (by omega)]
section EQ
variable {u v : SS} {B : Nat} {b : Int32} {bd : Nat → Nat} {jc : Int32 → Int32 → Int32 → Prop}
theorem ab_Q_u4 (h : ab_Q bd jc u v) : stt (stt u 0 3 (u 0 3)) 0 4 (u 0 4) = u := by rw [stt_id, stt_id]
theorem ab_Q_bo3 (h : ab_Q (ab_bd B) jc u v) : ab_bo (u 0 3) := by
  obtain ⟨n, hn, e⟩ := ab_Q_bd h 3
  have hn' : n < 2 := hn
  rcases (show n = 0 ∨ n = 1 by omega) with rfl | rfl
  · exact Or.inl e
  · exact Or.inr e
/-- a step begins: justOn is cleared -/
theorem ab_begin (h : ab_Q (ab_bd B) ab_jR u v) : ab_Q (ab_bd B) (ab_jO (u 0 3)) u (stt v 0 12 0) := by
  have q := ab_Q_int (jc' := ab_jO (u 0 3)) h (ab_Q_bo3 h) (Nat.le_refl _) h.2.2.1.2.1 ab_bo0 (show ab_jO (u 0 3) (u 0 3) (u 0 4) 0 by unfold ab_jO; split; rfl; rfl)
  rw [ab_Q_u4 h, show stt v 0 11 (u 0 3) = v by rw [show u 0 3 = v 0 11 from ab_Q_sc h 3, stt_id]] at q
  exact q
/-- behind the operation switchedOn is set -/
theorem ab_end (h : ab_Q (ab_bd B) (ab_jO b) u v) : ab_Q (ab_bd B) ab_jR (stt u 0 4 (if (u 0 3) = 0 then 0 else (if b = 0 then 1 else 0 : Int32) : Int32)) v := by
  have e : v 0 12 = (if (u 0 3) = 0 then 0 else (if b = 0 then 1 else 0 : Int32) : Int32) := h.2.2.1.1
  rw [← e]
  have q := ab_Q_int (jc' := ab_jR) h (ab_Q_bo3 h) (Nat.le_refl _) h.2.2.1.2.2 h.2.2.1.2.2 (fun _ => rfl)
  rw [stt_id, stt_id (u := v) (a := 0) (k := 11) |> fun z => show stt v 0 11 (u 0 3) = v by rw [show u 0 3 = v 0 11 from ab_Q_sc h 3, stt_id], stt_id] at q
  exact q
theorem ab_reset (h : ab_Q bd jc u v) (h3 : 2 ≤ bd 3) (h0 : ∀ k, k < 18 → 0 < bd k) : ab_Q bd ab_jR (f_Clock_reset u) (f_MD_reset v) := by
  unfold f_Clock_reset f_MD_reset
  have q1 := ab_Q_put h 2 (n := 0) (x := 0) (y := 0) rfl (h0 2 (by decide)) rfl
  have q2 := ab_Q_put q1 7 (n := 0) (x := 0) (y := 0) rfl (h0 7 (by decide)) rfl
  have q3 := ab_Q_put q2 8 (n := 0) (x := 0) (y := 0) rfl (h0 8 (by decide)) rfl
  have q4 := ab_Q_put q3 9 (n := 0) (x := 0) (y := 0) rfl (h0 9 (by decide)) rfl
  have q5 := ab_Q_int (jc' := ab_jR) q4 ab_bo0 h3 q4.2.2.1.2.1 ab_bo0 (fun z => absurd z (by decide))
  rw [stt_comm (u := stt _ 0 9 0) (by decide), stt_id] at q5
  exact ab_Q_put (ab_Q_put q5 5 (n := 0) (x := 0) (y := 0) rfl (h0 5 (by decide)) rfl) 6 (n := 0) (x := 0) (y := 0) rfl (h0 6 (by decide)) rfl
theorem ab_bd0 (k : Nat) : 0 < ab_bd B k := by unfold ab_bd; split <;> omega
theorem ab_endF (h : ab_Q (va_up (ab_bd B) 10 2600) ab_jR u v) {t : Nat} (ht : u 0 10 = nI t) (h1 : 2560 ≤ t) (h2 : t < 2600) :
    ab_Q (ab_bd B) ab_jR (f_Clock_endFrame u) (if ((v 0 17) + 1) = 4 then
      (f_MD_reset (stt (stt (stt (stt v 0 18 ((v 0 18) - 2560)) 0 19 ((v 0 19) + 1)) 0 20 (if (v 0 20) ≤ 0 then 0 else ((v 0 20) - 1) : Int32)) 0 17 ((v 0 17) + 1)))
    else (stt (stt (stt (stt v 0 18 ((v 0 18) - 2560)) 0 19 ((v 0 19) + 1)) 0 20 (if (v 0 20) ≤ 0 then 0 else ((v 0 20) - 1) : Int32)) 0 17 ((v 0 17) + 1))) := by
  have e10 : u 0 10 = v 0 18 := ab_Q_sc h 10
  have e11 : u 0 11 = v 0 19 := ab_Q_sc h 11
  have e12 : u 0 12 = v 0 20 := ab_Q_sc h 12
  have e9 : u 0 9 = v 0 17 := ab_Q_sc h 9
  obtain ⟨c, hc, ec⟩ := ab_Q_bd h 12
  obtain ⟨w, hw, ew⟩ := ab_Q_bd h 9
  have hc' : c < 4 := hc
  have hw' : w < 4 := hw
  rw [← e10, ← e11, ← e12, ← e9, ew]
  obtain ⟨f, hf, ef⟩ := ab_any (u 0 11 + 1)
  have q1 : ab_Q (ab_bd B) ab_jR (stt u 0 10 (u 0 10 - 2560)) (stt v 0 18 (u 0 10 - 2560)) := by
    refine ab_Q_mono (ab_Q_set h 10 2560 (n := t - 2560) (by rw [ht, show (2560 : Int32) = nI 2560 from rfl, pk_sub h1]) (by omega) rfl) (fun k hk => ?_)
    unfold va_up
    split
    · rename_i e; subst e; exact Nat.le_refl _
    · exact Nat.le_refl _
  have q2 := ab_Q_put q1 11 (x := u 0 11 + 1) ef hf rfl
  -- the coin
  have q3 : ab_Q (ab_bd B) ab_jR (if (u 0 12) ≤ 0 then stt (stt u 0 10 (u 0 10 - 2560)) 0 11 (u 0 11 + 1) else stt (stt (stt u 0 10 (u 0 10 - 2560)) 0 11 (u 0 11 + 1)) 0 12 (u 0 12 - 1)) (stt (stt (stt v 0 18 (u 0 10 - 2560)) 0 19 (u 0 11 + 1)) 0 20 (if (u 0 12) ≤ 0 then 0 else (u 0 12 - 1) : Int32)) := by
    by_cases e : u 0 12 ≤ 0
    · have c0 : c = 0 := by
        rw [ec] at e
        have := (nI_leI (b := 0) (by omega) (by decide)).mp e
        omega
      rw [if_pos e, if_pos e]
      have e0 : stt (stt v 0 18 (u 0 10 - 2560)) 0 19 (u 0 11 + 1) 0 20 = 0 := by
        rw [stt_k (by decide), stt_k (by decide), ← e12, ec, c0]; rfl
      rw [show stt (stt (stt v 0 18 (u 0 10 - 2560)) 0 19 (u 0 11 + 1)) 0 20 0 = stt (stt v 0 18 (u 0 10 - 2560)) 0 19 (u 0 11 + 1) by
        conv => lhs; rw [← e0]
        exact stt_id]
      exact q2
    · rw [if_neg e, if_neg e]
      have c1 : 1 ≤ c := by
        rcases Nat.eq_zero_or_pos c with z | z
        · exact absurd (by rw [ec, z]; decide) e
        · exact z
      exact ab_Q_put q2 12 (n := c - 1) (by rw [ec, show (1 : Int32) = nI 1 from rfl, pk_sub c1]) (show _ < 4 by omega) rfl
  have eE : f_Clock_endFrame u = g_Clock_endFrame_51 (if (u 0 12) ≤ 0 then stt (stt u 0 10 (u 0 10 - 2560)) 0 11 (u 0 11 + 1) else stt (stt (stt u 0 10 (u 0 10 - 2560)) 0 11 (u 0 11 + 1)) 0 12 (u 0 12 - 1)) := by
    unfold f_Clock_endFrame; split <;> rfl
  rw [eE]
  have e9' : (if (u 0 12) ≤ 0 then stt (stt u 0 10 (u 0 10 - 2560)) 0 11 (u 0 11 + 1) else stt (stt (stt u 0 10 (u 0 10 - 2560)) 0 11 (u 0 11 + 1)) 0 12 (u 0 12 - 1)) 0 9 = nI w := by
    split
    · rw [stt_k (by decide), stt_k (by decide), ew]
    · rw [stt_k (by decide), stt_k (by decide), stt_k (by decide), ew]
  generalize (if (u 0 12) ≤ 0 then stt (stt u 0 10 (u 0 10 - 2560)) 0 11 (u 0 11 + 1) else stt (stt (stt u 0 10 (u 0 10 - 2560)) 0 11 (u 0 11 + 1)) 0 12 (u 0 12 - 1)) = u3 at *
  generalize (stt (stt (stt v 0 18 (u 0 10 - 2560)) 0 19 (u 0 11 + 1)) 0 20 (if (u 0 12) ≤ 0 then 0 else (u 0 12 - 1) : Int32)) = v3 at *
  unfold g_Clock_endFrame_51
  rw [e9', nI_1]
  by_cases e4 : w + 1 < 4
  · rw [if_pos (show nI (w + 1) < 4 from (nI_ltI (b := 4) (by omega) (by decide)).mpr e4), if_neg (show ¬ nI (w + 1) = 4 from fun z => by have := (nI_eq (b := 4) (by omega) (by decide)).mp z; omega)]
    exact ab_Q_put q3 9 rfl (show w + 1 < 4 by omega) rfl
  · rw [if_neg (show ¬ nI (w + 1) < 4 from fun z => e4 ((nI_ltI (b := 4) (by omega) (by decide)).mp z)), if_pos (show nI (w + 1) = 4 from (nI_eq (b := 4) (by omega) (by decide)).mpr (by omega))]
    have q4 := ab_Q_set q3 9 5 (n := w + 1) (x := nI (w + 1)) rfl (by omega) rfl
    have q5 := ab_reset q4 (show 2 ≤ 2 by decide) (fun k _ => by unfold va_up; split; omega; exact ab_bd0 k)
    -- the watch is 0 again
    refine ⟨fun k k1 k2 k3 => ?_, q5.2⟩
    have z := q5.1 k k1 k2 k3
    by_cases e : k = 9
    · subst e
      refine ⟨z.1, 0, ab_bd0 9, ?_⟩
      unfold f_Clock_reset
      simp [stt_ap]
      rfl
    · unfold va_up at z; rw [if_neg e] at z; exact z
end EQ

section EQ
variable {u v : SS} {B : Nat} {b : Int32} {bd : Nat → Nat} {jc : Int32 → Int32 → Int32 → Prop}
theorem ab_pass (h : ab_Q (ab_bd B) ab_jR u v) {s : Nat} (hs : s ≤ 18) (es : v 0 24 = nI s) : ab_Q (ab_bd B) ab_jR (f_Clock_pass u (nI s)) (g_MD_step_90 v) ∧ g_MD_step_90 v 0 24 = v 0 24 := by
  obtain ⟨t, ht, et⟩ := ab_Q_bd h 10
  have ht' : t < 2560 := ht
  have e10 : u 0 10 = v 0 18 := ab_Q_sc h 10
  have e6 : u 0 6 = v 0 14 := ab_Q_sc h 6
  obtain ⟨c, hc, ec⟩ := ab_Q_bd h 6
  have et' : v 0 18 = nI t := e10 ▸ et
  -- the call that waits then
  have hC : ∃ C : Nat, C < 3 ∧ f_Clock_pass u (nI s) = g_Clock_pass_74 (stt (stt u 0 10 (nI (t + s))) 0 6 (nI C)) ∧ (if 1024 ≤ (v 0 18) then (if 2048 ≤ (v 0 18) then (v 0 14) else (if ((v 0 18) + (v 0 24)) < 2048 then (v 0 14) else 2 : Int32) : Int32) else (if ((v 0 18) + (v 0 24)) < 1024 then (if 2048 ≤ (v 0 18) then (v 0 14) else (if ((v 0 18) + (v 0 24)) < 2048 then (v 0 14) else 2 : Int32) : Int32) else 1 : Int32) : Int32) = nI C := by
    have same : stt (stt u 0 10 (nI (t + s))) 0 6 (nI c) = stt u 0 10 (nI (t + s)) := by
      rw [← ec, stt_comm (by decide), stt_id]
    have i1 : (1024 : Int32) ≤ nI t ↔ 1024 ≤ t := nI_leI (a := 1024) (by decide) (by omega)
    have i2 : (2048 : Int32) ≤ nI t ↔ 2048 ≤ t := nI_leI (a := 2048) (by decide) (by omega)
    have i3 : nI (t + s) < 1024 ↔ t + s < 1024 := nI_ltI (b := 1024) (by omega) (by decide)
    have i4 : nI (t + s) < 2048 ↔ t + s < 2048 := nI_ltI (b := 2048) (by omega) (by decide)
    unfold f_Clock_pass g_Clock_pass_46
    rw [← e6, et', es, et, nI_add, stt_s, stt_k (j := 10) (k := 6) (by decide), stt_s, ec]
    by_cases h1 : 1024 ≤ t
    · by_cases h2 : 2048 ≤ t
      · rw [if_pos (i1.mpr h1), if_pos (i1.mpr h1), if_pos (i2.mpr h2), if_pos (i2.mpr h2)]
        exact ⟨c, hc, by rw [same], rfl⟩
      · rw [if_pos (i1.mpr h1), if_pos (i1.mpr h1), if_neg (fun z => h2 (i2.mp z)), if_neg (fun z => h2 (i2.mp z))]
        by_cases h4 : t + s < 2048
        · rw [if_pos (i4.mpr h4), if_pos (i4.mpr h4)]; exact ⟨c, hc, by rw [same], rfl⟩
        · rw [if_neg (fun z => h4 (i4.mp z)), if_neg (fun z => h4 (i4.mp z))]; exact ⟨2, by decide, rfl, rfl⟩
    · rw [if_neg (fun z => h1 (i1.mp z)), if_neg (fun z => h1 (i1.mp z))]
      by_cases h3 : t + s < 1024
      · rw [if_pos (i3.mpr h3), if_pos (i3.mpr h3), if_neg (show ¬ (2048 : Int32) ≤ nI t from fun z => by have := i2.mp z; omega), if_neg (show ¬ (2048 : Int32) ≤ nI t from fun z => by have := i2.mp z; omega), if_pos (i4.mpr (by omega)), if_pos (i4.mpr (by omega))]
        exact ⟨c, hc, by rw [same], rfl⟩
      · rw [if_neg (fun z => h3 (i3.mp z)), if_neg (fun z => h3 (i3.mp z)), if_neg (show ¬ (2048 : Int32) ≤ nI t from fun z => by have := i2.mp z; omega), if_pos (i4.mpr (by omega))]
        exact ⟨1, by decide, rfl, rfl⟩
  obtain ⟨C, hC3, eC, eM⟩ := hC
  unfold g_MD_step_90
  rw [eM, eC, et', es, nI_add]
  have q1 := ab_Q_set h 10 2600 (n := t + s) (x := nI (t + s)) (y := nI (t + s)) rfl (by omega) rfl
  have q2 := ab_Q_put q1 6 (n := C) (x := nI C) (y := nI C) rfl (show C < 3 by omega) rfl
  have i5 : nI (t + s) < 2560 ↔ t + s < 2560 := nI_ltI (b := 2560) (by omega) (by decide)
  unfold g_Clock_pass_74
  rw [stt_k (j := 10) (k := 6) (by decide), stt_s]
  by_cases h5 : t + s < 2560
  · rw [if_pos (i5.mpr h5), if_pos (i5.mpr h5)]
    refine ⟨?_, ?_⟩
    · refine ⟨fun k k1 k2 k3 => ?_, q2.2⟩
      have z := q2.1 k k1 k2 k3
      by_cases e : k = 10
      · subst e
        refine ⟨z.1, t + s, h5, ?_⟩
        rw [stt_k (by decide), stt_s]
      · unfold va_up at z; rw [if_neg e] at z; exact z
    · rw [stt_k (by decide), stt_k (by decide), es]
  · rw [if_neg (fun z => h5 (i5.mp z)), if_neg (fun z => h5 (i5.mp z))]
    have q3 := ab_endF q2 (t := t + s) (by rw [stt_k (by decide), stt_s]) (by omega) (by omega)
    rw [show ab_ix 10 = 18 from rfl, show ab_ix 6 = 14 from rfl] at q3
    rw [stt_k (j := 18) (k := 14) (by decide), stt_s, stt_k (j := 19) (by decide), stt_k (j := 19) (by decide), stt_k (j := 20) (by decide), stt_k (j := 20) (by decide), stt_k (j := 17) (by decide), stt_k (j := 17) (by decide)] at q3
    refine ⟨q3, ?_⟩
    split
    · unfold f_MD_reset; simp [stt_ap]
      exact es
    · simp [stt_ap]
      exact es
def ab_s18 (x : Int32) : Prop := ∃ s : Nat, s ≤ 18 ∧ x = nI s
theorem ab_s_if (c : Prop) (d : Decidable c) (m n : Nat) (hm : m ≤ 18) (hn : n ≤ 18) : ab_s18 (@ite Int32 c d (nI m) (nI n)) := by
  split
  · exact ⟨m, hm, rfl⟩
  · exact ⟨n, hn, rfl⟩
theorem ab_s_setOrAddPair (u : SS) (y : Int32) : ab_s18 (f_Processor_setOrAddPair u y).1 := by
  unfold f_Processor_setOrAddPair
  repeat' split
  all_goals first | exact ⟨4, by decide, rfl⟩ | exact ⟨5, by decide, rfl⟩ | exact ⟨7, by decide, rfl⟩ | exact ⟨10, by decide, rfl⟩ | exact ⟨11, by decide, rfl⟩ | exact ⟨13, by decide, rfl⟩ | exact ⟨16, by decide, rfl⟩ | exact ⟨17, by decide, rfl⟩ | exact ⟨18, by decide, rfl⟩
theorem ab_s_moveByAddress (u : SS) (y : Int32) : ab_s18 (f_Processor_moveByAddress u y).1 := by
  unfold f_Processor_moveByAddress
  repeat' split
  all_goals first | exact ⟨4, by decide, rfl⟩ | exact ⟨5, by decide, rfl⟩ | exact ⟨7, by decide, rfl⟩ | exact ⟨10, by decide, rfl⟩ | exact ⟨11, by decide, rfl⟩ | exact ⟨13, by decide, rfl⟩ | exact ⟨16, by decide, rfl⟩ | exact ⟨17, by decide, rfl⟩ | exact ⟨18, by decide, rfl⟩
theorem ab_s_operateOnData (u : SS) (y : Int32) (z : Int32) : ab_s18 (f_Processor_operateOnData u y z).1 := by
  unfold f_Processor_operateOnData
  repeat' split
  all_goals first | exact ab_s_setOrAddPair _ _ | exact ab_s_moveByAddress _ _ | (dsimp only; split; exact ⟨10, by decide, rfl⟩; first | exact ⟨5, by decide, rfl⟩ | exact ⟨7, by decide, rfl⟩) | first | exact ⟨4, by decide, rfl⟩ | exact ⟨5, by decide, rfl⟩ | exact ⟨7, by decide, rfl⟩ | exact ⟨10, by decide, rfl⟩ | exact ⟨11, by decide, rfl⟩ | exact ⟨13, by decide, rfl⟩ | exact ⟨16, by decide, rfl⟩ | exact ⟨17, by decide, rfl⟩ | exact ⟨18, by decide, rfl⟩
theorem ab_s_move (u : SS) (y : Int32) (z : Int32) : ab_s18 (f_Processor_move u y z).1 := by
  unfold f_Processor_move
  repeat' split
  all_goals first | (dsimp only; split; exact ⟨7, by decide, rfl⟩; split; exact ⟨7, by decide, rfl⟩; exact ⟨5, by decide, rfl⟩) | first | exact ⟨4, by decide, rfl⟩ | exact ⟨5, by decide, rfl⟩ | exact ⟨7, by decide, rfl⟩ | exact ⟨10, by decide, rfl⟩ | exact ⟨11, by decide, rfl⟩ | exact ⟨13, by decide, rfl⟩ | exact ⟨16, by decide, rfl⟩ | exact ⟨17, by decide, rfl⟩ | exact ⟨18, by decide, rfl⟩
theorem ab_s_returnIf (u : SS) (y : Int32) : ab_s18 (f_Processor_returnIf u y).1 := by
  unfold f_Processor_returnIf
  repeat' split
  all_goals first | exact ⟨4, by decide, rfl⟩ | exact ⟨5, by decide, rfl⟩ | exact ⟨7, by decide, rfl⟩ | exact ⟨10, by decide, rfl⟩ | exact ⟨11, by decide, rfl⟩ | exact ⟨13, by decide, rfl⟩ | exact ⟨16, by decide, rfl⟩ | exact ⟨17, by decide, rfl⟩ | exact ⟨18, by decide, rfl⟩
theorem ab_s_popOrGo (u : SS) (y : Int32) : ab_s18 (f_Processor_popOrGo u y).1 := by
  unfold f_Processor_popOrGo
  repeat' split
  all_goals first | exact ⟨4, by decide, rfl⟩ | exact ⟨5, by decide, rfl⟩ | exact ⟨7, by decide, rfl⟩ | exact ⟨10, by decide, rfl⟩ | exact ⟨11, by decide, rfl⟩ | exact ⟨13, by decide, rfl⟩ | exact ⟨16, by decide, rfl⟩ | exact ⟨17, by decide, rfl⟩ | exact ⟨18, by decide, rfl⟩
theorem ab_s_goIf (u : SS) (y : Int32) : ab_s18 (f_Processor_goIf u y).1 := by
  unfold f_Processor_goIf
  repeat' split
  all_goals first | exact ⟨4, by decide, rfl⟩ | exact ⟨5, by decide, rfl⟩ | exact ⟨7, by decide, rfl⟩ | exact ⟨10, by decide, rfl⟩ | exact ⟨11, by decide, rfl⟩ | exact ⟨13, by decide, rfl⟩ | exact ⟨16, by decide, rfl⟩ | exact ⟨17, by decide, rfl⟩ | exact ⟨18, by decide, rfl⟩
theorem ab_s_goOrExchange (u : SS) (y : Int32) : ab_s18 (f_Processor_goOrExchange u y).1 := by
  unfold f_Processor_goOrExchange
  repeat' split
  all_goals first | exact ⟨4, by decide, rfl⟩ | exact ⟨5, by decide, rfl⟩ | exact ⟨7, by decide, rfl⟩ | exact ⟨10, by decide, rfl⟩ | exact ⟨11, by decide, rfl⟩ | exact ⟨13, by decide, rfl⟩ | exact ⟨16, by decide, rfl⟩ | exact ⟨17, by decide, rfl⟩ | exact ⟨18, by decide, rfl⟩
theorem ab_s_goWithReturnIf (u : SS) (y : Int32) : ab_s18 (f_Processor_goWithReturnIf u y).1 := by
  unfold f_Processor_goWithReturnIf
  repeat' split
  all_goals first | exact ⟨4, by decide, rfl⟩ | exact ⟨5, by decide, rfl⟩ | exact ⟨7, by decide, rfl⟩ | exact ⟨10, by decide, rfl⟩ | exact ⟨11, by decide, rfl⟩ | exact ⟨13, by decide, rfl⟩ | exact ⟨16, by decide, rfl⟩ | exact ⟨17, by decide, rfl⟩ | exact ⟨18, by decide, rfl⟩
theorem ab_s_pushPair (u : SS) (y : Int32) : ab_s18 (f_Processor_pushPair u y).1 := by
  unfold f_Processor_pushPair
  repeat' split
  all_goals first | exact ⟨4, by decide, rfl⟩ | exact ⟨5, by decide, rfl⟩ | exact ⟨7, by decide, rfl⟩ | exact ⟨10, by decide, rfl⟩ | exact ⟨11, by decide, rfl⟩ | exact ⟨13, by decide, rfl⟩ | exact ⟨16, by decide, rfl⟩ | exact ⟨17, by decide, rfl⟩ | exact ⟨18, by decide, rfl⟩
theorem ab_s_operateOnFlow (u : SS) (y : Int32) (z : Int32) : ab_s18 (f_Processor_operateOnFlow u y z).1 := by
  unfold f_Processor_operateOnFlow
  repeat' split
  all_goals first | exact ab_s_returnIf _ _ | exact ab_s_popOrGo _ _ | exact ab_s_goIf _ _ | exact ab_s_goOrExchange _ _ | exact ab_s_goWithReturnIf _ _ | exact ab_s_pushPair _ _ | first | exact ⟨4, by decide, rfl⟩ | exact ⟨5, by decide, rfl⟩ | exact ⟨7, by decide, rfl⟩ | exact ⟨10, by decide, rfl⟩ | exact ⟨11, by decide, rfl⟩ | exact ⟨13, by decide, rfl⟩ | exact ⟨16, by decide, rfl⟩ | exact ⟨17, by decide, rfl⟩ | exact ⟨18, by decide, rfl⟩
theorem ab_s_operate (u : SS) (x : Int32) : ab_s18 (f_Processor_operate u x).1 := by
  unfold f_Processor_operate
  repeat' split
  all_goals first | exact ab_s_operateOnData _ _ _ | exact ab_s_move _ _ _ | exact ab_s_operateOnFlow _ _ _ | (dsimp only; split; exact ⟨7, by decide, rfl⟩; exact ⟨4, by decide, rfl⟩) | first | exact ⟨4, by decide, rfl⟩ | exact ⟨5, by decide, rfl⟩ | exact ⟨7, by decide, rfl⟩ | exact ⟨10, by decide, rfl⟩ | exact ⟨11, by decide, rfl⟩ | exact ⟨13, by decide, rfl⟩ | exact ⟨16, by decide, rfl⟩ | exact ⟨17, by decide, rfl⟩ | exact ⟨18, by decide, rfl⟩
/-- a step -/
theorem ab_stepE (h : ab_Q (ab_bd B) (ab_jO b) u v) {c : Int32} (ec : c = v 0 24) (hc : ab_s18 c) : ab_Q (ab_bd B) ab_jR (g_Processor_step_70 u b c).2 (g_MD_step_90 v) ∧ (g_Processor_step_70 u b c).1 = g_MD_step_90 v 0 24 ∧ ab_s18 (g_MD_step_90 v 0 24) := by
  obtain ⟨s, hs, es⟩ := hc
  have p := ab_pass (ab_end h) hs (ec.symm.trans es)
  unfold g_Processor_step_70
  rw [es]
  exact ⟨p.1, by rw [p.2, ← ec, es], by rw [p.2, ← ec, es]; exact ⟨s, hs, rfl⟩⟩
theorem ab_step (h : ab_Q (ab_bd B) ab_jR u v) (hB : B < 2 ^ 30) : ab_Q (ab_bd (B + 8)) ab_jR (f_Processor_step u).2 (f_MD_step v) ∧ (f_Processor_step u).1 = f_MD_step v 0 24 ∧ ab_s18 (f_MD_step v 0 24) := by
  have hb := ab_begin h
  have e3 : u 0 3 = v 0 11 := ab_Q_sc h 3
  have e5 : u 0 5 = v 0 13 := ab_Q_sc h 5
  have e6 : u 0 6 = v 0 14 := ab_Q_sc h 6
  -- the rest, where no call is taken
  have rest : ∀ b, b = u 0 3 → (ab_Q (ab_bd (B + 8)) ab_jR (if u 0 5 = 0 then g_Processor_step_70 (f_Processor_operate (f_Processor_nextByte u).2 (f_Processor_nextByte u).1).2 b (f_Processor_operate (f_Processor_nextByte u).2 (f_Processor_nextByte u).1).1 else g_Processor_step_70 u b 4).2 (if v 0 13 = 0 then g_MD_step_90 (f_MD_operation (stt v 0 12 0)) else g_MD_step_90 (stt (stt v 0 12 0) 0 24 4)) ∧ (if u 0 5 = 0 then g_Processor_step_70 (f_Processor_operate (f_Processor_nextByte u).2 (f_Processor_nextByte u).1).2 b (f_Processor_operate (f_Processor_nextByte u).2 (f_Processor_nextByte u).1).1 else g_Processor_step_70 u b 4).1 = (if v 0 13 = 0 then g_MD_step_90 (f_MD_operation (stt v 0 12 0)) else g_MD_step_90 (stt (stt v 0 12 0) 0 24 4)) 0 24 ∧ ab_s18 ((if v 0 13 = 0 then g_MD_step_90 (f_MD_operation (stt v 0 12 0)) else g_MD_step_90 (stt (stt v 0 12 0) 0 24 4)) 0 24)) := by
    intro b eb
    subst eb
    rw [← e5]
    by_cases q : u 0 5 = 0
    · rw [if_pos q, if_pos q]
      have p := ab_opn hb hB rfl
      exact ab_stepE p.1 p.2 (ab_s_operate _ _)
    · rw [if_neg q, if_neg q]
      exact ab_stepE (ab_up8 (ab_Q_st hb 4)) (stt_s _ _ _ _).symm ⟨4, by decide, rfl⟩
  unfold f_Processor_step f_MD_step
  rw [← e3]
  by_cases q3 : u 0 3 = 0
  · rw [if_pos q3, if_pos q3]
    exact rest _ rfl
  · rw [if_neg q3, if_neg q3]
    have e4 : u 0 4 = v 0 12 := by
      refine h.2.2.1.1 ?_
      rcases ab_Q_bo3 h with e | e
      · exact absurd e q3
      · exact e
    rw [← e4]
    by_cases q4 : u 0 4 = 0
    · rw [if_pos q4, if_pos q4]
      obtain ⟨c, hc, ec⟩ := ab_Q_bd h 6
      have hc' : c < 3 := hc
      by_cases q6 : u 0 6 = 0
      · rw [if_pos q6, if_pos (show v 0 14 ≤ 0 by rw [← e6, q6]; decide)]
        exact rest _ rfl
      · have c0 : 0 < c := Nat.pos_of_ne_zero (fun z => q6 (by rw [ec, z]; rfl))
        rw [if_neg q6, if_neg (show ¬ v 0 14 ≤ 0 by rw [← e6, ec]; exact fun z => by have := (nI_leI (b := 0) (by omega) (by decide)).mp z; omega)]
        have e2 : u 0 2 = v 0 10 := ab_Q_sc h 2
        have q1 := ab_Q_put hb 6 (n := 0) (x := 0) (y := 0) rfl (ab_bd0 6) rfl
        have q2 := ab_Q_int (jc' := ab_jO (u 0 3)) q1 ab_bo0 (Nat.le_refl _) q1.2.2.1.2.1 ab_bo0 (show ab_jO (u 0 3) 0 _ 0 from rfl)
        rw [stt_comm (u := stt u 0 6 0) (by decide), stt_id] at q2
        have q5 := ab_Q_put q2 5 (n := 0) (x := 0) (y := 0) rfl (ab_bd0 5) rfl
        have q7 := ab_hpush q5 (w := 8 * u 0 6) ⟨8 * c, by omega, by rw [ec, show (8 : Int32) = nI 8 from rfl, pk_mul]⟩
        have q8 := ab_Q_st q7 11
        refine (fun z => ?_) (ab_stepE (ab_up8 q8) (c := 11) (stt_s _ _ _ _).symm ⟨11, by decide, rfl⟩)
        have eu : (f_Processor_takeCall u).2 = stt (f_Memory_push (stt (stt (stt u 0 6 0) 0 3 0) 0 5 0) (stt (stt (stt u 0 6 0) 0 3 0) 0 5 0 0 2)) 0 2 (8 * u 0 6) := rfl
        have ev : stt (stt (stt (f_MD_push (stt (stt (stt v 0 12 0) 0 11 0) 0 13 0) (v 0 10)) 0 10 (8 * (f_MD_push (stt (stt (stt v 0 12 0) 0 11 0) 0 13 0) (v 0 10) 0 14))) 0 14 0) 0 24 11 = stt (stt (f_MD_push (stt (stt (stt (stt (stt v 0 12 0) 0 (ab_ix 6) 0) 0 11 0) 0 12 0) 0 (ab_ix 5) 0) (stt (stt (stt (stt (stt v 0 12 0) 0 (ab_ix 6) 0) 0 11 0) 0 12 0) 0 (ab_ix 5) 0 0 10)) 0 10 (8 * u 0 6)) 0 24 11 := by
          rw [show ab_ix 6 = 14 from rfl, show ab_ix 5 = 13 from rfl]
          have a1 : stt (stt (stt (stt (stt v 0 12 0) 0 14 0) 0 11 0) 0 12 0) 0 13 0 = stt (stt (stt (stt v 0 12 0) 0 11 0) 0 13 0) 0 14 0 := by
            funext x y; simp only [stt_ap]; repeat' split
            all_goals first | rfl | omega
          have a2 : f_MD_push (stt (stt (stt v 0 12 0) 0 11 0) 0 13 0) (v 0 10) 0 14 = u 0 6 := by
            unfold f_MD_push
            rw [stt_k (by decide), ab_wr_a (by decide), ab_wr_a (by decide), stt_k (by decide), stt_k (by decide), stt_k (by decide), e6]
          have a3 : stt (stt (stt (stt v 0 12 0) 0 11 0) 0 13 0) 0 14 0 0 10 = v 0 10 := by rw [stt_k (by decide), stt_k (by decide), stt_k (by decide), stt_k (by decide)]
          rw [a1, a2, a3]
          generalize stt (stt (stt v 0 12 0) 0 11 0) 0 13 0 = W
          rw [ab_push_c (by decide), stt_comm (u := f_MD_push W (v 0 10)) (k := 10) (j := 14) (by decide)]
        rw [ev]
        exact z
    · rw [if_neg q4, if_neg q4]
      exact rest _ rfl
end EQ
end
section
/-! what the reference's methods leave as it is: the slots, 'thrown', 'on' -/
section FAR
variable {v : SS} {b j : Nat}
theorem fa_write (hb : 3 < b ∨ (b = 0 ∧ j < 2)) {x y : Int32} : f_MD_write v x y b j = v b j := by unfold f_MD_write; exact stt_n (by omega)
theorem fa_next (hb : 3 < b ∨ (b = 0 ∧ j < 2)) : (f_MD_next v).2 b j = v b j := by unfold f_MD_next; dsimp only; rw [stt_n (by omega)]
theorem fa_nextWord (hb : 3 < b ∨ (b = 0 ∧ j < 2)) : (f_MD_nextWord v).2 b j = v b j := (fa_next (v := (f_MD_next v).2) hb).trans (fa_next hb)
theorem fa_setPair (hb : 3 < b ∨ (b = 0 ∧ j < 2)) {k x : Int32} : f_MD_setPair v k x b j = v b j := by
  unfold f_MD_setPair
  split
  · rw [stt_n (by omega)]
  · rw [stt_n (by omega), stt_n (by omega)]
theorem fa_set (hb : 3 < b ∨ (b = 0 ∧ j < 2)) {k x : Int32} : f_MD_set v k x b j = v b j := by
  unfold f_MD_set
  split
  · exact fa_write hb
  · exact stt_n (by omega)
theorem fa_push (hb : 3 < b ∨ (b = 0 ∧ j < 2)) {x : Int32} : f_MD_push v x b j = v b j := by
  unfold f_MD_push; rw [stt_n (by omega), fa_write hb, fa_write hb]
theorem fa_pop (hb : 3 < b ∨ (b = 0 ∧ j < 2)) : (f_MD_pop v).2 b j = v b j := by unfold f_MD_pop; dsimp only; rw [stt_n (by omega)]
theorem fa_result (hb : 3 < b ∨ (b = 0 ∧ j < 2)) {x : Int32} : (f_MD_result v x).2 b j = v b j := by rw [ab_res]; dsimp only; rw [stt_n (by omega), stt_n (by omega), stt_n (by omega)]
theorem fa_setFlags (hb : 3 < b ∨ (b = 0 ∧ j < 2)) {x : Int32} : f_MD_setFlags v x b j = v b j := by
  unfold f_MD_setFlags; rw [stt_n (by omega), stt_n (by omega), stt_n (by omega), stt_n (by omega), stt_n (by omega)]
theorem fa_operate (hb : 3 < b ∨ (b = 0 ∧ j < 2)) {k x : Int32} : f_MD_operate v k x b j = v b j := by
  unfold f_MD_operate
  split
  · split
    · rw [stt_n (by omega), fa_result hb, stt_n (by omega), stt_n (by omega)]
    · split
      · rw [stt_n (by omega), fa_result hb, stt_n (by omega), stt_n (by omega)]
      · rw [stt_n (by omega), fa_result hb, stt_n (by omega), stt_n (by omega)]
  · rw [stt_n (by omega), fa_result hb, stt_n (by omega), stt_n (by omega)]
theorem fa_turnA (hb : 3 < b ∨ (b = 0 ∧ j < 2)) {k : Int32} : f_MD_turnA v k b j = v b j := by
  unfold f_MD_turnA
  split
  · rw [stt_n (by omega), stt_n (by omega)]
  · split
    · rw [stt_n (by omega), stt_n (by omega)]
    · split
      · rw [stt_n (by omega), stt_n (by omega)]
      · split
        · rw [stt_n (by omega), stt_n (by omega)]
        · split
          · rw [stt_n (by omega), fa_result hb, stt_n (by omega), stt_n (by omega)]
          · split
            · rw [stt_n (by omega)]
            · rw [stt_n (by omega)]
theorem fa_out86 (hb : 3 < b ∨ (b = 0 ∧ j < 2)) (k : Nat) : ∀ (v : SS) (a1 a2 a3 a4 : Int32), g_MD_out_86 k v a1 a2 a3 a4 b j = v b j := by
  induction k with
  | zero => intro v a1 a2 a3 a4; rfl
  | succ k ih =>
    intro v a1 a2 a3 a4
    rw [g_MD_out_86]
    split
    · rw [stt_n (by omega), stt_n (by omega)]
    · split
      · split
        · rw [ih, stt_n (by omega), stt_n (by omega)]
        · rw [ih]
      · rw [ih]
theorem fa_out (hb : 3 < b ∨ (b = 0 ∧ j < 2)) {x y : Int32} : f_MD_out v x y b j = v b j := by
  unfold f_MD_out
  split
  · exact stt_n (by omega)
  · split
    · exact stt_n (by omega)
    · split
      · exact stt_n (by omega)
      · split
        · exact fa_out86 hb _ _ _ _ _ _
        · split
          · exact fa_out86 hb _ _ _ _ _ _
          · rfl
theorem fa_carry (hb : 3 < b ∨ (b = 0 ∧ j < 2)) {y : Int32} : f_MD_carry v y b j = v b j := by
  unfold f_MD_carry
  split
  · split
    · rw [fa_write hb, fa_write hb, stt_n (by omega), fa_nextWord hb]
    · split
      · rw [stt_n (by omega), stt_n (by omega), stt_n (by omega), fa_nextWord hb]
      · split
        · rw [fa_write hb, stt_n (by omega), fa_nextWord hb]
        · rw [stt_n (by omega), stt_n (by omega), fa_nextWord hb]
  · split
    · rw [fa_write hb, stt_n (by omega)]
    · rw [stt_n (by omega), stt_n (by omega)]
theorem fa_low (hb : 3 < b ∨ (b = 0 ∧ j < 2)) {y z : Int32} : f_MD_lowOperation v y z b j = v b j := by
  unfold f_MD_lowOperation
  split
  · exact stt_n (by omega)
  · split
    · split
      · rw [fa_setPair hb, fa_nextWord hb, stt_n (by omega)]
      · rw [fa_setPair hb, stt_n (by omega), stt_n (by omega)]
    · split
      · exact fa_carry hb
      · split
        · rw [fa_setPair hb, stt_n (by omega)]
        · split
          · split
            · rw [fa_set hb, fa_next hb, stt_n (by omega)]
            · rw [fa_turnA hb, stt_n (by omega)]
          · rw [fa_set hb, fa_result hb, stt_n (by omega), stt_n (by omega)]
theorem fa_popOrSo (hb : 3 < b ∨ (b = 0 ∧ j < 2)) {y : Int32} : f_MD_popOrSo v y b j = v b j := by
  unfold f_MD_popOrSo
  split
  · rw [stt_n (by omega), fa_pop hb, stt_n (by omega)]
  · split
    · rw [stt_n (by omega), fa_pop hb, stt_n (by omega)]
    · split
      · rw [stt_n (by omega), stt_n (by omega)]
      · split
        · rw [stt_n (by omega), stt_n (by omega)]
        · split
          · rw [fa_setFlags hb, stt_n (by omega), fa_pop hb, stt_n (by omega)]
          · rw [fa_setPair hb, fa_pop hb, stt_n (by omega)]
theorem fa_others (hb : 3 < b ∨ (b = 0 ∧ j < 2)) {y : Int32} : f_MD_others v y b j = v b j := by
  unfold f_MD_others
  split
  · split
    · rw [fa_out hb, fa_next hb, stt_n (by omega)]
    · split
      · rw [stt_n (by omega), fa_next hb, stt_n (by omega)]
      · split
        · rw [fa_setPair hb, fa_write hb, fa_write hb, stt_n (by omega)]
        · split
          · rw [fa_setPair hb, fa_setPair hb, stt_n (by omega)]
          · rw [stt_n (by omega), stt_n (by omega), stt_n (by omega)]
  · rw [stt_n (by omega), fa_nextWord hb, stt_n (by omega)]
theorem fa_high (hb : 3 < b ∨ (b = 0 ∧ j < 2)) {y z : Int32} : f_MD_highOperation v y z b j = v b j := by
  unfold f_MD_highOperation
  generalize (if f_MD_holds v y = 0 then 5 else 11 : Int32) = c0
  generalize (if f_MD_holds (f_MD_nextWord v).2 y = 0 then 11 else 17 : Int32) = c4
  split
  · split
    · rw [stt_n (by omega), stt_n (by omega)]
    · rw [stt_n (by omega), fa_pop hb, stt_n (by omega)]
  · split
    · exact fa_popOrSo hb
    · split
      · rw [stt_n (by omega), fa_nextWord hb, stt_n (by omega)]
      · split
        · exact fa_others hb
        · split
          · split
            · rw [stt_n (by omega), fa_nextWord hb]
            · rw [stt_n (by omega), fa_push hb, stt_n (by omega), fa_nextWord hb]
          · split
            · split
              · split
                · rw [fa_push hb, stt_n (by omega)]
                · rw [fa_push hb, stt_n (by omega)]
              · rw [stt_n (by omega), fa_push hb, fa_nextWord hb, stt_n (by omega)]
            · split
              · rw [fa_operate hb, fa_next hb, stt_n (by omega)]
              · rw [stt_n (by omega), fa_push hb, stt_n (by omega)]
theorem fa_operation (hb : 3 < b ∨ (b = 0 ∧ j < 2)) : f_MD_operation v b j = v b j := by
  unfold f_MD_operation
  split
  · rw [stt_n (by omega), stt_n (by omega), fa_next hb]
  · split
    · rw [fa_low hb, fa_next hb]
    · split
      · rw [fa_set hb, stt_n (by omega), fa_next hb]
      · split
        · rw [fa_operate hb, stt_n (by omega), fa_next hb]
        · rw [fa_high hb, fa_next hb]
theorem fa_reset (hb : 3 < b ∨ (b = 0 ∧ j < 2)) : f_MD_reset v b j = v b j := by
  unfold f_MD_reset
  rw [stt_n (by omega), stt_n (by omega), stt_n (by omega), stt_n (by omega), stt_n (by omega), stt_n (by omega), stt_n (by omega), stt_n (by omega)]
theorem fa_step90 (hb : 3 < b ∨ (b = 0 ∧ j < 2)) : g_MD_step_90 v b j = v b j := by
  unfold g_MD_step_90
  split
  · rw [stt_n (by omega), stt_n (by omega)]
  · split
    · rw [fa_reset hb, stt_n (by omega), stt_n (by omega), stt_n (by omega), stt_n (by omega), stt_n (by omega), stt_n (by omega)]
    · rw [stt_n (by omega), stt_n (by omega), stt_n (by omega), stt_n (by omega), stt_n (by omega), stt_n (by omega)]
theorem fa_step (hb : 3 < b ∨ (b = 0 ∧ j < 2)) : f_MD_step v b j = v b j := by
  unfold f_MD_step
  split
  · split
    · rw [fa_step90 hb, fa_operation hb, stt_n (by omega)]
    · rw [fa_step90 hb, stt_n (by omega), stt_n (by omega)]
  · split
    · split
      · split
        · rw [fa_step90 hb, fa_operation hb, stt_n (by omega)]
        · rw [fa_step90 hb, stt_n (by omega), stt_n (by omega)]
      · rw [fa_step90 hb, stt_n (by omega), stt_n (by omega), stt_n (by omega), fa_push hb, stt_n (by omega), stt_n (by omega), stt_n (by omega)]
    · split
      · rw [fa_step90 hb, fa_operation hb, stt_n (by omega)]
      · rw [fa_step90 hb, stt_n (by omega), stt_n (by omega)]
end FAR
/-! the check of the program -/
theorem ab_xorN {a b : Nat} (ha : a < 65536) (hb : b < 65536) : nI a ^^^ nI b = nI (a ^^^ b) ∧ a ^^^ b < 65536 := by
  have h : a ^^^ b < 65536 := Nat.xor_lt_two_pow (n := 16) ha hb
  refine ⟨?_, h⟩
  apply Int32.toBitVec_inj.mp; apply BitVec.eq_of_toNat_eq
  rw [Int32.toBitVec_xor, BitVec.toNat_xor, pk_tn (by omega), pk_tn (by omega), pk_tn (by omega)]
theorem ab_crc1 {x : Int32} (h : ab_wd x) : (if (x &&& 32768) = 0 then ((x <<< ((1 : Int32) &&& 31)) &&& 65535) else (((x <<< ((1 : Int32) &&& 31)) &&& 65535) ^^^ 4129) : Int32) = (if (if x ≤ 32767 then 0 else 1 : Int32) = 0 then ((2 * x) &&& 65535) else (((2 * x) &&& 65535) ^^^ 4129) : Int32) ∧ ab_wd (if (if x ≤ 32767 then 0 else 1 : Int32) = 0 then ((2 * x) &&& 65535) else (((2 * x) &&& 65535) ^^^ 4129) : Int32) := by
  obtain ⟨n, hn, rfl⟩ := h
  have e1 : nI n <<< ((1 : Int32) &&& 31) = 2 * nI n := by
    rw [pk_shlN _ 1 (by decide) (by omega), show (2 : Int32) = nI 2 from rfl, pk_mul]; congr 1; omega
  have e2 : nI n &&& 32768 = nI (n &&& 32768) := by
    apply Int32.toBitVec_inj.mp; apply BitVec.eq_of_toNat_eq
    rw [Int32.toBitVec_and, BitVec.toNat_and, pk_tn (by omega), pk_tn (Nat.lt_of_le_of_lt Nat.and_le_left (by omega))]; rfl
  have t15 : n.testBit 15 = decide (32768 ≤ n) := by
    rw [Nat.testBit, Nat.shiftRight_eq_div_pow, show (2 : Nat) ^ 15 = 32768 from rfl]
    rcases (show n / 32768 = 0 ∨ n / 32768 = 1 by omega) with e | e
    · rw [e, decide_eq_false (by omega)]; rfl
    · rw [e, decide_eq_true (by omega)]; rfl
  have tb : ∀ i, (n &&& 32768).testBit i = (n.testBit i && decide (15 = i)) := fun i => by rw [Nat.testBit_and, show (32768 : Nat) = 2 ^ 15 from rfl, Nat.testBit_two_pow]
  have w : ∀ t, ab_wd ((t &&& 65535) ^^^ 4129) := by
    intro t
    obtain ⟨m, hm, e⟩ := ab_m16w t
    rw [e, show (4129 : Int32) = nI 4129 from rfl, (ab_xorN hm (by decide)).1]
    exact ⟨_, (ab_xorN hm (by decide)).2, rfl⟩
  rw [e1, e2]
  by_cases q : n ≤ 32767
  · have z0 : n &&& 32768 = 0 := by
      apply Nat.eq_of_testBit_eq
      intro i
      rw [tb, Nat.zero_testBit]
      by_cases e : 15 = i
      · subst e; rw [t15, decide_eq_false (by omega)]; rfl
      · rw [decide_eq_false e, Bool.and_false]
    rw [if_pos (show nI (n &&& 32768) = 0 by rw [z0]; rfl), if_pos (show nI n ≤ 32767 from (nI_leI (b := 32767) (by omega) (by decide)).mpr q), if_pos rfl]
    exact ⟨rfl, ab_m16w _⟩
  · have z1 : ¬ n &&& 32768 = 0 := by
      intro z
      have h9 := tb 15
      rw [z, Nat.zero_testBit, t15, decide_eq_true (show 32768 ≤ n by omega)] at h9
      exact absurd h9 (by decide)
    rw [if_neg (show ¬ nI (n &&& 32768) = 0 from fun z => z1 ((nI_eq (b := 0) (Nat.lt_of_le_of_lt Nat.and_le_left (by omega)) (by decide)).mp z)), if_neg (show ¬ nI n ≤ 32767 from fun z => q ((nI_leI (b := 32767) (by omega) (by decide)).mp z)), if_neg (by decide)]
    exact ⟨rfl, w _⟩
theorem ab_crc8 (k : Nat) : ∀ (u : SS) (x y c : Int32) (j : Nat), ab_wd x → j ≤ 8 → 8 < j + k → g_Memory_sumOfByte_4 k u x (nI j) = g_MD_check_32 k x y (nI j) ∧ ab_wd (g_MD_check_32 k x y (nI j)) := by
  induction k with
  | zero => intro u x y c j _ h1 h2; omega
  | succ k ih =>
    intro u x y c j hx h1 h2
    rw [g_Memory_sumOfByte_4, g_MD_check_32]
    by_cases e : 8 ≤ j
    · rw [if_pos ((ab_ge8 h1).mpr e), if_pos ((ab_ge8 h1).mpr e)]
      exact ⟨rfl, hx⟩
    · rw [if_neg (fun z => e ((ab_ge8 h1).mp z)), if_neg (fun z => e ((ab_ge8 h1).mp z)), nI_1, (ab_crc1 hx).1]
      exact ih u _ y c (j + 1) (ab_crc1 hx).2 (by omega) (by omega)
theorem ab_crcP {u v : SS} (hm : ∀ k, k < 512 → u 3 k = v 1 k ∧ ab_by (u 3 k)) (k : Nat) : ∀ (x : Int32) (j : Nat), ab_wd x → j ≤ 512 → 512 < j + k → g_MD_check_10 k v x (nI j) = (g_Memory_programSum_5 k u x (nI j), v) := by
  induction k with
  | zero => intro x j _ h1 h2; omega
  | succ k ih =>
    intro x j hx h1 h2
    have g5 : (512 : Int32) ≤ nI j ↔ 512 ≤ j := nI_leI (a := 512) (by decide) (by omega)
    rw [g_MD_check_10, g_Memory_programSum_5]
    by_cases e : 512 ≤ j
    · rw [if_pos (g5.mpr e), if_pos (g5.mpr e)]
    · rw [if_neg (fun z => e (g5.mp z)), if_neg (fun z => e (g5.mp z)), nI_1, nI_clamp (by omega)]
      obtain ⟨e1, a, ha, ea⟩ := hm j (by omega)
      obtain ⟨n, hn, rfl⟩ := hx
      have es : u 3 j <<< ((8 : Int32) &&& 31) = v 1 j * 256 ∧ ab_wd (nI n ^^^ (v 1 j * 256)) := by
        rw [← e1, ea, pk_shlN _ 8 (by decide) (by omega), show (256 : Int32) = nI 256 from rfl, pk_mul, (ab_xorN hn (show a * 256 < 65536 by omega)).1]
        exact ⟨rfl, _, (ab_xorN hn (show a * 256 < 65536 by omega)).2, rfl⟩
      rw [es.1]
      have c8 := ab_crc8 9 u (nI n ^^^ (v 1 j * 256)) (nI j) 0 0 es.2 (by omega) (by omega)
      unfold f_Memory_sumOfByte
      rw [show (0 : Int32) = nI 0 from rfl, c8.1]
      exact ih _ (j + 1) c8.2 (by omega) (by omega)
theorem ab_check {bd : Nat → Nat} {jc : Int32 → Int32 → Int32 → Prop} {u v : SS} (h : ab_Q bd jc u v) : f_MD_check v = (f_Memory_programSum u, stt v 0 0 0) := by
  unfold f_MD_check f_Memory_programSum
  exact ab_crcP (v := stt v 0 0 0) (fun k hk => by rw [stt_a (by decide)]; exact h.2.2.2.1 k hk) 513 65535 0 ⟨65535, by decide, rfl⟩ (by omega) (by omega)

/-! the board's calls: class and reference side by side -/
def ab_iy (k : Nat) : Nat := match k with
  | 1 => 9 | 2 => 10 | 3 => 11 | 5 => 12 | 6 => 13 | 7 => 14 | 8 => 15 | 9 => 16 | 10 => 17 | 11 => 18 | 12 => 19 | 13 => 20 | 14 => 21 | _ => 0
/-- a slot: the class's copy (numbers x, ram y, registers w), the reference's from place o of 'kept' on -/
def ab_SL (x y w : Nat → Int32) (o : Nat) (v : SS) : Prop :=
  (∀ k, k < 8 → w k = v 5 (o + k) ∧ ab_by (w k)) ∧
  (x 0 = v 5 (o + 8) ∧ ∃ s z h p k, ab_bo s ∧ ab_bo z ∧ ab_bo h ∧ ab_bo p ∧ ab_bo k ∧ x 0 = ab_FL s z h p k) ∧
  (∀ k, k < 15 → k ≠ 0 → k ≠ 4 → x k = v 5 (o + ab_iy k) ∧ ∃ n : Nat, n < ab_bd 0 k ∧ x k = nI n) ∧
  (ab_jR (x 3) (x 4) (v 5 (o + 22)) ∧ ab_bo (x 4) ∧ ab_bo (v 5 (o + 22))) ∧
  (∀ k, k < 512 → y k = v 5 (o + 23 + k) ∧ ab_by (y k))
def ab_RS (z v : SS) : Prop :=
  (z 0 0 = v 0 1 ∧ ab_bo (z 0 0)) ∧ ∀ s, s < 2 → z 7 s = v 4 s ∧ ab_bo (z 7 s) ∧ (z 7 s = 1 → ab_SL (z (1 + 3 * s)) (z (2 + 3 * s)) (z (3 + 3 * s)) (540 * s) v) ∧ ∀ k, 3 ≤ k → k ≤ 5 → ab_bo (z (1 + 3 * s) k)
def ab_RT (B : Nat) (z u v : SS) : Prop := ab_Q (ab_bd B) ab_jR u v ∧ ab_RS z v
section TOP
variable {z u v v' : SS} {B : Nat}
theorem ab_SL_far {x y w : Nat → Int32} {o : Nat} (h : ab_SL x y w o v) (h5 : ∀ j, v' 5 j = v 5 j) : ab_SL x y w o v' := by
  refine ⟨fun k hk => ?_, ?_, fun k k1 k2 k3 => ?_, ?_, fun k hk => ?_⟩
  · rw [h5]; exact h.1 k hk
  · rw [h5]; exact h.2.1
  · rw [h5]; exact h.2.2.1 k k1 k2 k3
  · rw [h5]; exact h.2.2.2.1
  · rw [h5]; exact h.2.2.2.2 k hk
theorem ab_RS_far (h : ab_RS z v) (h1 : v' 0 1 = v 0 1) (hf : ∀ b j, 3 < b → v' b j = v b j) : ab_RS z v' := by
  refine ⟨by rw [h1]; exact h.1, fun s hs => ?_⟩
  obtain ⟨a1, a2, a3, a4⟩ := h.2 s hs
  exact ⟨by rw [hf 4 s (by decide)]; exact a1, a2, fun q => ab_SL_far (a3 q) (fun j => hf 5 j (by decide)), a4⟩
theorem ab_RS_thr (h : ab_RS z v) (x : Int32) : ab_RS z (stt v 0 0 x) := ab_RS_far h (stt_k (by decide)) (fun b j hb => stt_a (by omega))
theorem ab_RT_thr (h : ab_RT B z u v) (x : Int32) : ab_RT B z u (stt v 0 0 x) := ⟨ab_Q_own h.1 0 x (Or.inl rfl), ab_RS_thr h.2 x⟩
theorem ab_RT_mono {B' : Nat} (h : ab_RT B z u v) (hB : B ≤ B') : ab_RT B' z u v := ⟨ab_Q_mono h.1 (fun k _ => by unfold ab_bd; split <;> omega), h.2⟩
/-- load -/
theorem ab_ldL {bd : Nat → Nat} {jc : Int32 → Int32 → Int32 → Prop} (k : Nat) : ∀ (z u v : SS) (c n j : Nat) (b : Int32), ab_Q bd jc u v → n ≤ 4 → c + n ≤ 512 → j ≤ n → n < j + k →
    (g_AB_load_35 k z u (nI c) b (nI n) (nI j)).1 = (g_MD_load_40 k v (nI c) b (nI n) (nI j)).1 ∧ (g_AB_load_35 k z u (nI c) b (nI n) (nI j)).2.1 = z ∧ ab_Q bd jc (g_AB_load_35 k z u (nI c) b (nI n) (nI j)).2.2 (g_MD_load_40 k v (nI c) b (nI n) (nI j)).2 ∧
    ∀ b' j', b' ≠ 1 → (g_MD_load_40 k v (nI c) b (nI n) (nI j)).2 b' j' = v b' j' := by
  induction k with
  | zero => intro z u v c n j b _ _ _ h1 h2; omega
  | succ k ih =>
    intro z u v c n j b hQ hn hc h1 h2
    rw [g_AB_load_35, g_MD_load_40]
    have g : nI n ≤ nI j ↔ n ≤ j := nI_leI (by omega) (by omega)
    by_cases e : n ≤ j
    · rw [if_pos (g.mpr e), if_pos (g.mpr e)]
      exact ⟨rfl, rfl, hQ, fun _ _ _ => rfl⟩
    · rw [if_neg (fun q => e (g.mp q)), if_neg (fun q => e (g.mp q)), nI_add, nI_1, nI_clamp (by omega)]
      have eb : f_Memory_burn u (nI (c + j)) (b >>> ((8 * nI j) &&& 31)) = stt u 3 (c + j) ((b >>> ((8 * nI j) &&& 31)) &&& 255) := by
        unfold f_Memory_burn
        rw [if_neg (nI_pos (by omega)), if_neg (show ¬ (512 : Int32) ≤ nI (c + j) from fun q => by have := (nI_leI (a := 512) (by decide) (by omega)).mp q; omega), nI_clamp (by omega)]
      rw [eb]
      obtain ⟨r1, r2, r3, r4⟩ := ih z (stt u 3 (c + j) ((b >>> ((8 * nI j) &&& 31)) &&& 255)) (stt v 1 (c + j) ((b >>> ((8 * nI j) &&& 31)) &&& 255)) c n (j + 1) b (ab_Q_rom hQ (c + j) (by omega) (ab_m8b _) rfl) hn hc (by omega) (by omega)
      exact ⟨r1, r2, r3, fun b' j' hb => (r4 b' j' hb).trans (stt_a hb)⟩
theorem ab_cLoad (h : ab_RT B z u v) (a b n : Int32) : (f_AB_load z u a b n).1 = (f_MD_load v a b n).1 ∧ ab_RT B (f_AB_load z u a b n).2.1 (f_AB_load z u a b n).2.2 (f_MD_load v a b n).2 := by
  have h0 := ab_RT_thr h 0
  unfold f_AB_load f_MD_load
  rw [h.2.1.1]
  by_cases e1 : v 0 1 = 0
  · rw [if_pos e1, if_pos e1]
    by_cases e2 : n < 1
    · rw [if_pos e2, if_pos e2]; exact ⟨rfl, h0⟩
    rw [if_neg e2, if_neg e2]
    by_cases e3 : 4 < n
    · rw [if_pos e3, if_pos e3]; exact ⟨rfl, h0⟩
    rw [if_neg e3, if_neg e3]
    by_cases e4 : a < 0
    · rw [if_pos e4, if_pos e4]; exact ⟨rfl, h0⟩
    rw [if_neg e4, if_neg e4]
    by_cases e5 : a ≤ 512 - n
    · rw [if_pos e5, if_pos e5]
      obtain ⟨c, hc, rfl⟩ := nI_of e4
      have hn0 : ¬ n < 0 := fun q => e2 (Int32.lt_trans q (by decide))
      obtain ⟨m, hm, rfl⟩ := nI_of hn0
      have m4 : m ≤ 4 := by
        rcases Nat.lt_or_ge 4 m with q | q
        · exact absurd ((nI_ltI (a := 4) (by decide) hm).mpr q) e3
        · exact q
      rw [show (512 : Int32) - nI m = nI (512 - m) from pk_sub (a := 512) (by omega)] at e5
      have hcm := (nI_leI hc (by omega)).mp e5
      obtain ⟨r1, r2, r3, r4⟩ := ab_ldL 5 z u (stt v 0 0 0) c m 0 b h0.1 m4 (by omega) (by omega) (by omega)
      rw [show (0 : Int32) = nI 0 from rfl] at *
      refine ⟨r1, r3, ?_⟩
      rw [r2]
      exact ab_RS_far h0.2 (r4 0 1 (by decide)) (fun b' j hb => r4 b' j (by omega))
    · rw [if_neg e5, if_neg e5]; exact ⟨rfl, h0⟩
  · rw [if_neg e1, if_neg e1]; exact ⟨rfl, h0⟩
theorem ab_cCheck (h : ab_RT B z u v) : f_AB_check z u = (f_MD_check v).1 ∧ ab_RT B z u (f_MD_check v).2 := by
  have hc := ab_check h.1
  unfold f_AB_check
  generalize f_Memory_programSum u = C at hc ⊢
  rw [hc]
  exact ⟨rfl, ab_RT_thr h 0⟩

set_option maxRecDepth 100000 in
theorem ab_cPower (h : ab_RT B z u v) (x : Int32) : (f_MD_power v x).2 0 0 = nI (f_AB_power z u x).1 ∧ ((f_AB_power z u x).1 = 0 → (f_AB_power z u x).2.1 = (f_MD_power v x).1) ∧ ab_RT B (f_AB_power z u x).2.2.1 (f_AB_power z u x).2.2.2 (f_MD_power v x).2 := by
  have hc := ab_check h.1
  unfold f_AB_power f_MD_power
  generalize f_Memory_programSum u = C at hc ⊢
  rw [hc]
  dsimp only
  simp only [stt_k (show (1 : Nat) ≠ 0 by decide), stt_stt, ← h.2.1.1]
  by_cases e : C = x
  · rw [if_pos e, if_pos e, if_neg (show ¬ (1 : Int32) = 0 by decide)]
    by_cases e2 : z 0 0 = 0
    · rw [if_pos e2, if_pos e2, if_pos (show (0 : Int32) ≤ 0 by decide)]
      dsimp only
      have q := ab_reset (ab_Q_own (ab_Q_own h.1 0 0 (Or.inl rfl)) 1 1 (Or.inr (Or.inl rfl))) (Nat.le_refl _) (fun k _ => ab_bd0 k)
      refine ⟨?_, fun _ => rfl, q, ⟨?_, ?_⟩, fun s hs => ?_⟩
      · rw [fa_reset (by omega), stt_k (by decide), stt_s]; rfl
      · rw [fa_reset (by omega), stt_s, stt_s]
      · rw [stt_s]; exact ab_bo1
      · obtain ⟨a1, a2, a3, a4⟩ := h.2.2 s hs
        have f5 : ∀ b j, 3 < b → f_MD_reset (stt (stt v 0 0 0) 0 1 1) b j = v b j := fun b j hb => by
          rw [fa_reset (by omega), stt_a (by omega), stt_a (by omega)]
        simp only [stt_a (show (7 : Nat) ≠ 0 by decide)]
        refine ⟨by rw [f5 4 s (by decide)]; exact a1, a2, fun q => ?_, fun k k1 k2 => ?_⟩
        · have := ab_SL_far (v' := f_MD_reset (stt (stt v 0 0 0) 0 1 1)) (a3 q) (fun j => f5 5 j (by decide))
          have ez : ∀ b, b ≠ 0 → stt z 0 0 1 b = z b := fun b hb => funext fun j => stt_a hb
          rw [ez _ (by omega), ez _ (by omega), ez _ (by omega)]
          exact this
        · rw [stt_a (by omega)]; exact a4 k k1 k2
    · rw [if_neg e2, if_neg e2, if_neg (show ¬ (2 : Int32) ≤ 0 by decide)]
      exact ⟨stt_s v 0 0 2, fun q => absurd (show (2 : Nat) = 0 from q) (by decide), ab_RT_thr h 2⟩
  · rw [if_neg e, if_neg e, if_pos (show (0 : Int32) = 0 from rfl), if_neg (show ¬ (1 : Int32) ≤ 0 by decide)]
    exact ⟨stt_s v 0 0 1, fun q => absurd (show (1 : Nat) = 0 from q) (by decide), ab_RT_thr h 1⟩
theorem ab_cOff (h : ab_RT B z u v) : (f_AB_off z u).1 = (f_MD_off v).1 ∧ ab_RT B (f_AB_off z u).2.1 (f_AB_off z u).2.2 (f_MD_off v).2 := by
  unfold f_AB_off f_MD_off
  refine ⟨h.2.1.1, ab_Q_own (ab_Q_own h.1 0 0 (Or.inl rfl)) 1 0 (Or.inr (Or.inl rfl)), ⟨?_, ?_⟩, fun s hs => ?_⟩
  · dsimp only; rw [stt_s, stt_s]
  · dsimp only; rw [stt_s]; exact ab_bo0
  · obtain ⟨a1, a2, a3, a4⟩ := h.2.2 s hs
    have f5 : ∀ b j, 3 < b → stt (stt v 0 0 0) 0 1 0 b j = v b j := fun b j hb => by rw [stt_a (by omega), stt_a (by omega)]
    have ez : ∀ b, b ≠ 0 → stt z 0 0 0 b = z b := fun b hb => funext fun j => stt_a hb
    dsimp only
    rw [ez 7 (by decide), ez (1 + 3 * s) (by omega), ez (2 + 3 * s) (by omega), ez (3 + 3 * s) (by omega)]
    exact ⟨by rw [f5 4 s (by decide)]; exact a1, a2, fun q => ab_SL_far (a3 q) (fun j => f5 5 j (by decide)), a4⟩
/-- run -/
theorem ab_rnL (k : Nat) : ∀ (z u v : SS) (B n j : Nat) (x : Int32), ab_RT B z u v → v 0 0 = 0 → B + 8 * k < 2 ^ 30 → n ≤ 60 → j ≤ n → n < j + k →
    (g_AB_run_41 k z u (nI n) x (nI j)).1 = 0 ∧ (g_AB_run_41 k z u (nI n) x (nI j)).2.1 = (g_MD_run_34 k v (nI n) x (nI j)).1 ∧ (g_MD_run_34 k v (nI n) x (nI j)).2 0 0 = 0 ∧
    ab_RT (B + 8 * k) (g_AB_run_41 k z u (nI n) x (nI j)).2.2.1 (g_AB_run_41 k z u (nI n) x (nI j)).2.2.2 (g_MD_run_34 k v (nI n) x (nI j)).2 := by
  induction k with
  | zero => intro z u v B n j x _ _ _ _ h1 h2; omega
  | succ k ih =>
    intro z u v B n j x h h0 hB hn h1 h2
    rw [g_AB_run_41, g_MD_run_34]
    have g : nI n ≤ nI j ↔ n ≤ j := nI_leI (by omega) (by omega)
    by_cases e : n ≤ j
    · rw [if_pos (g.mpr e), if_pos (g.mpr e)]
      exact ⟨rfl, rfl, h0, ab_RT_mono h (by omega)⟩
    · rw [if_neg (fun q => e (g.mp q)), if_neg (fun q => e (g.mp q)), if_pos h0, nI_1]
      obtain ⟨q, es, -⟩ := ab_step h.1 (by omega)
      rw [es]
      have hT : ab_RT (B + 8) z (f_Processor_step u).2 (f_MD_step v) := ⟨q, ab_RS_far h.2 (fa_step (by omega)) (fun b j hb => fa_step (by omega))⟩
      have r := ih z _ _ (B + 8) n (j + 1) (x + f_MD_step v 0 24) hT (by rw [fa_step (by omega)]; exact h0) (by omega) hn (by omega) (by omega)
      rw [show B + 8 * (k + 1) = B + 8 + 8 * k by omega]
      exact r
theorem ab_cRun (h : ab_RT B z u v) (hB : B + 488 < 2 ^ 30) (x : Int32) : (f_MD_run v x).2 0 0 = nI (f_AB_run z u x).1 ∧ ((f_AB_run z u x).1 = 0 → (f_AB_run z u x).2.1 = (f_MD_run v x).1) ∧ ab_RT (B + 488) (f_AB_run z u x).2.2.1 (f_AB_run z u x).2.2.2 (f_MD_run v x).2 := by
  have stop : ∀ c : Int32, c ≠ 0 → g_MD_run_34 61 (stt v 0 0 c) x 0 0 = (0, stt v 0 0 c) := by
    intro c hc
    rw [g_MD_run_34]
    split
    · rfl
    · rw [stt_s, if_neg hc]
  unfold f_AB_run f_MD_run
  rw [← h.2.1.1]
  by_cases e1 : x < 0
  · rw [if_pos e1, if_pos e1, stop 1 (by decide)]
    exact ⟨stt_s v 0 0 1, fun q => absurd (show (1 : Nat) = 0 from q) (by decide), ab_RT_mono (ab_RT_thr h 1) (by omega)⟩
  · rw [if_neg e1, if_neg e1]
    by_cases e2 : x ≤ 60
    · rw [if_pos e2, if_pos e2]
      by_cases e3 : z 0 0 = 0
      · rw [if_pos e3, if_pos e3, stop 2 (by decide)]
        exact ⟨stt_s v 0 0 2, fun q => absurd (show (2 : Nat) = 0 from q) (by decide), ab_RT_mono (ab_RT_thr h 2) (by omega)⟩
      · rw [if_neg e3, if_neg e3]
        obtain ⟨n, hn, rfl⟩ := nI_of2 (n := 60) (by decide) e1 e2
        have r := ab_rnL 61 z u (stt v 0 0 0) B n 0 0 (ab_RT_thr h 0) (stt_s _ _ _ _) (by omega) hn (by omega) (by omega)
        rw [show nI 0 = (0 : Int32) from rfl] at r
        rw [r.1]
        exact ⟨r.2.2.1, fun _ => r.2.1, r.2.2.2⟩
    · rw [if_neg e2, if_neg e2, stop 1 (by decide)]
      exact ⟨stt_s v 0 0 1, fun q => absurd (show (1 : Nat) = 0 from q) (by decide), ab_RT_mono (ab_RT_thr h 1) (by omega)⟩
/-- switches, coin -/
theorem ab_sw01 (u : SS) (x y : Int32) : ab_bo (f_Ports_setSwitches u x y).1 := by
  unfold f_Ports_setSwitches
  split
  · exact ab_bo1
  · split
    · exact ab_bo1
    · exact ab_bo0
theorem ab_m254 (x : Int32) : ∃ n : Nat, n < 255 ∧ x &&& 254 = nI n := by
  have e : x &&& 254 = (x &&& 255) &&& 254 := by rw [Int32.and_assoc]; rfl
  obtain ⟨m, hm, em⟩ := ab_m8b x
  rw [e, em]
  exact (show ∀ m, m < 256 → ∃ n : Nat, n < 255 ∧ nI m &&& 254 = nI n from fun m hm => ⟨m / 2 * 2, by omega, (show ∀ m, m < 256 → nI m &&& 254 = nI (m / 2 * 2) by decide +kernel) m hm⟩) m hm
theorem ab_cSwitches (h : ab_RT B z u v) (x y : Int32) : (f_AB_switches z u x y).1 = (f_MD_switches v x y).1 ∧ ab_RT B (f_AB_switches z u x y).2.1 (f_AB_switches z u x y).2.2 (f_MD_switches v x y).2 := by
  have h0 := ab_RT_thr h 0
  unfold f_AB_switches f_MD_switches f_Ports_setSwitches
  by_cases e0 : x = 0
  · subst e0
    simp (decide := true) only [↓reduceIte]
    refine ⟨trivial, ?_, ?_⟩
    · have e9 : stt (stt (stt v 0 0 0) 0 2 (y &&& 255)) 0 3 (v 0 3) = stt (stt v 0 0 0) 0 2 (y &&& 255) := by
        have e3 : stt (stt v 0 0 0) 0 2 (y &&& 255) 0 3 = v 0 3 := by rw [stt_k (by decide), stt_k (by decide)]
        rw [← e3]; exact stt_id
      rw [e9]
      obtain ⟨n, hn, en⟩ := ab_m8b y
      exact ab_Q_put h0.1 15 en hn rfl
    · exact ab_RS_far h0.2 (by rw [stt_k (by decide), stt_k (by decide)]) (fun b j hb => by rw [stt_a (by omega), stt_a (by omega)])
  · by_cases e1 : x = 1
    · subst e1
      simp (decide := true) only [↓reduceIte]
      refine ⟨trivial, ?_, ?_⟩
      · have e9 : stt (stt v 0 0 0) 0 2 (v 0 2) = stt v 0 0 0 := by
          have e3 : stt v 0 0 0 0 2 = v 0 2 := stt_k (by decide)
          rw [← e3]; exact stt_id
        rw [e9]
        obtain ⟨n, hn, en⟩ := ab_m254 y
        exact ab_Q_put h0.1 16 en hn rfl
      · exact ab_RS_far h0.2 (by rw [stt_k (by decide), stt_k (by decide)]) (fun b j hb => by rw [stt_a (by omega), stt_a (by omega)])
    · rw [if_neg e0, if_neg e1, if_neg e0, if_neg e1]
      exact ⟨rfl, h0⟩
theorem ab_cCoin (h : ab_RT B z u v) : (f_AB_coin z u).1 = (f_MD_coin v).1 ∧ ab_RT B (f_AB_coin z u).2.1 (f_AB_coin z u).2.2 (f_MD_coin v).2 := by
  have h0 := ab_RT_thr h 0
  unfold f_AB_coin f_MD_coin
  rw [show u 0 12 = v 0 20 from ab_Q_sc h.1 12]
  by_cases e : v 0 20 ≤ 0
  · rw [if_pos e, if_pos e]
    exact ⟨rfl, ab_Q_put h0.1 12 (n := 3) rfl (show 3 < 4 by decide) rfl, ab_RS_far h0.2 (show stt (stt v 0 0 0) 0 20 3 0 1 = stt v 0 0 0 0 1 from stt_k (by decide)) (fun b j hb => show stt (stt v 0 0 0) 0 20 3 b j = stt v 0 0 0 b j from stt_a (by omega))⟩
  · rw [if_neg e, if_neg e]; exact ⟨rfl, h0⟩
/-- look, peek, dot, sound -/
theorem ab_cLook (h : ab_RT B z u v) (x : Int32) : f_AB_look z u x = (f_MD_look v x).1 ∧ ab_RT B z u (f_MD_look v x).2 := by
  have h0 := ab_RT_thr h 0
  have sc : ∀ k, k < 18 → k ≠ 0 → k ≠ 4 → u 0 k = v 0 (ab_ix k) := fun k a b c => ab_Q_sc h.1 k a b c
  have fl : u 0 0 = f_MD_flags (stt v 0 0 0) := by rw [ab_fl_n (by omega)]; exact h.1.2.1.1
  have mo : f_MD_more (stt v 0 0 0) x = f_MD_more v x := by
    unfold f_MD_more
    simp only [stt_k (show (9 : Nat) ≠ 0 by decide), stt_k (show (10 : Nat) ≠ 0 by decide), stt_k (show (11 : Nat) ≠ 0 by decide), stt_k (show (13 : Nat) ≠ 0 by decide), stt_k (show (14 : Nat) ≠ 0 by decide), stt_k (show (15 : Nat) ≠ 0 by decide), stt_k (show (16 : Nat) ≠ 0 by decide), stt_k (show (17 : Nat) ≠ 0 by decide), stt_k (show (18 : Nat) ≠ 0 by decide), stt_k (show (19 : Nat) ≠ 0 by decide), stt_k (show (20 : Nat) ≠ 0 by decide)]
  unfold f_AB_look f_MD_look
  rw [mo, ← fl]
  by_cases e1 : x < 0
  · rw [if_pos e1, if_pos e1]
    have no : ∀ k : Nat, k < 100 → ¬ x = nI k := fun k hk q => absurd e1 (by rw [q]; exact nI_pos (by omega))
    rw [if_neg (show ¬ x = 8 from no 8 (by decide)), if_neg (show ¬ x = 9 from no 9 (by decide)), if_neg (show ¬ x = 10 from no 10 (by decide)), if_neg (show ¬ x = 11 from no 11 (by decide)), if_neg (show ¬ x = 12 from no 12 (by decide)), if_neg (show ¬ x = 13 from no 13 (by decide)), if_neg (show ¬ x = 14 from no 14 (by decide)), if_neg (show ¬ x = 15 from no 15 (by decide)), if_neg (show ¬ x = 16 from no 16 (by decide)), if_neg (show ¬ x = 17 from no 17 (by decide)), if_neg (show ¬ x = 18 from no 18 (by decide)), if_neg (show ¬ x = 19 from no 19 (by decide))]
    exact ⟨rfl, h0⟩
  · obtain ⟨n, hn, rfl⟩ := nI_of e1
    have eq : ∀ k : Nat, k < 100 → (nI n = nI k ↔ n = k) := fun k hk => nI_eq hn (by omega)
    have l19 : nI n ≤ 19 ↔ n ≤ 19 := nI_leI (b := 19) hn (by decide)
    have g7 : (7 : Int32) < nI n ↔ 7 < n := nI_ltI (a := 7) (by decide) hn
    have g8 : (8 : Int32) ≤ nI n ↔ 8 ≤ n := nI_leI (a := 8) (by decide) hn
    rw [if_neg e1, if_neg e1]
    by_cases e7 : 7 < n
    · rw [if_pos (g7.mpr e7)]
      by_cases e19 : n ≤ 19
      · rw [if_pos (l19.mpr e19), if_pos (g8.mpr (by omega))]
        unfold f_MD_more
        rcases (show n = 8 ∨ n = 9 ∨ n = 10 ∨ n = 11 ∨ n = 12 ∨ n = 13 ∨ n = 14 ∨ n = 15 ∨ n = 16 ∨ n = 17 ∨ n = 18 ∨ n = 19 by omega) with rfl | rfl | rfl | rfl | rfl | rfl | rfl | rfl | rfl | rfl | rfl | rfl <;> simp (decide := true) only [↓reduceIte]
        · exact ⟨trivial, h0⟩
        · exact ⟨sc 1 (by decide) (by decide) (by decide), h0⟩
        · exact ⟨sc 2 (by decide) (by decide) (by decide), h0⟩
        · rw [show u 0 3 = v 0 11 from sc 3 (by decide) (by decide) (by decide)]; exact ⟨rfl, h0⟩
        · rw [show u 0 5 = v 0 13 from sc 5 (by decide) (by decide) (by decide)]; exact ⟨rfl, h0⟩
        · exact ⟨sc 6 (by decide) (by decide) (by decide), h0⟩
        · exact ⟨sc 7 (by decide) (by decide) (by decide), h0⟩
        · exact ⟨sc 8 (by decide) (by decide) (by decide), h0⟩
        · exact ⟨sc 9 (by decide) (by decide) (by decide), h0⟩
        · exact ⟨sc 10 (by decide) (by decide) (by decide), h0⟩
        · exact ⟨sc 11 (by decide) (by decide) (by decide), h0⟩
        · exact ⟨sc 12 (by decide) (by decide) (by decide), h0⟩
      · rw [if_neg (fun q => e19 (l19.mp q))]
        have no : ∀ k : Nat, k < 20 → ¬ nI n = nI k := fun k hk q => by have := (eq k (by omega)).mp q; omega
        rw [if_neg (show ¬ nI n = 8 from no 8 (by decide)), if_neg (show ¬ nI n = 9 from no 9 (by decide)), if_neg (show ¬ nI n = 10 from no 10 (by decide)), if_neg (show ¬ nI n = 11 from no 11 (by decide)), if_neg (show ¬ nI n = 12 from no 12 (by decide)), if_neg (show ¬ nI n = 13 from no 13 (by decide)), if_neg (show ¬ nI n = 14 from no 14 (by decide)), if_neg (show ¬ nI n = 15 from no 15 (by decide)), if_neg (show ¬ nI n = 16 from no 16 (by decide)), if_neg (show ¬ nI n = 17 from no 17 (by decide)), if_neg (show ¬ nI n = 18 from no 18 (by decide)), if_neg (show ¬ nI n = 19 from no 19 (by decide))]
        exact ⟨rfl, h0⟩
    · rw [if_neg (fun q => e7 (g7.mp q)), if_pos (l19.mpr (by omega)), if_neg (show ¬ (8 : Int32) ≤ nI n from fun q => by have := g8.mp q; omega)]
      exact ⟨(ab_value h0.1 (Nat.le_refl _) (show n < 8 by omega)).1, h0⟩
theorem ab_cPeek (h : ab_RT B z u v) (x : Int32) : f_AB_peek z u x = (f_MD_peek v x).1 ∧ ab_RT B z u (f_MD_peek v x).2 := by
  have h0 := ab_RT_thr h 0
  unfold f_AB_peek f_MD_peek
  refine ⟨?_, h0⟩
  by_cases e1 : x < 0
  · rw [if_pos e1]; dsimp only; rw [if_pos e1]
  · rw [if_neg e1]; dsimp only; rw [if_neg e1]
    obtain ⟨n, hn, rfl⟩ := nI_of e1
    have l : nI n < 1024 ↔ n < 1024 := nI_ltI (b := 1024) hn (by decide)
    have g : (1024 : Int32) ≤ nI n ↔ 1024 ≤ n := nI_leI (a := 1024) (by decide) hn
    by_cases e2 : n < 1024
    · rw [if_pos (l.mpr e2), if_neg (show ¬ (1024 : Int32) ≤ nI n from fun q => by have := g.mp q; omega), (ab_at h.1 _).1]
      unfold f_MD_read
      rw [ab_m10N, Nat.mod_eq_of_lt e2]
    · rw [if_neg (fun q => e2 (l.mp q)), if_pos (g.mpr (by omega))]
theorem ab_cDot (h : ab_RT B z u v) (x y : Int32) : f_AB_dot z u x y = (f_MD_dot v x y).1 ∧ ab_RT B z u (f_MD_dot v x y).2 := by
  have h0 := ab_RT_thr h 0
  unfold f_AB_dot f_MD_dot
  refine ⟨?_, h0⟩
  dsimp only
  by_cases e1 : x < 0
  · rw [if_pos e1, if_pos e1]
  rw [if_neg e1, if_neg e1]
  by_cases e2 : 64 ≤ x
  · rw [if_pos e2, if_pos e2]
  rw [if_neg e2, if_neg e2]
  by_cases e3 : y < 0
  · rw [if_pos e3, if_pos e3]
  rw [if_neg e3, if_neg e3]
  obtain ⟨n, hn, rfl⟩ := nI_of e1
  obtain ⟨m, hm, rfl⟩ := nI_of e3
  have l : nI m < 32 ↔ m < 32 := nI_ltI (b := 32) hm (by decide)
  have g : (32 : Int32) ≤ nI m ↔ 32 ≤ m := nI_leI (a := 32) (by decide) hm
  have n64 : n < 64 := by
    rcases Nat.lt_or_ge n 64 with q | q
    · exact q
    · exact absurd ((nI_leI (a := 64) (by decide) hn).mpr q) e2
  by_cases e4 : m < 32
  · rw [if_pos (l.mpr e4), if_neg (show ¬ (32 : Int32) ≤ nI m from fun q => by have := g.mp q; omega), (ab_at h.1 _).1]
    have ea : (768 : Int32) + 8 * nI m + nI n / 8 = nI (768 + 8 * m + n / 8) := by
      rw [show nI n / 8 = nI (n / 8) from pk_div (d := 8) (by omega) (by decide) (by decide), show (8 : Int32) = nI 8 from rfl, pk_mul, show (768 : Int32) = nI 768 from rfl, nI_add, nI_add]
    rw [ea]
    unfold f_MD_read
    rw [ab_m10N, Nat.mod_eq_of_lt (by omega)]
  · rw [if_neg (fun q => e4 (l.mp q)), if_pos (g.mpr (by omega))]
theorem ab_cSound (h : ab_RT B z u v) (hB : B < 2 ^ 30) (x : Int32) : f_AB_sound z u x = (f_MD_sound v x).1 ∧ ab_RT B z u (f_MD_sound v x).2 := by
  have h0 := ab_RT_thr h 0
  unfold f_AB_sound f_MD_sound
  have e17 : u 0 17 = v 0 23 := ab_Q_sc h.1 17
  by_cases em : x = -1
  · rw [if_pos em, if_pos em]; exact ⟨e17, h0⟩
  rw [if_neg em, if_neg em]
  refine ⟨?_, h0⟩
  unfold f_Sounds_latestBut
  dsimp only
  obtain ⟨s, hs, es⟩ := ab_Q_bd h.1 17
  have hs' : s < B + 1 := hs
  rw [← e17, es]
  by_cases e1 : x < 0
  · rw [if_pos e1, if_pos e1]
  rw [if_neg e1, if_neg e1]
  obtain ⟨n, hn, rfl⟩ := nI_of e1
  have g7 : (7 : Int32) < nI n ↔ 7 < n := nI_ltI (a := 7) (by decide) hn
  have g8 : (8 : Int32) ≤ nI n ↔ 8 ≤ n := nI_leI (a := 8) (by decide) hn
  by_cases e7 : 7 < n
  · rw [if_pos (g7.mpr e7), if_pos (g8.mpr (by omega))]
  rw [if_neg (fun q => e7 (g7.mp q)), if_neg (show ¬ (8 : Int32) ≤ nI n from fun q => by have := g8.mp q; omega)]
  have l : nI n < nI s ↔ n < s := nI_ltI hn (by omega)
  have g : nI s ≤ nI n ↔ s ≤ n := nI_leI (by omega) hn
  by_cases e : n < s
  · rw [if_pos (l.mpr e), if_neg (show ¬ nI s ≤ nI n from fun q => by have := g.mp q; omega), show nI s - 1 = nI (s - 1) from pk_sub (b := 1) (by omega), pk_sub (a := s - 1) (by omega), pk_andN (by omega) 3 rfl, show nI (s - 1 - n) - nI (s - 1 - n) / 8 * 8 = nI ((s - 1 - n) % 8) from pk_rem (d := 8) (by omega) (by decide) (by decide), nI_clamp (by omega)]
    exact h.1.2.2.2.2.2.2 _ (by omega)
  · rw [if_neg (fun q => e (l.mp q)), if_pos (g.mpr (by omega))]
end TOP
end
section
/-! save and restore -/
/-- places O + lo .. O + hi - 1 of array a hold f lo .. f (hi - 1) now -/
def ab_cp (w : SS) (a O lo hi : Nat) (f : Nat → Int32) : SS := fun b i => if b = a ∧ O + lo ≤ i ∧ i < O + hi then f (i - O) else w b i
theorem ab_cp_in {w : SS} {a O lo hi i : Nat} {f : Nat → Int32} (h1 : lo ≤ i) (h2 : i < hi) : ab_cp w a O lo hi f a (O + i) = f i := by
  unfold ab_cp; rw [if_pos ⟨rfl, by omega, by omega⟩, Nat.add_sub_cancel_left]
theorem ab_cp_out {w : SS} {a O lo hi b i : Nat} {f : Nat → Int32} (h : b ≠ a ∨ i < O + lo ∨ O + hi ≤ i) : ab_cp w a O lo hi f b i = w b i := by
  unfold ab_cp; rw [if_neg (fun q => by omega)]
theorem ab_cp_nil {w : SS} {a O n : Nat} {f : Nat → Int32} : ab_cp w a O n n f = w := by
  funext b i; exact ab_cp_out (by omega)
theorem ab_cp_step {w : SS} {a O j n : Nat} {f : Nat → Int32} (h : j < n) : ab_cp (stt w a (O + j) (f j)) a O (j + 1) n f = ab_cp w a O j n f := by
  funext b i
  by_cases q : b = a ∧ O + (j + 1) ≤ i ∧ i < O + n
  · obtain ⟨rfl, q1, q2⟩ := q
    obtain ⟨c, rfl⟩ : ∃ c, i = O + c := ⟨i - O, by omega⟩
    rw [ab_cp_in (by omega) (by omega), ab_cp_in (by omega) (by omega)]
  · rw [ab_cp_out (by omega)]
    by_cases e : b = a ∧ i = O + j
    · obtain ⟨rfl, rfl⟩ := e
      rw [stt_s, ab_cp_in (by omega) h]
    · rw [stt_n e, ab_cp_out (by omega)]
section SR
variable {z u v v' : SS} {B : Nat}
theorem ab_Q_ext {bd : Nat → Nat} {jc : Int32 → Int32 → Int32 → Prop} (h : ab_Q bd jc u v) (hv : ∀ b j, b < 4 → ¬ (b = 0 ∧ j < 2) → v' b j = v b j) : ab_Q bd jc u v' := by
  have hf : f_MD_flags v' = f_MD_flags v := by rw [ab_FL_e, ab_FL_e, hv 0 4 (by omega) (by omega), hv 0 5 (by omega) (by omega), hv 0 6 (by omega) (by omega), hv 0 7 (by omega) (by omega), hv 0 8 (by omega) (by omega)]
  refine ⟨fun j j1 j2 j3 => ?_, ⟨?_, fun j j1 j2 => ?_⟩, ⟨?_, h.2.2.1.2.1, ?_⟩, ?_, ?_, ?_, ?_⟩
  · have := ab_ixfl j j1 j2 j3; rw [hv 0 _ (by omega) (by omega)]; exact h.1 j j1 j2 j3
  · rw [hf]; exact h.2.1.1
  · rw [hv 0 j (by omega) (by omega)]; exact h.2.1.2 j j1 j2
  · rw [hv 0 12 (by omega) (by omega)]; exact h.2.2.1.1
  · rw [hv 0 12 (by omega) (by omega)]; exact h.2.2.1.2.2
  · intro j hj; rw [hv 1 _ (by omega) (by omega)]; exact h.2.2.2.1 j hj
  · intro j hj; rw [hv 1 _ (by omega) (by omega)]; exact h.2.2.2.2.1 j hj
  · intro j hj; rw [hv 2 _ (by omega) (by omega)]; exact h.2.2.2.2.2.1 j hj
  · intro j hj; rw [hv 3 _ (by omega) (by omega)]; exact h.2.2.2.2.2.2 j hj
/-! the reference's loops in closed form -/
theorem ab_sv147 {O : Nat} (hO : O ≤ 540) (k : Nat) : ∀ (w : SS) (x : Int32) (j : Nat), j ≤ 512 → 512 < j + k → g_MD_save_147 k w x (nI O) (nI j) = (1, ab_cp w 5 (O + 23) j 512 (fun i => w 1 (512 + i))) := by
  induction k with
  | zero => intro w x j h1 h2; omega
  | succ k ih =>
    intro w x j h1 h2
    have g : (512 : Int32) ≤ nI j ↔ 512 ≤ j := nI_leI (a := 512) (by decide) (by omega)
    rw [g_MD_save_147]
    by_cases e : 512 ≤ j
    · rw [if_pos (g.mpr e), show j = 512 by omega, ab_cp_nil]
    · rw [if_neg (fun q => e (g.mp q)), nI_1, show (23 : Int32) = nI 23 from rfl, show (512 : Int32) = nI 512 from rfl, nI_add, nI_add, nI_add, nI_clamp (by omega), nI_clamp (by omega), ih _ x (j + 1) (by omega) (by omega)]
      have e1 : (fun i => stt w 5 (O + 23 + j) (w 1 (512 + j)) 1 (512 + i)) = fun i => w 1 (512 + i) := funext fun i => stt_a (by decide)
      rw [e1, ab_cp_step (f := fun i => w 1 (512 + i)) (by omega)]
theorem ab_more5 {w : SS} {i : Nat} {x y : Int32} : f_MD_more (stt w 5 i x) y = f_MD_more w y := by
  unfold f_MD_more; simp only [stt_a (show (0 : Nat) ≠ 5 by decide)]
theorem ab_sv73 {O : Nat} (hO : O ≤ 540) (k : Nat) : ∀ (w : SS) (x : Int32) (j : Nat), j ≤ 20 → 20 < j + k → g_MD_save_73 k w x (nI O) (nI j) = g_MD_save_147 513 (stt (stt (stt (ab_cp w 5 O j 20 (fun i => f_MD_more w (nI i))) 5 (O + 20) (w 0 21)) 5 (O + 21) (w 0 22)) 5 (O + 22) (if (w 0 12) = 0 then 0 else 1 : Int32)) x (nI O) 0 := by
  induction k with
  | zero => intro w x j h1 h2; omega
  | succ k ih =>
    intro w x j h1 h2
    have g : (20 : Int32) ≤ nI j ↔ 20 ≤ j := nI_leI (a := 20) (by decide) (by omega)
    rw [g_MD_save_73]
    by_cases e : 20 ≤ j
    · rw [if_pos (g.mpr e), show j = 20 by omega, ab_cp_nil, show (20 : Int32) = nI 20 from rfl, show (21 : Int32) = nI 21 from rfl, show (22 : Int32) = nI 22 from rfl, nI_add, nI_add, nI_add, nI_clamp (by omega), nI_clamp (by omega), nI_clamp (by omega)]
    · rw [if_neg (fun q => e (g.mp q)), nI_1, nI_add, nI_clamp (by omega), ih _ x (j + 1) (by omega) (by omega)]
      have e1 : (fun i => f_MD_more (stt w 5 (O + j) (f_MD_more w (nI j))) (nI i)) = fun i => f_MD_more w (nI i) := funext fun i => ab_more5
      rw [e1, ab_cp_step (f := fun i => f_MD_more w (nI i)) (by omega), stt_a (by decide), stt_a (by decide), stt_a (by decide)]
theorem ab_sv31 {O : Nat} (hO : O ≤ 540) (k : Nat) : ∀ (w : SS) (x : Int32) (j : Nat), j ≤ 8 → 8 < j + k → g_MD_save_31 k w x (nI O) (nI j) = g_MD_save_73 12 (stt (ab_cp w 5 O j 8 (fun i => w 2 i)) 5 (O + 8) (f_MD_flags w)) x (nI O) 9 := by
  induction k with
  | zero => intro w x j h1 h2; omega
  | succ k ih =>
    intro w x j h1 h2
    have g : (8 : Int32) ≤ nI j ↔ 8 ≤ j := nI_leI (a := 8) (by decide) (by omega)
    rw [g_MD_save_31]
    by_cases e : 8 ≤ j
    · rw [if_pos (g.mpr e), show j = 8 by omega, ab_cp_nil, show (8 : Int32) = nI 8 from rfl, nI_add, nI_clamp (by omega)]
    · rw [if_neg (fun q => e (g.mp q)), nI_1, nI_add, nI_clamp (by omega), nI_clamp (by omega), ih _ x (j + 1) (by omega) (by omega)]
      have e1 : (fun i => stt w 5 (O + j) (w 2 j) 2 i) = fun i => w 2 i := funext fun i => stt_a (by decide)
      rw [e1, ab_cp_step (f := fun i => w 2 i) (by omega), ab_fl_n (by omega)]
/-- what 'save' leaves in the reference -/
def ab_svd (w : SS) (O : Nat) : SS :=
  ab_cp (stt (stt (stt (ab_cp (stt (ab_cp w 5 O 0 8 (fun i => w 2 i)) 5 (O + 8) (f_MD_flags w)) 5 O 9 20 (fun i => f_MD_more w (nI i))) 5 (O + 20) (w 0 21)) 5 (O + 21) (w 0 22)) 5 (O + 22) (if (w 0 12) = 0 then 0 else 1 : Int32)) 5 (O + 23) 0 512 (fun i => w 1 (512 + i))
theorem ab_sv {O : Nat} (hO : O ≤ 540) (w : SS) (x : Int32) : g_MD_save_31 9 w x (nI O) 0 = (1, ab_svd w O) := by
  rw [show (0 : Int32) = nI 0 from rfl, ab_sv31 hO 9 w x 0 (by omega) (by omega), show (9 : Int32) = nI 9 from rfl, ab_sv73 hO 12 _ x 9 (by omega) (by omega), show (0 : Int32) = nI 0 from rfl, ab_sv147 hO 513 _ x 0 (by omega) (by omega)]
  unfold ab_svd
  have m : ∀ (f : Nat → Int32) (y : Int32) (i : Nat), f_MD_more (stt (ab_cp w 5 O 0 8 f) 5 i y) = f_MD_more w := by
    intro f y i
    funext c
    rw [ab_more5]
    unfold f_MD_more
    simp only [ab_cp_out (w := w) (a := 5) (b := 0) (Or.inl (by decide))]
  have e1 : (fun i => f_MD_more (stt (ab_cp w 5 O 0 8 (fun i => w 2 i)) 5 (O + 8) (f_MD_flags w)) (nI i)) = fun i => f_MD_more w (nI i) := funext fun i => by rw [m]
  have e2 : ∀ b j, b ≠ 5 → stt (ab_cp w 5 O 0 8 (fun i => w 2 i)) 5 (O + 8) (f_MD_flags w) b j = w b j := fun b j hb => by rw [stt_a hb, ab_cp_out (Or.inl hb)]
  rw [e1, e2 0 21 (by decide), e2 0 22 (by decide), e2 0 12 (by decide)]
  congr 2
theorem ab_svd_o (w : SS) (O b i : Nat) (h : b ≠ 5 ∨ i < O ∨ O + 535 ≤ i) : ab_svd w O b i = w b i := by
  unfold ab_svd
  rw [ab_cp_out (by omega), stt_n (by omega), stt_n (by omega), stt_n (by omega), ab_cp_out (by omega), stt_n (by omega), ab_cp_out (by omega)]
theorem ab_svd_r (w : SS) (O k : Nat) (h : k < 8) : ab_svd w O 5 (O + k) = w 2 k := by
  unfold ab_svd
  rw [ab_cp_out (by omega), stt_n (by omega), stt_n (by omega), stt_n (by omega), ab_cp_out (by omega), stt_n (by omega), ab_cp_in (by omega) h]
theorem ab_svd_f (w : SS) (O : Nat) : ab_svd w O 5 (O + 8) = f_MD_flags w := by
  unfold ab_svd
  rw [ab_cp_out (by omega), stt_n (by omega), stt_n (by omega), stt_n (by omega), ab_cp_out (by omega), stt_s]
theorem ab_svd_m (w : SS) (O k : Nat) (h1 : 9 ≤ k) (h2 : k < 20) : ab_svd w O 5 (O + k) = f_MD_more w (nI k) := by
  unfold ab_svd
  rw [ab_cp_out (by omega), stt_n (by omega), stt_n (by omega), stt_n (by omega), ab_cp_in h1 h2]
theorem ab_svd_20 (w : SS) (O : Nat) : ab_svd w O 5 (O + 20) = w 0 21 := by
  unfold ab_svd
  rw [ab_cp_out (by omega), stt_n (by omega), stt_n (by omega), stt_s]
theorem ab_svd_21 (w : SS) (O : Nat) : ab_svd w O 5 (O + 21) = w 0 22 := by
  unfold ab_svd
  rw [ab_cp_out (by omega), stt_n (by omega), stt_s]
theorem ab_svd_22 (w : SS) (O : Nat) : ab_svd w O 5 (O + 22) = (if (w 0 12) = 0 then 0 else 1 : Int32) := by
  unfold ab_svd
  rw [ab_cp_out (by omega), stt_s]
theorem ab_svd_c (w : SS) (O k : Nat) (h : k < 512) : ab_svd w O 5 (O + 23 + k) = w 1 (512 + k) := by
  unfold ab_svd
  rw [ab_cp_in (by omega) h]
theorem ab_bit01 {x : Int32} (h : ab_bo x) : (if x = 0 then 0 else 1 : Int32) = x := by rcases h with rfl | rfl <;> rfl
/-- a slot that was just saved -/
theorem ab_svS (h : ab_Q (ab_bd B) ab_jR u v) (O : Nat) {x y w : Nat → Int32} (hx : ∀ k, k < 15 → x k = u 0 k) (hy : ∀ k, k < 512 → y k = u 1 k) (hw : ∀ k, k < 8 → w k = u 2 k) : ab_SL x y w O (ab_svd v O) := by
  have bo3 := ab_Q_bo3 h
  have bo5 : ab_bo (u 0 5) := by
    obtain ⟨n, hn, e⟩ := ab_Q_bd h 5
    have hn' : n < 2 := hn
    rcases (show n = 0 ∨ n = 1 by omega) with rfl | rfl
    · exact Or.inl e
    · exact Or.inr e
  have b := h.2.1.2
  refine ⟨fun k hk => ?_, ⟨?_, ?_⟩, fun k k1 k2 k3 => ?_, ⟨?_, ?_, ?_⟩, fun k hk => ?_⟩
  · rw [hw k hk, ab_svd_r _ _ k hk]; exact h.2.2.2.2.2.1 k hk
  · rw [hx 0 (by decide), ab_svd_f]; exact h.2.1.1
  · exact ⟨v 0 4, v 0 5, v 0 6, v 0 7, v 0 8, b 4 (by decide) (by decide), b 5 (by decide) (by decide), b 6 (by decide) (by decide), b 7 (by decide) (by decide), b 8 (by decide) (by decide), by rw [hx 0 (by decide), h.2.1.1]; rfl⟩
  · rw [hx k k1]
    have sc := ab_Q_sc h k (by omega) k2 k3
    obtain ⟨n, hn, e⟩ := ab_Q_bd h k (by omega) k2 k3
    refine ⟨?_, n, ?_, e⟩
    · rcases (show k = 1 ∨ k = 2 ∨ k = 3 ∨ k = 5 ∨ k = 6 ∨ k = 7 ∨ k = 8 ∨ k = 9 ∨ k = 10 ∨ k = 11 ∨ k = 12 ∨ k = 13 ∨ k = 14 by omega) with rfl | rfl | rfl | rfl | rfl | rfl | rfl | rfl | rfl | rfl | rfl | rfl | rfl
      · rw [show ab_iy 1 = 9 from rfl, ab_svd_m _ _ 9 (by decide) (by decide)]; exact sc
      · rw [show ab_iy 2 = 10 from rfl, ab_svd_m _ _ 10 (by decide) (by decide)]; exact sc
      · rw [show ab_iy 3 = 11 from rfl, ab_svd_m _ _ 11 (by decide) (by decide)]; exact sc.trans (ab_bit01 (show ab_bo (v 0 11) from sc ▸ bo3)).symm
      · rw [show ab_iy 5 = 12 from rfl, ab_svd_m _ _ 12 (by decide) (by decide)]; exact sc.trans (ab_bit01 (show ab_bo (v 0 13) from sc ▸ bo5)).symm
      · rw [show ab_iy 6 = 13 from rfl, ab_svd_m _ _ 13 (by decide) (by decide)]; exact sc
      · rw [show ab_iy 7 = 14 from rfl, ab_svd_m _ _ 14 (by decide) (by decide)]; exact sc
      · rw [show ab_iy 8 = 15 from rfl, ab_svd_m _ _ 15 (by decide) (by decide)]; exact sc
      · rw [show ab_iy 9 = 16 from rfl, ab_svd_m _ _ 16 (by decide) (by decide)]; exact sc
      · rw [show ab_iy 10 = 17 from rfl, ab_svd_m _ _ 17 (by decide) (by decide)]; exact sc
      · rw [show ab_iy 11 = 18 from rfl, ab_svd_m _ _ 18 (by decide) (by decide)]; exact sc
      · rw [show ab_iy 12 = 19 from rfl, ab_svd_m _ _ 19 (by decide) (by decide)]; exact sc
      · rw [show ab_iy 13 = 20 from rfl, ab_svd_20]; exact sc
      · rw [show ab_iy 14 = 21 from rfl, ab_svd_21]; exact sc
    · have e9 : ab_bd B k = ab_bd 0 k := by unfold ab_bd; split <;> first | rfl | omega
      rw [← e9]; exact hn
  · rw [hx 3 (by decide), hx 4 (by decide), ab_svd_22, ab_bit01 h.2.2.1.2.2]; exact h.2.2.1.1
  · rw [hx 4 (by decide)]; exact h.2.2.1.2.1
  · rw [ab_svd_22, ab_bit01 h.2.2.1.2.2]; exact h.2.2.1.2.2
  · rw [hy k hk, ab_svd_c _ _ k hk]; exact h.2.2.2.2.1 k hk
/-! restore -/
theorem ab_rs313 {O : Nat} (hO : O ≤ 540) (k : Nat) : ∀ (w : SS) (j : Nat), j ≤ 512 → 512 < j + k → g_MD_restore_313 k w (nI O) (nI j) = (1, ab_cp w 1 512 j 512 (fun i => w 5 (O + 23 + i))) := by
  induction k with
  | zero => intro w j h1 h2; omega
  | succ k ih =>
    intro w j h1 h2
    have g : (512 : Int32) ≤ nI j ↔ 512 ≤ j := nI_leI (a := 512) (by decide) (by omega)
    rw [g_MD_restore_313]
    by_cases e : 512 ≤ j
    · rw [if_pos (g.mpr e), show j = 512 by omega, ab_cp_nil]
    · rw [if_neg (fun q => e (g.mp q)), nI_1, show (23 : Int32) = nI 23 from rfl, show (512 : Int32) = nI 512 from rfl, nI_add, nI_add, nI_add, nI_clamp (by omega), nI_clamp (by omega), ih _ (j + 1) (by omega) (by omega)]
      have e1 : (fun i => stt w 1 (512 + j) (w 5 (O + 23 + j)) 5 (O + 23 + i)) = fun i => w 5 (O + 23 + i) := funext fun i => stt_a (by decide)
      rw [e1, ab_cp_step (f := fun i => w 5 (O + 23 + i)) (by omega)]
/-- the reference's numbers out of a slot -/
def ab_rsn (w : SS) (O : Nat) : SS :=
  stt (stt (stt (stt (stt (stt (stt (stt (stt (stt (stt (stt (stt (stt (f_MD_setFlags w (w 5 (O + 8))) 0 9 (w 5 (O + 9))) 0 10 (w 5 (O + 10))) 0 11 (if w 5 (O + 11) = 1 then 1 else 0 : Int32)) 0 13 (if w 5 (O + 12) = 1 then 1 else 0 : Int32)) 0 14 (w 5 (O + 13))) 0 15 (w 5 (O + 14))) 0 16 (w 5 (O + 15))) 0 17 (w 5 (O + 16))) 0 18 (w 5 (O + 17))) 0 19 (w 5 (O + 18))) 0 20 (w 5 (O + 19))) 0 21 (w 5 (O + 20))) 0 22 (w 5 (O + 21))) 0 12 (if w 5 (O + 22) = 1 then 1 else 0 : Int32)
theorem ab_sf5 {w : SS} {x : Int32} {b j : Nat} (h : b ≠ 0) : f_MD_setFlags w x b j = w b j := by
  unfold f_MD_setFlags; rw [stt_a h, stt_a h, stt_a h, stt_a h, stt_a h]
theorem ab_nO {O c : Nat} (hO : O ≤ 540) (hc : c < 600) : (nI O + nI c).toNatClampNeg = O + c := by rw [nI_add, nI_clamp (by omega)]
theorem ab_rs59 {O : Nat} (hO : O ≤ 540) (k : Nat) : ∀ (w : SS) (j : Nat), j ≤ 8 → 8 < j + k → g_MD_restore_59 k w (nI O) (nI j) = g_MD_restore_313 513 (ab_rsn (ab_cp w 2 0 j 8 (fun i => w 5 (O + i))) O) (nI O) 0 := by
  induction k with
  | zero => intro w j h1 h2; omega
  | succ k ih =>
    intro w j h1 h2
    have g : (8 : Int32) ≤ nI j ↔ 8 ≤ j := nI_leI (a := 8) (by decide) (by omega)
    rw [g_MD_restore_59]
    by_cases e : 8 ≤ j
    · rw [if_pos (g.mpr e), show j = 8 by omega, ab_cp_nil]
      unfold ab_rsn
      rw [show (nI O + 8).toNatClampNeg = O + 8 from ab_nO hO (by decide), show (nI O + 9).toNatClampNeg = O + 9 from ab_nO hO (by decide), show (nI O + 10).toNatClampNeg = O + 10 from ab_nO hO (by decide), show (nI O + 11).toNatClampNeg = O + 11 from ab_nO hO (by decide), show (nI O + 12).toNatClampNeg = O + 12 from ab_nO hO (by decide), show (nI O + 13).toNatClampNeg = O + 13 from ab_nO hO (by decide), show (nI O + 14).toNatClampNeg = O + 14 from ab_nO hO (by decide), show (nI O + 15).toNatClampNeg = O + 15 from ab_nO hO (by decide), show (nI O + 16).toNatClampNeg = O + 16 from ab_nO hO (by decide), show (nI O + 17).toNatClampNeg = O + 17 from ab_nO hO (by decide), show (nI O + 18).toNatClampNeg = O + 18 from ab_nO hO (by decide), show (nI O + 19).toNatClampNeg = O + 19 from ab_nO hO (by decide), show (nI O + 20).toNatClampNeg = O + 20 from ab_nO hO (by decide), show (nI O + 21).toNatClampNeg = O + 21 from ab_nO hO (by decide), show (nI O + 22).toNatClampNeg = O + 22 from ab_nO hO (by decide)]
      simp only [ab_sf5 (show (5 : Nat) ≠ 0 by decide)]
    · rw [if_neg (fun q => e (g.mp q)), nI_1, nI_add, nI_clamp (by omega), nI_clamp (by omega), ih _ (j + 1) (by omega) (by omega)]
      have e1 : (fun i => stt w 2 j (w 5 (O + j)) 5 (O + i)) = fun i => w 5 (O + i) := funext fun i => stt_a (by decide)
      have e2 := ab_cp_step (w := w) (a := 2) (O := 0) (j := j) (n := 8) (f := fun i => w 5 (O + i)) (by omega)
      rw [Nat.zero_add] at e2
      rw [e1, e2]
theorem ab_rsn_n {w : SS} {O b j : Nat} (h : b ≠ 0) : ab_rsn w O b j = w b j := by
  unfold ab_rsn
  rw [stt_a h, stt_a h, stt_a h, stt_a h, stt_a h, stt_a h, stt_a h, stt_a h, stt_a h, stt_a h, stt_a h, stt_a h, stt_a h, stt_a h, ab_sf5 h]
theorem ab_eq1 {x : Int32} (h : ab_bo x) : (if x = 1 then 1 else 0 : Int32) = x := by rcases h with rfl | rfl <;> rfl
end SR

/-! what State.become gives, place by place; save and restore of class and reference -/
section SV
variable {z u v v' : SS} {B : Nat}
theorem bc3_s (k : Nat) (hk : k < 15) : (f_State_become_3_10 z u).1 1 k = u 0 k := by
  unfold f_State_become_3_10
  dsimp only
  rcases (show k = 0 ∨ k = 1 ∨ k = 2 ∨ k = 3 ∨ k = 4 ∨ k = 5 ∨ k = 6 ∨ k = 7 ∨ k = 8 ∨ k = 9 ∨ k = 10 ∨ k = 11 ∨ k = 12 ∨ k = 13 ∨ k = 14 by omega) with rfl | rfl | rfl | rfl | rfl | rfl | rfl | rfl | rfl | rfl | rfl | rfl | rfl | rfl | rfl <;> simp [stt_ap]
theorem bc3_r (k : Nat) (hk : k < 512) : (f_State_become_3_10 z u).1 2 k = u 1 k := by
  have e : (f_State_become_3_10 z u).1 2 k = va_cpy (u 1) (z 2) 0 0 512 k := by
    unfold f_State_become_3_10
    simp [stt_ap, va_up]
  rw [e, pk_cpy_in (Nat.zero_le _) (by omega)]
  congr 1
  omega
theorem bc3_g (k : Nat) (hk : k < 8) : (f_State_become_3_10 z u).1 3 k = u 2 k := by
  have e : (f_State_become_3_10 z u).1 3 k = va_cpy (u 2) (z 3) 0 0 8 k := by
    unfold f_State_become_3_10
    simp [stt_ap, va_up]
  rw [e, pk_cpy_in (Nat.zero_le _) (by omega)]
  congr 1
  omega
theorem bc3_o (b j : Nat) (h1 : b ≠ 1) (h2 : b ≠ 2) (h3 : b ≠ 3) : (f_State_become_3_10 z u).1 b j = z b j := by
  unfold f_State_become_3_10
  simp [stt_ap, va_up, h1, h2, h3]
theorem bc6_s (k : Nat) (hk : k < 15) : (f_State_become_6_10 z u).1 4 k = u 0 k := by
  unfold f_State_become_6_10
  dsimp only
  rcases (show k = 0 ∨ k = 1 ∨ k = 2 ∨ k = 3 ∨ k = 4 ∨ k = 5 ∨ k = 6 ∨ k = 7 ∨ k = 8 ∨ k = 9 ∨ k = 10 ∨ k = 11 ∨ k = 12 ∨ k = 13 ∨ k = 14 by omega) with rfl | rfl | rfl | rfl | rfl | rfl | rfl | rfl | rfl | rfl | rfl | rfl | rfl | rfl | rfl <;> simp [stt_ap]
theorem bc6_r (k : Nat) (hk : k < 512) : (f_State_become_6_10 z u).1 5 k = u 1 k := by
  have e : (f_State_become_6_10 z u).1 5 k = va_cpy (u 1) (z 5) 0 0 512 k := by
    unfold f_State_become_6_10
    simp [stt_ap, va_up]
  rw [e, pk_cpy_in (Nat.zero_le _) (by omega)]
  congr 1
  omega
theorem bc6_g (k : Nat) (hk : k < 8) : (f_State_become_6_10 z u).1 6 k = u 2 k := by
  have e : (f_State_become_6_10 z u).1 6 k = va_cpy (u 2) (z 6) 0 0 8 k := by
    unfold f_State_become_6_10
    simp [stt_ap, va_up]
  rw [e, pk_cpy_in (Nat.zero_le _) (by omega)]
  congr 1
  omega
theorem bc6_o (b j : Nat) (h1 : b ≠ 4) (h2 : b ≠ 5) (h3 : b ≠ 6) : (f_State_become_6_10 z u).1 b j = z b j := by
  unfold f_State_become_6_10
  simp [stt_ap, va_up, h1, h2, h3]
theorem bd3_s (k : Nat) (hk : k < 15) : (f_State_become_10_3 z u).2 0 k = z 1 k := by
  unfold f_State_become_10_3
  dsimp only
  rcases (show k = 0 ∨ k = 1 ∨ k = 2 ∨ k = 3 ∨ k = 4 ∨ k = 5 ∨ k = 6 ∨ k = 7 ∨ k = 8 ∨ k = 9 ∨ k = 10 ∨ k = 11 ∨ k = 12 ∨ k = 13 ∨ k = 14 by omega) with rfl | rfl | rfl | rfl | rfl | rfl | rfl | rfl | rfl | rfl | rfl | rfl | rfl | rfl | rfl <;> simp [stt_ap]
theorem bd3_t (k : Nat) (hk : 15 ≤ k) : (f_State_become_10_3 z u).2 0 k = u 0 k := by
  unfold f_State_become_10_3
  dsimp only
  rw [stt_n (by omega), stt_n (by omega), stt_n (by omega), stt_n (by omega), stt_n (by omega), stt_n (by omega), stt_n (by omega), stt_n (by omega), stt_n (by omega), stt_n (by omega), stt_n (by omega), stt_n (by omega), stt_n (by omega), stt_n (by omega), stt_n (by omega)]
  simp [va_up]
theorem bd3_r (k : Nat) (hk : k < 512) : (f_State_become_10_3 z u).2 1 k = z 2 k := by
  have e : (f_State_become_10_3 z u).2 1 k = va_cpy (z 2) (u 1) 0 0 512 k := by
    unfold f_State_become_10_3
    simp [stt_ap, va_up]
  rw [e, pk_cpy_in (Nat.zero_le _) (by omega)]
  congr 1
  omega
theorem bd3_g (k : Nat) (hk : k < 8) : (f_State_become_10_3 z u).2 2 k = z 3 k := by
  have e : (f_State_become_10_3 z u).2 2 k = va_cpy (z 3) (u 2) 0 0 8 k := by
    unfold f_State_become_10_3
    simp [stt_ap, va_up]
  rw [e, pk_cpy_in (Nat.zero_le _) (by omega)]
  congr 1
  omega
theorem bd3_o (b j : Nat) (h1 : 2 < b) : (f_State_become_10_3 z u).2 b j = u b j := by
  have a0 : b ≠ 0 := by omega
  have a1 : b ≠ 1 := by omega
  have a2 : b ≠ 2 := by omega
  unfold f_State_become_10_3
  simp [stt_ap, va_up, a0, a1, a2]
theorem bd6_s (k : Nat) (hk : k < 15) : (f_State_become_10_6 z u).2 0 k = z 4 k := by
  unfold f_State_become_10_6
  dsimp only
  rcases (show k = 0 ∨ k = 1 ∨ k = 2 ∨ k = 3 ∨ k = 4 ∨ k = 5 ∨ k = 6 ∨ k = 7 ∨ k = 8 ∨ k = 9 ∨ k = 10 ∨ k = 11 ∨ k = 12 ∨ k = 13 ∨ k = 14 by omega) with rfl | rfl | rfl | rfl | rfl | rfl | rfl | rfl | rfl | rfl | rfl | rfl | rfl | rfl | rfl <;> simp [stt_ap]
theorem bd6_t (k : Nat) (hk : 15 ≤ k) : (f_State_become_10_6 z u).2 0 k = u 0 k := by
  unfold f_State_become_10_6
  dsimp only
  rw [stt_n (by omega), stt_n (by omega), stt_n (by omega), stt_n (by omega), stt_n (by omega), stt_n (by omega), stt_n (by omega), stt_n (by omega), stt_n (by omega), stt_n (by omega), stt_n (by omega), stt_n (by omega), stt_n (by omega), stt_n (by omega), stt_n (by omega)]
  simp [va_up]
theorem bd6_r (k : Nat) (hk : k < 512) : (f_State_become_10_6 z u).2 1 k = z 5 k := by
  have e : (f_State_become_10_6 z u).2 1 k = va_cpy (z 5) (u 1) 0 0 512 k := by
    unfold f_State_become_10_6
    simp [stt_ap, va_up]
  rw [e, pk_cpy_in (Nat.zero_le _) (by omega)]
  congr 1
  omega
theorem bd6_g (k : Nat) (hk : k < 8) : (f_State_become_10_6 z u).2 2 k = z 6 k := by
  have e : (f_State_become_10_6 z u).2 2 k = va_cpy (z 6) (u 2) 0 0 8 k := by
    unfold f_State_become_10_6
    simp [stt_ap, va_up]
  rw [e, pk_cpy_in (Nat.zero_le _) (by omega)]
  congr 1
  omega
theorem bd6_o (b j : Nat) (h1 : 2 < b) : (f_State_become_10_6 z u).2 b j = u b j := by
  have a0 : b ≠ 0 := by omega
  have a1 : b ≠ 1 := by omega
  have a2 : b ≠ 2 := by omega
  unfold f_State_become_10_6
  simp [stt_ap, va_up, a0, a1, a2]
theorem ab_SL_rng {x y w : Nat → Int32} {o : Nat} (h : ab_SL x y w o v) (h5 : ∀ j, o ≤ j → j < o + 535 → v' 5 j = v 5 j) : ab_SL x y w o v' := by
  have i21 : ∀ k, k < 15 → ab_iy k ≤ 21 := by decide +kernel
  refine ⟨fun k hk => ?_, ?_, fun k k1 k2 k3 => ?_, ?_, fun k hk => ?_⟩
  · rw [h5 _ (by omega) (by omega)]; exact h.1 k hk
  · rw [h5 _ (by omega) (by omega)]; exact h.2.1
  · have := i21 k k1; rw [h5 _ (by omega) (by omega)]; exact h.2.2.1 k k1 k2 k3
  · rw [h5 _ (by omega) (by omega)]; exact h.2.2.2.1
  · rw [h5 _ (by omega) (by omega)]; exact h.2.2.2.2 k hk
theorem ab_SL_cg {x y w x' y' w' : Nat → Int32} {o : Nat} (h : ab_SL x y w o v) (ex : x' = x) (ey : y' = y) (ew : w' = w) : ab_SL x' y' w' o v := by subst ex ey ew; exact h
theorem ab_Q_bo5 (h : ab_Q (ab_bd B) ab_jR u v) : ∀ k, 3 ≤ k → k ≤ 5 → ab_bo (u 0 k) := by
  intro k k1 k2
  rcases (show k = 3 ∨ k = 4 ∨ k = 5 by omega) with rfl | rfl | rfl
  · exact ab_Q_bo3 h
  · exact h.2.2.1.2.1
  · obtain ⟨n, hn, e⟩ := ab_Q_bd h 5
    have hn' : n < 2 := hn
    rcases (show n = 0 ∨ n = 1 by omega) with rfl | rfl
    · exact Or.inl e
    · exact Or.inr e
theorem ab_save0 (h : ab_RT B z u v) : ab_RT B (stt (f_State_become_3_10 z u).1 7 0 1) u (ab_svd (stt (stt v 0 0 0) 4 0 1) (540 * 0)) := by
  have q1 : ab_Q (ab_bd B) ab_jR u (stt (stt v 0 0 0) 4 0 1) := ab_Q_far (ab_Q_own h.1 0 0 (Or.inl rfl)) 4 0 1 (by decide)
  refine ⟨ab_Q_ext q1 (fun b j hb hn => ab_svd_o _ _ b j (by omega)), ⟨?_, ?_⟩, fun s hs => ?_⟩
  · rw [stt_a (by decide), bc3_o 0 0 (by decide) (by decide) (by decide), ab_svd_o _ _ 0 1 (by omega), stt_a (by decide), stt_k (by decide)]; exact h.2.1.1
  · rw [stt_a (by decide), bc3_o 0 0 (by decide) (by decide) (by decide)]; exact h.2.1.2
  · have ez : ∀ b, b ≠ 7 → stt (f_State_become_3_10 z u).1 7 0 1 b = (f_State_become_3_10 z u).1 b := fun b hb => funext fun j => stt_a hb
    rw [ab_svd_o _ _ 4 s (by omega)]
    rcases (show s = 0 ∨ s = 1 by omega) with rfl | rfl
    · refine ⟨by rw [stt_s, stt_s], by rw [stt_s]; exact ab_bo1, fun _ => ?_, fun k k1 k2 => ?_⟩
      · rw [ez _ (by decide), ez _ (by decide), ez _ (by decide)]
        exact ab_svS q1 (540 * 0) (fun k hk => bc3_s k hk) (fun k hk => bc3_r k hk) (fun k hk => bc3_g k hk)
      · rw [stt_a (by decide)]
        rw [show (1 + 3 * 0) = 1 from rfl, bc3_s k (by omega)]; exact ab_Q_bo5 h.1 k k1 k2
    · obtain ⟨a1, a2, a3, a4⟩ := h.2.2 1 (by decide)
      have e7 : stt (f_State_become_3_10 z u).1 7 0 1 7 1 = z 7 1 := by rw [stt_k (by decide), bc3_o 7 1 (by decide) (by decide) (by decide)]
      rw [e7, stt_k (by decide), stt_a (by decide)]
      refine ⟨a1, a2, fun q => ?_, fun k k1 k2 => ?_⟩
      · rw [ez _ (by decide), ez _ (by decide), ez _ (by decide)]
        refine ab_SL_cg (ab_SL_rng (a3 q) (fun j j1 j2 => ?_)) (funext fun j => bc3_o _ j (by decide) (by decide) (by decide)) (funext fun j => bc3_o _ j (by decide) (by decide) (by decide)) (funext fun j => bc3_o _ j (by decide) (by decide) (by decide))
        rw [ab_svd_o _ _ 5 j (by omega), stt_a (by decide), stt_a (by decide)]
      · rw [stt_a (by decide), bc3_o _ k (by decide) (by decide) (by decide)]; exact a4 k k1 k2
theorem ab_save1 (h : ab_RT B z u v) : ab_RT B (stt (f_State_become_6_10 z u).1 7 1 1) u (ab_svd (stt (stt v 0 0 0) 4 1 1) (540 * 1)) := by
  have q1 : ab_Q (ab_bd B) ab_jR u (stt (stt v 0 0 0) 4 1 1) := ab_Q_far (ab_Q_own h.1 0 0 (Or.inl rfl)) 4 1 1 (by decide)
  refine ⟨ab_Q_ext q1 (fun b j hb hn => ab_svd_o _ _ b j (by omega)), ⟨?_, ?_⟩, fun s hs => ?_⟩
  · rw [stt_a (by decide), bc6_o 0 0 (by decide) (by decide) (by decide), ab_svd_o _ _ 0 1 (by omega), stt_a (by decide), stt_k (by decide)]; exact h.2.1.1
  · rw [stt_a (by decide), bc6_o 0 0 (by decide) (by decide) (by decide)]; exact h.2.1.2
  · have ez : ∀ b, b ≠ 7 → stt (f_State_become_6_10 z u).1 7 1 1 b = (f_State_become_6_10 z u).1 b := fun b hb => funext fun j => stt_a hb
    rw [ab_svd_o _ _ 4 s (by omega)]
    rcases (show s = 1 ∨ s = 0 by omega) with rfl | rfl
    · refine ⟨by rw [stt_s, stt_s], by rw [stt_s]; exact ab_bo1, fun _ => ?_, fun k k1 k2 => ?_⟩
      · rw [ez _ (by decide), ez _ (by decide), ez _ (by decide)]
        exact ab_svS q1 (540 * 1) (fun k hk => bc6_s k hk) (fun k hk => bc6_r k hk) (fun k hk => bc6_g k hk)
      · rw [stt_a (by decide)]
        rw [show (1 + 3 * 1) = 4 from rfl, bc6_s k (by omega)]; exact ab_Q_bo5 h.1 k k1 k2
    · obtain ⟨a1, a2, a3, a4⟩ := h.2.2 0 (by decide)
      have e7 : stt (f_State_become_6_10 z u).1 7 1 1 7 0 = z 7 0 := by rw [stt_k (by decide), bc6_o 7 0 (by decide) (by decide) (by decide)]
      rw [e7, stt_k (by decide), stt_a (by decide)]
      refine ⟨a1, a2, fun q => ?_, fun k k1 k2 => ?_⟩
      · rw [ez _ (by decide), ez _ (by decide), ez _ (by decide)]
        refine ab_SL_cg (ab_SL_rng (a3 q) (fun j j1 j2 => ?_)) (funext fun j => bc6_o _ j (by decide) (by decide) (by decide)) (funext fun j => bc6_o _ j (by decide) (by decide) (by decide)) (funext fun j => bc6_o _ j (by decide) (by decide) (by decide))
        rw [ab_svd_o _ _ 5 j (by omega), stt_a (by decide), stt_a (by decide)]
      · rw [stt_a (by decide), bc6_o _ k (by decide) (by decide) (by decide)]; exact a4 k k1 k2
theorem ab_cSave (h : ab_RT B z u v) (x : Int32) : (f_AB_save z u x).1 = (f_MD_save v x).1 ∧ ab_RT B (f_AB_save z u x).2.1 (f_AB_save z u x).2.2 (f_MD_save v x).2 := by
  have h0 := ab_RT_thr h 0
  unfold f_AB_save f_MD_save
  by_cases e1 : x < 0
  · rw [if_pos e1, if_neg (show ¬ x = 0 from fun q => absurd e1 (by rw [q]; decide)), if_neg (show ¬ x = 1 from fun q => absurd e1 (by rw [q]; decide))]
    exact ⟨rfl, h0⟩
  · rw [if_neg e1]
    obtain ⟨n, hn, rfl⟩ := nI_of e1
    have l2 : nI n < 2 ↔ n < 2 := nI_ltI (b := 2) hn (by decide)
    have i0 : nI n = 0 ↔ n = 0 := nI_eq (b := 0) hn (by decide)
    have i1 : nI n = 1 ↔ n = 1 := nI_eq (b := 1) hn (by decide)
    by_cases e2 : n < 2
    · rw [if_pos (l2.mpr e2)]
      rcases (show n = 0 ∨ n = 1 by omega) with rfl | rfl
      · rw [if_pos (i0.mpr rfl), if_pos (i0.mpr rfl), show (540 : Int32) * nI 0 = nI 0 from rfl, show (nI 0).toNatClampNeg = 0 from rfl, ab_sv (by decide)]
        exact ⟨rfl, ab_save0 h⟩
      · rw [if_neg (show ¬ nI 1 = 0 by decide), if_neg (show ¬ nI 1 = 0 by decide), if_pos (i1.mpr rfl), show (540 : Int32) * nI 1 = nI 540 from rfl, show (nI 1).toNatClampNeg = 1 from rfl, ab_sv (by decide)]
        exact ⟨rfl, ab_save1 h⟩
    · rw [if_neg (fun q => e2 (l2.mp q)), if_neg (show ¬ nI n = 0 from fun q => by have := i0.mp q; omega), if_neg (show ¬ nI n = 1 from fun q => by have := i1.mp q; omega)]
      exact ⟨rfl, h0⟩
/-- the reference's state behind 'restore' -/
def ab_rsd (w : SS) (O : Nat) : SS := ab_cp (ab_rsn (ab_cp w 2 0 0 8 (fun i => w 5 (O + i))) O) 1 512 0 512 (fun i => ab_rsn (ab_cp w 2 0 0 8 (fun i => w 5 (O + i))) O 5 (O + 23 + i))
theorem ab_rs {O : Nat} (hO : O ≤ 540) (w : SS) : g_MD_restore_59 9 w (nI O) 0 = (1, ab_rsd w O) := by
  rw [show (0 : Int32) = nI 0 from rfl, ab_rs59 hO 9 w 0 (by omega) (by omega), show (0 : Int32) = nI 0 from rfl, ab_rs313 hO 513 _ 0 (by omega) (by omega)]
  rfl
theorem ab_rsd_far (w : SS) (O b j : Nat) (hb : 3 ≤ b) : ab_rsd w O b j = w b j := by
  unfold ab_rsd
  rw [ab_cp_out (by omega), ab_rsn_n (by omega), ab_cp_out (by omega)]
theorem ab_rsd_rom (w : SS) (O j : Nat) (hj : j < 512) : ab_rsd w O 1 j = w 1 j := by
  unfold ab_rsd
  rw [ab_cp_out (by omega), ab_rsn_n (by omega), ab_cp_out (by omega)]
theorem ab_rsd_ram (w : SS) (O j : Nat) (hj : j < 512) : ab_rsd w O 1 (512 + j) = w 5 (O + 23 + j) := by
  unfold ab_rsd
  rw [ab_cp_in (by omega) hj, ab_rsn_n (by omega), ab_cp_out (by omega)]
theorem ab_rsd_reg (w : SS) (O j : Nat) (hj : j < 8) : ab_rsd w O 2 j = w 5 (O + j) := by
  unfold ab_rsd
  rw [ab_cp_out (by omega), ab_rsn_n (by omega)]
  have := ab_cp_in (w := w) (a := 2) (O := 0) (lo := 0) (hi := 8) (i := j) (f := fun i => w 5 (O + i)) (by omega) hj
  rw [Nat.zero_add] at this
  exact this
theorem ab_rsd_sc (w : SS) (O j : Nat) : ab_rsd w O 0 j = ab_rsn (ab_cp w 2 0 0 8 (fun i => w 5 (O + i))) O 0 j := by
  unfold ab_rsd
  rw [ab_cp_out (by omega)]
theorem ab_FL_set {s z h p k : Int32} (hs : ab_bo s) (hz : ab_bo z) (hh : ab_bo h) (hp : ab_bo p) (hk : ab_bo k) :
    (if (ab_FL s z h p k &&& 128) = 0 then 0 else 1 : Int32) = s ∧ (if (ab_FL s z h p k &&& 64) = 0 then 0 else 1 : Int32) = z ∧ (if (ab_FL s z h p k &&& 16) = 0 then 0 else 1 : Int32) = h ∧ (if (ab_FL s z h p k &&& 4) = 0 then 0 else 1 : Int32) = p ∧ (if (ab_FL s z h p k &&& 1) = 0 then 0 else 1 : Int32) = k := by
  rcases hs with rfl | rfl <;> rcases hz with rfl | rfl <;> rcases hp with rfl | rfl <;> rcases hh with rfl | rfl <;> rcases hk with rfl | rfl <;> decide
/-- the class's state u' out of the slot (x, y, w), the reference's out of its own -/
theorem ab_rsQ {x y w : Nat → Int32} {O : Nat} {u' : SS} (h : ab_Q (ab_bd B) ab_jR u v) (hs : ab_SL x y w O v) (h0 : ∀ k, k < 15 → u' 0 k = x k) (h15 : ∀ k, 15 ≤ k → u' 0 k = u 0 k) (hr : ∀ k, k < 512 → u' 1 k = y k) (hg : ∀ k, k < 8 → u' 2 k = w k) (ho : ∀ b j, 2 < b → u' b j = u b j) : ab_Q (ab_bd B) ab_jR u' (ab_rsd v O) := by
  obtain ⟨s1, ⟨s2, fs, fz, fh, fp, fk, b1, b2, b3, b4, b5, efl⟩, s3, ⟨s4, s5, s6⟩, s7⟩ := hs
  have w5 : ∀ i, (ab_cp v 2 0 0 8 (fun i => v 5 (O + i))) 5 i = v 5 i := fun i => ab_cp_out (by omega)
  have w0 : ∀ i, (ab_cp v 2 0 0 8 (fun i => v 5 (O + i))) 0 i = v 0 i := fun i => ab_cp_out (by omega)
  have sf := ab_FL_set b1 b2 b3 b4 b5
  have x3 : ab_bo (x 3) := by
    obtain ⟨n, hn, e⟩ := (s3 3 (by decide) (by decide) (by decide)).2
    have hn' : n < 2 := hn
    rcases (show n = 0 ∨ n = 1 by omega) with rfl | rfl
    · exact Or.inl e
    · exact Or.inr e
  have x5 : ab_bo (x 5) := by
    obtain ⟨n, hn, e⟩ := (s3 5 (by decide) (by decide) (by decide)).2
    have hn' : n < 2 := hn
    rcases (show n = 0 ∨ n = 1 by omega) with rfl | rfl
    · exact Or.inl e
    · exact Or.inr e
  have e8 : v 5 (O + 8) = ab_FL fs fz fh fp fk := s2 ▸ efl
  have r4 : ab_rsd v O 0 4 = fs := by rw [ab_rsd_sc]; unfold ab_rsn f_MD_setFlags; simp [stt_ap, w5, e8, sf.1]
  have r5 : ab_rsd v O 0 5 = fz := by rw [ab_rsd_sc]; unfold ab_rsn f_MD_setFlags; simp [stt_ap, w5, e8, sf.2.1]
  have r6 : ab_rsd v O 0 6 = fh := by rw [ab_rsd_sc]; unfold ab_rsn f_MD_setFlags; simp [stt_ap, w5, e8, sf.2.2.1]
  have r7 : ab_rsd v O 0 7 = fp := by rw [ab_rsd_sc]; unfold ab_rsn f_MD_setFlags; simp [stt_ap, w5, e8, sf.2.2.2.1]
  have r8 : ab_rsd v O 0 8 = fk := by rw [ab_rsd_sc]; unfold ab_rsn f_MD_setFlags; simp [stt_ap, w5, e8, sf.2.2.2.2]
  have r12 : ab_rsd v O 0 12 = v 5 (O + 22) := by rw [ab_rsd_sc]; unfold ab_rsn; rw [stt_s, w5]; exact ab_eq1 s6
  refine ⟨fun k k1 k2 k3 => ?_, ⟨?_, ab_bo5 r4 r5 r6 r7 r8 b1 b2 b3 b4 b5⟩, ⟨?_, ?_, ?_⟩, fun k hk => ?_, fun k hk => ?_, fun k hk => ?_, fun k hk => ?_⟩
  · by_cases e : k < 15
    · rw [h0 k e]
      obtain ⟨a1, n, hn, en⟩ := s3 k e k2 k3
      refine ⟨?_, n, ?_, en⟩
      · rcases (show k = 1 ∨ k = 2 ∨ k = 3 ∨ k = 5 ∨ k = 6 ∨ k = 7 ∨ k = 8 ∨ k = 9 ∨ k = 10 ∨ k = 11 ∨ k = 12 ∨ k = 13 ∨ k = 14 by omega) with rfl | rfl | rfl | rfl | rfl | rfl | rfl | rfl | rfl | rfl | rfl | rfl | rfl
        · rw [show ab_ix 1 = 9 from rfl, ab_rsd_sc]; unfold ab_rsn; simp [stt_ap, w5]; exact a1
        · rw [show ab_ix 2 = 10 from rfl, ab_rsd_sc]; unfold ab_rsn; simp [stt_ap, w5]; exact a1
        · rw [show ab_ix 3 = 11 from rfl, ab_rsd_sc]; unfold ab_rsn; simp only [stt_ap, w5]; simp; exact a1.trans (ab_eq1 (show ab_bo (v 5 (O + 11)) from a1 ▸ x3)).symm
        · rw [show ab_ix 5 = 13 from rfl, ab_rsd_sc]; unfold ab_rsn; simp only [stt_ap, w5]; simp; exact a1.trans (ab_eq1 (show ab_bo (v 5 (O + 12)) from a1 ▸ x5)).symm
        · rw [show ab_ix 6 = 14 from rfl, ab_rsd_sc]; unfold ab_rsn; simp [stt_ap, w5]; exact a1
        · rw [show ab_ix 7 = 15 from rfl, ab_rsd_sc]; unfold ab_rsn; simp [stt_ap, w5]; exact a1
        · rw [show ab_ix 8 = 16 from rfl, ab_rsd_sc]; unfold ab_rsn; simp [stt_ap, w5]; exact a1
        · rw [show ab_ix 9 = 17 from rfl, ab_rsd_sc]; unfold ab_rsn; simp [stt_ap, w5]; exact a1
        · rw [show ab_ix 10 = 18 from rfl, ab_rsd_sc]; unfold ab_rsn; simp [stt_ap, w5]; exact a1
        · rw [show ab_ix 11 = 19 from rfl, ab_rsd_sc]; unfold ab_rsn; simp [stt_ap, w5]; exact a1
        · rw [show ab_ix 12 = 20 from rfl, ab_rsd_sc]; unfold ab_rsn; simp [stt_ap, w5]; exact a1
        · rw [show ab_ix 13 = 21 from rfl, ab_rsd_sc]; unfold ab_rsn; simp [stt_ap, w5]; exact a1
        · rw [show ab_ix 14 = 22 from rfl, ab_rsd_sc]; unfold ab_rsn; simp [stt_ap, w5]; exact a1
      · have e9 : ab_bd B k = ab_bd 0 k := by unfold ab_bd; split <;> first | rfl | omega
        rw [e9]; exact hn
    · rw [h15 k (by omega)]
      have hk := h.1 k k1 k2 k3
      refine ⟨?_, hk.2⟩
      rw [hk.1]
      rcases (show k = 15 ∨ k = 16 ∨ k = 17 by omega) with rfl | rfl | rfl
      · rw [show ab_ix 15 = 2 from rfl, ab_rsd_sc]; unfold ab_rsn f_MD_setFlags; simp [stt_ap, w0]
      · rw [show ab_ix 16 = 3 from rfl, ab_rsd_sc]; unfold ab_rsn f_MD_setFlags; simp [stt_ap, w0]
      · rw [show ab_ix 17 = 23 from rfl, ab_rsd_sc]; unfold ab_rsn f_MD_setFlags; simp [stt_ap, w0]
  · rw [h0 0 (by decide), ab_FL_e, r4, r5, r6, r7, r8]; exact efl
  · rw [h0 3 (by decide), h0 4 (by decide), r12]; exact s4
  · rw [h0 4 (by decide)]; exact s5
  · rw [r12]; exact s6
  · rw [ho 3 k (by decide), ab_rsd_rom _ _ k hk]; exact h.2.2.2.1 k hk
  · rw [hr k hk, ab_rsd_ram _ _ k hk]; exact s7 k hk
  · rw [hg k hk, ab_rsd_reg _ _ k hk]; exact s1 k hk
  · rw [ho 4 k (by decide), ab_rsd_far _ _ 3 k (by decide)]; exact h.2.2.2.2.2.2 k hk
theorem ab_rsR (h : ab_RS z v) (O : Nat) : ab_RS z (ab_rsd v O) := by
  refine ab_RS_far h ?_ (fun b j hb => ab_rsd_far _ _ b j (by omega))
  rw [ab_rsd_sc]
  unfold ab_rsn f_MD_setFlags
  simp [stt_ap]
  exact ab_cp_out (by omega)
theorem ab_cRestore (h : ab_RT B z u v) (x : Int32) : (f_MD_restore v x).2 0 0 = nI (f_AB_restore z u x).1 ∧ ((f_AB_restore z u x).1 = 0 → (f_AB_restore z u x).2.1 = (f_MD_restore v x).1) ∧ ab_RT B (f_AB_restore z u x).2.2.1 (f_AB_restore z u x).2.2.2 (f_MD_restore v x).2 := by
  unfold f_AB_restore f_MD_restore
  by_cases e1 : x < 0
  · rw [if_pos e1, if_neg (show ¬ x = 0 from fun q => absurd e1 (by rw [q]; decide)), if_neg (show ¬ x = 1 from fun q => absurd e1 (by rw [q]; decide)), if_pos (show (0 : Int32) = 0 from rfl), if_neg (show ¬ (1 : Int32) ≤ 0 by decide)]
    exact ⟨stt_s v 0 0 1, fun q => absurd (show (1 : Nat) = 0 from q) (by decide), ab_RT_thr h 1⟩
  · rw [if_neg e1]
    obtain ⟨n, hn, rfl⟩ := nI_of e1
    have l2 : nI n < 2 ↔ n < 2 := nI_ltI (b := 2) hn (by decide)
    have i0 : nI n = 0 ↔ n = 0 := nI_eq (b := 0) hn (by decide)
    have i1 : nI n = 1 ↔ n = 1 := nI_eq (b := 1) hn (by decide)
    by_cases e2 : n < 2
    · rw [if_pos (l2.mpr e2)]
      have h0 := ab_RT_thr h 0
      have thr0 : ∀ O, ab_rsd (stt v 0 0 0) O 0 0 = 0 := fun O => by
        rw [ab_rsd_sc]
        unfold ab_rsn f_MD_setFlags
        simp only [stt_ap]
        simp
        rw [ab_cp_out (by omega), stt_s]
      rcases (show n = 0 ∨ n = 1 by omega) with rfl | rfl
      · obtain ⟨a1, a2, a3, a4⟩ := h.2.2 0 (by decide)
        rw [if_pos (i0.mpr rfl), if_pos (i0.mpr rfl), if_neg (show ¬ (1 : Int32) = 0 by decide), show (nI 0).toNatClampNeg = 0 from rfl, ← a1]
        rcases a2 with e | e
        · rw [if_pos e, if_pos e, if_neg (show ¬ (2 : Int32) ≤ 0 by decide)]
          exact ⟨stt_s v 0 0 2, fun q => absurd (show (2 : Nat) = 0 from q) (by decide), ab_RT_thr h 2⟩
        · have ne : ¬ z 7 0 = 0 := by rw [e]; decide
          rw [if_neg ne, if_neg ne, if_pos (show (0 : Int32) ≤ 0 by decide), show (540 : Int32) * nI 0 = nI 0 from rfl, ab_rs (by decide)]
          dsimp only
          refine ⟨thr0 0, fun _ => rfl, ?_, ?_⟩
          · exact ab_rsQ h0.1 (ab_SL_far (a3 e) (fun j => stt_a (by decide))) (fun k hk => bd3_s k hk) (fun k hk => bd3_t k hk) (fun k hk => bd3_r k hk) (fun k hk => bd3_g k hk) (fun b j hb => bd3_o b j hb)
          · exact ab_rsR h0.2 0
      · obtain ⟨a1, a2, a3, a4⟩ := h.2.2 1 (by decide)
        rw [if_neg (show ¬ nI 1 = 0 by decide), if_neg (show ¬ nI 1 = 0 by decide), if_pos (i1.mpr rfl), if_neg (show ¬ (1 : Int32) = 0 by decide), show (nI 1).toNatClampNeg = 1 from rfl, ← a1]
        rcases a2 with e | e
        · rw [if_pos e, if_pos e, if_neg (show ¬ (2 : Int32) ≤ 0 by decide)]
          exact ⟨stt_s v 0 0 2, fun q => absurd (show (2 : Nat) = 0 from q) (by decide), ab_RT_thr h 2⟩
        · have ne : ¬ z 7 1 = 0 := by rw [e]; decide
          rw [if_neg ne, if_neg ne, if_pos (show (0 : Int32) ≤ 0 by decide), show (540 : Int32) * nI 1 = nI 540 from rfl, ab_rs (by decide)]
          dsimp only
          refine ⟨thr0 540, fun _ => rfl, ?_, ?_⟩
          · exact ab_rsQ h0.1 (ab_SL_far (a3 e) (fun j => stt_a (by decide))) (fun k hk => bd6_s k hk) (fun k hk => bd6_t k hk) (fun k hk => bd6_r k hk) (fun k hk => bd6_g k hk) (fun b j hb => bd6_o b j hb)
          · exact ab_rsR h0.2 540
    · rw [if_neg (fun q => e2 (l2.mp q)), if_neg (show ¬ nI n = 0 from fun q => by have := i0.mp q; omega), if_neg (show ¬ nI n = 1 from fun q => by have := i1.mp q; omega), if_pos (show (0 : Int32) = 0 from rfl), if_neg (show ¬ (1 : Int32) ≤ 0 by decide)]
      exact ⟨stt_s v 0 0 1, fun q => absurd (show (1 : Nat) = 0 from q) (by decide), ab_RT_thr h 1⟩
end SV
end
section
/-! A layer of my own over the kit: a walk's context (ab_cx), its heap (ab_hx), contracts whose answer and new state are given by a function (ab_ki: an int or a boolean comes back; ab_kv: nothing), their entry, their end, their calls.
    AL: the words of the tables that any of the walks needs; CL: the classes. Both stand in 01.names / 02.state. -/
/-- what a walk knows of the machine -/
def ab_cx (p : Program) (s : State) (m : MethodId) (args : Array Value) (c : Code) (cc : ByteArray) (nL : Nat) (own : String) (D : va_G) (tys : List (ClassId × FieldType)) : Prop :=
  p.tables.exec = Jvm.exec ∧ c.code = cc ∧ c.maxLocals = nL ∧ s.vm.findClass own = some m.cls ∧ (∀ w ∈ AL, w.before args s = true) ∧ va_K D CL tys s
/-- .. and of the heap: its world's cells, apart, nothing else changed since H0 -/
def ab_hx (D : va_G) (ws : va_W) (A : Nat → Prop) (H0 H : Heap) (locs : List Loc) : Prop :=
  va_P D CL ws H ∧ va_D A ws ∧ va_S A H0 H locs ∧ ∀ q, H0.size ≤ q → A q
def ab_ky_P (D : va_G) (tys : List (ClassId × FieldType)) (ws : va_W) (sz : Nat) (U : State) : Prop := U.heap.size = sz ∧ va_P D CL ws U.heap ∧ va_K D CL tys U ∧ va_D (fun _ => True) ws
def ab_ky_B {S : Type} (D : va_G) (tys : List (ClassId × FieldType)) (w : S → va_W) (A : Nat → Prop) (u : S) (t : State) : Prop := va_P D CL (w u) t.heap ∧ va_K D CL tys t ∧ va_D A (w u)
/-- method y, called with as on the state u, answers F.1 and leaves F.2 -/
def ab_ki (l : Launch) (D : va_G) (tys : List (ClassId × FieldType)) {S : Type} (w : S → va_W) (y : MethodName) (b : ByteArray) (n : Nat) (ret : FieldType) (rm : Room) (as : List Value) (u : S) (F : Int32 × S) : Prop :=
  ∀ sz : Nat, Met l y (Cond.code y b n (some ret) :: AL) rm (va_Pc as (ab_ky_P D tys (w u) sz)) (va_Qi (fun r z => r = F.1 ∧ z = F.2) (ab_ky_B D tys w (va_A (w u) sz)) (va_A (w u) sz)) 0 0 (va_A (w u) sz)
/-- .. answers nothing and leaves F -/
def ab_kv (l : Launch) (D : va_G) (tys : List (ClassId × FieldType)) {S : Type} (w : S → va_W) (y : MethodName) (b : ByteArray) (n : Nat) (rm : Room) (as : List Value) (u F : S) : Prop :=
  ∀ sz : Nat, Met l y (Cond.code y b n none :: AL) rm (va_Pc as (ab_ky_P D tys (w u) sz)) (va_Qv (fun z => z = F) (ab_ky_B D tys w (va_A (w u) sz)) (va_A (w u) sz)) 0 0 (va_A (w u) sz)
def ab_ki_E {S : Type} (below : List Frame) (args : Array Value) (s : State) (D : va_G) (tys : List (ClassId × FieldType)) (w : S → va_W) (A : Nat → Prop) (F : Int32 × S) : State → Prop :=
  MQ below (va_Qi (fun r z => r = F.1 ∧ z = F.2) (ab_ky_B D tys w A) A) args s 0 0 A
def ab_kv_E {S : Type} (below : List Frame) (args : Array Value) (s : State) (D : va_G) (tys : List (ClassId × FieldType)) (w : S → va_W) (A : Nat → Prop) (F : S) : State → Prop :=
  MQ below (va_Qv (fun z => z = F) (ab_ky_B D tys w A) A) args s 0 0 A
/-- what a call asks of the tables for the method it calls -/
def ab_yok (y : MethodName) (b : ByteArray) (n : Nat) (ret : Option FieldType) (k : Nat) : Prop :=
  Cond.code y b n ret ∈ AL ∧ Cond.initialized y.cls ∈ AL ∧ (y.cls ≠ "java/lang/invoke/MethodHandle" ∧ y.cls ≠ "java/lang/invoke/VarHandle" ∧ (parseMethodDescriptor y.desc).map (fun d => d.parameters.length) = some k)
def ab_yok_V (y : MethodName) : Prop := Cond.instanceMethod y ∈ AL ∧ Cond.selects y.cls y y ∈ AL
theorem ab_gi_AL {y : MethodName} {b : ByteArray} {n : Nat} {r : Option FieldType} (hy : Cond.code y b n r ∈ AL) : GoodIn AL (Cond.code y b n r :: AL) := by
  intro w hw
  rcases List.mem_cons.mp hw with rfl | hw
  · exact ⟨hy, Or.inl rfl⟩
  · exact ⟨hw, ab_good w hw⟩
theorem ab_ky_blind {D : va_G} {tys : List (ClassId × FieldType)} {ws : va_W} {sz : Nat} {as : List Value} : FrameBlind (va_Pc as (ab_ky_P D tys ws sz)) := by
  intro a U g mk q
  obtain ⟨q0, q1, qP, qK, qD⟩ := q
  exact ⟨q0, q1, qP, va_K.moved (u := U) (U := U.calling g mk a) (Vm.Alike.refl U.vm) qK, qD⟩
theorem ab_app_r {w1 w2 : va_W} {k : Nat} {q : Nat × va_E} (h : w2[k]? = some q) : (w1 ++ w2)[w1.length + k]? = some q := by
  rw [List.getElem?_append_right (Nat.le_add_right _ _), Nat.add_sub_cancel_left]; exact h
theorem ab_app_l {w1 w2 : va_W} {k : Nat} {q : Nat × va_E} (h : w1[k]? = some q) : (w1 ++ w2)[k]? = some q := by
  rw [List.getElem?_append_left (List.getElem?_eq_some_iff.mp h).1]; exact h
theorem ab_va_P_r {D : va_G} {w1 w2 : va_W} {H : Heap} (h : va_P D CL (w1 ++ w2) H) : va_P D CL w2 H := fun _ q hk => h _ q (ab_app_r hk)
theorem ab_va_P_l {D : va_G} {w1 w2 : va_W} {H : Heap} (h : va_P D CL (w1 ++ w2) H) : va_P D CL w1 H := fun _ q hk => h _ q (ab_app_l hk)
theorem ab_va_D_r {A : Nat → Prop} {w1 w2 : va_W} (h : va_D A (w1 ++ w2)) : va_D A w2 :=
  ⟨fun i j p q hi hj hpq => by have := h.1 _ _ p q (ab_app_r hi) (ab_app_r hj) hpq; omega, fun _ q hk => h.2 _ q (ab_app_r hk)⟩
theorem ab_va_D_l {A : Nat → Prop} {w1 w2 : va_W} (h : va_D A (w1 ++ w2)) : va_D A w1 :=
  ⟨fun i j p q hi hj hpq => h.1 _ _ p q (ab_app_l hi) (ab_app_l hj) hpq, fun _ q hk => h.2 _ q (ab_app_l hk)⟩
/-- behind a call: what stood ahead of the callee's cells is unchanged -/
theorem ab_join_app {D : va_G} {A : Nat → Prop} {wr wc w1 : va_W} {H H1 : Heap} (hP : va_P D CL (wr ++ wc) H) (hD : va_D A (wr ++ wc)) (hk : ∀ q : Nat, q < H.size → ¬ va_A wc H.size q → H1[q]? = H[q]?) (hF : ∀ q, va_A wc H.size q → A q)
    (hP1 : va_P D CL w1 H1) (hD1 : va_D (va_A wc H.size) w1) : va_P D CL (wr ++ w1) H1 ∧ va_D A (wr ++ w1) := by
  have apart : ∀ (k : Nat) (q : Nat × va_E), wr[k]? = some q → q.1 < H.size ∧ ¬ va_A wc H.size q.1 := by
    intro k q hq
    have hl : q.1 < H.size := (hP k q (ab_app_l hq)).lt
    refine ⟨hl, fun h => ?_⟩
    rcases h with ⟨k2, e, h⟩ | h
    · have h1 := hD.1 k (wr.length + k2) q (q.1, e) (ab_app_l hq) (ab_app_r h) rfl
      have h2 := (List.getElem?_eq_some_iff.mp hq).1
      omega
    · omega
  refine ⟨va_P.app (fun k q hq => (hP k q (ab_app_l hq)).kept (hk q.1 (apart k q hq).1 (apart k q hq).2)) hP1, va_D.app (ab_va_D_l hD) (hD1.weaken (fun k q _ h => hF q.1 h)) (fun i j x y h1 h2 h3 => ?_)⟩
  exact (apart i x h1).2 (by rw [h3]; exact hD1.2 j y h2)
section LY
variable {p : Program} {l : Launch} {e : Env} {R : Room} {s : State} {m : MethodId} {args : Array Value} {below : List Frame} {meth : Method} {c : Code} {H : Heap} {locs : List Loc} {cells slots : Nat} {Q : State → Prop}
variable {cc b : ByteArray} {nL n pc index k : Nat} {ls : Array Slot} {rest st as : List Value} {D : va_G} {tys : List (ClassId × FieldType)} {A : Nat → Prop} {H0 : Heap} {own : String} {y : MethodName} {ret : FieldType} {rm : Room} {S : Type} {w : S → va_W}
theorem ab_ki_ofW {u : S} {F : Int32 × S} (hy : plainName y.cls = true) (hn : (lg_sl as).length ≤ n)
    (body : ∀ (p : Program) (e : Env) (s : State) (m : MethodId) (below : List Frame) (meth : Method) (c : Code) (ls : Array Slot) (A : Nat → Prop), ab_cx p s m as.toArray c b n y.cls D tys → meth.sig.returnType = some ret → meth.locks = false → lv_has ls n (lv_args 0 as) → ab_hx D (w u) A s.heap s.heap [] →
      W p l e rm s m as.toArray below meth c s.heap [] 0 0 (ab_ki_E below as.toArray s D tys w A F) (F0 m 0 ls [])) : ab_ki l D tys w y b n ret rm as u F := by
  intro sz
  refine Met.ofW (cc := b) (maxL := n) (ret := some ret) hy rfl ?_
  intro p e s m args below meth c s₁ B hml hv
  obtain ⟨rfl, hsz, hP, hK, hD0⟩ := hv
  subst hsz
  have hts := atoms_spec (ws := Cond.code y b n (some ret) :: AL) B.pre
  rw [lg_entry_eq]
  exact body p e s m below meth c _ (va_A (w u) s.heap.size) ⟨B.exec, B.bytes, hml, findClass_of_methodNamed B.named, fun w hw => hts w (List.mem_cons_of_mem _ hw), hK⟩ B.returns B.notSynchronized (lv_entry as hn) ⟨hP, hD0.self, va_S.rf, fun q h => Or.inr h⟩
theorem ab_kv_ofW {u F : S} (hy : plainName y.cls = true) (hn : (lg_sl as).length ≤ n)
    (body : ∀ (p : Program) (e : Env) (s : State) (m : MethodId) (below : List Frame) (meth : Method) (c : Code) (ls : Array Slot) (A : Nat → Prop), ab_cx p s m as.toArray c b n y.cls D tys → meth.sig.returnType = none → meth.locks = false → lv_has ls n (lv_args 0 as) → ab_hx D (w u) A s.heap s.heap [] →
      W p l e rm s m as.toArray below meth c s.heap [] 0 0 (ab_kv_E below as.toArray s D tys w A F) (F0 m 0 ls [])) : ab_kv l D tys w y b n rm as u F := by
  intro sz
  refine Met.ofW (cc := b) (maxL := n) (ret := none) hy rfl ?_
  intro p e s m args below meth c s₁ B hml hv
  obtain ⟨rfl, hsz, hP, hK, hD0⟩ := hv
  subst hsz
  have hts := atoms_spec (ws := Cond.code y b n none :: AL) B.pre
  rw [lg_entry_eq]
  exact body p e s m below meth c _ (va_A (w u) s.heap.size) ⟨B.exec, B.bytes, hml, findClass_of_methodNamed B.named, fun w hw => hts w (List.mem_cons_of_mem _ hw), hK⟩ B.returns B.notSynchronized (lv_entry as hn) ⟨hP, hD0.self, va_S.rf, fun q h => Or.inr h⟩
theorem ab_ki_ret {u' : S} {F : Int32 × S} {v : Int32} (X : ab_cx p s m args c cc nL own D tys) (hr : meth.sig.returnType = some ret) (hk : meth.locks = false) (hX : ab_hx D (w u') A s.heap H locs) (hn : narrow ret (.int v) = .int v) (hp : F = (v, u')) (hdg : decode cc pc = .ok (.ireturn, 1)) :
    W p l e R s m args below meth c H locs 0 0 (ab_ki_E below args s D tys w A F) (F0 m pc ls [.int v]) :=
  W.zret X.1 X.2.1 hr hn (fun t ht hW => ⟨⟨v, u', rfl, ⟨by rw [hp], by rw [hp]⟩, by rw [ht]; exact hX.1, va_K.moved hW.alike X.2.2.2.2.2, hX.2.1⟩, hX.2.2.1.F ht⟩) hX.2.2.1.2.2 hdg (hlocks := hk)
theorem ab_kv_ret {u' F : S} (X : ab_cx p s m args c cc nL own D tys) (hr : meth.sig.returnType = none) (hk : meth.locks = false) (hX : ab_hx D (w u') A s.heap H locs) (hp : F = u') (hdg : decode cc pc = .ok (.return_, 1)) :
    W p l e R s m args below meth c H locs 0 0 (ab_kv_E below args s D tys w A F) (F0 m pc ls []) :=
  W.vret X.1 X.2.1 hr (fun t ht hW => ⟨⟨u', rfl, hp.symm, by rw [ht]; exact hX.1, va_K.moved hW.alike X.2.2.2.2.2, hX.2.1⟩, hX.2.2.1.F ht⟩) hX.2.2.1.2.2 hdg (hlocks := hk)
theorem ab_hx_free {wr wc : va_W} (hX : ab_hx D (wr ++ wc) A H0 H locs) : ∀ q, va_A wc H.size q → A q := by
  intro q h
  rcases h with ⟨k, e, h⟩ | h
  · exact hX.2.1.2 _ (q, e) (ab_app_r h)
  · exact hX.2.2.2 q (Nat.le_trans hX.2.2.1.1 h)
theorem ab_ky_pre {wr wc : va_W} (X : ab_cx p s m args c cc nL own D tys) (hX : ab_hx D (wr ++ wc) A H0 H locs) (as : List Value) : ∀ U : State, U.heap = H → s.WarmedH U.vm → va_Pc as (ab_ky_P D tys wc H.size) as.toArray U :=
  fun U hU hW => ⟨rfl, by rw [hU], by rw [hU]; exact ab_va_P_r hX.1, va_K.moved hW.alike X.2.2.2.2.2, (ab_va_D_r hX.2.1).weaken (fun _ _ _ _ => trivial)⟩
theorem ab_cx_B {r : Option FieldType} (X : ab_cx p s m args c cc nL own D tys) (hy : ab_yok y b n r k) (hlk : Cond.methodLink own index y ∈ AL) (hrm : rm.cells = 0 ∧ rm.slots = 0 ∧ rm.frames + 1 ≤ R.frames ∧ 8 + (n + 11) + rm.locals ≤ R.locals) :
    CallB R s args own index y b n r (Cond.code y b n r :: AL) rm 0 0 k :=
  callB_of k X.2.2.2.2.1 (ab_gi_AL hy.1) rfl hrm.1 hrm.2.1 (X.2.2.2.2.1 _ hy.2.1) (X.2.2.2.2.1 _ hlk) hy.2.2 ⟨hrm.2.2.1, hrm.2.2.2⟩
/-- invokevirtual, an int or a boolean comes back; wr: the caller's other cells -/
theorem ab_ki_callV {wr : va_W} {u : S} {F : Int32 × S} {a : Nat} (X : ab_cx p s m args c cc nL own D tys) (hX : ab_hx D (wr ++ w u) A H0 H locs) (hM : ab_ki l D tys w y b n ret rm (.ref a :: as) u F) (hy : ab_yok y b n (some ret) k) (hv : ab_yok_V y) (hlk : Cond.methodLink own index y ∈ AL)
    (q0 ci : Nat) {fs : List Value} {T : u_T} {N : Nat} (hc : CL[ci]? = some (y.cls, T, N)) (he : (wr ++ w u)[q0]? = some (a, .inr (ci, fs))) (hlen : as.length = k) (hl : ls.size = nL) (hst : st = as.reverse ++ .ref a :: rest) (hroom : (rest.map fun v => v.category).sum ≤ 8)
    (hrm : rm.cells = 0 ∧ rm.slots = 0 ∧ rm.frames + 1 ≤ R.frames ∧ 8 + (n + 11) + rm.locals ≤ R.locals) (hcs : cells ≤ R.cells ∧ slots ≤ R.slots) (hdg : decode cc pc = .ok (.invokevirtual index, 3))
    (kk : ∀ (H1 : Heap) (locs1 : List Loc), ab_hx D (wr ++ w F.2) A H0 H1 locs1 → W p l e R s m args below meth c H1 locs1 cells slots Q (F0 m (pc + 3) ls (.int F.1 :: rest))) : W p l e R s m args below meth c H locs cells slots Q (F0 m pc ls st) := by
  refine va_calli (va_runV (As := as) (rest := rest) (C := y.cls) (n := k) ⟨X.1, X.2.1, X.2.2.1, X.2.2.2.1, X.2.2.2.2.1⟩ (hM H.size) ⟨ab_cx_B X hy hlk hrm, X.2.2.2.2.1 _ hv.1, X.2.2.2.2.1 _ hv.2⟩ ⟨ab_ky_blind, va_recv X.2.2.2.2.2 hX.1 hc he, ab_ky_pre X hX _⟩ rfl hlen hl hst (lv_room hroom) hdg hcs) hX.2.2.1 (fun q _ h => ab_hx_free hX q h) (ab_hx_free hX) (fun r u' t H1 locs1 ht hvm hp hB hz hk hS => ?_)
  obtain ⟨rfl, rfl⟩ := hp
  subst ht
  obtain ⟨hP', hD'⟩ := ab_join_app hX.1 hX.2.1 hk (ab_hx_free hX) hB.1 hB.2.2
  exact kk _ _ ⟨hP', hD', hS, hX.2.2.2⟩
theorem ab_kv_callV {wr : va_W} {u F : S} {a : Nat} (X : ab_cx p s m args c cc nL own D tys) (hX : ab_hx D (wr ++ w u) A H0 H locs) (hM : ab_kv l D tys w y b n rm (.ref a :: as) u F) (hy : ab_yok y b n none k) (hv : ab_yok_V y) (hlk : Cond.methodLink own index y ∈ AL)
    (q0 ci : Nat) {fs : List Value} {T : u_T} {N : Nat} (hc : CL[ci]? = some (y.cls, T, N)) (he : (wr ++ w u)[q0]? = some (a, .inr (ci, fs))) (hlen : as.length = k) (hl : ls.size = nL) (hst : st = as.reverse ++ .ref a :: rest) (hroom : (rest.map fun v => v.category).sum ≤ 8)
    (hrm : rm.cells = 0 ∧ rm.slots = 0 ∧ rm.frames + 1 ≤ R.frames ∧ 8 + (n + 11) + rm.locals ≤ R.locals) (hcs : cells ≤ R.cells ∧ slots ≤ R.slots) (hdg : decode cc pc = .ok (.invokevirtual index, 3))
    (kk : ∀ (H1 : Heap) (locs1 : List Loc), ab_hx D (wr ++ w F) A H0 H1 locs1 → W p l e R s m args below meth c H1 locs1 cells slots Q (F0 m (pc + 3) ls rest)) : W p l e R s m args below meth c H locs cells slots Q (F0 m pc ls st) := by
  refine va_callv (va_runV (As := as) (rest := rest) (C := y.cls) (n := k) ⟨X.1, X.2.1, X.2.2.1, X.2.2.2.1, X.2.2.2.2.1⟩ (hM H.size) ⟨ab_cx_B X hy hlk hrm, X.2.2.2.2.1 _ hv.1, X.2.2.2.2.1 _ hv.2⟩ ⟨ab_ky_blind, va_recv X.2.2.2.2.2 hX.1 hc he, ab_ky_pre X hX _⟩ rfl hlen hl hst (lv_room hroom) hdg hcs) hX.2.2.1 (fun q _ h => ab_hx_free hX q h) (ab_hx_free hX) (fun u' t H1 locs1 ht hvm hp hB hz hk hS => ?_)
  subst hp
  subst ht
  obtain ⟨hP', hD'⟩ := ab_join_app hX.1 hX.2.1 hk (ab_hx_free hX) hB.1 hB.2.2
  exact kk _ _ ⟨hP', hD', hS, hX.2.2.2⟩
/-- invokestatic of a method of the class's own -/
theorem ab_ki_callS {wr : va_W} {u : S} {F : Int32 × S} (X : ab_cx p s m args c cc nL own D tys) (hX : ab_hx D (wr ++ w u) A H0 H locs) (hM : ab_ki l D tys w y b n ret rm as u F) (hy : ab_yok y b n (some ret) k) (hv : Cond.static y ∈ AL) (hlk : Cond.methodLink own index y ∈ AL)
    (hlen : as.length = k) (hl : ls.size = nL) (hst : st = as.reverse ++ rest) (hroom : (rest.map fun v => v.category).sum ≤ 8)
    (hrm : rm.cells = 0 ∧ rm.slots = 0 ∧ rm.frames + 1 ≤ R.frames ∧ 8 + (n + 11) + rm.locals ≤ R.locals) (hcs : cells ≤ R.cells ∧ slots ≤ R.slots) (hdg : decode cc pc = .ok (.invokestatic index, 3))
    (kk : ∀ (H1 : Heap) (locs1 : List Loc), ab_hx D (wr ++ w F.2) A H0 H1 locs1 → W p l e R s m args below meth c H1 locs1 cells slots Q (F0 m (pc + 3) ls (.int F.1 :: rest))) : W p l e R s m args below meth c H locs cells slots Q (F0 m pc ls st) := by
  refine va_calli (va_runS (As := as) (rest := rest) (n := k) ⟨X.1, X.2.1, X.2.2.1, X.2.2.2.1, X.2.2.2.2.1⟩ (hM H.size) ⟨ab_cx_B X hy hlk hrm, X.2.2.2.2.1 _ hv⟩ ⟨ab_ky_blind, ab_ky_pre X hX _⟩ rfl hlen hl hst (lv_room hroom) hdg hcs) hX.2.2.1 (fun q _ h => ab_hx_free hX q h) (ab_hx_free hX) (fun r u' t H1 locs1 ht hvm hp hB hz hk hS => ?_)
  obtain ⟨rfl, rfl⟩ := hp
  subst ht
  obtain ⟨hP', hD'⟩ := ab_join_app hX.1 hX.2.1 hk (ab_hx_free hX) hB.1 hB.2.2
  exact kk _ _ ⟨hP', hD', hS, hX.2.2.2⟩
/-- getfield, putfield of a class's own field -/
theorem ab_gx {ws : va_W} {a : Nat} (X : ab_cx p s m args c cc nL own D tys) (hX : ab_hx D ws A H0 H locs) (q0 ci f : Nat) {C : String} {T : u_T} {N : Nat} {fs : List Value} {v : Value} (hc : CL[ci]? = some (C, T, N)) (he : ws[q0]? = some (a, .inr (ci, fs))) (hf : f < N) (hin : ∀ w ∈ u_ws C T N, w ∈ AL) (hT : (T f).1 = C)
    (hlk : Cond.fieldLink own index C (T f).2.1 (T f).2.2.1 ∈ AL) (hv : fs[f]? = some v) (hdg : decode cc pc = .ok (.getfield index, 3))
    (kk : W p l e R s m args below meth c H locs cells slots Q (F0 m (pc + 3) ls (v :: rest))) : W p l e R s m args below meth c H locs cells slots Q (F0 m pc ls (.ref a :: rest)) :=
  va_get X.1 X.2.1 X.2.2.2.2.1 hin X.2.2.2.1 X.2.2.2.2.2 hX.1 q0 he hc f hf (X.2.2.2.2.1 _ hlk) (fun x h => by rw [hT] at h; exact h) hv hdg kk
theorem ab_px {ws ws' : va_W} {a : Nat} (X : ab_cx p s m args c cc nL own D tys) (hX : ab_hx D ws A H0 H locs) (q0 ci f : Nat) {C : String} {T : u_T} {N : Nat} {fs : List Value} {v : Value} {ty : FieldType} (ty0 : Nat → FieldType) (hty : ∀ k, k < N → parseFieldDescriptor (T k).2.2.1 = some (ty0 k)) (hnm : ∀ a, a < N → ∀ b, b < N → a ≠ b → (T a).2.1 ≠ (T b).2.1)
    (hc : CL[ci]? = some (C, T, N)) (he : ws[q0]? = some (a, .inr (ci, fs))) (hf : f < N) (hin : ∀ w ∈ u_ws C T N, w ∈ AL) (hT : (T f).1 = C) (hlk : Cond.fieldLink own index C (T f).2.1 (T f).2.2.1 ∈ AL) (hfin : (T f).2.2.2 = false) (hd : ty0 f = ty) (hn : narrow ty v = v) (hfit : fits ty v = true) (hlen : f < fs.length)
    (hws : ws.set q0 (a, .inr (ci, fs.set f v)) = ws') (hdg : decode cc pc = .ok (.putfield index, 3))
    (kk : ∀ (H1 : Heap) (locs1 : List Loc), ab_hx D ws' A H0 H1 locs1 → W p l e R s m args below meth c H1 locs1 cells slots Q (F0 m (pc + 3) ls rest)) : W p l e R s m args below meth c H locs cells slots Q (F0 m pc ls (v :: .ref a :: rest)) := by
  subst hws
  subst hd
  exact va_put X.1 X.2.1 X.2.2.2.2.1 hin ty0 hty hnm X.2.2.2.1 X.2.2.2.2.2 hX.1 hX.2.1 hX.2.2.1 q0 he hc f hf (X.2.2.2.2.1 _ hlk) (fun x h => by rw [hT] at h; exact h) hfin (hty f hf) hn hfit hlen hdg (fun H1 locs1 hP hD hS => kk H1 locs1 ⟨hP, hD, hS, hX.2.2.2⟩)
/-- iaload, iastore; baload, bastore of booleans -/
theorem ab_ald {ws : va_W} {a : Nat} (X : ab_cx p s m args c cc nL own D tys) (hX : ab_hx D ws A H0 H locs) (q0 t0 : Nat) {cA : ClassId} {n : Nat} {f : Nat → Int32} (ha : ws[q0]? = some (a, .inl (cA, n, .inl f))) (ht : tys[t0]? = some (cA, .int)) {i : Int32} (hin : vp_in i n) {j : Nat} (hj : i.toNatClampNeg = j) (hdg : decode cc pc = .ok (.iaload, 1))
    (kk : W p l e R s m args below meth c H locs cells slots Q (F0 m (pc + 1) ls (.int (f j) :: rest))) : W p l e R s m args below meth c H locs cells slots Q (F0 m pc ls (.int i :: .ref a :: rest)) := by
  subst hj
  exact va_iald X.1 X.2.1 X.2.2.2.2.2 hX.1 q0 t0 ha ht hin hdg kk
theorem ab_ast {ws ws' : va_W} {a : Nat} (X : ab_cx p s m args c cc nL own D tys) (hX : ab_hx D ws A H0 H locs) (q0 t0 : Nat) {cA : ClassId} {n : Nat} {f : Nat → Int32} (ha : ws[q0]? = some (a, .inl (cA, n, .inl f))) (ht : tys[t0]? = some (cA, .int)) {i x : Int32} (hin : vp_in i n) {j : Nat} (hj : i.toNatClampNeg = j)
    (hws : ws.set q0 (a, .inl (cA, n, .inl (upd f j x))) = ws') (hdg : decode cc pc = .ok (.iastore, 1))
    (kk : ∀ (H1 : Heap) (locs1 : List Loc), ab_hx D ws' A H0 H1 locs1 → W p l e R s m args below meth c H1 locs1 cells slots Q (F0 m (pc + 1) ls rest)) : W p l e R s m args below meth c H locs cells slots Q (F0 m pc ls (.int x :: .int i :: .ref a :: rest)) := by
  subst hj
  subst hws
  exact va_iast X.1 X.2.1 X.2.2.2.2.2 hX.1 hX.2.1 hX.2.2.1 q0 t0 ha ht hin hdg (fun H1 locs1 hP hD hS => kk H1 locs1 ⟨hP, hD, hS, hX.2.2.2⟩)
theorem ab_aldz {ws : va_W} {a : Nat} (X : ab_cx p s m args c cc nL own D tys) (hX : ab_hx D ws A H0 H locs) (q0 t0 : Nat) {cA : ClassId} {n : Nat} {f : Nat → Int32} (ha : ws[q0]? = some (a, .inl (cA, n, .inl f))) (ht : tys[t0]? = some (cA, .boolean)) {i : Int32} (hin : vp_in i n) {j : Nat} (hj : i.toNatClampNeg = j) (hdg : decode cc pc = .ok (.baload, 1))
    (kk : W p l e R s m args below meth c H locs cells slots Q (F0 m (pc + 1) ls (.int (f j) :: rest))) : W p l e R s m args below meth c H locs cells slots Q (F0 m pc ls (.int i :: .ref a :: rest)) := by
  subst hj
  exact va_zald X.1 X.2.1 X.2.2.2.2.2 hX.1 q0 t0 ha ht hin hdg kk
theorem ab_astz {ws ws' : va_W} {a : Nat} (X : ab_cx p s m args c cc nL own D tys) (hX : ab_hx D ws A H0 H locs) (q0 t0 : Nat) {cA : ClassId} {n : Nat} {f : Nat → Int32} (ha : ws[q0]? = some (a, .inl (cA, n, .inl f))) (ht : tys[t0]? = some (cA, .boolean)) {i x : Int32} (hin : vp_in i n) {j : Nat} (hj : i.toNatClampNeg = j) (hn : vp_nar .boolean x = x)
    (hws : ws.set q0 (a, .inl (cA, n, .inl (upd f j x))) = ws') (hdg : decode cc pc = .ok (.bastore, 1))
    (kk : ∀ (H1 : Heap) (locs1 : List Loc), ab_hx D ws' A H0 H1 locs1 → W p l e R s m args below meth c H1 locs1 cells slots Q (F0 m (pc + 1) ls rest)) : W p l e R s m args below meth c H locs cells slots Q (F0 m pc ls (.int x :: .int i :: .ref a :: rest)) := by
  subst hj
  subst hws
  exact va_zast X.1 X.2.1 X.2.2.2.2.2 hX.1 hX.2.1 hX.2.2.1 q0 t0 ha ht hin hdg (fun H1 locs1 hP hD hS => kk H1 locs1 ⟨by rw [hn] at hP; exact hP, by rw [hn] at hD; exact hD, hS, hX.2.2.2⟩)
/-- aaload; System.arraycopy of ints, whole arrays -/
theorem ab_aldr {ws : va_W} {a : Nat} (X : ab_cx p s m args c cc nL own D tys) (hX : ab_hx D ws A H0 H locs) (q0 t0 : Nat) {cA : ClassId} {C : String} {n : Nat} {f : Nat → Option Nat} (ha : ws[q0]? = some (a, .inl (cA, n, .inr (.inr (.inr (.inr f)))))) (ht : tys[t0]? = some (cA, .object C)) {i : Int32} (hin : vp_in i n) {v : Value} (hv : va_rf (f i.toNatClampNeg) = v) (hdg : decode cc pc = .ok (.aaload, 1))
    (kk : W p l e R s m args below meth c H locs cells slots Q (F0 m (pc + 1) ls (v :: rest))) : W p l e R s m args below meth c H locs cells slots Q (F0 m pc ls (.int i :: .ref a :: rest)) := by
  subst hv
  exact va_aldq X.1 X.2.1 X.2.2.2.2.2 hX.1 q0 t0 ha ht hin hdg kk
theorem ab_copy {ws ws' : va_W} {a a0 : Nat} (X : ab_cx p s m args c cc nL own D tys) (hX : ab_hx D ws A H0 H locs) (hl : ls.size = nL) (q0 q1 t0 : Nat) {c0 : ClassId} {n : Nat} {f g : Nat → Int32} {N : Int32} (ha0 : ws[q0]? = some (a0, .inl (c0, n, .inl f))) (ha1 : ws[q1]? = some (a, .inl (c0, n, .inl g))) (ht : tys[t0]? = some (c0, .int))
    (hw : Cond.methodLink own index arraycopyName ∈ AL ∧ Cond.native arraycopyName ∈ AL ∧ Cond.static arraycopyName ∈ AL ∧ Cond.initialized "java/lang/System" ∈ AL) (hN : ¬ N < 0 ∧ N.toNatClampNeg = n) (hroom : 1 ≤ R.frames ∧ (rest.map fun v => v.category).sum + (nativeFrameWords "java/lang/System" "arraycopy" 5 + 11) ≤ R.locals)
    (hws : ws.set q1 (a, .inl (c0, n, .inl (va_cpy f g 0 0 n))) = ws') (hdg : decode cc pc = .ok (.invokestatic index, 3))
    (kk : ∀ (H1 : Heap) (locs1 : List Loc), ab_hx D ws' A H0 H1 locs1 → W p l e R s m args below meth c H1 locs1 cells slots Q (F0 m (pc + 3) ls rest)) : W p l e R s m args below meth c H locs cells slots Q (F0 m pc ls (.int N :: .int 0 :: .ref a :: .int 0 :: .ref a0 :: rest)) := by
  obtain ⟨hN0, rfl⟩ := hN
  subst hws
  exact va_copyi X.1 X.2.1 (X.2.2.1.trans hl.symm) X.2.2.2.1 (X.2.2.2.2.1 _ hw.1) (X.2.2.2.2.1 _ hw.2.1) (X.2.2.2.2.1 _ hw.2.2.1) (X.2.2.2.2.1 _ hw.2.2.2) X.2.2.2.2.2 hX.1 hX.2.1 hX.2.2.1 q0 q1 t0 t0 ha0 ha1 ht ht rfl (by decide) (by decide) hN0 (by rw [show (0 : Int32).toNatClampNeg = 0 from rfl]; omega) (by rw [show (0 : Int32).toNatClampNeg = 0 from rfl]; omega) (fun _ _ => rfl) hroom.1 hroom.2 hdg (fun H1 locs1 hP hD hS => kk H1 locs1 ⟨hP, hD, hS, hX.2.2.2⟩)
/-- switches: the key is known -/
theorem ab_swIn {dflt lo hi off : Int} {offs : Array Int} {len tgt : Nat} {x v : Int32} (hexec : p.tables.exec = Jvm.exec) (hb : c.code = cc) (hdg : decode cc pc = .ok (.tableswitch dflt lo hi offs, len)) (h : x = v) (h1 : ¬ v.toInt < lo) (h2 : ¬ hi < v.toInt) (ho : offs[(v.toInt - lo).toNat]? = some off) (ht : (pc : Int) + off = (tgt : Int))
    (kk : W p l e R s m args below meth c H locs cells slots Q (F0 m tgt ls rest)) : W p l e R s m args below meth c H locs cells slots Q (F0 m pc ls (.int x :: rest)) := by
  subst h
  exact lv_tableIn hexec hb hdg h1 h2 ho ht kk
theorem ab_swLk {dflt off : Int} {ps : Array (Int × Int)} {len tgt : Nat} {x v : Int32} (hexec : p.tables.exec = Jvm.exec) (hb : c.code = cc) (hdg : decode cc pc = .ok (.lookupswitch dflt ps, len)) (hp : (ps.toList.zip (ps.toList.drop 1)).all (fun (a, next) => a.1 < next.1) = true) (h : x = v) (ho : Op.lookupswitch.offset ps.toList dflt v.toInt = off) (ht : (pc : Int) + off = (tgt : Int))
    (kk : W p l e R s m args below meth c H locs cells slots Q (F0 m tgt ls rest)) : W p l e R s m args below meth c H locs cells slots Q (F0 m pc ls (.int x :: rest)) := by
  subst h
  exact lv_lookup hexec hb hdg hp ho ht kk
/-- calls of methods that only read -/
theorem ab_kr_callV {wr : va_W} {u : S} {r : Int32} {a : Nat} (X : ab_cx p s m args c cc nL own D tys) (hX : ab_hx D (wr ++ w u) A H0 H locs) (hM : ab_ki l D tys w y b n ret rm (.ref a :: as) u (r, u)) (hy : ab_yok y b n (some ret) k) (hv : ab_yok_V y) (hlk : Cond.methodLink own index y ∈ AL)
    (q0 ci : Nat) {fs : List Value} {T : u_T} {N : Nat} (hc : CL[ci]? = some (y.cls, T, N)) (he : (wr ++ w u)[q0]? = some (a, .inr (ci, fs))) (hlen : as.length = k) (hl : ls.size = nL) (hst : st = as.reverse ++ .ref a :: rest) (hroom : (rest.map fun v => v.category).sum ≤ 8)
    (hrm : rm.cells = 0 ∧ rm.slots = 0 ∧ rm.frames + 1 ≤ R.frames ∧ 8 + (n + 11) + rm.locals ≤ R.locals) (hcs : cells ≤ R.cells ∧ slots ≤ R.slots) (hdg : decode cc pc = .ok (.invokevirtual index, 3))
    (kk : ∀ (H1 : Heap) (locs1 : List Loc), ab_hx D (wr ++ w u) A H0 H1 locs1 → W p l e R s m args below meth c H1 locs1 cells slots Q (F0 m (pc + 3) ls (.int r :: rest))) : W p l e R s m args below meth c H locs cells slots Q (F0 m pc ls st) :=
  ab_ki_callV X hX hM hy hv hlk q0 ci hc he hlen hl hst hroom hrm hcs hdg kk
theorem ab_kr_callS {wr : va_W} {u : S} {r : Int32} (X : ab_cx p s m args c cc nL own D tys) (hX : ab_hx D (wr ++ w u) A H0 H locs) (hM : ab_ki l D tys w y b n ret rm as u (r, u)) (hy : ab_yok y b n (some ret) k) (hv : Cond.static y ∈ AL) (hlk : Cond.methodLink own index y ∈ AL)
    (hlen : as.length = k) (hl : ls.size = nL) (hst : st = as.reverse ++ rest) (hroom : (rest.map fun v => v.category).sum ≤ 8)
    (hrm : rm.cells = 0 ∧ rm.slots = 0 ∧ rm.frames + 1 ≤ R.frames ∧ 8 + (n + 11) + rm.locals ≤ R.locals) (hcs : cells ≤ R.cells ∧ slots ≤ R.slots) (hdg : decode cc pc = .ok (.invokestatic index, 3))
    (kk : ∀ (H1 : Heap) (locs1 : List Loc), ab_hx D (wr ++ w u) A H0 H1 locs1 → W p l e R s m args below meth c H1 locs1 cells slots Q (F0 m (pc + 3) ls (.int r :: rest))) : W p l e R s m args below meth c H locs cells slots Q (F0 m pc ls st) :=
  ab_ki_callS X hX hM hy hv hlk hlen hl hst hroom hrm hcs hdg kk
/-- a value that is decided on several roads, joined -/
theorem ab_jn {g : JFrame} (pcJ : Nat) (x : Int32) (hJ : W p l e R s m args below meth c H locs cells slots Q (F0 m pcJ ls (.int x :: rest))) (hB : W p l e R s m args below meth c H locs cells slots Q (F0 m pcJ ls (.int x :: rest)) → W p l e R s m args below meth c H locs cells slots Q g) : W p l e R s m args below meth c H locs cells slots Q g := hB hJ
theorem ab_jt {x v : Int32} (h : x = v) (hJ : W p l e R s m args below meth c H locs cells slots Q (F0 m pc ls (.int x :: rest))) : W p l e R s m args below meth c H locs cells slots Q (F0 m pc ls (.int v :: rest)) := h ▸ hJ
end LY
/-! numbers in range -/
theorem ab_mono {i : Int32} {n m : Nat} (h : vp_in i n) (hm : n ≤ m) : vp_in i m := fun q => h (q.elim Or.inl (fun z => Or.inr (Nat.le_trans hm z)))
theorem ab_inc {i : Int32} {n : Nat} (h : (!(decide (i < 0)) && decide (i.toNatClampNeg < n)) = true) : vp_in i n := by
  simp only [Bool.and_eq_true, Bool.not_eq_true', decide_eq_true_eq, decide_eq_false_iff_not] at h
  exact fun q => q.elim h.1 (fun z => absurd h.2 (Nat.not_lt.mpr z))
theorem ab_inm (x : Int32) {m : Int32} (k : Nat) {n : Nat} (hm : m.toBitVec.toNat = 2 ^ k - 1) (h : k ≤ 30 ∧ 2 ^ k ≤ n) : vp_in (x &&& m) n := ab_mono (pk_andIn x k hm h.1) h.2
theorem ab_ltN {N j : Nat} {i n : Int32} (h : ¬ n ≤ i) (hi : i = nI j) (hj : j ≤ N) (hn : n = nI N) (hN : N < 2 ^ 30) : j < N := by
  rcases Nat.lt_or_ge j N with h' | h'
  · exact h'
  · exfalso
    subst hi; subst hn
    exact h (nI_le h' (by omega))
theorem ab_inA {x : Int32} (h : ¬ 512 ≤ (x &&& 1023)) : vp_in (x &&& 1023) 512 := by
  obtain ⟨j, hj, e⟩ := pk_andE x (m := 1023) 10 rfl
  rw [e] at h ⊢
  exact vp_in_nI (Nat.lt_of_not_le fun q => h (nI_le q (by omega))) (by decide)
theorem ab_inB {x : Int32} (h : 512 ≤ (x &&& 1023)) : vp_in ((x &&& 1023) - 512) 512 := by
  obtain ⟨j, hj, e⟩ := pk_andE x (m := 1023) 10 rfl
  rw [e] at h ⊢
  have hj5 : 512 ≤ j := Nat.le_of_not_lt fun q => absurd h (nI_ge q (by decide))
  rw [show (512 : Int32) = nI 512 from rfl, pk_sub hj5]
  exact vp_in_nI (by omega) (by decide)
theorem ab_inB' {x : Int32} (h : ¬ (x &&& 1023) < 512) : vp_in ((x &&& 1023) - 512) 512 := by
  obtain ⟨j, hj, e⟩ := pk_andE x (m := 1023) 10 rfl
  rw [e] at h ⊢
  have hj5 : 512 ≤ j := Nat.le_of_not_lt fun q => h (nI_lt q (by decide))
  rw [show (512 : Int32) = nI 512 from rfl, pk_sub hj5]
  exact vp_in_nI (by omega) (by decide)
theorem ab_inC {x : Int32} (h1 : ¬ x < 0) (h2 : ¬ 512 ≤ x) : vp_in x 512 := by
  obtain ⟨j, hj, rfl⟩ := nI_of h1
  exact vp_in_nI (Nat.lt_of_not_le fun q => h2 (nI_le q hj)) (by decide)
theorem ab_inN {N j : Nat} {i n : Int32} (h : ¬ n ≤ i) (hi : i = nI j) (hj : j ≤ N) (hn : n = nI N) (hN : N < 2 ^ 30) : vp_in i N := by
  have := ab_ltN h hi hj hn hN
  subst hi
  exact vp_in_nI this (by omega)
theorem ab_in2 (x : Int32) : vp_in (2 * (x &&& 3)) 8 := by
  obtain ⟨j, hj, e⟩ := pk_andE x (m := 3) 2 rfl
  rw [e, show (2 : Int32) = nI 2 from rfl, pk_mul]
  exact vp_in_nI (by omega) (by decide)
theorem ab_in21 (x : Int32) : vp_in (2 * (x &&& 3) + 1) 8 := by
  obtain ⟨j, hj, e⟩ := pk_andE x (m := 3) 2 rfl
  rw [e, show (2 : Int32) = nI 2 from rfl, pk_mul, nI_1]
  exact vp_in_nI (by omega) (by decide)
end
section
/-! numbers in range, as the reference's walks ask them -/
def ab_le3 (x : Int32) : Prop := ∃ j : Nat, j ≤ 3 ∧ x = nI j
def ab_lt8 (x : Int32) : Prop := ∃ j : Nat, j < 8 ∧ x = nI j
def ab_snd (x : Int32) : Prop := ∃ n : Nat, n ≤ 1073741824 ∧ x = nI n
theorem ab_le3c {n : Nat} (h : n ≤ 3) : ab_le3 (nI n) := ⟨n, h, rfl⟩
theorem ab_lt8c {n : Nat} (h : n < 8) : ab_lt8 (nI n) := ⟨n, h, rfl⟩
theorem ab_half {x : Int32} (h : ab_lt8 x) : ab_le3 (x / 2) := by
  obtain ⟨j, hj, rfl⟩ := h
  exact ⟨j / 2, by omega, pk_div (d := 2) (by omega) (by decide) (by decide)⟩
theorem ab_and7 (x : Int32) : ab_lt8 (x &&& 7) := by
  obtain ⟨j, hj, e⟩ := pk_andE x (m := 7) 3 rfl
  exact ⟨j, hj, e⟩
theorem ab_k2 {x : Int32} (p : ab_le3 x) (h : ¬ x = 3) : vp_in (2 * x) 8 := by
  obtain ⟨j, hj, rfl⟩ := p
  rw [show (2 : Int32) = nI 2 from rfl, pk_mul]
  exact vp_in_nI (by omega) (by decide)
theorem ab_k21 {x : Int32} (p : ab_le3 x) (h : ¬ x = 3) : vp_in (2 * x + 1) 8 := by
  obtain ⟨j, hj, rfl⟩ := p
  rw [show (2 : Int32) = nI 2 from rfl, pk_mul, nI_1]
  exact vp_in_nI (by omega) (by decide)
theorem ab_r8 {x : Int32} (p : ab_lt8 x) : vp_in x 8 := by
  obtain ⟨j, hj, rfl⟩ := p
  exact vp_in_nI hj (by decide)
theorem ab_snd8 {x : Int32} {j : Nat} (hs : ∃ n : Nat, n ≤ 1073741824 + j ∧ x = nI n) (hj : j ≤ 8) : vp_in (x - x / 8 * 8) 8 := by
  obtain ⟨n, hn, rfl⟩ := hs
  rw [show nI n - nI n / 8 * 8 = nI (n % 8) from pk_rem (d := 8) (by omega) (by decide) (by decide)]
  exact vp_in_nI (by omega) (by decide)
theorem ab_sndS {x : Int32} {j : Nat} (hs : ∃ n : Nat, n ≤ 1073741824 + j ∧ x = nI n) : ∃ n : Nat, n ≤ 1073741824 + (j + 1) ∧ x = nI n := by
  obtain ⟨n, hn, e⟩ := hs
  exact ⟨n, by omega, e⟩
theorem ab_sndU {u : SS} {a k j : Nat} {y : Int32} (hs : ∃ n : Nat, n ≤ 1073741824 + j ∧ u 0 23 = nI n) : ∃ n : Nat, n ≤ 1073741824 + (j + 1) ∧ stt (stt u a k y) 0 23 (u 0 23 + 1) 0 23 = nI n := by
  obtain ⟨n, hn, e⟩ := hs
  exact ⟨n + 1, by omega, by rw [stt_s, e, nI_1]⟩
/-- load's loop -/
def ab_ldI (k : Nat) (v1 v3 v4 : Int32) : Prop := ∃ c n j : Nat, v1 = nI c ∧ v3 = nI n ∧ v4 = nI j ∧ n ≤ 4 ∧ c + n ≤ 512 ∧ j ≤ n ∧ n < j + k
theorem ab_ldI_0 {v1 v3 v4 : Int32} : ¬ ab_ldI 0 v1 v3 v4 := by
  rintro ⟨c, n, j, -, -, -, -, -, h1, h2⟩
  omega
theorem ab_ldI_i {x1 x3 : Int32} (h1 : ¬ x3 < 1) (h2 : ¬ 4 < x3) (h3 : ¬ x1 < 0) (h4 : x1 ≤ 512 - x3) : ab_ldI 5 x1 x3 0 := by
  obtain ⟨c, hc, rfl⟩ := nI_of h3
  have h3' : ¬ x3 < 0 := fun q => h1 (Int32.lt_trans q (by decide))
  obtain ⟨n, hn, rfl⟩ := nI_of h3'
  have n4 : n ≤ 4 := by
    rcases Nat.lt_or_ge 4 n with q | q
    · exact absurd ((nI_ltI (a := 4) (by decide) hn).mpr q) h2
    · exact q
  rw [show (512 : Int32) - nI n = nI (512 - n) from pk_sub (a := 512) (by omega)] at h4
  have := (nI_leI hc (by omega)).mp h4
  exact ⟨c, n, 0, rfl, rfl, rfl, n4, by omega, by omega, by omega⟩
theorem ab_ldI_s {k : Nat} {v1 v3 v4 : Int32} (hq : ab_ldI (k + 1) v1 v3 v4) (h : ¬ v3 ≤ v4) : ab_ldI k v1 v3 (v4 + 1) := by
  obtain ⟨c, n, j, rfl, rfl, rfl, h1, h2, h3, h4⟩ := hq
  have : j < n := by
    rcases Nat.lt_or_ge j n with q | q
    · exact q
    · exact absurd (nI_le q (by omega)) h
  exact ⟨c, n, j + 1, rfl, rfl, nI_1 j, h1, h2, by omega, by omega⟩
theorem ab_ldI_in {k : Nat} {v1 v3 v4 : Int32} (hq : ab_ldI k v1 v3 v4) (h : ¬ v3 ≤ v4) : vp_in (v1 + v4) 512 := by
  obtain ⟨c, n, j, rfl, rfl, rfl, h1, h2, h3, h4⟩ := hq
  have : j < n := by
    rcases Nat.lt_or_ge j n with q | q
    · exact q
    · exact absurd (nI_le q (by omega)) h
  rw [nI_add]
  exact vp_in_nI (by omega) (by decide)
/-- run's loop -/
def ab_rnI (k : Nat) (v1 v3 : Int32) : Prop := ∃ n j : Nat, v1 = nI n ∧ v3 = nI j ∧ n ≤ 60 ∧ j ≤ n ∧ n < j + k
theorem ab_rnI_s {k : Nat} {v1 v3 : Int32} (hq : ab_rnI (k + 1) v1 v3) (h : ¬ v1 ≤ v3) : ab_rnI k v1 (v3 + 1) := by
  obtain ⟨n, j, rfl, rfl, h1, h2, h3⟩ := hq
  have : j < n := by
    rcases Nat.lt_or_ge j n with q | q
    · exact q
    · exact absurd (nI_le q (by omega)) h
  exact ⟨n, j + 1, rfl, nI_1 j, h1, by omega, by omega⟩
theorem ab_skip {A B : Prop} {v1 v3 : Int32} : ¬ ((A ∧ 0 < 0) ∨ (ab_rnI 0 v1 v3 ∧ B)) := by
  rintro (⟨-, h⟩ | ⟨⟨n, j, -, -, -, h1, h2⟩, -⟩)
  · exact absurd h (by decide)
  · omega
theorem ab_rn {x : Int32} {C B : Prop} (hq : (x ≠ 0 ∧ C) ∨ B) (h : x = 0) : B := hq.resolve_left (fun z => z.1 h)
theorem ab_rnI_i {P : Nat → SS → Prop} {u : SS} {x1 : Int32} (p9 : ∀ c, P 61 (stt u 0 0 c)) (C : Int32) (hC : C = (if x1 < 0 then 1 else (if x1 ≤ 60 then (if (u 0 1) = 0 then 2 else 0 : Int32) else 1 : Int32) : Int32)) : (stt u 0 0 C 0 0 ≠ 0 ∧ 0 < 61) ∨ (ab_rnI 61 x1 0 ∧ P 61 (stt u 0 0 C)) := by
  by_cases h : x1 < 0
  · rw [if_pos h] at hC; subst hC; exact Or.inl ⟨by rw [stt_s]; decide, by decide⟩
  · by_cases h6 : x1 ≤ 60
    · obtain ⟨j, hj, rfl⟩ := nI_of2 (n := 60) (by decide) h h6
      exact Or.inr ⟨⟨j, 0, rfl, rfl, hj, by omega, by omega⟩, p9 _⟩
    · rw [if_neg h, if_neg h6] at hC; subst hC; exact Or.inl ⟨by rw [stt_s]; decide, by decide⟩
theorem ab_inP {x : Int32} (h1 : ¬ x < 0) (h2 : ¬ 1024 ≤ x) : vp_in x 1024 := by
  obtain ⟨j, hj, rfl⟩ := nI_of h1
  exact vp_in_nI (Nat.lt_of_not_le fun q => h2 (nI_le q hj)) (by decide)
theorem ab_inD {x y : Int32} (h1 : ¬ x < 0) (h2 : ¬ 64 ≤ x) (h3 : ¬ y < 0) (h4 : ¬ 32 ≤ y) : vp_in ((768 + 8 * y) + x / 8) 1024 := by
  obtain ⟨j, hj, rfl⟩ := nI_of h1
  obtain ⟨i, hi, rfl⟩ := nI_of h3
  have a : j < 64 := Nat.lt_of_not_le fun q => h2 (nI_le q hj)
  have b : i < 32 := Nat.lt_of_not_le fun q => h4 (nI_le q hi)
  rw [show nI j / 8 = nI (j / 8) from pk_div (d := 8) (by omega) (by decide) (by decide), show (8 : Int32) = nI 8 from rfl, pk_mul, show (768 : Int32) = nI 768 from rfl, nI_add, nI_add]
  exact vp_in_nI (by omega) (by decide)
theorem ab_inS {x s : Int32} (ps : ab_snd s) (h1 : ¬ x < 0) (h2 : ¬ 8 ≤ x) (h3 : ¬ s ≤ x) : vp_in (((s - 1) - x) - ((s - 1) - x) / 8 * 8) 8 := by
  obtain ⟨n, hn, rfl⟩ := ps
  obtain ⟨j, hj, rfl⟩ := nI_of h1
  have a : j < n := Nat.lt_of_not_le fun q => h3 (nI_le q hj)
  rw [show nI n - 1 = nI (n - 1) from pk_sub (b := 1) (by omega), pk_sub (a := n - 1) (by omega), show nI (n - 1 - j) - nI (n - 1 - j) / 8 * 8 = nI ((n - 1 - j) % 8) from pk_rem (d := 8) (by omega) (by decide) (by decide)]
  exact vp_in_nI (by omega) (by decide)
/-- save, restore -/
def ab_540 (x : Int32) : Prop := x = 0 ∨ x = 540
theorem ab_in01 {x : Int32} (h : x = 0 ∨ x = 1) : vp_in x 2 := by
  rcases h with rfl | rfl
  · exact vp_in_nI (n := 0) (by decide) (by decide)
  · exact vp_in_nI (n := 1) (by decide) (by decide)
theorem ab_540s {x : Int32} (h : x = 0 ∨ x = 1) : ab_540 (540 * x) := by
  rcases h with rfl | rfl
  · exact Or.inl rfl
  · exact Or.inr rfl
theorem ab_is01 {x : Int32} (h : ¬ (if x = 0 then 1 else (if x = 1 then 1 else 0 : Int32) : Int32) = 0) : x = 0 ∨ x = 1 := by
  by_cases a : x = 0
  · exact Or.inl a
  · by_cases b : x = 1
    · exact Or.inr b
    · rw [if_neg a, if_neg b] at h; exact absurd rfl h
theorem ab_in01r {x : Int32} (h : ¬ (if x = 0 then 1 else (if x = 1 then 1 else 0 : Int32) : Int32) = 0) : vp_in x 2 := ab_in01 (ab_is01 h)
theorem ab_540r {x y : Int32} (h : (if (if x = 0 then 1 else (if x = 1 then 1 else 0 : Int32) : Int32) = 0 then 1 else (if y = 0 then 2 else 0 : Int32) : Int32) ≤ 0) : ab_540 (540 * x) := by
  refine ab_540s (ab_is01 (fun q => ?_))
  rw [if_pos q] at h
  exact absurd h (by decide)
theorem ab_540n {v : Int32} (h : ab_540 v) : ∃ n, n ≤ 540 ∧ v = nI n := h.elim (fun e => ⟨0, by decide, e⟩) (fun e => ⟨540, by decide, e⟩)
theorem ab_kp {v c : Int32} (h : ab_540 v) (hc : (!(decide (c < 0)) && decide (c.toNatClampNeg < 540)) = true) : vp_in (v + c) 1080 := by
  obtain ⟨n, hn, rfl⟩ := ab_540n h
  simp only [Bool.and_eq_true, Bool.not_eq_true', decide_eq_true_eq, decide_eq_false_iff_not] at hc
  obtain ⟨j, hj, rfl⟩ := nI_of hc.1
  have := hc.2
  rw [nI_clamp hj] at this
  rw [nI_add]
  exact vp_in_nI (by omega) (by decide)
theorem ab_kpi {v i n : Int32} {j N : Nat} (h : ab_540 v) (h1 : ¬ n ≤ i) (hi : i = nI j) (hj : j ≤ N) (hN : n = nI N ∧ N ≤ 540) : vp_in (v + i) 1080 := by
  obtain ⟨a, ha, rfl⟩ := ab_540n h
  obtain ⟨rfl, hN⟩ := hN
  have := ab_ltN h1 hi hj rfl (by omega)
  subst hi
  rw [nI_add]
  exact vp_in_nI (by omega) (by decide)
theorem ab_kp23 {v i : Int32} {j : Nat} (h : ab_540 v) (h1 : ¬ 512 ≤ i) (hi : i = nI j) (hj : j ≤ 512) : vp_in ((v + 23) + i) 1080 := by
  obtain ⟨a, ha, rfl⟩ := ab_540n h
  have := ab_ltN (N := 512) h1 hi hj rfl (by decide)
  subst hi
  rw [show (23 : Int32) = nI 23 from rfl, nI_add, nI_add]
  exact vp_in_nI (by omega) (by decide)
theorem ab_512 {i : Int32} {j : Nat} (h1 : ¬ 512 ≤ i) (hi : i = nI j) (hj : j ≤ 512) : vp_in (512 + i) 1024 := by
  have := ab_ltN (N := 512) h1 hi hj rfl (by decide)
  subst hi
  rw [show (512 : Int32) = nI 512 from rfl, nI_add]
  exact vp_in_nI (by omega) (by decide)
/-- booleans -/
theorem ab_nb {x : Int32} (h : ab_bo x) : narrow .boolean (.int x) = .int x := by rcases h with rfl | rfl <;> rfl
theorem ab_fb {x : Int32} (h : ab_bo x) : fits .boolean (.int x) = true := by rcases h with rfl | rfl <;> rfl
theorem ab_vb {x : Int32} (h : ab_bo x) : vp_nar .boolean x = x := by rcases h with rfl | rfl <;> rfl
theorem ab_rnI_0 {v1 v3 : Int32} : ¬ ab_rnI 0 v1 v3 := by
  rintro ⟨n, j, -, -, -, h1, h2⟩
  omega
theorem ab_rnI_j {x : Int32} (h1 : ¬ x < 0) (h2 : x ≤ 60) : ab_rnI 61 x 0 := by
  obtain ⟨j, hj, rfl⟩ := nI_of2 (n := 60) (by decide) h1 h2
  exact ⟨j, 0, rfl, rfl, hj, by omega, by omega⟩
theorem ab_01 {x : Int32} (h1 : ¬ x < 0) (h2 : x < 2) : x = 0 ∨ x = 1 := by
  obtain ⟨j, hj, rfl⟩ := nI_of h1
  have := (nI_ltI (b := 2) hj (by decide)).mp h2
  rcases (show j = 0 ∨ j = 1 by omega) with rfl | rfl
  · exact Or.inl rfl
  · exact Or.inr rfl
end
