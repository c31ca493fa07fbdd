/-! Names: the skeleton's PART A (kit/laws/SKELETON.whole.lean.txt), the words, the classes. Laid by wip/whole/gen. -/
-- ===== PART A: goes FIRST, ahead of the names: the tables' words, and 'selects' of the private methods out of them =====
/-- a private method of a class that the tables say can be made, by its rows of tables_1 -/
def lw_okq (q : MethodName × Nat) : Prop := (q.1.cls ≠ "java/lang/invoke/MethodHandle" ∧ q.1.cls ≠ "java/lang/invoke/VarHandle") ∧ Cond.instantiable q.1.cls q.2 ∈ tables_1 ∧ Cond.privateMethod q.1 ∈ tables_1 ∧ Cond.instanceMethod q.1 ∈ tables_1
theorem lw_p0 : lw_okq (⟨"java/lang/Throwable", "fillInStackTrace", "(I)Ljava/lang/Throwable;"⟩, 6) := ⟨⟨by decide +kernel, by decide +kernel⟩, List.mem_of_getElem? (i := 395) (by decide +kernel), List.mem_of_getElem? (i := 393) (by decide +kernel), List.mem_of_getElem? (i := 394) (by decide +kernel)⟩
theorem lw_p1 : lw_okq (⟨"ArcadeBoard$Processor", "takeCall", "()I"⟩, 6) := ⟨⟨by decide +kernel, by decide +kernel⟩, List.mem_of_getElem? (i := 196) (by decide +kernel), List.mem_of_getElem? (i := 458) (by decide +kernel), List.mem_of_getElem? (i := 459) (by decide +kernel)⟩
theorem lw_p2 : lw_okq (⟨"ArcadeBoard$Processor", "goWithReturn", "(I)V"⟩, 6) := ⟨⟨by decide +kernel, by decide +kernel⟩, List.mem_of_getElem? (i := 196) (by decide +kernel), List.mem_of_getElem? (i := 462) (by decide +kernel), List.mem_of_getElem? (i := 463) (by decide +kernel)⟩
theorem lw_p3 : lw_okq (⟨"ArcadeBoard$Processor", "nextByte", "()I"⟩, 6) := ⟨⟨by decide +kernel, by decide +kernel⟩, List.mem_of_getElem? (i := 196) (by decide +kernel), List.mem_of_getElem? (i := 474) (by decide +kernel), List.mem_of_getElem? (i := 475) (by decide +kernel)⟩
theorem lw_p4 : lw_okq (⟨"ArcadeBoard$Processor", "operate", "(I)I"⟩, 6) := ⟨⟨by decide +kernel, by decide +kernel⟩, List.mem_of_getElem? (i := 196) (by decide +kernel), List.mem_of_getElem? (i := 480) (by decide +kernel), List.mem_of_getElem? (i := 481) (by decide +kernel)⟩
theorem lw_p5 : lw_okq (⟨"ArcadeBoard$Processor", "operateOnData", "(II)I"⟩, 6) := ⟨⟨by decide +kernel, by decide +kernel⟩, List.mem_of_getElem? (i := 196) (by decide +kernel), List.mem_of_getElem? (i := 484) (by decide +kernel), List.mem_of_getElem? (i := 485) (by decide +kernel)⟩
theorem lw_p6 : lw_okq (⟨"ArcadeBoard$Processor", "setOrAddPair", "(I)I"⟩, 6) := ⟨⟨by decide +kernel, by decide +kernel⟩, List.mem_of_getElem? (i := 196) (by decide +kernel), List.mem_of_getElem? (i := 488) (by decide +kernel), List.mem_of_getElem? (i := 489) (by decide +kernel)⟩
theorem lw_p7 : lw_okq (⟨"ArcadeBoard$Processor", "nextWord", "()I"⟩, 6) := ⟨⟨by decide +kernel, by decide +kernel⟩, List.mem_of_getElem? (i := 196) (by decide +kernel), List.mem_of_getElem? (i := 492) (by decide +kernel), List.mem_of_getElem? (i := 493) (by decide +kernel)⟩
theorem lw_p8 : lw_okq (⟨"ArcadeBoard$Processor", "moveByAddress", "(I)I"⟩, 6) := ⟨⟨by decide +kernel, by decide +kernel⟩, List.mem_of_getElem? (i := 196) (by decide +kernel), List.mem_of_getElem? (i := 510) (by decide +kernel), List.mem_of_getElem? (i := 511) (by decide +kernel)⟩
theorem lw_p9 : lw_okq (⟨"ArcadeBoard$Arithmetic", "turnTo", "(II)V"⟩, 1) := ⟨⟨by decide +kernel, by decide +kernel⟩, List.mem_of_getElem? (i := 202) (by decide +kernel), List.mem_of_getElem? (i := 559) (by decide +kernel), List.mem_of_getElem? (i := 560) (by decide +kernel)⟩
theorem lw_p10 : lw_okq (⟨"ArcadeBoard$Processor", "move", "(II)I"⟩, 6) := ⟨⟨by decide +kernel, by decide +kernel⟩, List.mem_of_getElem? (i := 196) (by decide +kernel), List.mem_of_getElem? (i := 563) (by decide +kernel), List.mem_of_getElem? (i := 564) (by decide +kernel)⟩
theorem lw_p11 : lw_okq (⟨"ArcadeBoard$Arithmetic", "sum", "(III)I"⟩, 1) := ⟨⟨by decide +kernel, by decide +kernel⟩, List.mem_of_getElem? (i := 202) (by decide +kernel), List.mem_of_getElem? (i := 571) (by decide +kernel), List.mem_of_getElem? (i := 572) (by decide +kernel)⟩
theorem lw_p12 : lw_okq (⟨"ArcadeBoard$Arithmetic", "difference", "(III)I"⟩, 1) := ⟨⟨by decide +kernel, by decide +kernel⟩, List.mem_of_getElem? (i := 202) (by decide +kernel), List.mem_of_getElem? (i := 575) (by decide +kernel), List.mem_of_getElem? (i := 576) (by decide +kernel)⟩
theorem lw_p13 : lw_okq (⟨"ArcadeBoard$Arithmetic", "logical", "(II)I"⟩, 1) := ⟨⟨by decide +kernel, by decide +kernel⟩, List.mem_of_getElem? (i := 202) (by decide +kernel), List.mem_of_getElem? (i := 579) (by decide +kernel), List.mem_of_getElem? (i := 580) (by decide +kernel)⟩
theorem lw_p14 : lw_okq (⟨"ArcadeBoard$Processor", "operateOnFlow", "(II)I"⟩, 6) := ⟨⟨by decide +kernel, by decide +kernel⟩, List.mem_of_getElem? (i := 196) (by decide +kernel), List.mem_of_getElem? (i := 583) (by decide +kernel), List.mem_of_getElem? (i := 584) (by decide +kernel)⟩
theorem lw_p15 : lw_okq (⟨"ArcadeBoard$Processor", "holds", "(I)Z"⟩, 6) := ⟨⟨by decide +kernel, by decide +kernel⟩, List.mem_of_getElem? (i := 196) (by decide +kernel), List.mem_of_getElem? (i := 587) (by decide +kernel), List.mem_of_getElem? (i := 588) (by decide +kernel)⟩
def lw_privs_1 : List (MethodName × Nat) := [(⟨"java/lang/Throwable", "fillInStackTrace", "(I)Ljava/lang/Throwable;"⟩, 6), (⟨"ArcadeBoard$Processor", "takeCall", "()I"⟩, 6), (⟨"ArcadeBoard$Processor", "goWithReturn", "(I)V"⟩, 6), (⟨"ArcadeBoard$Processor", "nextByte", "()I"⟩, 6), (⟨"ArcadeBoard$Processor", "operate", "(I)I"⟩, 6), (⟨"ArcadeBoard$Processor", "operateOnData", "(II)I"⟩, 6), (⟨"ArcadeBoard$Processor", "setOrAddPair", "(I)I"⟩, 6), (⟨"ArcadeBoard$Processor", "nextWord", "()I"⟩, 6), (⟨"ArcadeBoard$Processor", "moveByAddress", "(I)I"⟩, 6), (⟨"ArcadeBoard$Arithmetic", "turnTo", "(II)V"⟩, 1), (⟨"ArcadeBoard$Processor", "move", "(II)I"⟩, 6), (⟨"ArcadeBoard$Arithmetic", "sum", "(III)I"⟩, 1), (⟨"ArcadeBoard$Arithmetic", "difference", "(III)I"⟩, 1), (⟨"ArcadeBoard$Arithmetic", "logical", "(II)I"⟩, 1), (⟨"ArcadeBoard$Processor", "operateOnFlow", "(II)I"⟩, 6), (⟨"ArcadeBoard$Processor", "holds", "(I)Z"⟩, 6)]
theorem lw_r1 : ∀ q ∈ lw_privs_1, lw_okq q := List.forall_mem_cons.mpr ⟨lw_p0, List.forall_mem_cons.mpr ⟨lw_p1, List.forall_mem_cons.mpr ⟨lw_p2, List.forall_mem_cons.mpr ⟨lw_p3, List.forall_mem_cons.mpr ⟨lw_p4, List.forall_mem_cons.mpr ⟨lw_p5, List.forall_mem_cons.mpr ⟨lw_p6, List.forall_mem_cons.mpr ⟨lw_p7, List.forall_mem_cons.mpr ⟨lw_p8, List.forall_mem_cons.mpr ⟨lw_p9, List.forall_mem_cons.mpr ⟨lw_p10, List.forall_mem_cons.mpr ⟨lw_p11, List.forall_mem_cons.mpr ⟨lw_p12, List.forall_mem_cons.mpr ⟨lw_p13, List.forall_mem_cons.mpr ⟨lw_p14, List.forall_mem_cons.mpr ⟨lw_p15, fun _ h => absurd h List.not_mem_nil⟩⟩⟩⟩⟩⟩⟩⟩⟩⟩⟩⟩⟩⟩⟩⟩
theorem lw_p16 : lw_okq (⟨"ArcadeBoard$Processor", "returnIf", "(Z)I"⟩, 6) := ⟨⟨by decide +kernel, by decide +kernel⟩, List.mem_of_getElem? (i := 196) (by decide +kernel), List.mem_of_getElem? (i := 591) (by decide +kernel), List.mem_of_getElem? (i := 592) (by decide +kernel)⟩
theorem lw_p17 : lw_okq (⟨"ArcadeBoard$Processor", "popOrGo", "(I)I"⟩, 6) := ⟨⟨by decide +kernel, by decide +kernel⟩, List.mem_of_getElem? (i := 196) (by decide +kernel), List.mem_of_getElem? (i := 599) (by decide +kernel), List.mem_of_getElem? (i := 600) (by decide +kernel)⟩
theorem lw_p18 : lw_okq (⟨"ArcadeBoard$Processor", "popAAndFlags", "()V"⟩, 6) := ⟨⟨by decide +kernel, by decide +kernel⟩, List.mem_of_getElem? (i := 196) (by decide +kernel), List.mem_of_getElem? (i := 603) (by decide +kernel), List.mem_of_getElem? (i := 604) (by decide +kernel)⟩
theorem lw_p19 : lw_okq (⟨"ArcadeBoard$Processor", "goIf", "(Z)I"⟩, 6) := ⟨⟨by decide +kernel, by decide +kernel⟩, List.mem_of_getElem? (i := 196) (by decide +kernel), List.mem_of_getElem? (i := 607) (by decide +kernel), List.mem_of_getElem? (i := 608) (by decide +kernel)⟩
theorem lw_p20 : lw_okq (⟨"ArcadeBoard$Processor", "goOrExchange", "(I)I"⟩, 6) := ⟨⟨by decide +kernel, by decide +kernel⟩, List.mem_of_getElem? (i := 196) (by decide +kernel), List.mem_of_getElem? (i := 611) (by decide +kernel), List.mem_of_getElem? (i := 612) (by decide +kernel)⟩
theorem lw_p21 : lw_okq (⟨"ArcadeBoard$Processor", "goWithReturnIf", "(Z)I"⟩, 6) := ⟨⟨by decide +kernel, by decide +kernel⟩, List.mem_of_getElem? (i := 196) (by decide +kernel), List.mem_of_getElem? (i := 627) (by decide +kernel), List.mem_of_getElem? (i := 628) (by decide +kernel)⟩
theorem lw_p22 : lw_okq (⟨"ArcadeBoard$Processor", "pushPair", "(I)I"⟩, 6) := ⟨⟨by decide +kernel, by decide +kernel⟩, List.mem_of_getElem? (i := 196) (by decide +kernel), List.mem_of_getElem? (i := 631) (by decide +kernel), List.mem_of_getElem? (i := 632) (by decide +kernel)⟩
theorem lw_p23 : lw_okq (⟨"ArcadeBoard$Clock", "endFrame", "()V"⟩, 1) := ⟨⟨by decide +kernel, by decide +kernel⟩, List.mem_of_getElem? (i := 186) (by decide +kernel), List.mem_of_getElem? (i := 639) (by decide +kernel), List.mem_of_getElem? (i := 640) (by decide +kernel)⟩
theorem lw_p24 : lw_okq (⟨"ArcadeBoardModel", "reset", "()V"⟩, 30) := ⟨⟨by decide +kernel, by decide +kernel⟩, List.mem_of_getElem? (i := 653) (by decide +kernel), List.mem_of_getElem? (i := 768) (by decide +kernel), List.mem_of_getElem? (i := 769) (by decide +kernel)⟩
theorem lw_p25 : lw_okq (⟨"ArcadeBoardModel", "step", "()V"⟩, 30) := ⟨⟨by decide +kernel, by decide +kernel⟩, List.mem_of_getElem? (i := 653) (by decide +kernel), List.mem_of_getElem? (i := 780) (by decide +kernel), List.mem_of_getElem? (i := 781) (by decide +kernel)⟩
theorem lw_p26 : lw_okq (⟨"ArcadeBoardModel", "push", "(I)V"⟩, 30) := ⟨⟨by decide +kernel, by decide +kernel⟩, List.mem_of_getElem? (i := 653) (by decide +kernel), List.mem_of_getElem? (i := 784) (by decide +kernel), List.mem_of_getElem? (i := 785) (by decide +kernel)⟩
theorem lw_p27 : lw_okq (⟨"ArcadeBoardModel", "write", "(II)V"⟩, 30) := ⟨⟨by decide +kernel, by decide +kernel⟩, List.mem_of_getElem? (i := 653) (by decide +kernel), List.mem_of_getElem? (i := 788) (by decide +kernel), List.mem_of_getElem? (i := 789) (by decide +kernel)⟩
theorem lw_p28 : lw_okq (⟨"ArcadeBoardModel", "operation", "()V"⟩, 30) := ⟨⟨by decide +kernel, by decide +kernel⟩, List.mem_of_getElem? (i := 653) (by decide +kernel), List.mem_of_getElem? (i := 792) (by decide +kernel), List.mem_of_getElem? (i := 793) (by decide +kernel)⟩
theorem lw_p29 : lw_okq (⟨"ArcadeBoardModel", "next", "()I"⟩, 30) := ⟨⟨by decide +kernel, by decide +kernel⟩, List.mem_of_getElem? (i := 653) (by decide +kernel), List.mem_of_getElem? (i := 796) (by decide +kernel), List.mem_of_getElem? (i := 797) (by decide +kernel)⟩
theorem lw_p30 : lw_okq (⟨"ArcadeBoardModel", "read", "(I)I"⟩, 30) := ⟨⟨by decide +kernel, by decide +kernel⟩, List.mem_of_getElem? (i := 653) (by decide +kernel), List.mem_of_getElem? (i := 800) (by decide +kernel), List.mem_of_getElem? (i := 801) (by decide +kernel)⟩
theorem lw_p31 : lw_okq (⟨"ArcadeBoardModel", "lowOperation", "(II)V"⟩, 30) := ⟨⟨by decide +kernel, by decide +kernel⟩, List.mem_of_getElem? (i := 653) (by decide +kernel), List.mem_of_getElem? (i := 804) (by decide +kernel), List.mem_of_getElem? (i := 805) (by decide +kernel)⟩
def lw_privs_2 : List (MethodName × Nat) := [(⟨"ArcadeBoard$Processor", "returnIf", "(Z)I"⟩, 6), (⟨"ArcadeBoard$Processor", "popOrGo", "(I)I"⟩, 6), (⟨"ArcadeBoard$Processor", "popAAndFlags", "()V"⟩, 6), (⟨"ArcadeBoard$Processor", "goIf", "(Z)I"⟩, 6), (⟨"ArcadeBoard$Processor", "goOrExchange", "(I)I"⟩, 6), (⟨"ArcadeBoard$Processor", "goWithReturnIf", "(Z)I"⟩, 6), (⟨"ArcadeBoard$Processor", "pushPair", "(I)I"⟩, 6), (⟨"ArcadeBoard$Clock", "endFrame", "()V"⟩, 1), (⟨"ArcadeBoardModel", "reset", "()V"⟩, 30), (⟨"ArcadeBoardModel", "step", "()V"⟩, 30), (⟨"ArcadeBoardModel", "push", "(I)V"⟩, 30), (⟨"ArcadeBoardModel", "write", "(II)V"⟩, 30), (⟨"ArcadeBoardModel", "operation", "()V"⟩, 30), (⟨"ArcadeBoardModel", "next", "()I"⟩, 30), (⟨"ArcadeBoardModel", "read", "(I)I"⟩, 30), (⟨"ArcadeBoardModel", "lowOperation", "(II)V"⟩, 30)]
theorem lw_r2 : ∀ q ∈ lw_privs_2, lw_okq q := List.forall_mem_cons.mpr ⟨lw_p16, List.forall_mem_cons.mpr ⟨lw_p17, List.forall_mem_cons.mpr ⟨lw_p18, List.forall_mem_cons.mpr ⟨lw_p19, List.forall_mem_cons.mpr ⟨lw_p20, List.forall_mem_cons.mpr ⟨lw_p21, List.forall_mem_cons.mpr ⟨lw_p22, List.forall_mem_cons.mpr ⟨lw_p23, List.forall_mem_cons.mpr ⟨lw_p24, List.forall_mem_cons.mpr ⟨lw_p25, List.forall_mem_cons.mpr ⟨lw_p26, List.forall_mem_cons.mpr ⟨lw_p27, List.forall_mem_cons.mpr ⟨lw_p28, List.forall_mem_cons.mpr ⟨lw_p29, List.forall_mem_cons.mpr ⟨lw_p30, List.forall_mem_cons.mpr ⟨lw_p31, fun _ h => absurd h List.not_mem_nil⟩⟩⟩⟩⟩⟩⟩⟩⟩⟩⟩⟩⟩⟩⟩⟩
theorem lw_p32 : lw_okq (⟨"ArcadeBoardModel", "nextWord", "()I"⟩, 30) := ⟨⟨by decide +kernel, by decide +kernel⟩, List.mem_of_getElem? (i := 653) (by decide +kernel), List.mem_of_getElem? (i := 808) (by decide +kernel), List.mem_of_getElem? (i := 809) (by decide +kernel)⟩
theorem lw_p33 : lw_okq (⟨"ArcadeBoardModel", "setPair", "(II)V"⟩, 30) := ⟨⟨by decide +kernel, by decide +kernel⟩, List.mem_of_getElem? (i := 653) (by decide +kernel), List.mem_of_getElem? (i := 812) (by decide +kernel), List.mem_of_getElem? (i := 813) (by decide +kernel)⟩
theorem lw_p34 : lw_okq (⟨"ArcadeBoardModel", "pair", "(I)I"⟩, 30) := ⟨⟨by decide +kernel, by decide +kernel⟩, List.mem_of_getElem? (i := 653) (by decide +kernel), List.mem_of_getElem? (i := 816) (by decide +kernel), List.mem_of_getElem? (i := 817) (by decide +kernel)⟩
theorem lw_p35 : lw_okq (⟨"ArcadeBoardModel", "carry", "(I)V"⟩, 30) := ⟨⟨by decide +kernel, by decide +kernel⟩, List.mem_of_getElem? (i := 653) (by decide +kernel), List.mem_of_getElem? (i := 820) (by decide +kernel), List.mem_of_getElem? (i := 821) (by decide +kernel)⟩
theorem lw_p36 : lw_okq (⟨"ArcadeBoardModel", "get", "(I)I"⟩, 30) := ⟨⟨by decide +kernel, by decide +kernel⟩, List.mem_of_getElem? (i := 653) (by decide +kernel), List.mem_of_getElem? (i := 824) (by decide +kernel), List.mem_of_getElem? (i := 825) (by decide +kernel)⟩
theorem lw_p37 : lw_okq (⟨"ArcadeBoardModel", "result", "(I)I"⟩, 30) := ⟨⟨by decide +kernel, by decide +kernel⟩, List.mem_of_getElem? (i := 653) (by decide +kernel), List.mem_of_getElem? (i := 828) (by decide +kernel), List.mem_of_getElem? (i := 829) (by decide +kernel)⟩
theorem lw_p38 : lw_okq (⟨"ArcadeBoardModel", "set", "(II)V"⟩, 30) := ⟨⟨by decide +kernel, by decide +kernel⟩, List.mem_of_getElem? (i := 653) (by decide +kernel), List.mem_of_getElem? (i := 832) (by decide +kernel), List.mem_of_getElem? (i := 833) (by decide +kernel)⟩
theorem lw_p39 : lw_okq (⟨"ArcadeBoardModel", "turnA", "(I)V"⟩, 30) := ⟨⟨by decide +kernel, by decide +kernel⟩, List.mem_of_getElem? (i := 653) (by decide +kernel), List.mem_of_getElem? (i := 836) (by decide +kernel), List.mem_of_getElem? (i := 837) (by decide +kernel)⟩
theorem lw_p40 : lw_okq (⟨"ArcadeBoardModel", "operate", "(II)V"⟩, 30) := ⟨⟨by decide +kernel, by decide +kernel⟩, List.mem_of_getElem? (i := 653) (by decide +kernel), List.mem_of_getElem? (i := 840) (by decide +kernel), List.mem_of_getElem? (i := 841) (by decide +kernel)⟩
theorem lw_p41 : lw_okq (⟨"ArcadeBoardModel", "highOperation", "(II)V"⟩, 30) := ⟨⟨by decide +kernel, by decide +kernel⟩, List.mem_of_getElem? (i := 653) (by decide +kernel), List.mem_of_getElem? (i := 844) (by decide +kernel), List.mem_of_getElem? (i := 845) (by decide +kernel)⟩
theorem lw_p42 : lw_okq (⟨"ArcadeBoardModel", "holds", "(I)Z"⟩, 30) := ⟨⟨by decide +kernel, by decide +kernel⟩, List.mem_of_getElem? (i := 653) (by decide +kernel), List.mem_of_getElem? (i := 848) (by decide +kernel), List.mem_of_getElem? (i := 849) (by decide +kernel)⟩
theorem lw_p43 : lw_okq (⟨"ArcadeBoardModel", "pop", "()I"⟩, 30) := ⟨⟨by decide +kernel, by decide +kernel⟩, List.mem_of_getElem? (i := 653) (by decide +kernel), List.mem_of_getElem? (i := 852) (by decide +kernel), List.mem_of_getElem? (i := 853) (by decide +kernel)⟩
theorem lw_p44 : lw_okq (⟨"ArcadeBoardModel", "popOrSo", "(I)V"⟩, 30) := ⟨⟨by decide +kernel, by decide +kernel⟩, List.mem_of_getElem? (i := 653) (by decide +kernel), List.mem_of_getElem? (i := 856) (by decide +kernel), List.mem_of_getElem? (i := 857) (by decide +kernel)⟩
theorem lw_p45 : lw_okq (⟨"ArcadeBoardModel", "setFlags", "(I)V"⟩, 30) := ⟨⟨by decide +kernel, by decide +kernel⟩, List.mem_of_getElem? (i := 653) (by decide +kernel), List.mem_of_getElem? (i := 860) (by decide +kernel), List.mem_of_getElem? (i := 861) (by decide +kernel)⟩
theorem lw_p46 : lw_okq (⟨"ArcadeBoardModel", "others", "(I)V"⟩, 30) := ⟨⟨by decide +kernel, by decide +kernel⟩, List.mem_of_getElem? (i := 653) (by decide +kernel), List.mem_of_getElem? (i := 864) (by decide +kernel), List.mem_of_getElem? (i := 865) (by decide +kernel)⟩
theorem lw_p47 : lw_okq (⟨"ArcadeBoardModel", "out", "(II)V"⟩, 30) := ⟨⟨by decide +kernel, by decide +kernel⟩, List.mem_of_getElem? (i := 653) (by decide +kernel), List.mem_of_getElem? (i := 868) (by decide +kernel), List.mem_of_getElem? (i := 869) (by decide +kernel)⟩
def lw_privs_3 : List (MethodName × Nat) := [(⟨"ArcadeBoardModel", "nextWord", "()I"⟩, 30), (⟨"ArcadeBoardModel", "setPair", "(II)V"⟩, 30), (⟨"ArcadeBoardModel", "pair", "(I)I"⟩, 30), (⟨"ArcadeBoardModel", "carry", "(I)V"⟩, 30), (⟨"ArcadeBoardModel", "get", "(I)I"⟩, 30), (⟨"ArcadeBoardModel", "result", "(I)I"⟩, 30), (⟨"ArcadeBoardModel", "set", "(II)V"⟩, 30), (⟨"ArcadeBoardModel", "turnA", "(I)V"⟩, 30), (⟨"ArcadeBoardModel", "operate", "(II)V"⟩, 30), (⟨"ArcadeBoardModel", "highOperation", "(II)V"⟩, 30), (⟨"ArcadeBoardModel", "holds", "(I)Z"⟩, 30), (⟨"ArcadeBoardModel", "pop", "()I"⟩, 30), (⟨"ArcadeBoardModel", "popOrSo", "(I)V"⟩, 30), (⟨"ArcadeBoardModel", "setFlags", "(I)V"⟩, 30), (⟨"ArcadeBoardModel", "others", "(I)V"⟩, 30), (⟨"ArcadeBoardModel", "out", "(II)V"⟩, 30)]
theorem lw_r3 : ∀ q ∈ lw_privs_3, lw_okq q := List.forall_mem_cons.mpr ⟨lw_p32, List.forall_mem_cons.mpr ⟨lw_p33, List.forall_mem_cons.mpr ⟨lw_p34, List.forall_mem_cons.mpr ⟨lw_p35, List.forall_mem_cons.mpr ⟨lw_p36, List.forall_mem_cons.mpr ⟨lw_p37, List.forall_mem_cons.mpr ⟨lw_p38, List.forall_mem_cons.mpr ⟨lw_p39, List.forall_mem_cons.mpr ⟨lw_p40, List.forall_mem_cons.mpr ⟨lw_p41, List.forall_mem_cons.mpr ⟨lw_p42, List.forall_mem_cons.mpr ⟨lw_p43, List.forall_mem_cons.mpr ⟨lw_p44, List.forall_mem_cons.mpr ⟨lw_p45, List.forall_mem_cons.mpr ⟨lw_p46, List.forall_mem_cons.mpr ⟨lw_p47, fun _ h => absurd h List.not_mem_nil⟩⟩⟩⟩⟩⟩⟩⟩⟩⟩⟩⟩⟩⟩⟩⟩
theorem lw_p48 : lw_okq (⟨"ArcadeBoardModel", "in", "(I)I"⟩, 30) := ⟨⟨by decide +kernel, by decide +kernel⟩, List.mem_of_getElem? (i := 653) (by decide +kernel), List.mem_of_getElem? (i := 872) (by decide +kernel), List.mem_of_getElem? (i := 873) (by decide +kernel)⟩
theorem lw_p49 : lw_okq (⟨"ArcadeBoardModel", "flags", "()I"⟩, 30) := ⟨⟨by decide +kernel, by decide +kernel⟩, List.mem_of_getElem? (i := 653) (by decide +kernel), List.mem_of_getElem? (i := 876) (by decide +kernel), List.mem_of_getElem? (i := 877) (by decide +kernel)⟩
theorem lw_p50 : lw_okq (⟨"ArcadeBoardModel", "more", "(I)I"⟩, 30) := ⟨⟨by decide +kernel, by decide +kernel⟩, List.mem_of_getElem? (i := 653) (by decide +kernel), List.mem_of_getElem? (i := 892) (by decide +kernel), List.mem_of_getElem? (i := 893) (by decide +kernel)⟩
def lw_privs_4 : List (MethodName × Nat) := [(⟨"ArcadeBoardModel", "in", "(I)I"⟩, 30), (⟨"ArcadeBoardModel", "flags", "()I"⟩, 30), (⟨"ArcadeBoardModel", "more", "(I)I"⟩, 30)]
theorem lw_r4 : ∀ q ∈ lw_privs_4, lw_okq q := List.forall_mem_cons.mpr ⟨lw_p48, List.forall_mem_cons.mpr ⟨lw_p49, List.forall_mem_cons.mpr ⟨lw_p50, fun _ h => absurd h List.not_mem_nil⟩⟩⟩
def lw_privs : List (MethodName × Nat) := lw_privs_1 ++ (lw_privs_2 ++ (lw_privs_3 ++ (lw_privs_4)))
def lw_tbl : List Cond := k2_sels lw_privs ++ tables_1
theorem lw_privs_ok : ∀ q ∈ lw_privs, lw_okq q := by
  show ∀ q ∈ lw_privs_1 ++ (lw_privs_2 ++ (lw_privs_3 ++ (lw_privs_4))), lw_okq q
  exact List.forall_mem_append.mpr ⟨lw_r1, List.forall_mem_append.mpr ⟨lw_r2, List.forall_mem_append.mpr ⟨lw_r3, lw_r4⟩⟩⟩
/-- the words that the walks use: all of the tables' that stay as they are -/
def AL : List Cond := lw_tbl.filter goodWord
theorem ab_good : ∀ w ∈ AL, (w.onTables && w.keeps) = true ∨ ∃ ty, w = .arrayClass ty := fun w h => good_of_word (List.mem_filter.mp h).2
theorem ab_al {w : Cond} (h : w ∈ AL) : w ∈ lw_tbl := (List.mem_filter.mp h).1
theorem ab_t1 {w : Cond} (h : w ∈ tables_1_1) : w ∈ lw_tbl := List.mem_append_right _ (show w ∈ tables_1 from List.mem_append_left _ h)
theorem ab_t2 {w : Cond} (h : w ∈ tables_1_2) : w ∈ lw_tbl := List.mem_append_right _ (show w ∈ tables_1 from List.mem_append_right _ (List.mem_append_left _ h))
theorem ab_t3 {w : Cond} (h : w ∈ tables_1_3) : w ∈ lw_tbl := List.mem_append_right _ (show w ∈ tables_1 from List.mem_append_right _ (List.mem_append_right _ (List.mem_append_left _ h)))
theorem ab_t4 {w : Cond} (h : w ∈ tables_1_4) : w ∈ lw_tbl := List.mem_append_right _ (show w ∈ tables_1 from List.mem_append_right _ (List.mem_append_right _ (List.mem_append_right _ (h))))
theorem ab_s1 {w : Cond} (h : w ∈ k2_sels lw_privs_1) : w ∈ lw_tbl := List.mem_append_left _ (by
  obtain ⟨q, hq, rfl⟩ := List.mem_map.mp h
  exact List.mem_map.mpr ⟨q, show q ∈ lw_privs from List.mem_append_left _ hq, rfl⟩)
theorem ab_s2 {w : Cond} (h : w ∈ k2_sels lw_privs_2) : w ∈ lw_tbl := List.mem_append_left _ (by
  obtain ⟨q, hq, rfl⟩ := List.mem_map.mp h
  exact List.mem_map.mpr ⟨q, show q ∈ lw_privs from List.mem_append_right _ (List.mem_append_left _ hq), rfl⟩)
theorem ab_s3 {w : Cond} (h : w ∈ k2_sels lw_privs_3) : w ∈ lw_tbl := List.mem_append_left _ (by
  obtain ⟨q, hq, rfl⟩ := List.mem_map.mp h
  exact List.mem_map.mpr ⟨q, show q ∈ lw_privs from List.mem_append_right _ (List.mem_append_right _ (List.mem_append_left _ hq)), rfl⟩)
theorem ab_s4 {w : Cond} (h : w ∈ k2_sels lw_privs_4) : w ∈ lw_tbl := List.mem_append_left _ (by
  obtain ⟨q, hq, rfl⟩ := List.mem_map.mp h
  exact List.mem_map.mpr ⟨q, show q ∈ lw_privs from List.mem_append_right _ (List.mem_append_right _ (List.mem_append_right _ (hq))), rfl⟩)
theorem ab_in {w : Cond} (h : w ∈ lw_tbl) (hg : goodWord w = true) : w ∈ AL := List.mem_filter.mpr ⟨h, hg⟩
def R_Arithmetic : String := "ArcadeBoard$Arithmetic"
def T_Arithmetic : u_T := fun k => match k with
  | _ => ("ArcadeBoard$Arithmetic", "state", "LArcadeBoard$State;", true)
def ty_Arithmetic : Nat → FieldType := fun k => match k with
  | _ => .object "ArcadeBoard$State"
theorem nm_Arithmetic : ∀ a, a < 1 → ∀ b, b < 1 → a ≠ b → (T_Arithmetic a).2.1 ≠ (T_Arithmetic b).2.1 := by decide +kernel
theorem ty_Arithmetic_ok : ∀ k, k < 1 → parseFieldDescriptor (T_Arithmetic k).2.2.1 = some (ty_Arithmetic k) := by decide +kernel
theorem in_Arithmetic_0 : u_lay R_Arithmetic T_Arithmetic 0 ∈ AL := ab_in (ab_t1 (List.mem_of_getElem? (i := 208) (by decide +kernel))) (by decide +kernel)
theorem in_Arithmetic : ∀ w ∈ u_ws R_Arithmetic T_Arithmetic 1, w ∈ AL := by
  intro w h
  obtain ⟨k, hk, rfl⟩ := List.mem_map.mp h
  have hk := List.mem_range.mp hk
  match k, hk with
  | 0, _ => exact in_Arithmetic_0
def R_Clock : String := "ArcadeBoard$Clock"
def T_Clock : u_T := fun k => match k with
  | _ => ("ArcadeBoard$Clock", "state", "LArcadeBoard$State;", true)
def ty_Clock : Nat → FieldType := fun k => match k with
  | _ => .object "ArcadeBoard$State"
theorem nm_Clock : ∀ a, a < 1 → ∀ b, b < 1 → a ≠ b → (T_Clock a).2.1 ≠ (T_Clock b).2.1 := by decide +kernel
theorem ty_Clock_ok : ∀ k, k < 1 → parseFieldDescriptor (T_Clock k).2.2.1 = some (ty_Clock k) := by decide +kernel
theorem in_Clock_0 : u_lay R_Clock T_Clock 0 ∈ AL := ab_in (ab_t1 (List.mem_of_getElem? (i := 192) (by decide +kernel))) (by decide +kernel)
theorem in_Clock : ∀ w ∈ u_ws R_Clock T_Clock 1, w ∈ AL := by
  intro w h
  obtain ⟨k, hk, rfl⟩ := List.mem_map.mp h
  have hk := List.mem_range.mp hk
  match k, hk with
  | 0, _ => exact in_Clock_0
def R_Memory : String := "ArcadeBoard$Memory"
def T_Memory : u_T := fun k => match k with
  | 0 => ("ArcadeBoard$Memory", "program", "[I", true)
  | _ => ("ArcadeBoard$Memory", "state", "LArcadeBoard$State;", true)
def ty_Memory : Nat → FieldType := fun k => match k with
  | 0 => .array .int
  | _ => .object "ArcadeBoard$State"
theorem nm_Memory : ∀ a, a < 2 → ∀ b, b < 2 → a ≠ b → (T_Memory a).2.1 ≠ (T_Memory b).2.1 := by decide +kernel
theorem ty_Memory_ok : ∀ k, k < 2 → parseFieldDescriptor (T_Memory k).2.2.1 = some (ty_Memory k) := by decide +kernel
theorem in_Memory_0 : u_lay R_Memory T_Memory 0 ∈ AL := ab_in (ab_t1 (List.mem_of_getElem? (i := 135) (by decide +kernel))) (by decide +kernel)
theorem in_Memory_1 : u_lay R_Memory T_Memory 1 ∈ AL := ab_in (ab_t1 (List.mem_of_getElem? (i := 137) (by decide +kernel))) (by decide +kernel)
theorem in_Memory : ∀ w ∈ u_ws R_Memory T_Memory 2, w ∈ AL := by
  intro w h
  obtain ⟨k, hk, rfl⟩ := List.mem_map.mp h
  have hk := List.mem_range.mp hk
  match k, hk with
  | 0, _ => exact in_Memory_0
  | 1, _ => exact in_Memory_1
def R_Ports : String := "ArcadeBoard$Ports"
def T_Ports : u_T := fun k => match k with
  | 0 => ("ArcadeBoard$Ports", "state", "LArcadeBoard$State;", true)
  | 1 => ("ArcadeBoard$Ports", "sounds", "LArcadeBoard$Sounds;", true)
  | 2 => ("ArcadeBoard$Ports", "dips", "I", false)
  | _ => ("ArcadeBoard$Ports", "inputs", "I", false)
def ty_Ports : Nat → FieldType := fun k => match k with
  | 0 => .object "ArcadeBoard$State"
  | 1 => .object "ArcadeBoard$Sounds"
  | 2 => .int
  | _ => .int
theorem nm_Ports : ∀ a, a < 4 → ∀ b, b < 4 → a ≠ b → (T_Ports a).2.1 ≠ (T_Ports b).2.1 := by decide +kernel
theorem ty_Ports_ok : ∀ k, k < 4 → parseFieldDescriptor (T_Ports k).2.2.1 = some (ty_Ports k) := by decide +kernel
theorem in_Ports_0 : u_lay R_Ports T_Ports 0 ∈ AL := ab_in (ab_t1 (List.mem_of_getElem? (i := 176) (by decide +kernel))) (by decide +kernel)
theorem in_Ports_1 : u_lay R_Ports T_Ports 1 ∈ AL := ab_in (ab_t1 (List.mem_of_getElem? (i := 178) (by decide +kernel))) (by decide +kernel)
theorem in_Ports_2 : u_lay R_Ports T_Ports 2 ∈ AL := ab_in (ab_t1 (List.mem_of_getElem? (i := 180) (by decide +kernel))) (by decide +kernel)
theorem in_Ports_3 : u_lay R_Ports T_Ports 3 ∈ AL := ab_in (ab_t1 (List.mem_of_getElem? (i := 182) (by decide +kernel))) (by decide +kernel)
theorem in_Ports : ∀ w ∈ u_ws R_Ports T_Ports 4, w ∈ AL := by
  intro w h
  obtain ⟨k, hk, rfl⟩ := List.mem_map.mp h
  have hk := List.mem_range.mp hk
  match k, hk with
  | 0, _ => exact in_Ports_0
  | 1, _ => exact in_Ports_1
  | 2, _ => exact in_Ports_2
  | 3, _ => exact in_Ports_3
def R_Processor : String := "ArcadeBoard$Processor"
def T_Processor : u_T := fun k => match k with
  | 0 => ("ArcadeBoard$Processor", "state", "LArcadeBoard$State;", true)
  | 1 => ("ArcadeBoard$Processor", "memory", "LArcadeBoard$Memory;", true)
  | 2 => ("ArcadeBoard$Processor", "registers", "LArcadeBoard$Registers;", true)
  | 3 => ("ArcadeBoard$Processor", "arithmetic", "LArcadeBoard$Arithmetic;", true)
  | 4 => ("ArcadeBoard$Processor", "ports", "LArcadeBoard$Ports;", true)
  | _ => ("ArcadeBoard$Processor", "clock", "LArcadeBoard$Clock;", true)
def ty_Processor : Nat → FieldType := fun k => match k with
  | 0 => .object "ArcadeBoard$State"
  | 1 => .object "ArcadeBoard$Memory"
  | 2 => .object "ArcadeBoard$Registers"
  | 3 => .object "ArcadeBoard$Arithmetic"
  | 4 => .object "ArcadeBoard$Ports"
  | _ => .object "ArcadeBoard$Clock"
theorem nm_Processor : ∀ a, a < 6 → ∀ b, b < 6 → a ≠ b → (T_Processor a).2.1 ≠ (T_Processor b).2.1 := by decide +kernel
theorem ty_Processor_ok : ∀ k, k < 6 → parseFieldDescriptor (T_Processor k).2.2.1 = some (ty_Processor k) := by decide +kernel
theorem in_Processor_0 : u_lay R_Processor T_Processor 0 ∈ AL := ab_in (ab_t1 (List.mem_of_getElem? (i := 217) (by decide +kernel))) (by decide +kernel)
theorem in_Processor_1 : u_lay R_Processor T_Processor 1 ∈ AL := ab_in (ab_t1 (List.mem_of_getElem? (i := 219) (by decide +kernel))) (by decide +kernel)
theorem in_Processor_2 : u_lay R_Processor T_Processor 2 ∈ AL := ab_in (ab_t1 (List.mem_of_getElem? (i := 221) (by decide +kernel))) (by decide +kernel)
theorem in_Processor_3 : u_lay R_Processor T_Processor 3 ∈ AL := ab_in (ab_t1 (List.mem_of_getElem? (i := 223) (by decide +kernel))) (by decide +kernel)
theorem in_Processor_4 : u_lay R_Processor T_Processor 4 ∈ AL := ab_in (ab_t1 (List.mem_of_getElem? (i := 225) (by decide +kernel))) (by decide +kernel)
theorem in_Processor_5 : u_lay R_Processor T_Processor 5 ∈ AL := ab_in (ab_t1 (List.mem_of_getElem? (i := 227) (by decide +kernel))) (by decide +kernel)
theorem in_Processor : ∀ w ∈ u_ws R_Processor T_Processor 6, w ∈ AL := by
  intro w h
  obtain ⟨k, hk, rfl⟩ := List.mem_map.mp h
  have hk := List.mem_range.mp hk
  match k, hk with
  | 0, _ => exact in_Processor_0
  | 1, _ => exact in_Processor_1
  | 2, _ => exact in_Processor_2
  | 3, _ => exact in_Processor_3
  | 4, _ => exact in_Processor_4
  | 5, _ => exact in_Processor_5
def R_Registers : String := "ArcadeBoard$Registers"
def T_Registers : u_T := fun k => match k with
  | 0 => ("ArcadeBoard$Registers", "state", "LArcadeBoard$State;", true)
  | _ => ("ArcadeBoard$Registers", "memory", "LArcadeBoard$Memory;", true)
def ty_Registers : Nat → FieldType := fun k => match k with
  | 0 => .object "ArcadeBoard$State"
  | _ => .object "ArcadeBoard$Memory"
theorem nm_Registers : ∀ a, a < 2 → ∀ b, b < 2 → a ≠ b → (T_Registers a).2.1 ≠ (T_Registers b).2.1 := by decide +kernel
theorem ty_Registers_ok : ∀ k, k < 2 → parseFieldDescriptor (T_Registers k).2.2.1 = some (ty_Registers k) := by decide +kernel
theorem in_Registers_0 : u_lay R_Registers T_Registers 0 ∈ AL := ab_in (ab_t1 (List.mem_of_getElem? (i := 148) (by decide +kernel))) (by decide +kernel)
theorem in_Registers_1 : u_lay R_Registers T_Registers 1 ∈ AL := ab_in (ab_t1 (List.mem_of_getElem? (i := 150) (by decide +kernel))) (by decide +kernel)
theorem in_Registers : ∀ w ∈ u_ws R_Registers T_Registers 2, w ∈ AL := by
  intro w h
  obtain ⟨k, hk, rfl⟩ := List.mem_map.mp h
  have hk := List.mem_range.mp hk
  match k, hk with
  | 0, _ => exact in_Registers_0
  | 1, _ => exact in_Registers_1
def R_Sounds : String := "ArcadeBoard$Sounds"
def T_Sounds : u_T := fun k => match k with
  | 0 => ("ArcadeBoard$Sounds", "latest", "[I", true)
  | _ => ("ArcadeBoard$Sounds", "count", "I", false)
def ty_Sounds : Nat → FieldType := fun k => match k with
  | 0 => .array .int
  | _ => .int
theorem nm_Sounds : ∀ a, a < 2 → ∀ b, b < 2 → a ≠ b → (T_Sounds a).2.1 ≠ (T_Sounds b).2.1 := by decide +kernel
theorem ty_Sounds_ok : ∀ k, k < 2 → parseFieldDescriptor (T_Sounds k).2.2.1 = some (ty_Sounds k) := by decide +kernel
theorem in_Sounds_0 : u_lay R_Sounds T_Sounds 0 ∈ AL := ab_in (ab_t1 (List.mem_of_getElem? (i := 161) (by decide +kernel))) (by decide +kernel)
theorem in_Sounds_1 : u_lay R_Sounds T_Sounds 1 ∈ AL := ab_in (ab_t1 (List.mem_of_getElem? (i := 163) (by decide +kernel))) (by decide +kernel)
theorem in_Sounds : ∀ w ∈ u_ws R_Sounds T_Sounds 2, w ∈ AL := by
  intro w h
  obtain ⟨k, hk, rfl⟩ := List.mem_map.mp h
  have hk := List.mem_range.mp hk
  match k, hk with
  | 0, _ => exact in_Sounds_0
  | 1, _ => exact in_Sounds_1
def R_State : String := "ArcadeBoard$State"
def T_State : u_T := fun k => match k with
  | 0 => ("ArcadeBoard$State", "ram", "[I", true)
  | 1 => ("ArcadeBoard$State", "registers", "[I", true)
  | 2 => ("ArcadeBoard$State", "flags", "I", false)
  | 3 => ("ArcadeBoard$State", "sp", "I", false)
  | 4 => ("ArcadeBoard$State", "pc", "I", false)
  | 5 => ("ArcadeBoard$State", "interrupts", "Z", false)
  | 6 => ("ArcadeBoard$State", "switchedOn", "Z", false)
  | 7 => ("ArcadeBoard$State", "halted", "Z", false)
  | 8 => ("ArcadeBoard$State", "call", "I", false)
  | 9 => ("ArcadeBoard$State", "shift", "I", false)
  | 10 => ("ArcadeBoard$State", "offset", "I", false)
  | 11 => ("ArcadeBoard$State", "watch", "I", false)
  | 12 => ("ArcadeBoard$State", "time", "I", false)
  | 13 => ("ArcadeBoard$State", "frames", "I", false)
  | 14 => ("ArcadeBoard$State", "coinCount", "I", false)
  | 15 => ("ArcadeBoard$State", "lastTo3", "I", false)
  | _ => ("ArcadeBoard$State", "lastTo5", "I", false)
def ty_State : Nat → FieldType := fun k => match k with
  | 0 => .array .int
  | 1 => .array .int
  | 2 => .int
  | 3 => .int
  | 4 => .int
  | 5 => .boolean
  | 6 => .boolean
  | 7 => .boolean
  | 8 => .int
  | 9 => .int
  | 10 => .int
  | 11 => .int
  | 12 => .int
  | 13 => .int
  | 14 => .int
  | 15 => .int
  | _ => .int
theorem nm_State : ∀ a, a < 17 → ∀ b, b < 17 → a ≠ b → (T_State a).2.1 ≠ (T_State b).2.1 := by decide +kernel
theorem ty_State_ok : ∀ k, k < 17 → parseFieldDescriptor (T_State k).2.2.1 = some (ty_State k) := by decide +kernel
theorem in_State_0 : u_lay R_State T_State 0 ∈ AL := ab_in (ab_t1 (List.mem_of_getElem? (i := 91) (by decide +kernel))) (by decide +kernel)
theorem in_State_1 : u_lay R_State T_State 1 ∈ AL := ab_in (ab_t1 (List.mem_of_getElem? (i := 93) (by decide +kernel))) (by decide +kernel)
theorem in_State_2 : u_lay R_State T_State 2 ∈ AL := ab_in (ab_t1 (List.mem_of_getElem? (i := 95) (by decide +kernel))) (by decide +kernel)
theorem in_State_3 : u_lay R_State T_State 3 ∈ AL := ab_in (ab_t1 (List.mem_of_getElem? (i := 97) (by decide +kernel))) (by decide +kernel)
theorem in_State_4 : u_lay R_State T_State 4 ∈ AL := ab_in (ab_t1 (List.mem_of_getElem? (i := 99) (by decide +kernel))) (by decide +kernel)
theorem in_State_5 : u_lay R_State T_State 5 ∈ AL := ab_in (ab_t1 (List.mem_of_getElem? (i := 101) (by decide +kernel))) (by decide +kernel)
theorem in_State_6 : u_lay R_State T_State 6 ∈ AL := ab_in (ab_t1 (List.mem_of_getElem? (i := 103) (by decide +kernel))) (by decide +kernel)
theorem in_State_7 : u_lay R_State T_State 7 ∈ AL := ab_in (ab_t1 (List.mem_of_getElem? (i := 105) (by decide +kernel))) (by decide +kernel)
theorem in_State_8 : u_lay R_State T_State 8 ∈ AL := ab_in (ab_t1 (List.mem_of_getElem? (i := 107) (by decide +kernel))) (by decide +kernel)
theorem in_State_9 : u_lay R_State T_State 9 ∈ AL := ab_in (ab_t1 (List.mem_of_getElem? (i := 109) (by decide +kernel))) (by decide +kernel)
theorem in_State_10 : u_lay R_State T_State 10 ∈ AL := ab_in (ab_t1 (List.mem_of_getElem? (i := 111) (by decide +kernel))) (by decide +kernel)
theorem in_State_11 : u_lay R_State T_State 11 ∈ AL := ab_in (ab_t1 (List.mem_of_getElem? (i := 113) (by decide +kernel))) (by decide +kernel)
theorem in_State_12 : u_lay R_State T_State 12 ∈ AL := ab_in (ab_t1 (List.mem_of_getElem? (i := 115) (by decide +kernel))) (by decide +kernel)
theorem in_State_13 : u_lay R_State T_State 13 ∈ AL := ab_in (ab_t1 (List.mem_of_getElem? (i := 117) (by decide +kernel))) (by decide +kernel)
theorem in_State_14 : u_lay R_State T_State 14 ∈ AL := ab_in (ab_t1 (List.mem_of_getElem? (i := 119) (by decide +kernel))) (by decide +kernel)
theorem in_State_15 : u_lay R_State T_State 15 ∈ AL := ab_in (ab_t1 (List.mem_of_getElem? (i := 121) (by decide +kernel))) (by decide +kernel)
theorem in_State_16 : u_lay R_State T_State 16 ∈ AL := ab_in (ab_t1 (List.mem_of_getElem? (i := 123) (by decide +kernel))) (by decide +kernel)
theorem in_State : ∀ w ∈ u_ws R_State T_State 17, w ∈ AL := by
  intro w h
  obtain ⟨k, hk, rfl⟩ := List.mem_map.mp h
  have hk := List.mem_range.mp hk
  match k, hk with
  | 0, _ => exact in_State_0
  | 1, _ => exact in_State_1
  | 2, _ => exact in_State_2
  | 3, _ => exact in_State_3
  | 4, _ => exact in_State_4
  | 5, _ => exact in_State_5
  | 6, _ => exact in_State_6
  | 7, _ => exact in_State_7
  | 8, _ => exact in_State_8
  | 9, _ => exact in_State_9
  | 10, _ => exact in_State_10
  | 11, _ => exact in_State_11
  | 12, _ => exact in_State_12
  | 13, _ => exact in_State_13
  | 14, _ => exact in_State_14
  | 15, _ => exact in_State_15
  | 16, _ => exact in_State_16
  | k + 17, h => exact absurd h (by omega)
def R_AB : String := "ArcadeBoard"
def T_AB : u_T := fun k => match k with
  | 0 => ("ArcadeBoard", "state", "LArcadeBoard$State;", true)
  | 1 => ("ArcadeBoard", "memory", "LArcadeBoard$Memory;", true)
  | 2 => ("ArcadeBoard", "registers", "LArcadeBoard$Registers;", true)
  | 3 => ("ArcadeBoard", "sounds", "LArcadeBoard$Sounds;", true)
  | 4 => ("ArcadeBoard", "ports", "LArcadeBoard$Ports;", true)
  | 5 => ("ArcadeBoard", "clock", "LArcadeBoard$Clock;", true)
  | 6 => ("ArcadeBoard", "processor", "LArcadeBoard$Processor;", true)
  | 7 => ("ArcadeBoard", "slots", "[LArcadeBoard$State;", true)
  | 8 => ("ArcadeBoard", "filled", "[Z", true)
  | _ => ("ArcadeBoard", "on", "Z", false)
def ty_AB : Nat → FieldType := fun k => match k with
  | 0 => .object "ArcadeBoard$State"
  | 1 => .object "ArcadeBoard$Memory"
  | 2 => .object "ArcadeBoard$Registers"
  | 3 => .object "ArcadeBoard$Sounds"
  | 4 => .object "ArcadeBoard$Ports"
  | 5 => .object "ArcadeBoard$Clock"
  | 6 => .object "ArcadeBoard$Processor"
  | 7 => .array (.object "ArcadeBoard$State")
  | 8 => .array .boolean
  | _ => .boolean
theorem nm_AB : ∀ a, a < 10 → ∀ b, b < 10 → a ≠ b → (T_AB a).2.1 ≠ (T_AB b).2.1 := by decide +kernel
theorem ty_AB_ok : ∀ k, k < 10 → parseFieldDescriptor (T_AB k).2.2.1 = some (ty_AB k) := by decide +kernel
theorem in_AB_0 : u_lay R_AB T_AB 0 ∈ AL := ab_in (ab_t2 (List.mem_of_getElem? (i := 1) (by decide +kernel))) (by decide +kernel)
theorem in_AB_1 : u_lay R_AB T_AB 1 ∈ AL := ab_in (ab_t2 (List.mem_of_getElem? (i := 3) (by decide +kernel))) (by decide +kernel)
theorem in_AB_2 : u_lay R_AB T_AB 2 ∈ AL := ab_in (ab_t2 (List.mem_of_getElem? (i := 5) (by decide +kernel))) (by decide +kernel)
theorem in_AB_3 : u_lay R_AB T_AB 3 ∈ AL := ab_in (ab_t2 (List.mem_of_getElem? (i := 7) (by decide +kernel))) (by decide +kernel)
theorem in_AB_4 : u_lay R_AB T_AB 4 ∈ AL := ab_in (ab_t2 (List.mem_of_getElem? (i := 9) (by decide +kernel))) (by decide +kernel)
theorem in_AB_5 : u_lay R_AB T_AB 5 ∈ AL := ab_in (ab_t2 (List.mem_of_getElem? (i := 11) (by decide +kernel))) (by decide +kernel)
theorem in_AB_6 : u_lay R_AB T_AB 6 ∈ AL := ab_in (ab_t2 (List.mem_of_getElem? (i := 13) (by decide +kernel))) (by decide +kernel)
theorem in_AB_7 : u_lay R_AB T_AB 7 ∈ AL := ab_in (ab_t2 (List.mem_of_getElem? (i := 15) (by decide +kernel))) (by decide +kernel)
theorem in_AB_8 : u_lay R_AB T_AB 8 ∈ AL := ab_in (ab_t2 (List.mem_of_getElem? (i := 17) (by decide +kernel))) (by decide +kernel)
theorem in_AB_9 : u_lay R_AB T_AB 9 ∈ AL := ab_in (ab_t2 (List.mem_of_getElem? (i := 19) (by decide +kernel))) (by decide +kernel)
theorem in_AB : ∀ w ∈ u_ws R_AB T_AB 10, w ∈ AL := by
  intro w h
  obtain ⟨k, hk, rfl⟩ := List.mem_map.mp h
  have hk := List.mem_range.mp hk
  match k, hk with
  | 0, _ => exact in_AB_0
  | 1, _ => exact in_AB_1
  | 2, _ => exact in_AB_2
  | 3, _ => exact in_AB_3
  | 4, _ => exact in_AB_4
  | 5, _ => exact in_AB_5
  | 6, _ => exact in_AB_6
  | 7, _ => exact in_AB_7
  | 8, _ => exact in_AB_8
  | 9, _ => exact in_AB_9
def R_MD : String := "ArcadeBoardModel"
def T_MD : u_T := fun k => match k with
  | 0 => ("ArcadeBoardModel", "thrown", "I", false)
  | 1 => ("ArcadeBoardModel", "memory", "[I", true)
  | 2 => ("ArcadeBoardModel", "on", "Z", false)
  | 3 => ("ArcadeBoardModel", "dips", "I", false)
  | 4 => ("ArcadeBoardModel", "inputs", "I", false)
  | 5 => ("ArcadeBoardModel", "reg", "[I", true)
  | 6 => ("ArcadeBoardModel", "fs", "Z", false)
  | 7 => ("ArcadeBoardModel", "fz", "Z", false)
  | 8 => ("ArcadeBoardModel", "fh", "Z", false)
  | 9 => ("ArcadeBoardModel", "fp", "Z", false)
  | 10 => ("ArcadeBoardModel", "fk", "Z", false)
  | 11 => ("ArcadeBoardModel", "sp", "I", false)
  | 12 => ("ArcadeBoardModel", "pc", "I", false)
  | 13 => ("ArcadeBoardModel", "enabled", "Z", false)
  | 14 => ("ArcadeBoardModel", "justOn", "Z", false)
  | 15 => ("ArcadeBoardModel", "halted", "Z", false)
  | 16 => ("ArcadeBoardModel", "call", "I", false)
  | 17 => ("ArcadeBoardModel", "shift", "I", false)
  | 18 => ("ArcadeBoardModel", "offset", "I", false)
  | 19 => ("ArcadeBoardModel", "watch", "I", false)
  | 20 => ("ArcadeBoardModel", "time", "I", false)
  | 21 => ("ArcadeBoardModel", "frames", "I", false)
  | 22 => ("ArcadeBoardModel", "coins", "I", false)
  | 23 => ("ArcadeBoardModel", "port3", "I", false)
  | 24 => ("ArcadeBoardModel", "port5", "I", false)
  | 25 => ("ArcadeBoardModel", "sounds", "I", false)
  | 26 => ("ArcadeBoardModel", "latest", "[I", true)
  | 27 => ("ArcadeBoardModel", "saved", "[Z", true)
  | 28 => ("ArcadeBoardModel", "kept", "[I", true)
  | _ => ("ArcadeBoardModel", "states", "I", false)
def ty_MD : Nat → FieldType := fun k => match k with
  | 0 => .int
  | 1 => .array .int
  | 2 => .boolean
  | 3 => .int
  | 4 => .int
  | 5 => .array .int
  | 6 => .boolean
  | 7 => .boolean
  | 8 => .boolean
  | 9 => .boolean
  | 10 => .boolean
  | 11 => .int
  | 12 => .int
  | 13 => .boolean
  | 14 => .boolean
  | 15 => .boolean
  | 16 => .int
  | 17 => .int
  | 18 => .int
  | 19 => .int
  | 20 => .int
  | 21 => .int
  | 22 => .int
  | 23 => .int
  | 24 => .int
  | 25 => .int
  | 26 => .array .int
  | 27 => .array .boolean
  | 28 => .array .int
  | _ => .int
theorem nm_MD : ∀ a, a < 30 → ∀ b, b < 30 → a ≠ b → (T_MD a).2.1 ≠ (T_MD b).2.1 := by decide +kernel
theorem ty_MD_ok : ∀ k, k < 30 → parseFieldDescriptor (T_MD k).2.2.1 = some (ty_MD k) := by decide +kernel
theorem in_MD_0 : u_lay R_MD T_MD 0 ∈ AL := ab_in (ab_t3 (List.mem_of_getElem? (i := 208) (by decide +kernel))) (by decide +kernel)
theorem in_MD_1 : u_lay R_MD T_MD 1 ∈ AL := ab_in (ab_t3 (List.mem_of_getElem? (i := 210) (by decide +kernel))) (by decide +kernel)
theorem in_MD_2 : u_lay R_MD T_MD 2 ∈ AL := ab_in (ab_t3 (List.mem_of_getElem? (i := 212) (by decide +kernel))) (by decide +kernel)
theorem in_MD_3 : u_lay R_MD T_MD 3 ∈ AL := ab_in (ab_t3 (List.mem_of_getElem? (i := 214) (by decide +kernel))) (by decide +kernel)
theorem in_MD_4 : u_lay R_MD T_MD 4 ∈ AL := ab_in (ab_t3 (List.mem_of_getElem? (i := 216) (by decide +kernel))) (by decide +kernel)
theorem in_MD_5 : u_lay R_MD T_MD 5 ∈ AL := ab_in (ab_t3 (List.mem_of_getElem? (i := 218) (by decide +kernel))) (by decide +kernel)
theorem in_MD_6 : u_lay R_MD T_MD 6 ∈ AL := ab_in (ab_t3 (List.mem_of_getElem? (i := 220) (by decide +kernel))) (by decide +kernel)
theorem in_MD_7 : u_lay R_MD T_MD 7 ∈ AL := ab_in (ab_t3 (List.mem_of_getElem? (i := 222) (by decide +kernel))) (by decide +kernel)
theorem in_MD_8 : u_lay R_MD T_MD 8 ∈ AL := ab_in (ab_t3 (List.mem_of_getElem? (i := 224) (by decide +kernel))) (by decide +kernel)
theorem in_MD_9 : u_lay R_MD T_MD 9 ∈ AL := ab_in (ab_t3 (List.mem_of_getElem? (i := 226) (by decide +kernel))) (by decide +kernel)
theorem in_MD_10 : u_lay R_MD T_MD 10 ∈ AL := ab_in (ab_t3 (List.mem_of_getElem? (i := 228) (by decide +kernel))) (by decide +kernel)
theorem in_MD_11 : u_lay R_MD T_MD 11 ∈ AL := ab_in (ab_t3 (List.mem_of_getElem? (i := 230) (by decide +kernel))) (by decide +kernel)
theorem in_MD_12 : u_lay R_MD T_MD 12 ∈ AL := ab_in (ab_t3 (List.mem_of_getElem? (i := 232) (by decide +kernel))) (by decide +kernel)
theorem in_MD_13 : u_lay R_MD T_MD 13 ∈ AL := ab_in (ab_t3 (List.mem_of_getElem? (i := 234) (by decide +kernel))) (by decide +kernel)
theorem in_MD_14 : u_lay R_MD T_MD 14 ∈ AL := ab_in (ab_t3 (List.mem_of_getElem? (i := 236) (by decide +kernel))) (by decide +kernel)
theorem in_MD_15 : u_lay R_MD T_MD 15 ∈ AL := ab_in (ab_t3 (List.mem_of_getElem? (i := 238) (by decide +kernel))) (by decide +kernel)
theorem in_MD_16 : u_lay R_MD T_MD 16 ∈ AL := ab_in (ab_t4 (List.mem_of_getElem? (i := 0) (by decide +kernel))) (by decide +kernel)
theorem in_MD_17 : u_lay R_MD T_MD 17 ∈ AL := ab_in (ab_t4 (List.mem_of_getElem? (i := 2) (by decide +kernel))) (by decide +kernel)
theorem in_MD_18 : u_lay R_MD T_MD 18 ∈ AL := ab_in (ab_t4 (List.mem_of_getElem? (i := 4) (by decide +kernel))) (by decide +kernel)
theorem in_MD_19 : u_lay R_MD T_MD 19 ∈ AL := ab_in (ab_t4 (List.mem_of_getElem? (i := 6) (by decide +kernel))) (by decide +kernel)
theorem in_MD_20 : u_lay R_MD T_MD 20 ∈ AL := ab_in (ab_t4 (List.mem_of_getElem? (i := 8) (by decide +kernel))) (by decide +kernel)
theorem in_MD_21 : u_lay R_MD T_MD 21 ∈ AL := ab_in (ab_t4 (List.mem_of_getElem? (i := 10) (by decide +kernel))) (by decide +kernel)
theorem in_MD_22 : u_lay R_MD T_MD 22 ∈ AL := ab_in (ab_t4 (List.mem_of_getElem? (i := 12) (by decide +kernel))) (by decide +kernel)
theorem in_MD_23 : u_lay R_MD T_MD 23 ∈ AL := ab_in (ab_t4 (List.mem_of_getElem? (i := 14) (by decide +kernel))) (by decide +kernel)
theorem in_MD_24 : u_lay R_MD T_MD 24 ∈ AL := ab_in (ab_t4 (List.mem_of_getElem? (i := 16) (by decide +kernel))) (by decide +kernel)
theorem in_MD_25 : u_lay R_MD T_MD 25 ∈ AL := ab_in (ab_t4 (List.mem_of_getElem? (i := 18) (by decide +kernel))) (by decide +kernel)
theorem in_MD_26 : u_lay R_MD T_MD 26 ∈ AL := ab_in (ab_t4 (List.mem_of_getElem? (i := 20) (by decide +kernel))) (by decide +kernel)
theorem in_MD_27 : u_lay R_MD T_MD 27 ∈ AL := ab_in (ab_t4 (List.mem_of_getElem? (i := 22) (by decide +kernel))) (by decide +kernel)
theorem in_MD_28 : u_lay R_MD T_MD 28 ∈ AL := ab_in (ab_t4 (List.mem_of_getElem? (i := 24) (by decide +kernel))) (by decide +kernel)
theorem in_MD_29 : u_lay R_MD T_MD 29 ∈ AL := ab_in (ab_t4 (List.mem_of_getElem? (i := 26) (by decide +kernel))) (by decide +kernel)
theorem in_MD : ∀ w ∈ u_ws R_MD T_MD 30, w ∈ AL := by
  intro w h
  obtain ⟨k, hk, rfl⟩ := List.mem_map.mp h
  have hk := List.mem_range.mp hk
  match k, hk with
  | 0, _ => exact in_MD_0
  | 1, _ => exact in_MD_1
  | 2, _ => exact in_MD_2
  | 3, _ => exact in_MD_3
  | 4, _ => exact in_MD_4
  | 5, _ => exact in_MD_5
  | 6, _ => exact in_MD_6
  | 7, _ => exact in_MD_7
  | 8, _ => exact in_MD_8
  | 9, _ => exact in_MD_9
  | 10, _ => exact in_MD_10
  | 11, _ => exact in_MD_11
  | 12, _ => exact in_MD_12
  | 13, _ => exact in_MD_13
  | 14, _ => exact in_MD_14
  | 15, _ => exact in_MD_15
  | 16, _ => exact in_MD_16
  | 17, _ => exact in_MD_17
  | 18, _ => exact in_MD_18
  | 19, _ => exact in_MD_19
  | 20, _ => exact in_MD_20
  | 21, _ => exact in_MD_21
  | 22, _ => exact in_MD_22
  | 23, _ => exact in_MD_23
  | 24, _ => exact in_MD_24
  | 25, _ => exact in_MD_25
  | 26, _ => exact in_MD_26
  | 27, _ => exact in_MD_27
  | 28, _ => exact in_MD_28
  | 29, _ => exact in_MD_29
  | k + 30, h => exact absurd h (by omega)
abbrev CL : List vw_C := [(R_Arithmetic, T_Arithmetic, 1), (R_Clock, T_Clock, 1), (R_Memory, T_Memory, 2), (R_Ports, T_Ports, 4), (R_Processor, T_Processor, 6), (R_Registers, T_Registers, 2), (R_Sounds, T_Sounds, 2), (R_State, T_State, 17), (R_AB, T_AB, 10), (R_MD, T_MD, 30)]
