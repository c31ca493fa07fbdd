abbrev b_State_become : ByteArray := prog_9_method_2_code
def y_State_become : MethodName := ⟨"ArcadeBoard$State", "become", "(LArcadeBoard$State;)V"⟩
theorem d_State_become_0 : decode b_State_become 0 = .ok (.aload_n 1, 1) := by decide +kernel
theorem d_State_become_1 : decode b_State_become 1 = .ok (.getfield 9, 3) := by decide +kernel
theorem d_State_become_4 : decode b_State_become 4 = .ok (.iconst 0, 1) := by decide +kernel
theorem d_State_become_5 : decode b_State_become 5 = .ok (.aload_n 0, 1) := by decide +kernel
theorem d_State_become_6 : decode b_State_become 6 = .ok (.getfield 9, 3) := by decide +kernel
theorem d_State_become_9 : decode b_State_become 9 = .ok (.iconst 0, 1) := by decide +kernel
theorem d_State_become_10 : decode b_State_become 10 = .ok (.sipush 512, 3) := by decide +kernel
theorem d_State_become_13 : decode b_State_become 13 = .ok (.invokestatic 65, 3) := by decide +kernel
theorem d_State_become_16 : decode b_State_become 16 = .ok (.aload_n 1, 1) := by decide +kernel
theorem d_State_become_17 : decode b_State_become 17 = .ok (.getfield 15, 3) := by decide +kernel
theorem d_State_become_20 : decode b_State_become 20 = .ok (.iconst 0, 1) := by decide +kernel
theorem d_State_become_21 : decode b_State_become 21 = .ok (.aload_n 0, 1) := by decide +kernel
theorem d_State_become_22 : decode b_State_become 22 = .ok (.getfield 15, 3) := by decide +kernel
theorem d_State_become_25 : decode b_State_become 25 = .ok (.iconst 0, 1) := by decide +kernel
theorem d_State_become_26 : decode b_State_become 26 = .ok (.bipush 8, 2) := by decide +kernel
theorem d_State_become_28 : decode b_State_become 28 = .ok (.invokestatic 65, 3) := by decide +kernel
theorem d_State_become_31 : decode b_State_become 31 = .ok (.aload_n 0, 1) := by decide +kernel
theorem d_State_become_32 : decode b_State_become 32 = .ok (.aload_n 1, 1) := by decide +kernel
theorem d_State_become_33 : decode b_State_become 33 = .ok (.getfield 18, 3) := by decide +kernel
theorem d_State_become_36 : decode b_State_become 36 = .ok (.putfield 18, 3) := by decide +kernel
theorem d_State_become_39 : decode b_State_become 39 = .ok (.aload_n 0, 1) := by decide +kernel
theorem d_State_become_40 : decode b_State_become 40 = .ok (.aload_n 1, 1) := by decide +kernel
theorem d_State_become_41 : decode b_State_become 41 = .ok (.getfield 22, 3) := by decide +kernel
theorem d_State_become_44 : decode b_State_become 44 = .ok (.putfield 22, 3) := by decide +kernel
theorem d_State_become_47 : decode b_State_become 47 = .ok (.aload_n 0, 1) := by decide +kernel
theorem d_State_become_48 : decode b_State_become 48 = .ok (.aload_n 1, 1) := by decide +kernel
theorem d_State_become_49 : decode b_State_become 49 = .ok (.getfield 25, 3) := by decide +kernel
theorem d_State_become_52 : decode b_State_become 52 = .ok (.putfield 25, 3) := by decide +kernel
theorem d_State_become_55 : decode b_State_become 55 = .ok (.aload_n 0, 1) := by decide +kernel
theorem d_State_become_56 : decode b_State_become 56 = .ok (.aload_n 1, 1) := by decide +kernel
theorem d_State_become_57 : decode b_State_become 57 = .ok (.getfield 28, 3) := by decide +kernel
theorem d_State_become_60 : decode b_State_become 60 = .ok (.putfield 28, 3) := by decide +kernel
theorem d_State_become_63 : decode b_State_become 63 = .ok (.aload_n 0, 1) := by decide +kernel
theorem d_State_become_64 : decode b_State_become 64 = .ok (.aload_n 1, 1) := by decide +kernel
theorem d_State_become_65 : decode b_State_become 65 = .ok (.getfield 32, 3) := by decide +kernel
theorem d_State_become_68 : decode b_State_become 68 = .ok (.putfield 32, 3) := by decide +kernel
theorem d_State_become_71 : decode b_State_become 71 = .ok (.aload_n 0, 1) := by decide +kernel
theorem d_State_become_72 : decode b_State_become 72 = .ok (.aload_n 1, 1) := by decide +kernel
theorem d_State_become_73 : decode b_State_become 73 = .ok (.getfield 35, 3) := by decide +kernel
theorem d_State_become_76 : decode b_State_become 76 = .ok (.putfield 35, 3) := by decide +kernel
theorem d_State_become_79 : decode b_State_become 79 = .ok (.aload_n 0, 1) := by decide +kernel
theorem d_State_become_80 : decode b_State_become 80 = .ok (.aload_n 1, 1) := by decide +kernel
theorem d_State_become_81 : decode b_State_become 81 = .ok (.getfield 38, 3) := by decide +kernel
theorem d_State_become_84 : decode b_State_become 84 = .ok (.putfield 38, 3) := by decide +kernel
theorem d_State_become_87 : decode b_State_become 87 = .ok (.aload_n 0, 1) := by decide +kernel
theorem d_State_become_88 : decode b_State_become 88 = .ok (.aload_n 1, 1) := by decide +kernel
theorem d_State_become_89 : decode b_State_become 89 = .ok (.getfield 41, 3) := by decide +kernel
theorem d_State_become_92 : decode b_State_become 92 = .ok (.putfield 41, 3) := by decide +kernel
theorem d_State_become_95 : decode b_State_become 95 = .ok (.aload_n 0, 1) := by decide +kernel
theorem d_State_become_96 : decode b_State_become 96 = .ok (.aload_n 1, 1) := by decide +kernel
theorem d_State_become_97 : decode b_State_become 97 = .ok (.getfield 44, 3) := by decide +kernel
theorem d_State_become_100 : decode b_State_become 100 = .ok (.putfield 44, 3) := by decide +kernel
theorem d_State_become_103 : decode b_State_become 103 = .ok (.aload_n 0, 1) := by decide +kernel
theorem d_State_become_104 : decode b_State_become 104 = .ok (.aload_n 1, 1) := by decide +kernel
theorem d_State_become_105 : decode b_State_become 105 = .ok (.getfield 47, 3) := by decide +kernel
theorem d_State_become_108 : decode b_State_become 108 = .ok (.putfield 47, 3) := by decide +kernel
theorem d_State_become_111 : decode b_State_become 111 = .ok (.aload_n 0, 1) := by decide +kernel
theorem d_State_become_112 : decode b_State_become 112 = .ok (.aload_n 1, 1) := by decide +kernel
theorem d_State_become_113 : decode b_State_become 113 = .ok (.getfield 50, 3) := by decide +kernel
theorem d_State_become_116 : decode b_State_become 116 = .ok (.putfield 50, 3) := by decide +kernel
theorem d_State_become_119 : decode b_State_become 119 = .ok (.aload_n 0, 1) := by decide +kernel
theorem d_State_become_120 : decode b_State_become 120 = .ok (.aload_n 1, 1) := by decide +kernel
theorem d_State_become_121 : decode b_State_become 121 = .ok (.getfield 53, 3) := by decide +kernel
theorem d_State_become_124 : decode b_State_become 124 = .ok (.putfield 53, 3) := by decide +kernel
theorem d_State_become_127 : decode b_State_become 127 = .ok (.aload_n 0, 1) := by decide +kernel
theorem d_State_become_128 : decode b_State_become 128 = .ok (.aload_n 1, 1) := by decide +kernel
theorem d_State_become_129 : decode b_State_become 129 = .ok (.getfield 56, 3) := by decide +kernel
theorem d_State_become_132 : decode b_State_become 132 = .ok (.putfield 56, 3) := by decide +kernel
theorem d_State_become_135 : decode b_State_become 135 = .ok (.aload_n 0, 1) := by decide +kernel
theorem d_State_become_136 : decode b_State_become 136 = .ok (.aload_n 1, 1) := by decide +kernel
theorem d_State_become_137 : decode b_State_become 137 = .ok (.getfield 59, 3) := by decide +kernel
theorem d_State_become_140 : decode b_State_become 140 = .ok (.putfield 59, 3) := by decide +kernel
theorem d_State_become_143 : decode b_State_become 143 = .ok (.aload_n 0, 1) := by decide +kernel
theorem d_State_become_144 : decode b_State_become 144 = .ok (.aload_n 1, 1) := by decide +kernel
theorem d_State_become_145 : decode b_State_become 145 = .ok (.getfield 62, 3) := by decide +kernel
theorem d_State_become_148 : decode b_State_become 148 = .ok (.putfield 62, 3) := by decide +kernel
theorem d_State_become_151 : decode b_State_become 151 = .ok (.return_, 1) := by decide +kernel
theorem tw_466 : Jvm.Cond.code ⟨"ArcadeBoard$State", "become", "(LArcadeBoard$State;)V"⟩ prog_9_method_2_code 2 (Option.none : Option Jvm.ClassFile.FieldType) ∈ AL := ab_in (ab_t2 (List.mem_of_getElem? (i := 104) (by decide +kernel))) rfl
theorem tw_467 : Jvm.Cond.initialized "ArcadeBoard$State" ∈ AL := ab_in (ab_t1 (List.mem_of_getElem? (i := 2) (by decide +kernel))) rfl
theorem tw_468 : Jvm.Cond.instanceMethod ⟨"ArcadeBoard$State", "become", "(LArcadeBoard$State;)V"⟩ ∈ AL := ab_in (ab_t2 (List.mem_of_getElem? (i := 102) (by decide +kernel))) rfl
theorem tw_469 : Jvm.Cond.selects "ArcadeBoard$State" ⟨"ArcadeBoard$State", "become", "(LArcadeBoard$State;)V"⟩ ⟨"ArcadeBoard$State", "become", "(LArcadeBoard$State;)V"⟩ ∈ AL := ab_in (ab_t2 (List.mem_of_getElem? (i := 103) (by decide +kernel))) rfl
theorem tw_470 : Jvm.Cond.fieldLink "ArcadeBoard$State" 9 "ArcadeBoard$State" "ram" "[I" ∈ AL := ab_in (ab_t1 (List.mem_of_getElem? (i := 32) (by decide +kernel))) rfl
theorem tw_471 : Jvm.Cond.methodLink "ArcadeBoard$State" 65 ⟨"java/lang/System", "arraycopy", "(Ljava/lang/Object;ILjava/lang/Object;II)V"⟩ ∈ AL := ab_in (ab_t2 (List.mem_of_getElem? (i := 105) (by decide +kernel))) rfl
theorem tw_472 : Jvm.Cond.native ⟨"java/lang/System", "arraycopy", "(Ljava/lang/Object;ILjava/lang/Object;II)V"⟩ ∈ AL := ab_in (ab_t2 (List.mem_of_getElem? (i := 107) (by decide +kernel))) rfl
theorem tw_473 : Jvm.Cond.static ⟨"java/lang/System", "arraycopy", "(Ljava/lang/Object;ILjava/lang/Object;II)V"⟩ ∈ AL := ab_in (ab_t2 (List.mem_of_getElem? (i := 106) (by decide +kernel))) rfl
theorem tw_474 : Jvm.Cond.initialized "java/lang/System" ∈ AL := ab_in (ab_t1 (List.mem_of_getElem? (i := 17) (by decide +kernel))) rfl
theorem tw_475 : Jvm.Cond.fieldLink "ArcadeBoard$State" 15 "ArcadeBoard$State" "registers" "[I" ∈ AL := ab_in (ab_t1 (List.mem_of_getElem? (i := 34) (by decide +kernel))) rfl
theorem tw_476 : Jvm.Cond.fieldLink "ArcadeBoard$State" 18 "ArcadeBoard$State" "flags" "I" ∈ AL := ab_in (ab_t1 (List.mem_of_getElem? (i := 38) (by decide +kernel))) rfl
theorem tw_477 : Jvm.Cond.fieldLink "ArcadeBoard$State" 22 "ArcadeBoard$State" "sp" "I" ∈ AL := ab_in (ab_t1 (List.mem_of_getElem? (i := 42) (by decide +kernel))) rfl
theorem tw_478 : Jvm.Cond.fieldLink "ArcadeBoard$State" 25 "ArcadeBoard$State" "pc" "I" ∈ AL := ab_in (ab_t1 (List.mem_of_getElem? (i := 47) (by decide +kernel))) rfl
theorem tw_479 : Jvm.Cond.fieldLink "ArcadeBoard$State" 28 "ArcadeBoard$State" "interrupts" "Z" ∈ AL := ab_in (ab_t1 (List.mem_of_getElem? (i := 51) (by decide +kernel))) rfl
theorem tw_480 : Jvm.Cond.fieldLink "ArcadeBoard$State" 32 "ArcadeBoard$State" "switchedOn" "Z" ∈ AL := ab_in (ab_t1 (List.mem_of_getElem? (i := 55) (by decide +kernel))) rfl
theorem tw_481 : Jvm.Cond.fieldLink "ArcadeBoard$State" 35 "ArcadeBoard$State" "halted" "Z" ∈ AL := ab_in (ab_t1 (List.mem_of_getElem? (i := 57) (by decide +kernel))) rfl
theorem tw_482 : Jvm.Cond.fieldLink "ArcadeBoard$State" 38 "ArcadeBoard$State" "call" "I" ∈ AL := ab_in (ab_t1 (List.mem_of_getElem? (i := 61) (by decide +kernel))) rfl
theorem tw_483 : Jvm.Cond.fieldLink "ArcadeBoard$State" 41 "ArcadeBoard$State" "shift" "I" ∈ AL := ab_in (ab_t1 (List.mem_of_getElem? (i := 65) (by decide +kernel))) rfl
theorem tw_484 : Jvm.Cond.fieldLink "ArcadeBoard$State" 44 "ArcadeBoard$State" "offset" "I" ∈ AL := ab_in (ab_t1 (List.mem_of_getElem? (i := 69) (by decide +kernel))) rfl
theorem tw_485 : Jvm.Cond.fieldLink "ArcadeBoard$State" 47 "ArcadeBoard$State" "watch" "I" ∈ AL := ab_in (ab_t1 (List.mem_of_getElem? (i := 73) (by decide +kernel))) rfl
theorem tw_486 : Jvm.Cond.fieldLink "ArcadeBoard$State" 50 "ArcadeBoard$State" "time" "I" ∈ AL := ab_in (ab_t1 (List.mem_of_getElem? (i := 77) (by decide +kernel))) rfl
theorem tw_487 : Jvm.Cond.fieldLink "ArcadeBoard$State" 53 "ArcadeBoard$State" "frames" "I" ∈ AL := ab_in (ab_t1 (List.mem_of_getElem? (i := 80) (by decide +kernel))) rfl
theorem tw_488 : Jvm.Cond.fieldLink "ArcadeBoard$State" 56 "ArcadeBoard$State" "coinCount" "I" ∈ AL := ab_in (ab_t1 (List.mem_of_getElem? (i := 83) (by decide +kernel))) rfl
theorem tw_489 : Jvm.Cond.fieldLink "ArcadeBoard$State" 59 "ArcadeBoard$State" "lastTo3" "I" ∈ AL := ab_in (ab_t1 (List.mem_of_getElem? (i := 87) (by decide +kernel))) rfl
theorem tw_490 : Jvm.Cond.fieldLink "ArcadeBoard$State" 62 "ArcadeBoard$State" "lastTo5" "I" ∈ AL := ab_in (ab_t1 (List.mem_of_getElem? (i := 89) (by decide +kernel))) rfl
theorem ok_State_become : ab_yok y_State_become b_State_become 2 none 1 := ⟨tw_466, tw_467, by decide, by decide, by decide +kernel⟩
theorem okv_State_become : ab_yok_V y_State_become := ⟨tw_468, tw_469⟩
set_option maxHeartbeats 1000000 in
set_option maxRecDepth 100000 in
theorem c_State_become_3_10 (l : Launch) (D : va_G) (t : Nat → ClassId) (q : Nat → Nat) (z u : SS) (b3 : ab_bo (u 0 3)) (b4 : ab_bo (u 0 4)) (b5 : ab_bo (u 0 5)) : ab_kv l D (tyC t) (wT t q) y_State_become b_State_become 2 { frames := 1, cells := 0, slots := 0, locals := 60 } [.ref (q 15), .ref (q 1)] (z, u) (f_State_become_3_10 z u) := by
  refine ab_kv_ofW (by decide) (Nat.le_of_ble_eq_true rfl) (fun p e s m below meth c ls A X hr hk hl hX => ?_)
  have hl : lv_has ls 2 [(0, .ref (q 15)), (1, .ref (q 1))] := hl
  refine lv_aload_n (pc := 0) X.1 X.2.1 d_State_become_0 rfl (lv_at hl 1 rfl) ?_
  refine ab_gx (pc := 1) (v := .ref (q 2)) X hX 10 7 0 rfl rfl (Nat.le_of_ble_eq_true rfl) in_State rfl tw_470 rfl d_State_become_1 ?_
  refine lv_iconst (pc := 4) (v := 0) X.1 X.2.1 d_State_become_4 (by decide) ?_
  refine lv_aload_n (pc := 5) X.1 X.2.1 d_State_become_5 rfl (lv_at hl 0 rfl) ?_
  refine ab_gx (pc := 6) (v := .ref (q 16)) X hX 3 7 0 rfl rfl (Nat.le_of_ble_eq_true rfl) in_State rfl tw_470 rfl d_State_become_6 ?_
  refine lv_iconst (pc := 9) (v := 0) X.1 X.2.1 d_State_become_9 (by decide) ?_
  refine lv_sipush (pc := 10) (v := 512) X.1 X.2.1 d_State_become_10 (by decide) ?_
  refine ab_copy (pc := 13) (f := u 1) (g := z 2) (ws' := (wT t q ((va_up z 2 (va_cpy (u 1) (z 2) 0 0 512)), u))) X hX hl.1 11 4 0 rfl rfl rfl ⟨tw_471, tw_472, tw_473, tw_474⟩ ⟨by decide, by decide⟩ ⟨Nat.le_of_ble_eq_true rfl, by decide +kernel⟩ (sc_wT_4 t q z u (va_cpy (u 1) (z 2) 0 0 512)) d_State_become_13 (fun H locs hX => ?_)
  refine lv_aload_n (pc := 16) X.1 X.2.1 d_State_become_16 rfl (lv_at hl 1 rfl) ?_
  refine ab_gx (pc := 17) (v := .ref (q 3)) X hX 10 7 1 rfl rfl (Nat.le_of_ble_eq_true rfl) in_State rfl tw_475 rfl d_State_become_17 ?_
  refine lv_iconst (pc := 20) (v := 0) X.1 X.2.1 d_State_become_20 (by decide) ?_
  refine lv_aload_n (pc := 21) X.1 X.2.1 d_State_become_21 rfl (lv_at hl 0 rfl) ?_
  refine ab_gx (pc := 22) (v := .ref (q 17)) X hX 3 7 1 rfl rfl (Nat.le_of_ble_eq_true rfl) in_State rfl tw_475 rfl d_State_become_22 ?_
  refine lv_iconst (pc := 25) (v := 0) X.1 X.2.1 d_State_become_25 (by decide) ?_
  refine lv_bipush (pc := 26) (v := 8) X.1 X.2.1 d_State_become_26 (by decide) ?_
  refine ab_copy (pc := 28) (f := u 2) (g := z 3) (ws' := (wT t q ((va_up (va_up z 2 (va_cpy (u 1) (z 2) 0 0 512)) 3 (va_cpy (u 2) (z 3) 0 0 8)), u))) X hX hl.1 12 5 0 rfl rfl rfl ⟨tw_471, tw_472, tw_473, tw_474⟩ ⟨by decide, by decide⟩ ⟨Nat.le_of_ble_eq_true rfl, by decide +kernel⟩ (sc_wT_5 t q (va_up z 2 (va_cpy (u 1) (z 2) 0 0 512)) u (va_cpy (u 2) (z 3) 0 0 8)) d_State_become_28 (fun H locs hX => ?_)
  refine lv_aload_n (pc := 31) X.1 X.2.1 d_State_become_31 rfl (lv_at hl 0 rfl) ?_
  refine lv_aload_n (pc := 32) X.1 X.2.1 d_State_become_32 rfl (lv_at hl 1 rfl) ?_
  refine ab_gx (pc := 33) (v := .int (u 0 0)) X hX 10 7 2 rfl rfl (Nat.le_of_ble_eq_true rfl) in_State rfl tw_476 rfl d_State_become_33 ?_
  refine ab_px (pc := 36) (ws' := (wT t q ((stt (va_up (va_up z 2 (va_cpy (u 1) (z 2) 0 0 512)) 3 (va_cpy (u 2) (z 3) 0 0 8)) 1 0 (u 0 0)), u))) X hX 3 7 2 ty_State ty_State_ok nm_State rfl rfl (Nat.le_of_ble_eq_true rfl) in_State rfl tw_476 rfl rfl rfl rfl (Nat.le_of_ble_eq_true rfl) (sf_wT_3_2 t q (va_up (va_up z 2 (va_cpy (u 1) (z 2) 0 0 512)) 3 (va_cpy (u 2) (z 3) 0 0 8)) u (u 0 0)) d_State_become_36 (fun H locs hX => ?_)
  refine lv_aload_n (pc := 39) X.1 X.2.1 d_State_become_39 rfl (lv_at hl 0 rfl) ?_
  refine lv_aload_n (pc := 40) X.1 X.2.1 d_State_become_40 rfl (lv_at hl 1 rfl) ?_
  refine ab_gx (pc := 41) (v := .int (u 0 1)) X hX 10 7 3 rfl rfl (Nat.le_of_ble_eq_true rfl) in_State rfl tw_477 rfl d_State_become_41 ?_
  refine ab_px (pc := 44) (ws' := (wT t q ((stt (stt (va_up (va_up z 2 (va_cpy (u 1) (z 2) 0 0 512)) 3 (va_cpy (u 2) (z 3) 0 0 8)) 1 0 (u 0 0)) 1 1 (u 0 1)), u))) X hX 3 7 3 ty_State ty_State_ok nm_State rfl rfl (Nat.le_of_ble_eq_true rfl) in_State rfl tw_477 rfl rfl rfl rfl (Nat.le_of_ble_eq_true rfl) (sf_wT_3_3 t q (stt (va_up (va_up z 2 (va_cpy (u 1) (z 2) 0 0 512)) 3 (va_cpy (u 2) (z 3) 0 0 8)) 1 0 (u 0 0)) u (u 0 1)) d_State_become_44 (fun H locs hX => ?_)
  refine lv_aload_n (pc := 47) X.1 X.2.1 d_State_become_47 rfl (lv_at hl 0 rfl) ?_
  refine lv_aload_n (pc := 48) X.1 X.2.1 d_State_become_48 rfl (lv_at hl 1 rfl) ?_
  refine ab_gx (pc := 49) (v := .int (u 0 2)) X hX 10 7 4 rfl rfl (Nat.le_of_ble_eq_true rfl) in_State rfl tw_478 rfl d_State_become_49 ?_
  refine ab_px (pc := 52) (ws' := (wT t q ((stt (stt (stt (va_up (va_up z 2 (va_cpy (u 1) (z 2) 0 0 512)) 3 (va_cpy (u 2) (z 3) 0 0 8)) 1 0 (u 0 0)) 1 1 (u 0 1)) 1 2 (u 0 2)), u))) X hX 3 7 4 ty_State ty_State_ok nm_State rfl rfl (Nat.le_of_ble_eq_true rfl) in_State rfl tw_478 rfl rfl rfl rfl (Nat.le_of_ble_eq_true rfl) (sf_wT_3_4 t q (stt (stt (va_up (va_up z 2 (va_cpy (u 1) (z 2) 0 0 512)) 3 (va_cpy (u 2) (z 3) 0 0 8)) 1 0 (u 0 0)) 1 1 (u 0 1)) u (u 0 2)) d_State_become_52 (fun H locs hX => ?_)
  refine lv_aload_n (pc := 55) X.1 X.2.1 d_State_become_55 rfl (lv_at hl 0 rfl) ?_
  refine lv_aload_n (pc := 56) X.1 X.2.1 d_State_become_56 rfl (lv_at hl 1 rfl) ?_
  refine ab_gx (pc := 57) (v := .int (u 0 3)) X hX 10 7 5 rfl rfl (Nat.le_of_ble_eq_true rfl) in_State rfl tw_479 rfl d_State_become_57 ?_
  refine ab_px (pc := 60) (ws' := (wT t q ((stt (stt (stt (stt (va_up (va_up z 2 (va_cpy (u 1) (z 2) 0 0 512)) 3 (va_cpy (u 2) (z 3) 0 0 8)) 1 0 (u 0 0)) 1 1 (u 0 1)) 1 2 (u 0 2)) 1 3 (u 0 3)), u))) X hX 3 7 5 ty_State ty_State_ok nm_State rfl rfl (Nat.le_of_ble_eq_true rfl) in_State rfl tw_479 rfl rfl (ab_nb b3) (ab_fb b3) (Nat.le_of_ble_eq_true rfl) (sf_wT_3_5 t q (stt (stt (stt (va_up (va_up z 2 (va_cpy (u 1) (z 2) 0 0 512)) 3 (va_cpy (u 2) (z 3) 0 0 8)) 1 0 (u 0 0)) 1 1 (u 0 1)) 1 2 (u 0 2)) u (u 0 3)) d_State_become_60 (fun H locs hX => ?_)
  refine lv_aload_n (pc := 63) X.1 X.2.1 d_State_become_63 rfl (lv_at hl 0 rfl) ?_
  refine lv_aload_n (pc := 64) X.1 X.2.1 d_State_become_64 rfl (lv_at hl 1 rfl) ?_
  refine ab_gx (pc := 65) (v := .int (u 0 4)) X hX 10 7 6 rfl rfl (Nat.le_of_ble_eq_true rfl) in_State rfl tw_480 rfl d_State_become_65 ?_
  refine ab_px (pc := 68) (ws' := (wT t q ((stt (stt (stt (stt (stt (va_up (va_up z 2 (va_cpy (u 1) (z 2) 0 0 512)) 3 (va_cpy (u 2) (z 3) 0 0 8)) 1 0 (u 0 0)) 1 1 (u 0 1)) 1 2 (u 0 2)) 1 3 (u 0 3)) 1 4 (u 0 4)), u))) X hX 3 7 6 ty_State ty_State_ok nm_State rfl rfl (Nat.le_of_ble_eq_true rfl) in_State rfl tw_480 rfl rfl (ab_nb b4) (ab_fb b4) (Nat.le_of_ble_eq_true rfl) (sf_wT_3_6 t q (stt (stt (stt (stt (va_up (va_up z 2 (va_cpy (u 1) (z 2) 0 0 512)) 3 (va_cpy (u 2) (z 3) 0 0 8)) 1 0 (u 0 0)) 1 1 (u 0 1)) 1 2 (u 0 2)) 1 3 (u 0 3)) u (u 0 4)) d_State_become_68 (fun H locs hX => ?_)
  refine lv_aload_n (pc := 71) X.1 X.2.1 d_State_become_71 rfl (lv_at hl 0 rfl) ?_
  refine lv_aload_n (pc := 72) X.1 X.2.1 d_State_become_72 rfl (lv_at hl 1 rfl) ?_
  refine ab_gx (pc := 73) (v := .int (u 0 5)) X hX 10 7 7 rfl rfl (Nat.le_of_ble_eq_true rfl) in_State rfl tw_481 rfl d_State_become_73 ?_
  refine ab_px (pc := 76) (ws' := (wT t q ((stt (stt (stt (stt (stt (stt (va_up (va_up z 2 (va_cpy (u 1) (z 2) 0 0 512)) 3 (va_cpy (u 2) (z 3) 0 0 8)) 1 0 (u 0 0)) 1 1 (u 0 1)) 1 2 (u 0 2)) 1 3 (u 0 3)) 1 4 (u 0 4)) 1 5 (u 0 5)), u))) X hX 3 7 7 ty_State ty_State_ok nm_State rfl rfl (Nat.le_of_ble_eq_true rfl) in_State rfl tw_481 rfl rfl (ab_nb b5) (ab_fb b5) (Nat.le_of_ble_eq_true rfl) (sf_wT_3_7 t q (stt (stt (stt (stt (stt (va_up (va_up z 2 (va_cpy (u 1) (z 2) 0 0 512)) 3 (va_cpy (u 2) (z 3) 0 0 8)) 1 0 (u 0 0)) 1 1 (u 0 1)) 1 2 (u 0 2)) 1 3 (u 0 3)) 1 4 (u 0 4)) u (u 0 5)) d_State_become_76 (fun H locs hX => ?_)
  refine lv_aload_n (pc := 79) X.1 X.2.1 d_State_become_79 rfl (lv_at hl 0 rfl) ?_
  refine lv_aload_n (pc := 80) X.1 X.2.1 d_State_become_80 rfl (lv_at hl 1 rfl) ?_
  refine ab_gx (pc := 81) (v := .int (u 0 6)) X hX 10 7 8 rfl rfl (Nat.le_of_ble_eq_true rfl) in_State rfl tw_482 rfl d_State_become_81 ?_
  refine ab_px (pc := 84) (ws' := (wT t q ((stt (stt (stt (stt (stt (stt (stt (va_up (va_up z 2 (va_cpy (u 1) (z 2) 0 0 512)) 3 (va_cpy (u 2) (z 3) 0 0 8)) 1 0 (u 0 0)) 1 1 (u 0 1)) 1 2 (u 0 2)) 1 3 (u 0 3)) 1 4 (u 0 4)) 1 5 (u 0 5)) 1 6 (u 0 6)), u))) X hX 3 7 8 ty_State ty_State_ok nm_State rfl rfl (Nat.le_of_ble_eq_true rfl) in_State rfl tw_482 rfl rfl rfl rfl (Nat.le_of_ble_eq_true rfl) (sf_wT_3_8 t q (stt (stt (stt (stt (stt (stt (va_up (va_up z 2 (va_cpy (u 1) (z 2) 0 0 512)) 3 (va_cpy (u 2) (z 3) 0 0 8)) 1 0 (u 0 0)) 1 1 (u 0 1)) 1 2 (u 0 2)) 1 3 (u 0 3)) 1 4 (u 0 4)) 1 5 (u 0 5)) u (u 0 6)) d_State_become_84 (fun H locs hX => ?_)
  refine lv_aload_n (pc := 87) X.1 X.2.1 d_State_become_87 rfl (lv_at hl 0 rfl) ?_
  refine lv_aload_n (pc := 88) X.1 X.2.1 d_State_become_88 rfl (lv_at hl 1 rfl) ?_
  refine ab_gx (pc := 89) (v := .int (u 0 7)) X hX 10 7 9 rfl rfl (Nat.le_of_ble_eq_true rfl) in_State rfl tw_483 rfl d_State_become_89 ?_
  refine ab_px (pc := 92) (ws' := (wT t q ((stt (stt (stt (stt (stt (stt (stt (stt (va_up (va_up z 2 (va_cpy (u 1) (z 2) 0 0 512)) 3 (va_cpy (u 2) (z 3) 0 0 8)) 1 0 (u 0 0)) 1 1 (u 0 1)) 1 2 (u 0 2)) 1 3 (u 0 3)) 1 4 (u 0 4)) 1 5 (u 0 5)) 1 6 (u 0 6)) 1 7 (u 0 7)), u))) X hX 3 7 9 ty_State ty_State_ok nm_State rfl rfl (Nat.le_of_ble_eq_true rfl) in_State rfl tw_483 rfl rfl rfl rfl (Nat.le_of_ble_eq_true rfl) (sf_wT_3_9 t q (stt (stt (stt (stt (stt (stt (stt (va_up (va_up z 2 (va_cpy (u 1) (z 2) 0 0 512)) 3 (va_cpy (u 2) (z 3) 0 0 8)) 1 0 (u 0 0)) 1 1 (u 0 1)) 1 2 (u 0 2)) 1 3 (u 0 3)) 1 4 (u 0 4)) 1 5 (u 0 5)) 1 6 (u 0 6)) u (u 0 7)) d_State_become_92 (fun H locs hX => ?_)
  refine lv_aload_n (pc := 95) X.1 X.2.1 d_State_become_95 rfl (lv_at hl 0 rfl) ?_
  refine lv_aload_n (pc := 96) X.1 X.2.1 d_State_become_96 rfl (lv_at hl 1 rfl) ?_
  refine ab_gx (pc := 97) (v := .int (u 0 8)) X hX 10 7 10 rfl rfl (Nat.le_of_ble_eq_true rfl) in_State rfl tw_484 rfl d_State_become_97 ?_
  refine ab_px (pc := 100) (ws' := (wT t q ((stt (stt (stt (stt (stt (stt (stt (stt (stt (va_up (va_up z 2 (va_cpy (u 1) (z 2) 0 0 512)) 3 (va_cpy (u 2) (z 3) 0 0 8)) 1 0 (u 0 0)) 1 1 (u 0 1)) 1 2 (u 0 2)) 1 3 (u 0 3)) 1 4 (u 0 4)) 1 5 (u 0 5)) 1 6 (u 0 6)) 1 7 (u 0 7)) 1 8 (u 0 8)), u))) X hX 3 7 10 ty_State ty_State_ok nm_State rfl rfl (Nat.le_of_ble_eq_true rfl) in_State rfl tw_484 rfl rfl rfl rfl (Nat.le_of_ble_eq_true rfl) (sf_wT_3_10 t q (stt (stt (stt (stt (stt (stt (stt (stt (va_up (va_up z 2 (va_cpy (u 1) (z 2) 0 0 512)) 3 (va_cpy (u 2) (z 3) 0 0 8)) 1 0 (u 0 0)) 1 1 (u 0 1)) 1 2 (u 0 2)) 1 3 (u 0 3)) 1 4 (u 0 4)) 1 5 (u 0 5)) 1 6 (u 0 6)) 1 7 (u 0 7)) u (u 0 8)) d_State_become_100 (fun H locs hX => ?_)
  refine lv_aload_n (pc := 103) X.1 X.2.1 d_State_become_103 rfl (lv_at hl 0 rfl) ?_
  refine lv_aload_n (pc := 104) X.1 X.2.1 d_State_become_104 rfl (lv_at hl 1 rfl) ?_
  refine ab_gx (pc := 105) (v := .int (u 0 9)) X hX 10 7 11 rfl rfl (Nat.le_of_ble_eq_true rfl) in_State rfl tw_485 rfl d_State_become_105 ?_
  refine ab_px (pc := 108) (ws' := (wT t q ((stt (stt (stt (stt (stt (stt (stt (stt (stt (stt (va_up (va_up z 2 (va_cpy (u 1) (z 2) 0 0 512)) 3 (va_cpy (u 2) (z 3) 0 0 8)) 1 0 (u 0 0)) 1 1 (u 0 1)) 1 2 (u 0 2)) 1 3 (u 0 3)) 1 4 (u 0 4)) 1 5 (u 0 5)) 1 6 (u 0 6)) 1 7 (u 0 7)) 1 8 (u 0 8)) 1 9 (u 0 9)), u))) X hX 3 7 11 ty_State ty_State_ok nm_State rfl rfl (Nat.le_of_ble_eq_true rfl) in_State rfl tw_485 rfl rfl rfl rfl (Nat.le_of_ble_eq_true rfl) (sf_wT_3_11 t q (stt (stt (stt (stt (stt (stt (stt (stt (stt (va_up (va_up z 2 (va_cpy (u 1) (z 2) 0 0 512)) 3 (va_cpy (u 2) (z 3) 0 0 8)) 1 0 (u 0 0)) 1 1 (u 0 1)) 1 2 (u 0 2)) 1 3 (u 0 3)) 1 4 (u 0 4)) 1 5 (u 0 5)) 1 6 (u 0 6)) 1 7 (u 0 7)) 1 8 (u 0 8)) u (u 0 9)) d_State_become_108 (fun H locs hX => ?_)
  refine lv_aload_n (pc := 111) X.1 X.2.1 d_State_become_111 rfl (lv_at hl 0 rfl) ?_
  refine lv_aload_n (pc := 112) X.1 X.2.1 d_State_become_112 rfl (lv_at hl 1 rfl) ?_
  refine ab_gx (pc := 113) (v := .int (u 0 10)) X hX 10 7 12 rfl rfl (Nat.le_of_ble_eq_true rfl) in_State rfl tw_486 rfl d_State_become_113 ?_
  refine ab_px (pc := 116) (ws' := (wT t q ((stt (stt (stt (stt (stt (stt (stt (stt (stt (stt (stt (va_up (va_up z 2 (va_cpy (u 1) (z 2) 0 0 512)) 3 (va_cpy (u 2) (z 3) 0 0 8)) 1 0 (u 0 0)) 1 1 (u 0 1)) 1 2 (u 0 2)) 1 3 (u 0 3)) 1 4 (u 0 4)) 1 5 (u 0 5)) 1 6 (u 0 6)) 1 7 (u 0 7)) 1 8 (u 0 8)) 1 9 (u 0 9)) 1 10 (u 0 10)), u))) X hX 3 7 12 ty_State ty_State_ok nm_State rfl rfl (Nat.le_of_ble_eq_true rfl) in_State rfl tw_486 rfl rfl rfl rfl (Nat.le_of_ble_eq_true rfl) (sf_wT_3_12 t q (stt (stt (stt (stt (stt (stt (stt (stt (stt (stt (va_up (va_up z 2 (va_cpy (u 1) (z 2) 0 0 512)) 3 (va_cpy (u 2) (z 3) 0 0 8)) 1 0 (u 0 0)) 1 1 (u 0 1)) 1 2 (u 0 2)) 1 3 (u 0 3)) 1 4 (u 0 4)) 1 5 (u 0 5)) 1 6 (u 0 6)) 1 7 (u 0 7)) 1 8 (u 0 8)) 1 9 (u 0 9)) u (u 0 10)) d_State_become_116 (fun H locs hX => ?_)
  refine lv_aload_n (pc := 119) X.1 X.2.1 d_State_become_119 rfl (lv_at hl 0 rfl) ?_
  refine lv_aload_n (pc := 120) X.1 X.2.1 d_State_become_120 rfl (lv_at hl 1 rfl) ?_
  refine ab_gx (pc := 121) (v := .int (u 0 11)) X hX 10 7 13 rfl rfl (Nat.le_of_ble_eq_true rfl) in_State rfl tw_487 rfl d_State_become_121 ?_
  refine ab_px (pc := 124) (ws' := (wT t q ((stt (stt (stt (stt (stt (stt (stt (stt (stt (stt (stt (stt (va_up (va_up z 2 (va_cpy (u 1) (z 2) 0 0 512)) 3 (va_cpy (u 2) (z 3) 0 0 8)) 1 0 (u 0 0)) 1 1 (u 0 1)) 1 2 (u 0 2)) 1 3 (u 0 3)) 1 4 (u 0 4)) 1 5 (u 0 5)) 1 6 (u 0 6)) 1 7 (u 0 7)) 1 8 (u 0 8)) 1 9 (u 0 9)) 1 10 (u 0 10)) 1 11 (u 0 11)), u))) X hX 3 7 13 ty_State ty_State_ok nm_State rfl rfl (Nat.le_of_ble_eq_true rfl) in_State rfl tw_487 rfl rfl rfl rfl (Nat.le_of_ble_eq_true rfl) (sf_wT_3_13 t q (stt (stt (stt (stt (stt (stt (stt (stt (stt (stt (stt (va_up (va_up z 2 (va_cpy (u 1) (z 2) 0 0 512)) 3 (va_cpy (u 2) (z 3) 0 0 8)) 1 0 (u 0 0)) 1 1 (u 0 1)) 1 2 (u 0 2)) 1 3 (u 0 3)) 1 4 (u 0 4)) 1 5 (u 0 5)) 1 6 (u 0 6)) 1 7 (u 0 7)) 1 8 (u 0 8)) 1 9 (u 0 9)) 1 10 (u 0 10)) u (u 0 11)) d_State_become_124 (fun H locs hX => ?_)
  refine lv_aload_n (pc := 127) X.1 X.2.1 d_State_become_127 rfl (lv_at hl 0 rfl) ?_
  refine lv_aload_n (pc := 128) X.1 X.2.1 d_State_become_128 rfl (lv_at hl 1 rfl) ?_
  refine ab_gx (pc := 129) (v := .int (u 0 12)) X hX 10 7 14 rfl rfl (Nat.le_of_ble_eq_true rfl) in_State rfl tw_488 rfl d_State_become_129 ?_
  refine ab_px (pc := 132) (ws' := (wT t q ((stt (stt (stt (stt (stt (stt (stt (stt (stt (stt (stt (stt (stt (va_up (va_up z 2 (va_cpy (u 1) (z 2) 0 0 512)) 3 (va_cpy (u 2) (z 3) 0 0 8)) 1 0 (u 0 0)) 1 1 (u 0 1)) 1 2 (u 0 2)) 1 3 (u 0 3)) 1 4 (u 0 4)) 1 5 (u 0 5)) 1 6 (u 0 6)) 1 7 (u 0 7)) 1 8 (u 0 8)) 1 9 (u 0 9)) 1 10 (u 0 10)) 1 11 (u 0 11)) 1 12 (u 0 12)), u))) X hX 3 7 14 ty_State ty_State_ok nm_State rfl rfl (Nat.le_of_ble_eq_true rfl) in_State rfl tw_488 rfl rfl rfl rfl (Nat.le_of_ble_eq_true rfl) (sf_wT_3_14 t q (stt (stt (stt (stt (stt (stt (stt (stt (stt (stt (stt (stt (va_up (va_up z 2 (va_cpy (u 1) (z 2) 0 0 512)) 3 (va_cpy (u 2) (z 3) 0 0 8)) 1 0 (u 0 0)) 1 1 (u 0 1)) 1 2 (u 0 2)) 1 3 (u 0 3)) 1 4 (u 0 4)) 1 5 (u 0 5)) 1 6 (u 0 6)) 1 7 (u 0 7)) 1 8 (u 0 8)) 1 9 (u 0 9)) 1 10 (u 0 10)) 1 11 (u 0 11)) u (u 0 12)) d_State_become_132 (fun H locs hX => ?_)
  refine lv_aload_n (pc := 135) X.1 X.2.1 d_State_become_135 rfl (lv_at hl 0 rfl) ?_
  refine lv_aload_n (pc := 136) X.1 X.2.1 d_State_become_136 rfl (lv_at hl 1 rfl) ?_
  refine ab_gx (pc := 137) (v := .int (u 0 13)) X hX 10 7 15 rfl rfl (Nat.le_of_ble_eq_true rfl) in_State rfl tw_489 rfl d_State_become_137 ?_
  refine ab_px (pc := 140) (ws' := (wT t q ((stt (stt (stt (stt (stt (stt (stt (stt (stt (stt (stt (stt (stt (stt (va_up (va_up z 2 (va_cpy (u 1) (z 2) 0 0 512)) 3 (va_cpy (u 2) (z 3) 0 0 8)) 1 0 (u 0 0)) 1 1 (u 0 1)) 1 2 (u 0 2)) 1 3 (u 0 3)) 1 4 (u 0 4)) 1 5 (u 0 5)) 1 6 (u 0 6)) 1 7 (u 0 7)) 1 8 (u 0 8)) 1 9 (u 0 9)) 1 10 (u 0 10)) 1 11 (u 0 11)) 1 12 (u 0 12)) 1 13 (u 0 13)), u))) X hX 3 7 15 ty_State ty_State_ok nm_State rfl rfl (Nat.le_of_ble_eq_true rfl) in_State rfl tw_489 rfl rfl rfl rfl (Nat.le_of_ble_eq_true rfl) (sf_wT_3_15 t q (stt (stt (stt (stt (stt (stt (stt (stt (stt (stt (stt (stt (stt (va_up (va_up z 2 (va_cpy (u 1) (z 2) 0 0 512)) 3 (va_cpy (u 2) (z 3) 0 0 8)) 1 0 (u 0 0)) 1 1 (u 0 1)) 1 2 (u 0 2)) 1 3 (u 0 3)) 1 4 (u 0 4)) 1 5 (u 0 5)) 1 6 (u 0 6)) 1 7 (u 0 7)) 1 8 (u 0 8)) 1 9 (u 0 9)) 1 10 (u 0 10)) 1 11 (u 0 11)) 1 12 (u 0 12)) u (u 0 13)) d_State_become_140 (fun H locs hX => ?_)
  refine lv_aload_n (pc := 143) X.1 X.2.1 d_State_become_143 rfl (lv_at hl 0 rfl) ?_
  refine lv_aload_n (pc := 144) X.1 X.2.1 d_State_become_144 rfl (lv_at hl 1 rfl) ?_
  refine ab_gx (pc := 145) (v := .int (u 0 14)) X hX 10 7 16 rfl rfl (Nat.le_of_ble_eq_true rfl) in_State rfl tw_490 rfl d_State_become_145 ?_
  refine ab_px (pc := 148) (ws' := (wT t q ((stt (stt (stt (stt (stt (stt (stt (stt (stt (stt (stt (stt (stt (stt (stt (va_up (va_up z 2 (va_cpy (u 1) (z 2) 0 0 512)) 3 (va_cpy (u 2) (z 3) 0 0 8)) 1 0 (u 0 0)) 1 1 (u 0 1)) 1 2 (u 0 2)) 1 3 (u 0 3)) 1 4 (u 0 4)) 1 5 (u 0 5)) 1 6 (u 0 6)) 1 7 (u 0 7)) 1 8 (u 0 8)) 1 9 (u 0 9)) 1 10 (u 0 10)) 1 11 (u 0 11)) 1 12 (u 0 12)) 1 13 (u 0 13)) 1 14 (u 0 14)), u))) X hX 3 7 16 ty_State ty_State_ok nm_State rfl rfl (Nat.le_of_ble_eq_true rfl) in_State rfl tw_490 rfl rfl rfl rfl (Nat.le_of_ble_eq_true rfl) (sf_wT_3_16 t q (stt (stt (stt (stt (stt (stt (stt (stt (stt (stt (stt (stt (stt (stt (va_up (va_up z 2 (va_cpy (u 1) (z 2) 0 0 512)) 3 (va_cpy (u 2) (z 3) 0 0 8)) 1 0 (u 0 0)) 1 1 (u 0 1)) 1 2 (u 0 2)) 1 3 (u 0 3)) 1 4 (u 0 4)) 1 5 (u 0 5)) 1 6 (u 0 6)) 1 7 (u 0 7)) 1 8 (u 0 8)) 1 9 (u 0 9)) 1 10 (u 0 10)) 1 11 (u 0 11)) 1 12 (u 0 12)) 1 13 (u 0 13)) u (u 0 14)) d_State_become_148 (fun H locs hX => ?_)
  exact ab_kv_ret (pc := 151) X hr hk hX (by rw [f_State_become_3_10]) d_State_become_151
set_option maxHeartbeats 1000000 in
set_option maxRecDepth 100000 in
theorem c_State_become_6_10 (l : Launch) (D : va_G) (t : Nat → ClassId) (q : Nat → Nat) (z u : SS) (b3 : ab_bo (u 0 3)) (b4 : ab_bo (u 0 4)) (b5 : ab_bo (u 0 5)) : ab_kv l D (tyC t) (wT t q) y_State_become b_State_become 2 { frames := 1, cells := 0, slots := 0, locals := 60 } [.ref (q 18), .ref (q 1)] (z, u) (f_State_become_6_10 z u) := by
  refine ab_kv_ofW (by decide) (Nat.le_of_ble_eq_true rfl) (fun p e s m below meth c ls A X hr hk hl hX => ?_)
  have hl : lv_has ls 2 [(0, .ref (q 18)), (1, .ref (q 1))] := hl
  refine lv_aload_n (pc := 0) X.1 X.2.1 d_State_become_0 rfl (lv_at hl 1 rfl) ?_
  refine ab_gx (pc := 1) (v := .ref (q 2)) X hX 10 7 0 rfl rfl (Nat.le_of_ble_eq_true rfl) in_State rfl tw_470 rfl d_State_become_1 ?_
  refine lv_iconst (pc := 4) (v := 0) X.1 X.2.1 d_State_become_4 (by decide) ?_
  refine lv_aload_n (pc := 5) X.1 X.2.1 d_State_become_5 rfl (lv_at hl 0 rfl) ?_
  refine ab_gx (pc := 6) (v := .ref (q 19)) X hX 6 7 0 rfl rfl (Nat.le_of_ble_eq_true rfl) in_State rfl tw_470 rfl d_State_become_6 ?_
  refine lv_iconst (pc := 9) (v := 0) X.1 X.2.1 d_State_become_9 (by decide) ?_
  refine lv_sipush (pc := 10) (v := 512) X.1 X.2.1 d_State_become_10 (by decide) ?_
  refine ab_copy (pc := 13) (f := u 1) (g := z 5) (ws' := (wT t q ((va_up z 5 (va_cpy (u 1) (z 5) 0 0 512)), u))) X hX hl.1 11 7 0 rfl rfl rfl ⟨tw_471, tw_472, tw_473, tw_474⟩ ⟨by decide, by decide⟩ ⟨Nat.le_of_ble_eq_true rfl, by decide +kernel⟩ (sc_wT_7 t q z u (va_cpy (u 1) (z 5) 0 0 512)) d_State_become_13 (fun H locs hX => ?_)
  refine lv_aload_n (pc := 16) X.1 X.2.1 d_State_become_16 rfl (lv_at hl 1 rfl) ?_
  refine ab_gx (pc := 17) (v := .ref (q 3)) X hX 10 7 1 rfl rfl (Nat.le_of_ble_eq_true rfl) in_State rfl tw_475 rfl d_State_become_17 ?_
  refine lv_iconst (pc := 20) (v := 0) X.1 X.2.1 d_State_become_20 (by decide) ?_
  refine lv_aload_n (pc := 21) X.1 X.2.1 d_State_become_21 rfl (lv_at hl 0 rfl) ?_
  refine ab_gx (pc := 22) (v := .ref (q 20)) X hX 6 7 1 rfl rfl (Nat.le_of_ble_eq_true rfl) in_State rfl tw_475 rfl d_State_become_22 ?_
  refine lv_iconst (pc := 25) (v := 0) X.1 X.2.1 d_State_become_25 (by decide) ?_
  refine lv_bipush (pc := 26) (v := 8) X.1 X.2.1 d_State_become_26 (by decide) ?_
  refine ab_copy (pc := 28) (f := u 2) (g := z 6) (ws' := (wT t q ((va_up (va_up z 5 (va_cpy (u 1) (z 5) 0 0 512)) 6 (va_cpy (u 2) (z 6) 0 0 8)), u))) X hX hl.1 12 8 0 rfl rfl rfl ⟨tw_471, tw_472, tw_473, tw_474⟩ ⟨by decide, by decide⟩ ⟨Nat.le_of_ble_eq_true rfl, by decide +kernel⟩ (sc_wT_8 t q (va_up z 5 (va_cpy (u 1) (z 5) 0 0 512)) u (va_cpy (u 2) (z 6) 0 0 8)) d_State_become_28 (fun H locs hX => ?_)
  refine lv_aload_n (pc := 31) X.1 X.2.1 d_State_become_31 rfl (lv_at hl 0 rfl) ?_
  refine lv_aload_n (pc := 32) X.1 X.2.1 d_State_become_32 rfl (lv_at hl 1 rfl) ?_
  refine ab_gx (pc := 33) (v := .int (u 0 0)) X hX 10 7 2 rfl rfl (Nat.le_of_ble_eq_true rfl) in_State rfl tw_476 rfl d_State_become_33 ?_
  refine ab_px (pc := 36) (ws' := (wT t q ((stt (va_up (va_up z 5 (va_cpy (u 1) (z 5) 0 0 512)) 6 (va_cpy (u 2) (z 6) 0 0 8)) 4 0 (u 0 0)), u))) X hX 6 7 2 ty_State ty_State_ok nm_State rfl rfl (Nat.le_of_ble_eq_true rfl) in_State rfl tw_476 rfl rfl rfl rfl (Nat.le_of_ble_eq_true rfl) (sf_wT_6_2 t q (va_up (va_up z 5 (va_cpy (u 1) (z 5) 0 0 512)) 6 (va_cpy (u 2) (z 6) 0 0 8)) u (u 0 0)) d_State_become_36 (fun H locs hX => ?_)
  refine lv_aload_n (pc := 39) X.1 X.2.1 d_State_become_39 rfl (lv_at hl 0 rfl) ?_
  refine lv_aload_n (pc := 40) X.1 X.2.1 d_State_become_40 rfl (lv_at hl 1 rfl) ?_
  refine ab_gx (pc := 41) (v := .int (u 0 1)) X hX 10 7 3 rfl rfl (Nat.le_of_ble_eq_true rfl) in_State rfl tw_477 rfl d_State_become_41 ?_
  refine ab_px (pc := 44) (ws' := (wT t q ((stt (stt (va_up (va_up z 5 (va_cpy (u 1) (z 5) 0 0 512)) 6 (va_cpy (u 2) (z 6) 0 0 8)) 4 0 (u 0 0)) 4 1 (u 0 1)), u))) X hX 6 7 3 ty_State ty_State_ok nm_State rfl rfl (Nat.le_of_ble_eq_true rfl) in_State rfl tw_477 rfl rfl rfl rfl (Nat.le_of_ble_eq_true rfl) (sf_wT_6_3 t q (stt (va_up (va_up z 5 (va_cpy (u 1) (z 5) 0 0 512)) 6 (va_cpy (u 2) (z 6) 0 0 8)) 4 0 (u 0 0)) u (u 0 1)) d_State_become_44 (fun H locs hX => ?_)
  refine lv_aload_n (pc := 47) X.1 X.2.1 d_State_become_47 rfl (lv_at hl 0 rfl) ?_
  refine lv_aload_n (pc := 48) X.1 X.2.1 d_State_become_48 rfl (lv_at hl 1 rfl) ?_
  refine ab_gx (pc := 49) (v := .int (u 0 2)) X hX 10 7 4 rfl rfl (Nat.le_of_ble_eq_true rfl) in_State rfl tw_478 rfl d_State_become_49 ?_
  refine ab_px (pc := 52) (ws' := (wT t q ((stt (stt (stt (va_up (va_up z 5 (va_cpy (u 1) (z 5) 0 0 512)) 6 (va_cpy (u 2) (z 6) 0 0 8)) 4 0 (u 0 0)) 4 1 (u 0 1)) 4 2 (u 0 2)), u))) X hX 6 7 4 ty_State ty_State_ok nm_State rfl rfl (Nat.le_of_ble_eq_true rfl) in_State rfl tw_478 rfl rfl rfl rfl (Nat.le_of_ble_eq_true rfl) (sf_wT_6_4 t q (stt (stt (va_up (va_up z 5 (va_cpy (u 1) (z 5) 0 0 512)) 6 (va_cpy (u 2) (z 6) 0 0 8)) 4 0 (u 0 0)) 4 1 (u 0 1)) u (u 0 2)) d_State_become_52 (fun H locs hX => ?_)
  refine lv_aload_n (pc := 55) X.1 X.2.1 d_State_become_55 rfl (lv_at hl 0 rfl) ?_
  refine lv_aload_n (pc := 56) X.1 X.2.1 d_State_become_56 rfl (lv_at hl 1 rfl) ?_
  refine ab_gx (pc := 57) (v := .int (u 0 3)) X hX 10 7 5 rfl rfl (Nat.le_of_ble_eq_true rfl) in_State rfl tw_479 rfl d_State_become_57 ?_
  refine ab_px (pc := 60) (ws' := (wT t q ((stt (stt (stt (stt (va_up (va_up z 5 (va_cpy (u 1) (z 5) 0 0 512)) 6 (va_cpy (u 2) (z 6) 0 0 8)) 4 0 (u 0 0)) 4 1 (u 0 1)) 4 2 (u 0 2)) 4 3 (u 0 3)), u))) X hX 6 7 5 ty_State ty_State_ok nm_State rfl rfl (Nat.le_of_ble_eq_true rfl) in_State rfl tw_479 rfl rfl (ab_nb b3) (ab_fb b3) (Nat.le_of_ble_eq_true rfl) (sf_wT_6_5 t q (stt (stt (stt (va_up (va_up z 5 (va_cpy (u 1) (z 5) 0 0 512)) 6 (va_cpy (u 2) (z 6) 0 0 8)) 4 0 (u 0 0)) 4 1 (u 0 1)) 4 2 (u 0 2)) u (u 0 3)) d_State_become_60 (fun H locs hX => ?_)
  refine lv_aload_n (pc := 63) X.1 X.2.1 d_State_become_63 rfl (lv_at hl 0 rfl) ?_
  refine lv_aload_n (pc := 64) X.1 X.2.1 d_State_become_64 rfl (lv_at hl 1 rfl) ?_
  refine ab_gx (pc := 65) (v := .int (u 0 4)) X hX 10 7 6 rfl rfl (Nat.le_of_ble_eq_true rfl) in_State rfl tw_480 rfl d_State_become_65 ?_
  refine ab_px (pc := 68) (ws' := (wT t q ((stt (stt (stt (stt (stt (va_up (va_up z 5 (va_cpy (u 1) (z 5) 0 0 512)) 6 (va_cpy (u 2) (z 6) 0 0 8)) 4 0 (u 0 0)) 4 1 (u 0 1)) 4 2 (u 0 2)) 4 3 (u 0 3)) 4 4 (u 0 4)), u))) X hX 6 7 6 ty_State ty_State_ok nm_State rfl rfl (Nat.le_of_ble_eq_true rfl) in_State rfl tw_480 rfl rfl (ab_nb b4) (ab_fb b4) (Nat.le_of_ble_eq_true rfl) (sf_wT_6_6 t q (stt (stt (stt (stt (va_up (va_up z 5 (va_cpy (u 1) (z 5) 0 0 512)) 6 (va_cpy (u 2) (z 6) 0 0 8)) 4 0 (u 0 0)) 4 1 (u 0 1)) 4 2 (u 0 2)) 4 3 (u 0 3)) u (u 0 4)) d_State_become_68 (fun H locs hX => ?_)
  refine lv_aload_n (pc := 71) X.1 X.2.1 d_State_become_71 rfl (lv_at hl 0 rfl) ?_
  refine lv_aload_n (pc := 72) X.1 X.2.1 d_State_become_72 rfl (lv_at hl 1 rfl) ?_
  refine ab_gx (pc := 73) (v := .int (u 0 5)) X hX 10 7 7 rfl rfl (Nat.le_of_ble_eq_true rfl) in_State rfl tw_481 rfl d_State_become_73 ?_
  refine ab_px (pc := 76) (ws' := (wT t q ((stt (stt (stt (stt (stt (stt (va_up (va_up z 5 (va_cpy (u 1) (z 5) 0 0 512)) 6 (va_cpy (u 2) (z 6) 0 0 8)) 4 0 (u 0 0)) 4 1 (u 0 1)) 4 2 (u 0 2)) 4 3 (u 0 3)) 4 4 (u 0 4)) 4 5 (u 0 5)), u))) X hX 6 7 7 ty_State ty_State_ok nm_State rfl rfl (Nat.le_of_ble_eq_true rfl) in_State rfl tw_481 rfl rfl (ab_nb b5) (ab_fb b5) (Nat.le_of_ble_eq_true rfl) (sf_wT_6_7 t q (stt (stt (stt (stt (stt (va_up (va_up z 5 (va_cpy (u 1) (z 5) 0 0 512)) 6 (va_cpy (u 2) (z 6) 0 0 8)) 4 0 (u 0 0)) 4 1 (u 0 1)) 4 2 (u 0 2)) 4 3 (u 0 3)) 4 4 (u 0 4)) u (u 0 5)) d_State_become_76 (fun H locs hX => ?_)
  refine lv_aload_n (pc := 79) X.1 X.2.1 d_State_become_79 rfl (lv_at hl 0 rfl) ?_
  refine lv_aload_n (pc := 80) X.1 X.2.1 d_State_become_80 rfl (lv_at hl 1 rfl) ?_
  refine ab_gx (pc := 81) (v := .int (u 0 6)) X hX 10 7 8 rfl rfl (Nat.le_of_ble_eq_true rfl) in_State rfl tw_482 rfl d_State_become_81 ?_
  refine ab_px (pc := 84) (ws' := (wT t q ((stt (stt (stt (stt (stt (stt (stt (va_up (va_up z 5 (va_cpy (u 1) (z 5) 0 0 512)) 6 (va_cpy (u 2) (z 6) 0 0 8)) 4 0 (u 0 0)) 4 1 (u 0 1)) 4 2 (u 0 2)) 4 3 (u 0 3)) 4 4 (u 0 4)) 4 5 (u 0 5)) 4 6 (u 0 6)), u))) X hX 6 7 8 ty_State ty_State_ok nm_State rfl rfl (Nat.le_of_ble_eq_true rfl) in_State rfl tw_482 rfl rfl rfl rfl (Nat.le_of_ble_eq_true rfl) (sf_wT_6_8 t q (stt (stt (stt (stt (stt (stt (va_up (va_up z 5 (va_cpy (u 1) (z 5) 0 0 512)) 6 (va_cpy (u 2) (z 6) 0 0 8)) 4 0 (u 0 0)) 4 1 (u 0 1)) 4 2 (u 0 2)) 4 3 (u 0 3)) 4 4 (u 0 4)) 4 5 (u 0 5)) u (u 0 6)) d_State_become_84 (fun H locs hX => ?_)
  refine lv_aload_n (pc := 87) X.1 X.2.1 d_State_become_87 rfl (lv_at hl 0 rfl) ?_
  refine lv_aload_n (pc := 88) X.1 X.2.1 d_State_become_88 rfl (lv_at hl 1 rfl) ?_
  refine ab_gx (pc := 89) (v := .int (u 0 7)) X hX 10 7 9 rfl rfl (Nat.le_of_ble_eq_true rfl) in_State rfl tw_483 rfl d_State_become_89 ?_
  refine ab_px (pc := 92) (ws' := (wT t q ((stt (stt (stt (stt (stt (stt (stt (stt (va_up (va_up z 5 (va_cpy (u 1) (z 5) 0 0 512)) 6 (va_cpy (u 2) (z 6) 0 0 8)) 4 0 (u 0 0)) 4 1 (u 0 1)) 4 2 (u 0 2)) 4 3 (u 0 3)) 4 4 (u 0 4)) 4 5 (u 0 5)) 4 6 (u 0 6)) 4 7 (u 0 7)), u))) X hX 6 7 9 ty_State ty_State_ok nm_State rfl rfl (Nat.le_of_ble_eq_true rfl) in_State rfl tw_483 rfl rfl rfl rfl (Nat.le_of_ble_eq_true rfl) (sf_wT_6_9 t q (stt (stt (stt (stt (stt (stt (stt (va_up (va_up z 5 (va_cpy (u 1) (z 5) 0 0 512)) 6 (va_cpy (u 2) (z 6) 0 0 8)) 4 0 (u 0 0)) 4 1 (u 0 1)) 4 2 (u 0 2)) 4 3 (u 0 3)) 4 4 (u 0 4)) 4 5 (u 0 5)) 4 6 (u 0 6)) u (u 0 7)) d_State_become_92 (fun H locs hX => ?_)
  refine lv_aload_n (pc := 95) X.1 X.2.1 d_State_become_95 rfl (lv_at hl 0 rfl) ?_
  refine lv_aload_n (pc := 96) X.1 X.2.1 d_State_become_96 rfl (lv_at hl 1 rfl) ?_
  refine ab_gx (pc := 97) (v := .int (u 0 8)) X hX 10 7 10 rfl rfl (Nat.le_of_ble_eq_true rfl) in_State rfl tw_484 rfl d_State_become_97 ?_
  refine ab_px (pc := 100) (ws' := (wT t q ((stt (stt (stt (stt (stt (stt (stt (stt (stt (va_up (va_up z 5 (va_cpy (u 1) (z 5) 0 0 512)) 6 (va_cpy (u 2) (z 6) 0 0 8)) 4 0 (u 0 0)) 4 1 (u 0 1)) 4 2 (u 0 2)) 4 3 (u 0 3)) 4 4 (u 0 4)) 4 5 (u 0 5)) 4 6 (u 0 6)) 4 7 (u 0 7)) 4 8 (u 0 8)), u))) X hX 6 7 10 ty_State ty_State_ok nm_State rfl rfl (Nat.le_of_ble_eq_true rfl) in_State rfl tw_484 rfl rfl rfl rfl (Nat.le_of_ble_eq_true rfl) (sf_wT_6_10 t q (stt (stt (stt (stt (stt (stt (stt (stt (va_up (va_up z 5 (va_cpy (u 1) (z 5) 0 0 512)) 6 (va_cpy (u 2) (z 6) 0 0 8)) 4 0 (u 0 0)) 4 1 (u 0 1)) 4 2 (u 0 2)) 4 3 (u 0 3)) 4 4 (u 0 4)) 4 5 (u 0 5)) 4 6 (u 0 6)) 4 7 (u 0 7)) u (u 0 8)) d_State_become_100 (fun H locs hX => ?_)
  refine lv_aload_n (pc := 103) X.1 X.2.1 d_State_become_103 rfl (lv_at hl 0 rfl) ?_
  refine lv_aload_n (pc := 104) X.1 X.2.1 d_State_become_104 rfl (lv_at hl 1 rfl) ?_
  refine ab_gx (pc := 105) (v := .int (u 0 9)) X hX 10 7 11 rfl rfl (Nat.le_of_ble_eq_true rfl) in_State rfl tw_485 rfl d_State_become_105 ?_
  refine ab_px (pc := 108) (ws' := (wT t q ((stt (stt (stt (stt (stt (stt (stt (stt (stt (stt (va_up (va_up z 5 (va_cpy (u 1) (z 5) 0 0 512)) 6 (va_cpy (u 2) (z 6) 0 0 8)) 4 0 (u 0 0)) 4 1 (u 0 1)) 4 2 (u 0 2)) 4 3 (u 0 3)) 4 4 (u 0 4)) 4 5 (u 0 5)) 4 6 (u 0 6)) 4 7 (u 0 7)) 4 8 (u 0 8)) 4 9 (u 0 9)), u))) X hX 6 7 11 ty_State ty_State_ok nm_State rfl rfl (Nat.le_of_ble_eq_true rfl) in_State rfl tw_485 rfl rfl rfl rfl (Nat.le_of_ble_eq_true rfl) (sf_wT_6_11 t q (stt (stt (stt (stt (stt (stt (stt (stt (stt (va_up (va_up z 5 (va_cpy (u 1) (z 5) 0 0 512)) 6 (va_cpy (u 2) (z 6) 0 0 8)) 4 0 (u 0 0)) 4 1 (u 0 1)) 4 2 (u 0 2)) 4 3 (u 0 3)) 4 4 (u 0 4)) 4 5 (u 0 5)) 4 6 (u 0 6)) 4 7 (u 0 7)) 4 8 (u 0 8)) u (u 0 9)) d_State_become_108 (fun H locs hX => ?_)
  refine lv_aload_n (pc := 111) X.1 X.2.1 d_State_become_111 rfl (lv_at hl 0 rfl) ?_
  refine lv_aload_n (pc := 112) X.1 X.2.1 d_State_become_112 rfl (lv_at hl 1 rfl) ?_
  refine ab_gx (pc := 113) (v := .int (u 0 10)) X hX 10 7 12 rfl rfl (Nat.le_of_ble_eq_true rfl) in_State rfl tw_486 rfl d_State_become_113 ?_
  refine ab_px (pc := 116) (ws' := (wT t q ((stt (stt (stt (stt (stt (stt (stt (stt (stt (stt (stt (va_up (va_up z 5 (va_cpy (u 1) (z 5) 0 0 512)) 6 (va_cpy (u 2) (z 6) 0 0 8)) 4 0 (u 0 0)) 4 1 (u 0 1)) 4 2 (u 0 2)) 4 3 (u 0 3)) 4 4 (u 0 4)) 4 5 (u 0 5)) 4 6 (u 0 6)) 4 7 (u 0 7)) 4 8 (u 0 8)) 4 9 (u 0 9)) 4 10 (u 0 10)), u))) X hX 6 7 12 ty_State ty_State_ok nm_State rfl rfl (Nat.le_of_ble_eq_true rfl) in_State rfl tw_486 rfl rfl rfl rfl (Nat.le_of_ble_eq_true rfl) (sf_wT_6_12 t q (stt (stt (stt (stt (stt (stt (stt (stt (stt (stt (va_up (va_up z 5 (va_cpy (u 1) (z 5) 0 0 512)) 6 (va_cpy (u 2) (z 6) 0 0 8)) 4 0 (u 0 0)) 4 1 (u 0 1)) 4 2 (u 0 2)) 4 3 (u 0 3)) 4 4 (u 0 4)) 4 5 (u 0 5)) 4 6 (u 0 6)) 4 7 (u 0 7)) 4 8 (u 0 8)) 4 9 (u 0 9)) u (u 0 10)) d_State_become_116 (fun H locs hX => ?_)
  refine lv_aload_n (pc := 119) X.1 X.2.1 d_State_become_119 rfl (lv_at hl 0 rfl) ?_
  refine lv_aload_n (pc := 120) X.1 X.2.1 d_State_become_120 rfl (lv_at hl 1 rfl) ?_
  refine ab_gx (pc := 121) (v := .int (u 0 11)) X hX 10 7 13 rfl rfl (Nat.le_of_ble_eq_true rfl) in_State rfl tw_487 rfl d_State_become_121 ?_
  refine ab_px (pc := 124) (ws' := (wT t q ((stt (stt (stt (stt (stt (stt (stt (stt (stt (stt (stt (stt (va_up (va_up z 5 (va_cpy (u 1) (z 5) 0 0 512)) 6 (va_cpy (u 2) (z 6) 0 0 8)) 4 0 (u 0 0)) 4 1 (u 0 1)) 4 2 (u 0 2)) 4 3 (u 0 3)) 4 4 (u 0 4)) 4 5 (u 0 5)) 4 6 (u 0 6)) 4 7 (u 0 7)) 4 8 (u 0 8)) 4 9 (u 0 9)) 4 10 (u 0 10)) 4 11 (u 0 11)), u))) X hX 6 7 13 ty_State ty_State_ok nm_State rfl rfl (Nat.le_of_ble_eq_true rfl) in_State rfl tw_487 rfl rfl rfl rfl (Nat.le_of_ble_eq_true rfl) (sf_wT_6_13 t q (stt (stt (stt (stt (stt (stt (stt (stt (stt (stt (stt (va_up (va_up z 5 (va_cpy (u 1) (z 5) 0 0 512)) 6 (va_cpy (u 2) (z 6) 0 0 8)) 4 0 (u 0 0)) 4 1 (u 0 1)) 4 2 (u 0 2)) 4 3 (u 0 3)) 4 4 (u 0 4)) 4 5 (u 0 5)) 4 6 (u 0 6)) 4 7 (u 0 7)) 4 8 (u 0 8)) 4 9 (u 0 9)) 4 10 (u 0 10)) u (u 0 11)) d_State_become_124 (fun H locs hX => ?_)
  refine lv_aload_n (pc := 127) X.1 X.2.1 d_State_become_127 rfl (lv_at hl 0 rfl) ?_
  refine lv_aload_n (pc := 128) X.1 X.2.1 d_State_become_128 rfl (lv_at hl 1 rfl) ?_
  refine ab_gx (pc := 129) (v := .int (u 0 12)) X hX 10 7 14 rfl rfl (Nat.le_of_ble_eq_true rfl) in_State rfl tw_488 rfl d_State_become_129 ?_
  refine ab_px (pc := 132) (ws' := (wT t q ((stt (stt (stt (stt (stt (stt (stt (stt (stt (stt (stt (stt (stt (va_up (va_up z 5 (va_cpy (u 1) (z 5) 0 0 512)) 6 (va_cpy (u 2) (z 6) 0 0 8)) 4 0 (u 0 0)) 4 1 (u 0 1)) 4 2 (u 0 2)) 4 3 (u 0 3)) 4 4 (u 0 4)) 4 5 (u 0 5)) 4 6 (u 0 6)) 4 7 (u 0 7)) 4 8 (u 0 8)) 4 9 (u 0 9)) 4 10 (u 0 10)) 4 11 (u 0 11)) 4 12 (u 0 12)), u))) X hX 6 7 14 ty_State ty_State_ok nm_State rfl rfl (Nat.le_of_ble_eq_true rfl) in_State rfl tw_488 rfl rfl rfl rfl (Nat.le_of_ble_eq_true rfl) (sf_wT_6_14 t q (stt (stt (stt (stt (stt (stt (stt (stt (stt (stt (stt (stt (va_up (va_up z 5 (va_cpy (u 1) (z 5) 0 0 512)) 6 (va_cpy (u 2) (z 6) 0 0 8)) 4 0 (u 0 0)) 4 1 (u 0 1)) 4 2 (u 0 2)) 4 3 (u 0 3)) 4 4 (u 0 4)) 4 5 (u 0 5)) 4 6 (u 0 6)) 4 7 (u 0 7)) 4 8 (u 0 8)) 4 9 (u 0 9)) 4 10 (u 0 10)) 4 11 (u 0 11)) u (u 0 12)) d_State_become_132 (fun H locs hX => ?_)
  refine lv_aload_n (pc := 135) X.1 X.2.1 d_State_become_135 rfl (lv_at hl 0 rfl) ?_
  refine lv_aload_n (pc := 136) X.1 X.2.1 d_State_become_136 rfl (lv_at hl 1 rfl) ?_
  refine ab_gx (pc := 137) (v := .int (u 0 13)) X hX 10 7 15 rfl rfl (Nat.le_of_ble_eq_true rfl) in_State rfl tw_489 rfl d_State_become_137 ?_
  refine ab_px (pc := 140) (ws' := (wT t q ((stt (stt (stt (stt (stt (stt (stt (stt (stt (stt (stt (stt (stt (stt (va_up (va_up z 5 (va_cpy (u 1) (z 5) 0 0 512)) 6 (va_cpy (u 2) (z 6) 0 0 8)) 4 0 (u 0 0)) 4 1 (u 0 1)) 4 2 (u 0 2)) 4 3 (u 0 3)) 4 4 (u 0 4)) 4 5 (u 0 5)) 4 6 (u 0 6)) 4 7 (u 0 7)) 4 8 (u 0 8)) 4 9 (u 0 9)) 4 10 (u 0 10)) 4 11 (u 0 11)) 4 12 (u 0 12)) 4 13 (u 0 13)), u))) X hX 6 7 15 ty_State ty_State_ok nm_State rfl rfl (Nat.le_of_ble_eq_true rfl) in_State rfl tw_489 rfl rfl rfl rfl (Nat.le_of_ble_eq_true rfl) (sf_wT_6_15 t q (stt (stt (stt (stt (stt (stt (stt (stt (stt (stt (stt (stt (stt (va_up (va_up z 5 (va_cpy (u 1) (z 5) 0 0 512)) 6 (va_cpy (u 2) (z 6) 0 0 8)) 4 0 (u 0 0)) 4 1 (u 0 1)) 4 2 (u 0 2)) 4 3 (u 0 3)) 4 4 (u 0 4)) 4 5 (u 0 5)) 4 6 (u 0 6)) 4 7 (u 0 7)) 4 8 (u 0 8)) 4 9 (u 0 9)) 4 10 (u 0 10)) 4 11 (u 0 11)) 4 12 (u 0 12)) u (u 0 13)) d_State_become_140 (fun H locs hX => ?_)
  refine lv_aload_n (pc := 143) X.1 X.2.1 d_State_become_143 rfl (lv_at hl 0 rfl) ?_
  refine lv_aload_n (pc := 144) X.1 X.2.1 d_State_become_144 rfl (lv_at hl 1 rfl) ?_
  refine ab_gx (pc := 145) (v := .int (u 0 14)) X hX 10 7 16 rfl rfl (Nat.le_of_ble_eq_true rfl) in_State rfl tw_490 rfl d_State_become_145 ?_
  refine ab_px (pc := 148) (ws' := (wT t q ((stt (stt (stt (stt (stt (stt (stt (stt (stt (stt (stt (stt (stt (stt (stt (va_up (va_up z 5 (va_cpy (u 1) (z 5) 0 0 512)) 6 (va_cpy (u 2) (z 6) 0 0 8)) 4 0 (u 0 0)) 4 1 (u 0 1)) 4 2 (u 0 2)) 4 3 (u 0 3)) 4 4 (u 0 4)) 4 5 (u 0 5)) 4 6 (u 0 6)) 4 7 (u 0 7)) 4 8 (u 0 8)) 4 9 (u 0 9)) 4 10 (u 0 10)) 4 11 (u 0 11)) 4 12 (u 0 12)) 4 13 (u 0 13)) 4 14 (u 0 14)), u))) X hX 6 7 16 ty_State ty_State_ok nm_State rfl rfl (Nat.le_of_ble_eq_true rfl) in_State rfl tw_490 rfl rfl rfl rfl (Nat.le_of_ble_eq_true rfl) (sf_wT_6_16 t q (stt (stt (stt (stt (stt (stt (stt (stt (stt (stt (stt (stt (stt (stt (va_up (va_up z 5 (va_cpy (u 1) (z 5) 0 0 512)) 6 (va_cpy (u 2) (z 6) 0 0 8)) 4 0 (u 0 0)) 4 1 (u 0 1)) 4 2 (u 0 2)) 4 3 (u 0 3)) 4 4 (u 0 4)) 4 5 (u 0 5)) 4 6 (u 0 6)) 4 7 (u 0 7)) 4 8 (u 0 8)) 4 9 (u 0 9)) 4 10 (u 0 10)) 4 11 (u 0 11)) 4 12 (u 0 12)) 4 13 (u 0 13)) u (u 0 14)) d_State_become_148 (fun H locs hX => ?_)
  exact ab_kv_ret (pc := 151) X hr hk hX (by rw [f_State_become_6_10]) d_State_become_151
set_option maxHeartbeats 1000000 in
set_option maxRecDepth 100000 in
theorem c_State_become_10_3 (l : Launch) (D : va_G) (t : Nat → ClassId) (q : Nat → Nat) (z u : SS) (b3 : ab_bo (z 1 3)) (b4 : ab_bo (z 1 4)) (b5 : ab_bo (z 1 5)) : ab_kv l D (tyC t) (wT t q) y_State_become b_State_become 2 { frames := 1, cells := 0, slots := 0, locals := 60 } [.ref (q 1), .ref (q 15)] (z, u) (f_State_become_10_3 z u) := by
  refine ab_kv_ofW (by decide) (Nat.le_of_ble_eq_true rfl) (fun p e s m below meth c ls A X hr hk hl hX => ?_)
  have hl : lv_has ls 2 [(0, .ref (q 1)), (1, .ref (q 15))] := hl
  refine lv_aload_n (pc := 0) X.1 X.2.1 d_State_become_0 rfl (lv_at hl 1 rfl) ?_
  refine ab_gx (pc := 1) (v := .ref (q 16)) X hX 3 7 0 rfl rfl (Nat.le_of_ble_eq_true rfl) in_State rfl tw_470 rfl d_State_become_1 ?_
  refine lv_iconst (pc := 4) (v := 0) X.1 X.2.1 d_State_become_4 (by decide) ?_
  refine lv_aload_n (pc := 5) X.1 X.2.1 d_State_become_5 rfl (lv_at hl 0 rfl) ?_
  refine ab_gx (pc := 6) (v := .ref (q 2)) X hX 10 7 0 rfl rfl (Nat.le_of_ble_eq_true rfl) in_State rfl tw_470 rfl d_State_become_6 ?_
  refine lv_iconst (pc := 9) (v := 0) X.1 X.2.1 d_State_become_9 (by decide) ?_
  refine lv_sipush (pc := 10) (v := 512) X.1 X.2.1 d_State_become_10 (by decide) ?_
  refine ab_copy (pc := 13) (f := z 2) (g := u 1) (ws' := (wT t q (z, (va_up u 1 (va_cpy (z 2) (u 1) 0 0 512))))) X hX hl.1 4 11 0 rfl rfl rfl ⟨tw_471, tw_472, tw_473, tw_474⟩ ⟨by decide, by decide⟩ ⟨Nat.le_of_ble_eq_true rfl, by decide +kernel⟩ (sc_wT_11 t q z u (va_cpy (z 2) (u 1) 0 0 512)) d_State_become_13 (fun H locs hX => ?_)
  refine lv_aload_n (pc := 16) X.1 X.2.1 d_State_become_16 rfl (lv_at hl 1 rfl) ?_
  refine ab_gx (pc := 17) (v := .ref (q 17)) X hX 3 7 1 rfl rfl (Nat.le_of_ble_eq_true rfl) in_State rfl tw_475 rfl d_State_become_17 ?_
  refine lv_iconst (pc := 20) (v := 0) X.1 X.2.1 d_State_become_20 (by decide) ?_
  refine lv_aload_n (pc := 21) X.1 X.2.1 d_State_become_21 rfl (lv_at hl 0 rfl) ?_
  refine ab_gx (pc := 22) (v := .ref (q 3)) X hX 10 7 1 rfl rfl (Nat.le_of_ble_eq_true rfl) in_State rfl tw_475 rfl d_State_become_22 ?_
  refine lv_iconst (pc := 25) (v := 0) X.1 X.2.1 d_State_become_25 (by decide) ?_
  refine lv_bipush (pc := 26) (v := 8) X.1 X.2.1 d_State_become_26 (by decide) ?_
  refine ab_copy (pc := 28) (f := z 3) (g := u 2) (ws' := (wT t q (z, (va_up (va_up u 1 (va_cpy (z 2) (u 1) 0 0 512)) 2 (va_cpy (z 3) (u 2) 0 0 8))))) X hX hl.1 5 12 0 rfl rfl rfl ⟨tw_471, tw_472, tw_473, tw_474⟩ ⟨by decide, by decide⟩ ⟨Nat.le_of_ble_eq_true rfl, by decide +kernel⟩ (sc_wT_12 t q z (va_up u 1 (va_cpy (z 2) (u 1) 0 0 512)) (va_cpy (z 3) (u 2) 0 0 8)) d_State_become_28 (fun H locs hX => ?_)
  refine lv_aload_n (pc := 31) X.1 X.2.1 d_State_become_31 rfl (lv_at hl 0 rfl) ?_
  refine lv_aload_n (pc := 32) X.1 X.2.1 d_State_become_32 rfl (lv_at hl 1 rfl) ?_
  refine ab_gx (pc := 33) (v := .int (z 1 0)) X hX 3 7 2 rfl rfl (Nat.le_of_ble_eq_true rfl) in_State rfl tw_476 rfl d_State_become_33 ?_
  refine ab_px (pc := 36) (ws' := (wT t q (z, (stt (va_up (va_up u 1 (va_cpy (z 2) (u 1) 0 0 512)) 2 (va_cpy (z 3) (u 2) 0 0 8)) 0 0 (z 1 0))))) X hX 10 7 2 ty_State ty_State_ok nm_State rfl rfl (Nat.le_of_ble_eq_true rfl) in_State rfl tw_476 rfl rfl rfl rfl (Nat.le_of_ble_eq_true rfl) (sf_wT_10_2 t q z (va_up (va_up u 1 (va_cpy (z 2) (u 1) 0 0 512)) 2 (va_cpy (z 3) (u 2) 0 0 8)) (z 1 0)) d_State_become_36 (fun H locs hX => ?_)
  refine lv_aload_n (pc := 39) X.1 X.2.1 d_State_become_39 rfl (lv_at hl 0 rfl) ?_
  refine lv_aload_n (pc := 40) X.1 X.2.1 d_State_become_40 rfl (lv_at hl 1 rfl) ?_
  refine ab_gx (pc := 41) (v := .int (z 1 1)) X hX 3 7 3 rfl rfl (Nat.le_of_ble_eq_true rfl) in_State rfl tw_477 rfl d_State_become_41 ?_
  refine ab_px (pc := 44) (ws' := (wT t q (z, (stt (stt (va_up (va_up u 1 (va_cpy (z 2) (u 1) 0 0 512)) 2 (va_cpy (z 3) (u 2) 0 0 8)) 0 0 (z 1 0)) 0 1 (z 1 1))))) X hX 10 7 3 ty_State ty_State_ok nm_State rfl rfl (Nat.le_of_ble_eq_true rfl) in_State rfl tw_477 rfl rfl rfl rfl (Nat.le_of_ble_eq_true rfl) (sf_wT_10_3 t q z (stt (va_up (va_up u 1 (va_cpy (z 2) (u 1) 0 0 512)) 2 (va_cpy (z 3) (u 2) 0 0 8)) 0 0 (z 1 0)) (z 1 1)) d_State_become_44 (fun H locs hX => ?_)
  refine lv_aload_n (pc := 47) X.1 X.2.1 d_State_become_47 rfl (lv_at hl 0 rfl) ?_
  refine lv_aload_n (pc := 48) X.1 X.2.1 d_State_become_48 rfl (lv_at hl 1 rfl) ?_
  refine ab_gx (pc := 49) (v := .int (z 1 2)) X hX 3 7 4 rfl rfl (Nat.le_of_ble_eq_true rfl) in_State rfl tw_478 rfl d_State_become_49 ?_
  refine ab_px (pc := 52) (ws' := (wT t q (z, (stt (stt (stt (va_up (va_up u 1 (va_cpy (z 2) (u 1) 0 0 512)) 2 (va_cpy (z 3) (u 2) 0 0 8)) 0 0 (z 1 0)) 0 1 (z 1 1)) 0 2 (z 1 2))))) X hX 10 7 4 ty_State ty_State_ok nm_State rfl rfl (Nat.le_of_ble_eq_true rfl) in_State rfl tw_478 rfl rfl rfl rfl (Nat.le_of_ble_eq_true rfl) (sf_wT_10_4 t q z (stt (stt (va_up (va_up u 1 (va_cpy (z 2) (u 1) 0 0 512)) 2 (va_cpy (z 3) (u 2) 0 0 8)) 0 0 (z 1 0)) 0 1 (z 1 1)) (z 1 2)) d_State_become_52 (fun H locs hX => ?_)
  refine lv_aload_n (pc := 55) X.1 X.2.1 d_State_become_55 rfl (lv_at hl 0 rfl) ?_
  refine lv_aload_n (pc := 56) X.1 X.2.1 d_State_become_56 rfl (lv_at hl 1 rfl) ?_
  refine ab_gx (pc := 57) (v := .int (z 1 3)) X hX 3 7 5 rfl rfl (Nat.le_of_ble_eq_true rfl) in_State rfl tw_479 rfl d_State_become_57 ?_
  refine ab_px (pc := 60) (ws' := (wT t q (z, (stt (stt (stt (stt (va_up (va_up u 1 (va_cpy (z 2) (u 1) 0 0 512)) 2 (va_cpy (z 3) (u 2) 0 0 8)) 0 0 (z 1 0)) 0 1 (z 1 1)) 0 2 (z 1 2)) 0 3 (z 1 3))))) X hX 10 7 5 ty_State ty_State_ok nm_State rfl rfl (Nat.le_of_ble_eq_true rfl) in_State rfl tw_479 rfl rfl (ab_nb b3) (ab_fb b3) (Nat.le_of_ble_eq_true rfl) (sf_wT_10_5 t q z (stt (stt (stt (va_up (va_up u 1 (va_cpy (z 2) (u 1) 0 0 512)) 2 (va_cpy (z 3) (u 2) 0 0 8)) 0 0 (z 1 0)) 0 1 (z 1 1)) 0 2 (z 1 2)) (z 1 3)) d_State_become_60 (fun H locs hX => ?_)
  refine lv_aload_n (pc := 63) X.1 X.2.1 d_State_become_63 rfl (lv_at hl 0 rfl) ?_
  refine lv_aload_n (pc := 64) X.1 X.2.1 d_State_become_64 rfl (lv_at hl 1 rfl) ?_
  refine ab_gx (pc := 65) (v := .int (z 1 4)) X hX 3 7 6 rfl rfl (Nat.le_of_ble_eq_true rfl) in_State rfl tw_480 rfl d_State_become_65 ?_
  refine ab_px (pc := 68) (ws' := (wT t q (z, (stt (stt (stt (stt (stt (va_up (va_up u 1 (va_cpy (z 2) (u 1) 0 0 512)) 2 (va_cpy (z 3) (u 2) 0 0 8)) 0 0 (z 1 0)) 0 1 (z 1 1)) 0 2 (z 1 2)) 0 3 (z 1 3)) 0 4 (z 1 4))))) X hX 10 7 6 ty_State ty_State_ok nm_State rfl rfl (Nat.le_of_ble_eq_true rfl) in_State rfl tw_480 rfl rfl (ab_nb b4) (ab_fb b4) (Nat.le_of_ble_eq_true rfl) (sf_wT_10_6 t q z (stt (stt (stt (stt (va_up (va_up u 1 (va_cpy (z 2) (u 1) 0 0 512)) 2 (va_cpy (z 3) (u 2) 0 0 8)) 0 0 (z 1 0)) 0 1 (z 1 1)) 0 2 (z 1 2)) 0 3 (z 1 3)) (z 1 4)) d_State_become_68 (fun H locs hX => ?_)
  refine lv_aload_n (pc := 71) X.1 X.2.1 d_State_become_71 rfl (lv_at hl 0 rfl) ?_
  refine lv_aload_n (pc := 72) X.1 X.2.1 d_State_become_72 rfl (lv_at hl 1 rfl) ?_
  refine ab_gx (pc := 73) (v := .int (z 1 5)) X hX 3 7 7 rfl rfl (Nat.le_of_ble_eq_true rfl) in_State rfl tw_481 rfl d_State_become_73 ?_
  refine ab_px (pc := 76) (ws' := (wT t q (z, (stt (stt (stt (stt (stt (stt (va_up (va_up u 1 (va_cpy (z 2) (u 1) 0 0 512)) 2 (va_cpy (z 3) (u 2) 0 0 8)) 0 0 (z 1 0)) 0 1 (z 1 1)) 0 2 (z 1 2)) 0 3 (z 1 3)) 0 4 (z 1 4)) 0 5 (z 1 5))))) X hX 10 7 7 ty_State ty_State_ok nm_State rfl rfl (Nat.le_of_ble_eq_true rfl) in_State rfl tw_481 rfl rfl (ab_nb b5) (ab_fb b5) (Nat.le_of_ble_eq_true rfl) (sf_wT_10_7 t q z (stt (stt (stt (stt (stt (va_up (va_up u 1 (va_cpy (z 2) (u 1) 0 0 512)) 2 (va_cpy (z 3) (u 2) 0 0 8)) 0 0 (z 1 0)) 0 1 (z 1 1)) 0 2 (z 1 2)) 0 3 (z 1 3)) 0 4 (z 1 4)) (z 1 5)) d_State_become_76 (fun H locs hX => ?_)
  refine lv_aload_n (pc := 79) X.1 X.2.1 d_State_become_79 rfl (lv_at hl 0 rfl) ?_
  refine lv_aload_n (pc := 80) X.1 X.2.1 d_State_become_80 rfl (lv_at hl 1 rfl) ?_
  refine ab_gx (pc := 81) (v := .int (z 1 6)) X hX 3 7 8 rfl rfl (Nat.le_of_ble_eq_true rfl) in_State rfl tw_482 rfl d_State_become_81 ?_
  refine ab_px (pc := 84) (ws' := (wT t q (z, (stt (stt (stt (stt (stt (stt (stt (va_up (va_up u 1 (va_cpy (z 2) (u 1) 0 0 512)) 2 (va_cpy (z 3) (u 2) 0 0 8)) 0 0 (z 1 0)) 0 1 (z 1 1)) 0 2 (z 1 2)) 0 3 (z 1 3)) 0 4 (z 1 4)) 0 5 (z 1 5)) 0 6 (z 1 6))))) X hX 10 7 8 ty_State ty_State_ok nm_State rfl rfl (Nat.le_of_ble_eq_true rfl) in_State rfl tw_482 rfl rfl rfl rfl (Nat.le_of_ble_eq_true rfl) (sf_wT_10_8 t q z (stt (stt (stt (stt (stt (stt (va_up (va_up u 1 (va_cpy (z 2) (u 1) 0 0 512)) 2 (va_cpy (z 3) (u 2) 0 0 8)) 0 0 (z 1 0)) 0 1 (z 1 1)) 0 2 (z 1 2)) 0 3 (z 1 3)) 0 4 (z 1 4)) 0 5 (z 1 5)) (z 1 6)) d_State_become_84 (fun H locs hX => ?_)
  refine lv_aload_n (pc := 87) X.1 X.2.1 d_State_become_87 rfl (lv_at hl 0 rfl) ?_
  refine lv_aload_n (pc := 88) X.1 X.2.1 d_State_become_88 rfl (lv_at hl 1 rfl) ?_
  refine ab_gx (pc := 89) (v := .int (z 1 7)) X hX 3 7 9 rfl rfl (Nat.le_of_ble_eq_true rfl) in_State rfl tw_483 rfl d_State_become_89 ?_
  refine ab_px (pc := 92) (ws' := (wT t q (z, (stt (stt (stt (stt (stt (stt (stt (stt (va_up (va_up u 1 (va_cpy (z 2) (u 1) 0 0 512)) 2 (va_cpy (z 3) (u 2) 0 0 8)) 0 0 (z 1 0)) 0 1 (z 1 1)) 0 2 (z 1 2)) 0 3 (z 1 3)) 0 4 (z 1 4)) 0 5 (z 1 5)) 0 6 (z 1 6)) 0 7 (z 1 7))))) X hX 10 7 9 ty_State ty_State_ok nm_State rfl rfl (Nat.le_of_ble_eq_true rfl) in_State rfl tw_483 rfl rfl rfl rfl (Nat.le_of_ble_eq_true rfl) (sf_wT_10_9 t q z (stt (stt (stt (stt (stt (stt (stt (va_up (va_up u 1 (va_cpy (z 2) (u 1) 0 0 512)) 2 (va_cpy (z 3) (u 2) 0 0 8)) 0 0 (z 1 0)) 0 1 (z 1 1)) 0 2 (z 1 2)) 0 3 (z 1 3)) 0 4 (z 1 4)) 0 5 (z 1 5)) 0 6 (z 1 6)) (z 1 7)) d_State_become_92 (fun H locs hX => ?_)
  refine lv_aload_n (pc := 95) X.1 X.2.1 d_State_become_95 rfl (lv_at hl 0 rfl) ?_
  refine lv_aload_n (pc := 96) X.1 X.2.1 d_State_become_96 rfl (lv_at hl 1 rfl) ?_
  refine ab_gx (pc := 97) (v := .int (z 1 8)) X hX 3 7 10 rfl rfl (Nat.le_of_ble_eq_true rfl) in_State rfl tw_484 rfl d_State_become_97 ?_
  refine ab_px (pc := 100) (ws' := (wT t q (z, (stt (stt (stt (stt (stt (stt (stt (stt (stt (va_up (va_up u 1 (va_cpy (z 2) (u 1) 0 0 512)) 2 (va_cpy (z 3) (u 2) 0 0 8)) 0 0 (z 1 0)) 0 1 (z 1 1)) 0 2 (z 1 2)) 0 3 (z 1 3)) 0 4 (z 1 4)) 0 5 (z 1 5)) 0 6 (z 1 6)) 0 7 (z 1 7)) 0 8 (z 1 8))))) X hX 10 7 10 ty_State ty_State_ok nm_State rfl rfl (Nat.le_of_ble_eq_true rfl) in_State rfl tw_484 rfl rfl rfl rfl (Nat.le_of_ble_eq_true rfl) (sf_wT_10_10 t q z (stt (stt (stt (stt (stt (stt (stt (stt (va_up (va_up u 1 (va_cpy (z 2) (u 1) 0 0 512)) 2 (va_cpy (z 3) (u 2) 0 0 8)) 0 0 (z 1 0)) 0 1 (z 1 1)) 0 2 (z 1 2)) 0 3 (z 1 3)) 0 4 (z 1 4)) 0 5 (z 1 5)) 0 6 (z 1 6)) 0 7 (z 1 7)) (z 1 8)) d_State_become_100 (fun H locs hX => ?_)
  refine lv_aload_n (pc := 103) X.1 X.2.1 d_State_become_103 rfl (lv_at hl 0 rfl) ?_
  refine lv_aload_n (pc := 104) X.1 X.2.1 d_State_become_104 rfl (lv_at hl 1 rfl) ?_
  refine ab_gx (pc := 105) (v := .int (z 1 9)) X hX 3 7 11 rfl rfl (Nat.le_of_ble_eq_true rfl) in_State rfl tw_485 rfl d_State_become_105 ?_
  refine ab_px (pc := 108) (ws' := (wT t q (z, (stt (stt (stt (stt (stt (stt (stt (stt (stt (stt (va_up (va_up u 1 (va_cpy (z 2) (u 1) 0 0 512)) 2 (va_cpy (z 3) (u 2) 0 0 8)) 0 0 (z 1 0)) 0 1 (z 1 1)) 0 2 (z 1 2)) 0 3 (z 1 3)) 0 4 (z 1 4)) 0 5 (z 1 5)) 0 6 (z 1 6)) 0 7 (z 1 7)) 0 8 (z 1 8)) 0 9 (z 1 9))))) X hX 10 7 11 ty_State ty_State_ok nm_State rfl rfl (Nat.le_of_ble_eq_true rfl) in_State rfl tw_485 rfl rfl rfl rfl (Nat.le_of_ble_eq_true rfl) (sf_wT_10_11 t q z (stt (stt (stt (stt (stt (stt (stt (stt (stt (va_up (va_up u 1 (va_cpy (z 2) (u 1) 0 0 512)) 2 (va_cpy (z 3) (u 2) 0 0 8)) 0 0 (z 1 0)) 0 1 (z 1 1)) 0 2 (z 1 2)) 0 3 (z 1 3)) 0 4 (z 1 4)) 0 5 (z 1 5)) 0 6 (z 1 6)) 0 7 (z 1 7)) 0 8 (z 1 8)) (z 1 9)) d_State_become_108 (fun H locs hX => ?_)
  refine lv_aload_n (pc := 111) X.1 X.2.1 d_State_become_111 rfl (lv_at hl 0 rfl) ?_
  refine lv_aload_n (pc := 112) X.1 X.2.1 d_State_become_112 rfl (lv_at hl 1 rfl) ?_
  refine ab_gx (pc := 113) (v := .int (z 1 10)) X hX 3 7 12 rfl rfl (Nat.le_of_ble_eq_true rfl) in_State rfl tw_486 rfl d_State_become_113 ?_
  refine ab_px (pc := 116) (ws' := (wT t q (z, (stt (stt (stt (stt (stt (stt (stt (stt (stt (stt (stt (va_up (va_up u 1 (va_cpy (z 2) (u 1) 0 0 512)) 2 (va_cpy (z 3) (u 2) 0 0 8)) 0 0 (z 1 0)) 0 1 (z 1 1)) 0 2 (z 1 2)) 0 3 (z 1 3)) 0 4 (z 1 4)) 0 5 (z 1 5)) 0 6 (z 1 6)) 0 7 (z 1 7)) 0 8 (z 1 8)) 0 9 (z 1 9)) 0 10 (z 1 10))))) X hX 10 7 12 ty_State ty_State_ok nm_State rfl rfl (Nat.le_of_ble_eq_true rfl) in_State rfl tw_486 rfl rfl rfl rfl (Nat.le_of_ble_eq_true rfl) (sf_wT_10_12 t q z (stt (stt (stt (stt (stt (stt (stt (stt (stt (stt (va_up (va_up u 1 (va_cpy (z 2) (u 1) 0 0 512)) 2 (va_cpy (z 3) (u 2) 0 0 8)) 0 0 (z 1 0)) 0 1 (z 1 1)) 0 2 (z 1 2)) 0 3 (z 1 3)) 0 4 (z 1 4)) 0 5 (z 1 5)) 0 6 (z 1 6)) 0 7 (z 1 7)) 0 8 (z 1 8)) 0 9 (z 1 9)) (z 1 10)) d_State_become_116 (fun H locs hX => ?_)
  refine lv_aload_n (pc := 119) X.1 X.2.1 d_State_become_119 rfl (lv_at hl 0 rfl) ?_
  refine lv_aload_n (pc := 120) X.1 X.2.1 d_State_become_120 rfl (lv_at hl 1 rfl) ?_
  refine ab_gx (pc := 121) (v := .int (z 1 11)) X hX 3 7 13 rfl rfl (Nat.le_of_ble_eq_true rfl) in_State rfl tw_487 rfl d_State_become_121 ?_
  refine ab_px (pc := 124) (ws' := (wT t q (z, (stt (stt (stt (stt (stt (stt (stt (stt (stt (stt (stt (stt (va_up (va_up u 1 (va_cpy (z 2) (u 1) 0 0 512)) 2 (va_cpy (z 3) (u 2) 0 0 8)) 0 0 (z 1 0)) 0 1 (z 1 1)) 0 2 (z 1 2)) 0 3 (z 1 3)) 0 4 (z 1 4)) 0 5 (z 1 5)) 0 6 (z 1 6)) 0 7 (z 1 7)) 0 8 (z 1 8)) 0 9 (z 1 9)) 0 10 (z 1 10)) 0 11 (z 1 11))))) X hX 10 7 13 ty_State ty_State_ok nm_State rfl rfl (Nat.le_of_ble_eq_true rfl) in_State rfl tw_487 rfl rfl rfl rfl (Nat.le_of_ble_eq_true rfl) (sf_wT_10_13 t q z (stt (stt (stt (stt (stt (stt (stt (stt (stt (stt (stt (va_up (va_up u 1 (va_cpy (z 2) (u 1) 0 0 512)) 2 (va_cpy (z 3) (u 2) 0 0 8)) 0 0 (z 1 0)) 0 1 (z 1 1)) 0 2 (z 1 2)) 0 3 (z 1 3)) 0 4 (z 1 4)) 0 5 (z 1 5)) 0 6 (z 1 6)) 0 7 (z 1 7)) 0 8 (z 1 8)) 0 9 (z 1 9)) 0 10 (z 1 10)) (z 1 11)) d_State_become_124 (fun H locs hX => ?_)
  refine lv_aload_n (pc := 127) X.1 X.2.1 d_State_become_127 rfl (lv_at hl 0 rfl) ?_
  refine lv_aload_n (pc := 128) X.1 X.2.1 d_State_become_128 rfl (lv_at hl 1 rfl) ?_
  refine ab_gx (pc := 129) (v := .int (z 1 12)) X hX 3 7 14 rfl rfl (Nat.le_of_ble_eq_true rfl) in_State rfl tw_488 rfl d_State_become_129 ?_
  refine ab_px (pc := 132) (ws' := (wT t q (z, (stt (stt (stt (stt (stt (stt (stt (stt (stt (stt (stt (stt (stt (va_up (va_up u 1 (va_cpy (z 2) (u 1) 0 0 512)) 2 (va_cpy (z 3) (u 2) 0 0 8)) 0 0 (z 1 0)) 0 1 (z 1 1)) 0 2 (z 1 2)) 0 3 (z 1 3)) 0 4 (z 1 4)) 0 5 (z 1 5)) 0 6 (z 1 6)) 0 7 (z 1 7)) 0 8 (z 1 8)) 0 9 (z 1 9)) 0 10 (z 1 10)) 0 11 (z 1 11)) 0 12 (z 1 12))))) X hX 10 7 14 ty_State ty_State_ok nm_State rfl rfl (Nat.le_of_ble_eq_true rfl) in_State rfl tw_488 rfl rfl rfl rfl (Nat.le_of_ble_eq_true rfl) (sf_wT_10_14 t q z (stt (stt (stt (stt (stt (stt (stt (stt (stt (stt (stt (stt (va_up (va_up u 1 (va_cpy (z 2) (u 1) 0 0 512)) 2 (va_cpy (z 3) (u 2) 0 0 8)) 0 0 (z 1 0)) 0 1 (z 1 1)) 0 2 (z 1 2)) 0 3 (z 1 3)) 0 4 (z 1 4)) 0 5 (z 1 5)) 0 6 (z 1 6)) 0 7 (z 1 7)) 0 8 (z 1 8)) 0 9 (z 1 9)) 0 10 (z 1 10)) 0 11 (z 1 11)) (z 1 12)) d_State_become_132 (fun H locs hX => ?_)
  refine lv_aload_n (pc := 135) X.1 X.2.1 d_State_become_135 rfl (lv_at hl 0 rfl) ?_
  refine lv_aload_n (pc := 136) X.1 X.2.1 d_State_become_136 rfl (lv_at hl 1 rfl) ?_
  refine ab_gx (pc := 137) (v := .int (z 1 13)) X hX 3 7 15 rfl rfl (Nat.le_of_ble_eq_true rfl) in_State rfl tw_489 rfl d_State_become_137 ?_
  refine ab_px (pc := 140) (ws' := (wT t q (z, (stt (stt (stt (stt (stt (stt (stt (stt (stt (stt (stt (stt (stt (stt (va_up (va_up u 1 (va_cpy (z 2) (u 1) 0 0 512)) 2 (va_cpy (z 3) (u 2) 0 0 8)) 0 0 (z 1 0)) 0 1 (z 1 1)) 0 2 (z 1 2)) 0 3 (z 1 3)) 0 4 (z 1 4)) 0 5 (z 1 5)) 0 6 (z 1 6)) 0 7 (z 1 7)) 0 8 (z 1 8)) 0 9 (z 1 9)) 0 10 (z 1 10)) 0 11 (z 1 11)) 0 12 (z 1 12)) 0 13 (z 1 13))))) X hX 10 7 15 ty_State ty_State_ok nm_State rfl rfl (Nat.le_of_ble_eq_true rfl) in_State rfl tw_489 rfl rfl rfl rfl (Nat.le_of_ble_eq_true rfl) (sf_wT_10_15 t q z (stt (stt (stt (stt (stt (stt (stt (stt (stt (stt (stt (stt (stt (va_up (va_up u 1 (va_cpy (z 2) (u 1) 0 0 512)) 2 (va_cpy (z 3) (u 2) 0 0 8)) 0 0 (z 1 0)) 0 1 (z 1 1)) 0 2 (z 1 2)) 0 3 (z 1 3)) 0 4 (z 1 4)) 0 5 (z 1 5)) 0 6 (z 1 6)) 0 7 (z 1 7)) 0 8 (z 1 8)) 0 9 (z 1 9)) 0 10 (z 1 10)) 0 11 (z 1 11)) 0 12 (z 1 12)) (z 1 13)) d_State_become_140 (fun H locs hX => ?_)
  refine lv_aload_n (pc := 143) X.1 X.2.1 d_State_become_143 rfl (lv_at hl 0 rfl) ?_
  refine lv_aload_n (pc := 144) X.1 X.2.1 d_State_become_144 rfl (lv_at hl 1 rfl) ?_
  refine ab_gx (pc := 145) (v := .int (z 1 14)) X hX 3 7 16 rfl rfl (Nat.le_of_ble_eq_true rfl) in_State rfl tw_490 rfl d_State_become_145 ?_
  refine ab_px (pc := 148) (ws' := (wT t q (z, (stt (stt (stt (stt (stt (stt (stt (stt (stt (stt (stt (stt (stt (stt (stt (va_up (va_up u 1 (va_cpy (z 2) (u 1) 0 0 512)) 2 (va_cpy (z 3) (u 2) 0 0 8)) 0 0 (z 1 0)) 0 1 (z 1 1)) 0 2 (z 1 2)) 0 3 (z 1 3)) 0 4 (z 1 4)) 0 5 (z 1 5)) 0 6 (z 1 6)) 0 7 (z 1 7)) 0 8 (z 1 8)) 0 9 (z 1 9)) 0 10 (z 1 10)) 0 11 (z 1 11)) 0 12 (z 1 12)) 0 13 (z 1 13)) 0 14 (z 1 14))))) X hX 10 7 16 ty_State ty_State_ok nm_State rfl rfl (Nat.le_of_ble_eq_true rfl) in_State rfl tw_490 rfl rfl rfl rfl (Nat.le_of_ble_eq_true rfl) (sf_wT_10_16 t q z (stt (stt (stt (stt (stt (stt (stt (stt (stt (stt (stt (stt (stt (stt (va_up (va_up u 1 (va_cpy (z 2) (u 1) 0 0 512)) 2 (va_cpy (z 3) (u 2) 0 0 8)) 0 0 (z 1 0)) 0 1 (z 1 1)) 0 2 (z 1 2)) 0 3 (z 1 3)) 0 4 (z 1 4)) 0 5 (z 1 5)) 0 6 (z 1 6)) 0 7 (z 1 7)) 0 8 (z 1 8)) 0 9 (z 1 9)) 0 10 (z 1 10)) 0 11 (z 1 11)) 0 12 (z 1 12)) 0 13 (z 1 13)) (z 1 14)) d_State_become_148 (fun H locs hX => ?_)
  exact ab_kv_ret (pc := 151) X hr hk hX (by rw [f_State_become_10_3]) d_State_become_151
set_option maxHeartbeats 1000000 in
set_option maxRecDepth 100000 in
theorem c_State_become_10_6 (l : Launch) (D : va_G) (t : Nat → ClassId) (q : Nat → Nat) (z u : SS) (b3 : ab_bo (z 4 3)) (b4 : ab_bo (z 4 4)) (b5 : ab_bo (z 4 5)) : ab_kv l D (tyC t) (wT t q) y_State_become b_State_become 2 { frames := 1, cells := 0, slots := 0, locals := 60 } [.ref (q 1), .ref (q 18)] (z, u) (f_State_become_10_6 z u) := by
  refine ab_kv_ofW (by decide) (Nat.le_of_ble_eq_true rfl) (fun p e s m below meth c ls A X hr hk hl hX => ?_)
  have hl : lv_has ls 2 [(0, .ref (q 1)), (1, .ref (q 18))] := hl
  refine lv_aload_n (pc := 0) X.1 X.2.1 d_State_become_0 rfl (lv_at hl 1 rfl) ?_
  refine ab_gx (pc := 1) (v := .ref (q 19)) X hX 6 7 0 rfl rfl (Nat.le_of_ble_eq_true rfl) in_State rfl tw_470 rfl d_State_become_1 ?_
  refine lv_iconst (pc := 4) (v := 0) X.1 X.2.1 d_State_become_4 (by decide) ?_
  refine lv_aload_n (pc := 5) X.1 X.2.1 d_State_become_5 rfl (lv_at hl 0 rfl) ?_
  refine ab_gx (pc := 6) (v := .ref (q 2)) X hX 10 7 0 rfl rfl (Nat.le_of_ble_eq_true rfl) in_State rfl tw_470 rfl d_State_become_6 ?_
  refine lv_iconst (pc := 9) (v := 0) X.1 X.2.1 d_State_become_9 (by decide) ?_
  refine lv_sipush (pc := 10) (v := 512) X.1 X.2.1 d_State_become_10 (by decide) ?_
  refine ab_copy (pc := 13) (f := z 5) (g := u 1) (ws' := (wT t q (z, (va_up u 1 (va_cpy (z 5) (u 1) 0 0 512))))) X hX hl.1 7 11 0 rfl rfl rfl ⟨tw_471, tw_472, tw_473, tw_474⟩ ⟨by decide, by decide⟩ ⟨Nat.le_of_ble_eq_true rfl, by decide +kernel⟩ (sc_wT_11 t q z u (va_cpy (z 5) (u 1) 0 0 512)) d_State_become_13 (fun H locs hX => ?_)
  refine lv_aload_n (pc := 16) X.1 X.2.1 d_State_become_16 rfl (lv_at hl 1 rfl) ?_
  refine ab_gx (pc := 17) (v := .ref (q 20)) X hX 6 7 1 rfl rfl (Nat.le_of_ble_eq_true rfl) in_State rfl tw_475 rfl d_State_become_17 ?_
  refine lv_iconst (pc := 20) (v := 0) X.1 X.2.1 d_State_become_20 (by decide) ?_
  refine lv_aload_n (pc := 21) X.1 X.2.1 d_State_become_21 rfl (lv_at hl 0 rfl) ?_
  refine ab_gx (pc := 22) (v := .ref (q 3)) X hX 10 7 1 rfl rfl (Nat.le_of_ble_eq_true rfl) in_State rfl tw_475 rfl d_State_become_22 ?_
  refine lv_iconst (pc := 25) (v := 0) X.1 X.2.1 d_State_become_25 (by decide) ?_
  refine lv_bipush (pc := 26) (v := 8) X.1 X.2.1 d_State_become_26 (by decide) ?_
  refine ab_copy (pc := 28) (f := z 6) (g := u 2) (ws' := (wT t q (z, (va_up (va_up u 1 (va_cpy (z 5) (u 1) 0 0 512)) 2 (va_cpy (z 6) (u 2) 0 0 8))))) X hX hl.1 8 12 0 rfl rfl rfl ⟨tw_471, tw_472, tw_473, tw_474⟩ ⟨by decide, by decide⟩ ⟨Nat.le_of_ble_eq_true rfl, by decide +kernel⟩ (sc_wT_12 t q z (va_up u 1 (va_cpy (z 5) (u 1) 0 0 512)) (va_cpy (z 6) (u 2) 0 0 8)) d_State_become_28 (fun H locs hX => ?_)
  refine lv_aload_n (pc := 31) X.1 X.2.1 d_State_become_31 rfl (lv_at hl 0 rfl) ?_
  refine lv_aload_n (pc := 32) X.1 X.2.1 d_State_become_32 rfl (lv_at hl 1 rfl) ?_
  refine ab_gx (pc := 33) (v := .int (z 4 0)) X hX 6 7 2 rfl rfl (Nat.le_of_ble_eq_true rfl) in_State rfl tw_476 rfl d_State_become_33 ?_
  refine ab_px (pc := 36) (ws' := (wT t q (z, (stt (va_up (va_up u 1 (va_cpy (z 5) (u 1) 0 0 512)) 2 (va_cpy (z 6) (u 2) 0 0 8)) 0 0 (z 4 0))))) X hX 10 7 2 ty_State ty_State_ok nm_State rfl rfl (Nat.le_of_ble_eq_true rfl) in_State rfl tw_476 rfl rfl rfl rfl (Nat.le_of_ble_eq_true rfl) (sf_wT_10_2 t q z (va_up (va_up u 1 (va_cpy (z 5) (u 1) 0 0 512)) 2 (va_cpy (z 6) (u 2) 0 0 8)) (z 4 0)) d_State_become_36 (fun H locs hX => ?_)
  refine lv_aload_n (pc := 39) X.1 X.2.1 d_State_become_39 rfl (lv_at hl 0 rfl) ?_
  refine lv_aload_n (pc := 40) X.1 X.2.1 d_State_become_40 rfl (lv_at hl 1 rfl) ?_
  refine ab_gx (pc := 41) (v := .int (z 4 1)) X hX 6 7 3 rfl rfl (Nat.le_of_ble_eq_true rfl) in_State rfl tw_477 rfl d_State_become_41 ?_
  refine ab_px (pc := 44) (ws' := (wT t q (z, (stt (stt (va_up (va_up u 1 (va_cpy (z 5) (u 1) 0 0 512)) 2 (va_cpy (z 6) (u 2) 0 0 8)) 0 0 (z 4 0)) 0 1 (z 4 1))))) X hX 10 7 3 ty_State ty_State_ok nm_State rfl rfl (Nat.le_of_ble_eq_true rfl) in_State rfl tw_477 rfl rfl rfl rfl (Nat.le_of_ble_eq_true rfl) (sf_wT_10_3 t q z (stt (va_up (va_up u 1 (va_cpy (z 5) (u 1) 0 0 512)) 2 (va_cpy (z 6) (u 2) 0 0 8)) 0 0 (z 4 0)) (z 4 1)) d_State_become_44 (fun H locs hX => ?_)
  refine lv_aload_n (pc := 47) X.1 X.2.1 d_State_become_47 rfl (lv_at hl 0 rfl) ?_
  refine lv_aload_n (pc := 48) X.1 X.2.1 d_State_become_48 rfl (lv_at hl 1 rfl) ?_
  refine ab_gx (pc := 49) (v := .int (z 4 2)) X hX 6 7 4 rfl rfl (Nat.le_of_ble_eq_true rfl) in_State rfl tw_478 rfl d_State_become_49 ?_
  refine ab_px (pc := 52) (ws' := (wT t q (z, (stt (stt (stt (va_up (va_up u 1 (va_cpy (z 5) (u 1) 0 0 512)) 2 (va_cpy (z 6) (u 2) 0 0 8)) 0 0 (z 4 0)) 0 1 (z 4 1)) 0 2 (z 4 2))))) X hX 10 7 4 ty_State ty_State_ok nm_State rfl rfl (Nat.le_of_ble_eq_true rfl) in_State rfl tw_478 rfl rfl rfl rfl (Nat.le_of_ble_eq_true rfl) (sf_wT_10_4 t q z (stt (stt (va_up (va_up u 1 (va_cpy (z 5) (u 1) 0 0 512)) 2 (va_cpy (z 6) (u 2) 0 0 8)) 0 0 (z 4 0)) 0 1 (z 4 1)) (z 4 2)) d_State_become_52 (fun H locs hX => ?_)
  refine lv_aload_n (pc := 55) X.1 X.2.1 d_State_become_55 rfl (lv_at hl 0 rfl) ?_
  refine lv_aload_n (pc := 56) X.1 X.2.1 d_State_become_56 rfl (lv_at hl 1 rfl) ?_
  refine ab_gx (pc := 57) (v := .int (z 4 3)) X hX 6 7 5 rfl rfl (Nat.le_of_ble_eq_true rfl) in_State rfl tw_479 rfl d_State_become_57 ?_
  refine ab_px (pc := 60) (ws' := (wT t q (z, (stt (stt (stt (stt (va_up (va_up u 1 (va_cpy (z 5) (u 1) 0 0 512)) 2 (va_cpy (z 6) (u 2) 0 0 8)) 0 0 (z 4 0)) 0 1 (z 4 1)) 0 2 (z 4 2)) 0 3 (z 4 3))))) X hX 10 7 5 ty_State ty_State_ok nm_State rfl rfl (Nat.le_of_ble_eq_true rfl) in_State rfl tw_479 rfl rfl (ab_nb b3) (ab_fb b3) (Nat.le_of_ble_eq_true rfl) (sf_wT_10_5 t q z (stt (stt (stt (va_up (va_up u 1 (va_cpy (z 5) (u 1) 0 0 512)) 2 (va_cpy (z 6) (u 2) 0 0 8)) 0 0 (z 4 0)) 0 1 (z 4 1)) 0 2 (z 4 2)) (z 4 3)) d_State_become_60 (fun H locs hX => ?_)
  refine lv_aload_n (pc := 63) X.1 X.2.1 d_State_become_63 rfl (lv_at hl 0 rfl) ?_
  refine lv_aload_n (pc := 64) X.1 X.2.1 d_State_become_64 rfl (lv_at hl 1 rfl) ?_
  refine ab_gx (pc := 65) (v := .int (z 4 4)) X hX 6 7 6 rfl rfl (Nat.le_of_ble_eq_true rfl) in_State rfl tw_480 rfl d_State_become_65 ?_
  refine ab_px (pc := 68) (ws' := (wT t q (z, (stt (stt (stt (stt (stt (va_up (va_up u 1 (va_cpy (z 5) (u 1) 0 0 512)) 2 (va_cpy (z 6) (u 2) 0 0 8)) 0 0 (z 4 0)) 0 1 (z 4 1)) 0 2 (z 4 2)) 0 3 (z 4 3)) 0 4 (z 4 4))))) X hX 10 7 6 ty_State ty_State_ok nm_State rfl rfl (Nat.le_of_ble_eq_true rfl) in_State rfl tw_480 rfl rfl (ab_nb b4) (ab_fb b4) (Nat.le_of_ble_eq_true rfl) (sf_wT_10_6 t q z (stt (stt (stt (stt (va_up (va_up u 1 (va_cpy (z 5) (u 1) 0 0 512)) 2 (va_cpy (z 6) (u 2) 0 0 8)) 0 0 (z 4 0)) 0 1 (z 4 1)) 0 2 (z 4 2)) 0 3 (z 4 3)) (z 4 4)) d_State_become_68 (fun H locs hX => ?_)
  refine lv_aload_n (pc := 71) X.1 X.2.1 d_State_become_71 rfl (lv_at hl 0 rfl) ?_
  refine lv_aload_n (pc := 72) X.1 X.2.1 d_State_become_72 rfl (lv_at hl 1 rfl) ?_
  refine ab_gx (pc := 73) (v := .int (z 4 5)) X hX 6 7 7 rfl rfl (Nat.le_of_ble_eq_true rfl) in_State rfl tw_481 rfl d_State_become_73 ?_
  refine ab_px (pc := 76) (ws' := (wT t q (z, (stt (stt (stt (stt (stt (stt (va_up (va_up u 1 (va_cpy (z 5) (u 1) 0 0 512)) 2 (va_cpy (z 6) (u 2) 0 0 8)) 0 0 (z 4 0)) 0 1 (z 4 1)) 0 2 (z 4 2)) 0 3 (z 4 3)) 0 4 (z 4 4)) 0 5 (z 4 5))))) X hX 10 7 7 ty_State ty_State_ok nm_State rfl rfl (Nat.le_of_ble_eq_true rfl) in_State rfl tw_481 rfl rfl (ab_nb b5) (ab_fb b5) (Nat.le_of_ble_eq_true rfl) (sf_wT_10_7 t q z (stt (stt (stt (stt (stt (va_up (va_up u 1 (va_cpy (z 5) (u 1) 0 0 512)) 2 (va_cpy (z 6) (u 2) 0 0 8)) 0 0 (z 4 0)) 0 1 (z 4 1)) 0 2 (z 4 2)) 0 3 (z 4 3)) 0 4 (z 4 4)) (z 4 5)) d_State_become_76 (fun H locs hX => ?_)
  refine lv_aload_n (pc := 79) X.1 X.2.1 d_State_become_79 rfl (lv_at hl 0 rfl) ?_
  refine lv_aload_n (pc := 80) X.1 X.2.1 d_State_become_80 rfl (lv_at hl 1 rfl) ?_
  refine ab_gx (pc := 81) (v := .int (z 4 6)) X hX 6 7 8 rfl rfl (Nat.le_of_ble_eq_true rfl) in_State rfl tw_482 rfl d_State_become_81 ?_
  refine ab_px (pc := 84) (ws' := (wT t q (z, (stt (stt (stt (stt (stt (stt (stt (va_up (va_up u 1 (va_cpy (z 5) (u 1) 0 0 512)) 2 (va_cpy (z 6) (u 2) 0 0 8)) 0 0 (z 4 0)) 0 1 (z 4 1)) 0 2 (z 4 2)) 0 3 (z 4 3)) 0 4 (z 4 4)) 0 5 (z 4 5)) 0 6 (z 4 6))))) X hX 10 7 8 ty_State ty_State_ok nm_State rfl rfl (Nat.le_of_ble_eq_true rfl) in_State rfl tw_482 rfl rfl rfl rfl (Nat.le_of_ble_eq_true rfl) (sf_wT_10_8 t q z (stt (stt (stt (stt (stt (stt (va_up (va_up u 1 (va_cpy (z 5) (u 1) 0 0 512)) 2 (va_cpy (z 6) (u 2) 0 0 8)) 0 0 (z 4 0)) 0 1 (z 4 1)) 0 2 (z 4 2)) 0 3 (z 4 3)) 0 4 (z 4 4)) 0 5 (z 4 5)) (z 4 6)) d_State_become_84 (fun H locs hX => ?_)
  refine lv_aload_n (pc := 87) X.1 X.2.1 d_State_become_87 rfl (lv_at hl 0 rfl) ?_
  refine lv_aload_n (pc := 88) X.1 X.2.1 d_State_become_88 rfl (lv_at hl 1 rfl) ?_
  refine ab_gx (pc := 89) (v := .int (z 4 7)) X hX 6 7 9 rfl rfl (Nat.le_of_ble_eq_true rfl) in_State rfl tw_483 rfl d_State_become_89 ?_
  refine ab_px (pc := 92) (ws' := (wT t q (z, (stt (stt (stt (stt (stt (stt (stt (stt (va_up (va_up u 1 (va_cpy (z 5) (u 1) 0 0 512)) 2 (va_cpy (z 6) (u 2) 0 0 8)) 0 0 (z 4 0)) 0 1 (z 4 1)) 0 2 (z 4 2)) 0 3 (z 4 3)) 0 4 (z 4 4)) 0 5 (z 4 5)) 0 6 (z 4 6)) 0 7 (z 4 7))))) X hX 10 7 9 ty_State ty_State_ok nm_State rfl rfl (Nat.le_of_ble_eq_true rfl) in_State rfl tw_483 rfl rfl rfl rfl (Nat.le_of_ble_eq_true rfl) (sf_wT_10_9 t q z (stt (stt (stt (stt (stt (stt (stt (va_up (va_up u 1 (va_cpy (z 5) (u 1) 0 0 512)) 2 (va_cpy (z 6) (u 2) 0 0 8)) 0 0 (z 4 0)) 0 1 (z 4 1)) 0 2 (z 4 2)) 0 3 (z 4 3)) 0 4 (z 4 4)) 0 5 (z 4 5)) 0 6 (z 4 6)) (z 4 7)) d_State_become_92 (fun H locs hX => ?_)
  refine lv_aload_n (pc := 95) X.1 X.2.1 d_State_become_95 rfl (lv_at hl 0 rfl) ?_
  refine lv_aload_n (pc := 96) X.1 X.2.1 d_State_become_96 rfl (lv_at hl 1 rfl) ?_
  refine ab_gx (pc := 97) (v := .int (z 4 8)) X hX 6 7 10 rfl rfl (Nat.le_of_ble_eq_true rfl) in_State rfl tw_484 rfl d_State_become_97 ?_
  refine ab_px (pc := 100) (ws' := (wT t q (z, (stt (stt (stt (stt (stt (stt (stt (stt (stt (va_up (va_up u 1 (va_cpy (z 5) (u 1) 0 0 512)) 2 (va_cpy (z 6) (u 2) 0 0 8)) 0 0 (z 4 0)) 0 1 (z 4 1)) 0 2 (z 4 2)) 0 3 (z 4 3)) 0 4 (z 4 4)) 0 5 (z 4 5)) 0 6 (z 4 6)) 0 7 (z 4 7)) 0 8 (z 4 8))))) X hX 10 7 10 ty_State ty_State_ok nm_State rfl rfl (Nat.le_of_ble_eq_true rfl) in_State rfl tw_484 rfl rfl rfl rfl (Nat.le_of_ble_eq_true rfl) (sf_wT_10_10 t q z (stt (stt (stt (stt (stt (stt (stt (stt (va_up (va_up u 1 (va_cpy (z 5) (u 1) 0 0 512)) 2 (va_cpy (z 6) (u 2) 0 0 8)) 0 0 (z 4 0)) 0 1 (z 4 1)) 0 2 (z 4 2)) 0 3 (z 4 3)) 0 4 (z 4 4)) 0 5 (z 4 5)) 0 6 (z 4 6)) 0 7 (z 4 7)) (z 4 8)) d_State_become_100 (fun H locs hX => ?_)
  refine lv_aload_n (pc := 103) X.1 X.2.1 d_State_become_103 rfl (lv_at hl 0 rfl) ?_
  refine lv_aload_n (pc := 104) X.1 X.2.1 d_State_become_104 rfl (lv_at hl 1 rfl) ?_
  refine ab_gx (pc := 105) (v := .int (z 4 9)) X hX 6 7 11 rfl rfl (Nat.le_of_ble_eq_true rfl) in_State rfl tw_485 rfl d_State_become_105 ?_
  refine ab_px (pc := 108) (ws' := (wT t q (z, (stt (stt (stt (stt (stt (stt (stt (stt (stt (stt (va_up (va_up u 1 (va_cpy (z 5) (u 1) 0 0 512)) 2 (va_cpy (z 6) (u 2) 0 0 8)) 0 0 (z 4 0)) 0 1 (z 4 1)) 0 2 (z 4 2)) 0 3 (z 4 3)) 0 4 (z 4 4)) 0 5 (z 4 5)) 0 6 (z 4 6)) 0 7 (z 4 7)) 0 8 (z 4 8)) 0 9 (z 4 9))))) X hX 10 7 11 ty_State ty_State_ok nm_State rfl rfl (Nat.le_of_ble_eq_true rfl) in_State rfl tw_485 rfl rfl rfl rfl (Nat.le_of_ble_eq_true rfl) (sf_wT_10_11 t q z (stt (stt (stt (stt (stt (stt (stt (stt (stt (va_up (va_up u 1 (va_cpy (z 5) (u 1) 0 0 512)) 2 (va_cpy (z 6) (u 2) 0 0 8)) 0 0 (z 4 0)) 0 1 (z 4 1)) 0 2 (z 4 2)) 0 3 (z 4 3)) 0 4 (z 4 4)) 0 5 (z 4 5)) 0 6 (z 4 6)) 0 7 (z 4 7)) 0 8 (z 4 8)) (z 4 9)) d_State_become_108 (fun H locs hX => ?_)
  refine lv_aload_n (pc := 111) X.1 X.2.1 d_State_become_111 rfl (lv_at hl 0 rfl) ?_
  refine lv_aload_n (pc := 112) X.1 X.2.1 d_State_become_112 rfl (lv_at hl 1 rfl) ?_
  refine ab_gx (pc := 113) (v := .int (z 4 10)) X hX 6 7 12 rfl rfl (Nat.le_of_ble_eq_true rfl) in_State rfl tw_486 rfl d_State_become_113 ?_
  refine ab_px (pc := 116) (ws' := (wT t q (z, (stt (stt (stt (stt (stt (stt (stt (stt (stt (stt (stt (va_up (va_up u 1 (va_cpy (z 5) (u 1) 0 0 512)) 2 (va_cpy (z 6) (u 2) 0 0 8)) 0 0 (z 4 0)) 0 1 (z 4 1)) 0 2 (z 4 2)) 0 3 (z 4 3)) 0 4 (z 4 4)) 0 5 (z 4 5)) 0 6 (z 4 6)) 0 7 (z 4 7)) 0 8 (z 4 8)) 0 9 (z 4 9)) 0 10 (z 4 10))))) X hX 10 7 12 ty_State ty_State_ok nm_State rfl rfl (Nat.le_of_ble_eq_true rfl) in_State rfl tw_486 rfl rfl rfl rfl (Nat.le_of_ble_eq_true rfl) (sf_wT_10_12 t q z (stt (stt (stt (stt (stt (stt (stt (stt (stt (stt (va_up (va_up u 1 (va_cpy (z 5) (u 1) 0 0 512)) 2 (va_cpy (z 6) (u 2) 0 0 8)) 0 0 (z 4 0)) 0 1 (z 4 1)) 0 2 (z 4 2)) 0 3 (z 4 3)) 0 4 (z 4 4)) 0 5 (z 4 5)) 0 6 (z 4 6)) 0 7 (z 4 7)) 0 8 (z 4 8)) 0 9 (z 4 9)) (z 4 10)) d_State_become_116 (fun H locs hX => ?_)
  refine lv_aload_n (pc := 119) X.1 X.2.1 d_State_become_119 rfl (lv_at hl 0 rfl) ?_
  refine lv_aload_n (pc := 120) X.1 X.2.1 d_State_become_120 rfl (lv_at hl 1 rfl) ?_
  refine ab_gx (pc := 121) (v := .int (z 4 11)) X hX 6 7 13 rfl rfl (Nat.le_of_ble_eq_true rfl) in_State rfl tw_487 rfl d_State_become_121 ?_
  refine ab_px (pc := 124) (ws' := (wT t q (z, (stt (stt (stt (stt (stt (stt (stt (stt (stt (stt (stt (stt (va_up (va_up u 1 (va_cpy (z 5) (u 1) 0 0 512)) 2 (va_cpy (z 6) (u 2) 0 0 8)) 0 0 (z 4 0)) 0 1 (z 4 1)) 0 2 (z 4 2)) 0 3 (z 4 3)) 0 4 (z 4 4)) 0 5 (z 4 5)) 0 6 (z 4 6)) 0 7 (z 4 7)) 0 8 (z 4 8)) 0 9 (z 4 9)) 0 10 (z 4 10)) 0 11 (z 4 11))))) X hX 10 7 13 ty_State ty_State_ok nm_State rfl rfl (Nat.le_of_ble_eq_true rfl) in_State rfl tw_487 rfl rfl rfl rfl (Nat.le_of_ble_eq_true rfl) (sf_wT_10_13 t q z (stt (stt (stt (stt (stt (stt (stt (stt (stt (stt (stt (va_up (va_up u 1 (va_cpy (z 5) (u 1) 0 0 512)) 2 (va_cpy (z 6) (u 2) 0 0 8)) 0 0 (z 4 0)) 0 1 (z 4 1)) 0 2 (z 4 2)) 0 3 (z 4 3)) 0 4 (z 4 4)) 0 5 (z 4 5)) 0 6 (z 4 6)) 0 7 (z 4 7)) 0 8 (z 4 8)) 0 9 (z 4 9)) 0 10 (z 4 10)) (z 4 11)) d_State_become_124 (fun H locs hX => ?_)
  refine lv_aload_n (pc := 127) X.1 X.2.1 d_State_become_127 rfl (lv_at hl 0 rfl) ?_
  refine lv_aload_n (pc := 128) X.1 X.2.1 d_State_become_128 rfl (lv_at hl 1 rfl) ?_
  refine ab_gx (pc := 129) (v := .int (z 4 12)) X hX 6 7 14 rfl rfl (Nat.le_of_ble_eq_true rfl) in_State rfl tw_488 rfl d_State_become_129 ?_
  refine ab_px (pc := 132) (ws' := (wT t q (z, (stt (stt (stt (stt (stt (stt (stt (stt (stt (stt (stt (stt (stt (va_up (va_up u 1 (va_cpy (z 5) (u 1) 0 0 512)) 2 (va_cpy (z 6) (u 2) 0 0 8)) 0 0 (z 4 0)) 0 1 (z 4 1)) 0 2 (z 4 2)) 0 3 (z 4 3)) 0 4 (z 4 4)) 0 5 (z 4 5)) 0 6 (z 4 6)) 0 7 (z 4 7)) 0 8 (z 4 8)) 0 9 (z 4 9)) 0 10 (z 4 10)) 0 11 (z 4 11)) 0 12 (z 4 12))))) X hX 10 7 14 ty_State ty_State_ok nm_State rfl rfl (Nat.le_of_ble_eq_true rfl) in_State rfl tw_488 rfl rfl rfl rfl (Nat.le_of_ble_eq_true rfl) (sf_wT_10_14 t q z (stt (stt (stt (stt (stt (stt (stt (stt (stt (stt (stt (stt (va_up (va_up u 1 (va_cpy (z 5) (u 1) 0 0 512)) 2 (va_cpy (z 6) (u 2) 0 0 8)) 0 0 (z 4 0)) 0 1 (z 4 1)) 0 2 (z 4 2)) 0 3 (z 4 3)) 0 4 (z 4 4)) 0 5 (z 4 5)) 0 6 (z 4 6)) 0 7 (z 4 7)) 0 8 (z 4 8)) 0 9 (z 4 9)) 0 10 (z 4 10)) 0 11 (z 4 11)) (z 4 12)) d_State_become_132 (fun H locs hX => ?_)
  refine lv_aload_n (pc := 135) X.1 X.2.1 d_State_become_135 rfl (lv_at hl 0 rfl) ?_
  refine lv_aload_n (pc := 136) X.1 X.2.1 d_State_become_136 rfl (lv_at hl 1 rfl) ?_
  refine ab_gx (pc := 137) (v := .int (z 4 13)) X hX 6 7 15 rfl rfl (Nat.le_of_ble_eq_true rfl) in_State rfl tw_489 rfl d_State_become_137 ?_
  refine ab_px (pc := 140) (ws' := (wT t q (z, (stt (stt (stt (stt (stt (stt (stt (stt (stt (stt (stt (stt (stt (stt (va_up (va_up u 1 (va_cpy (z 5) (u 1) 0 0 512)) 2 (va_cpy (z 6) (u 2) 0 0 8)) 0 0 (z 4 0)) 0 1 (z 4 1)) 0 2 (z 4 2)) 0 3 (z 4 3)) 0 4 (z 4 4)) 0 5 (z 4 5)) 0 6 (z 4 6)) 0 7 (z 4 7)) 0 8 (z 4 8)) 0 9 (z 4 9)) 0 10 (z 4 10)) 0 11 (z 4 11)) 0 12 (z 4 12)) 0 13 (z 4 13))))) X hX 10 7 15 ty_State ty_State_ok nm_State rfl rfl (Nat.le_of_ble_eq_true rfl) in_State rfl tw_489 rfl rfl rfl rfl (Nat.le_of_ble_eq_true rfl) (sf_wT_10_15 t q z (stt (stt (stt (stt (stt (stt (stt (stt (stt (stt (stt (stt (stt (va_up (va_up u 1 (va_cpy (z 5) (u 1) 0 0 512)) 2 (va_cpy (z 6) (u 2) 0 0 8)) 0 0 (z 4 0)) 0 1 (z 4 1)) 0 2 (z 4 2)) 0 3 (z 4 3)) 0 4 (z 4 4)) 0 5 (z 4 5)) 0 6 (z 4 6)) 0 7 (z 4 7)) 0 8 (z 4 8)) 0 9 (z 4 9)) 0 10 (z 4 10)) 0 11 (z 4 11)) 0 12 (z 4 12)) (z 4 13)) d_State_become_140 (fun H locs hX => ?_)
  refine lv_aload_n (pc := 143) X.1 X.2.1 d_State_become_143 rfl (lv_at hl 0 rfl) ?_
  refine lv_aload_n (pc := 144) X.1 X.2.1 d_State_become_144 rfl (lv_at hl 1 rfl) ?_
  refine ab_gx (pc := 145) (v := .int (z 4 14)) X hX 6 7 16 rfl rfl (Nat.le_of_ble_eq_true rfl) in_State rfl tw_490 rfl d_State_become_145 ?_
  refine ab_px (pc := 148) (ws' := (wT t q (z, (stt (stt (stt (stt (stt (stt (stt (stt (stt (stt (stt (stt (stt (stt (stt (va_up (va_up u 1 (va_cpy (z 5) (u 1) 0 0 512)) 2 (va_cpy (z 6) (u 2) 0 0 8)) 0 0 (z 4 0)) 0 1 (z 4 1)) 0 2 (z 4 2)) 0 3 (z 4 3)) 0 4 (z 4 4)) 0 5 (z 4 5)) 0 6 (z 4 6)) 0 7 (z 4 7)) 0 8 (z 4 8)) 0 9 (z 4 9)) 0 10 (z 4 10)) 0 11 (z 4 11)) 0 12 (z 4 12)) 0 13 (z 4 13)) 0 14 (z 4 14))))) X hX 10 7 16 ty_State ty_State_ok nm_State rfl rfl (Nat.le_of_ble_eq_true rfl) in_State rfl tw_490 rfl rfl rfl rfl (Nat.le_of_ble_eq_true rfl) (sf_wT_10_16 t q z (stt (stt (stt (stt (stt (stt (stt (stt (stt (stt (stt (stt (stt (stt (va_up (va_up u 1 (va_cpy (z 5) (u 1) 0 0 512)) 2 (va_cpy (z 6) (u 2) 0 0 8)) 0 0 (z 4 0)) 0 1 (z 4 1)) 0 2 (z 4 2)) 0 3 (z 4 3)) 0 4 (z 4 4)) 0 5 (z 4 5)) 0 6 (z 4 6)) 0 7 (z 4 7)) 0 8 (z 4 8)) 0 9 (z 4 9)) 0 10 (z 4 10)) 0 11 (z 4 11)) 0 12 (z 4 12)) 0 13 (z 4 13)) (z 4 14)) d_State_become_148 (fun H locs hX => ?_)
  exact ab_kv_ret (pc := 151) X hr hk hX (by rw [f_State_become_10_6]) d_State_become_151
abbrev b_AB_load : ByteArray := prog_1_method_2_code
def y_AB_load : MethodName := ⟨"ArcadeBoard", "load", "(III)Z"⟩
theorem d_AB_load_0 : decode b_AB_load 0 = .ok (.aload_n 0, 1) := by decide +kernel
theorem d_AB_load_1 : decode b_AB_load 1 = .ok (.getfield 74, 3) := by decide +kernel
theorem d_AB_load_4 : decode b_AB_load 4 = .ok (.ifCond .ne 26, 3) := by decide +kernel
theorem d_AB_load_7 : decode b_AB_load 7 = .ok (.iload_n 3, 1) := by decide +kernel
theorem d_AB_load_8 : decode b_AB_load 8 = .ok (.iconst 1, 1) := by decide +kernel
theorem d_AB_load_9 : decode b_AB_load 9 = .ok (.if_icmp .lt 21, 3) := by decide +kernel
theorem d_AB_load_12 : decode b_AB_load 12 = .ok (.iload_n 3, 1) := by decide +kernel
theorem d_AB_load_13 : decode b_AB_load 13 = .ok (.iconst 4, 1) := by decide +kernel
theorem d_AB_load_14 : decode b_AB_load 14 = .ok (.if_icmp .gt 16, 3) := by decide +kernel
theorem d_AB_load_17 : decode b_AB_load 17 = .ok (.iload_n 1, 1) := by decide +kernel
theorem d_AB_load_18 : decode b_AB_load 18 = .ok (.ifCond .lt 12, 3) := by decide +kernel
theorem d_AB_load_21 : decode b_AB_load 21 = .ok (.iload_n 1, 1) := by decide +kernel
theorem d_AB_load_22 : decode b_AB_load 22 = .ok (.sipush 512, 3) := by decide +kernel
theorem d_AB_load_25 : decode b_AB_load 25 = .ok (.iload_n 3, 1) := by decide +kernel
theorem d_AB_load_26 : decode b_AB_load 26 = .ok (.isub, 1) := by decide +kernel
theorem d_AB_load_27 : decode b_AB_load 27 = .ok (.if_icmp .le 5, 3) := by decide +kernel
theorem d_AB_load_30 : decode b_AB_load 30 = .ok (.iconst 0, 1) := by decide +kernel
theorem d_AB_load_31 : decode b_AB_load 31 = .ok (.ireturn, 1) := by decide +kernel
theorem d_AB_load_32 : decode b_AB_load 32 = .ok (.iconst 0, 1) := by decide +kernel
theorem d_AB_load_33 : decode b_AB_load 33 = .ok (.istore 4, 2) := by decide +kernel
theorem d_AB_load_35 : decode b_AB_load 35 = .ok (.iload 4, 2) := by decide +kernel
theorem d_AB_load_37 : decode b_AB_load 37 = .ok (.iload_n 3, 1) := by decide +kernel
theorem d_AB_load_38 : decode b_AB_load 38 = .ok (.if_icmp .ge 27, 3) := by decide +kernel
theorem d_AB_load_41 : decode b_AB_load 41 = .ok (.aload_n 0, 1) := by decide +kernel
theorem d_AB_load_42 : decode b_AB_load 42 = .ok (.getfield 21, 3) := by decide +kernel
theorem d_AB_load_45 : decode b_AB_load 45 = .ok (.iload_n 1, 1) := by decide +kernel
theorem d_AB_load_46 : decode b_AB_load 46 = .ok (.iload 4, 2) := by decide +kernel
theorem d_AB_load_48 : decode b_AB_load 48 = .ok (.iadd, 1) := by decide +kernel
theorem d_AB_load_49 : decode b_AB_load 49 = .ok (.iload_n 2, 1) := by decide +kernel
theorem d_AB_load_50 : decode b_AB_load 50 = .ok (.bipush 8, 2) := by decide +kernel
theorem d_AB_load_52 : decode b_AB_load 52 = .ok (.iload 4, 2) := by decide +kernel
theorem d_AB_load_54 : decode b_AB_load 54 = .ok (.imul, 1) := by decide +kernel
theorem d_AB_load_55 : decode b_AB_load 55 = .ok (.ishr, 1) := by decide +kernel
theorem d_AB_load_56 : decode b_AB_load 56 = .ok (.invokevirtual 78, 3) := by decide +kernel
theorem d_AB_load_59 : decode b_AB_load 59 = .ok (.iinc 4 1, 3) := by decide +kernel
theorem d_AB_load_62 : decode b_AB_load 62 = .ok (.goto (-27), 3) := by decide +kernel
theorem d_AB_load_65 : decode b_AB_load 65 = .ok (.iconst 1, 1) := by decide +kernel
theorem d_AB_load_66 : decode b_AB_load 66 = .ok (.ireturn, 1) := by decide +kernel
theorem tw_491 : Jvm.Cond.code ⟨"ArcadeBoard", "load", "(III)Z"⟩ prog_1_method_2_code 5 (Option.some Jvm.ClassFile.FieldType.boolean) ∈ AL := ab_in (ab_t2 (List.mem_of_getElem? (i := 26) (by decide +kernel))) rfl
theorem tw_492 : Jvm.Cond.initialized "ArcadeBoard" ∈ AL := ab_in (ab_t1 (List.mem_of_getElem? (i := 1) (by decide +kernel))) rfl
theorem tw_493 : Jvm.Cond.instanceMethod ⟨"ArcadeBoard", "load", "(III)Z"⟩ ∈ AL := ab_in (ab_t2 (List.mem_of_getElem? (i := 24) (by decide +kernel))) rfl
theorem tw_494 : Jvm.Cond.selects "ArcadeBoard" ⟨"ArcadeBoard", "load", "(III)Z"⟩ ⟨"ArcadeBoard", "load", "(III)Z"⟩ ∈ AL := ab_in (ab_t2 (List.mem_of_getElem? (i := 25) (by decide +kernel))) rfl
theorem tw_495 : Jvm.Cond.fieldLink "ArcadeBoard" 74 "ArcadeBoard" "on" "Z" ∈ AL := ab_in (ab_t2 (List.mem_of_getElem? (i := 0) (by decide +kernel))) rfl
theorem tw_496 : Jvm.Cond.fieldLink "ArcadeBoard" 21 "ArcadeBoard" "memory" "LArcadeBoard$Memory;" ∈ AL := ab_in (ab_t1 (List.mem_of_getElem? (i := 232) (by decide +kernel))) rfl
theorem tw_497 : Jvm.Cond.methodLink "ArcadeBoard" 78 ⟨"ArcadeBoard$Memory", "burn", "(II)V"⟩ ∈ AL := ab_in (ab_t2 (List.mem_of_getElem? (i := 27) (by decide +kernel))) rfl
theorem ok_AB_load : ab_yok y_AB_load b_AB_load 5 (some .boolean) 3 := ⟨tw_491, tw_492, by decide, by decide, by decide +kernel⟩
theorem okv_AB_load : ab_yok_V y_AB_load := ⟨tw_493, tw_494⟩
set_option maxHeartbeats 1000000 in
set_option maxRecDepth 100000 in
theorem k_AB_load_35 {p : Program} {l : Launch} {e : Env} {s : State} {m : MethodId} {args : Array Value} {below : List Frame} {meth : Method} {c : Code} {A : Nat → Prop} {D : va_G} {t : Nat → ClassId} {q : Nat → Nat} (X : ab_cx p s m args c b_AB_load 5 y_AB_load.cls D (tyC t)) (hr : meth.sig.returnType = some .boolean) (hk : meth.locks = false) (k : Nat) (z u : SS) (v1 : Int32) (v2 : Int32) (v3 : Int32) (v4 : Int32) (hq : ab_ldI k v1 v3 v4) {H : Heap} {locs : List Loc} {ls : Array Slot} (hX : ab_hx D (wT t q (z, u)) A s.heap H locs) (hl : lv_has ls 5 [(0, .ref (q 12)), (1, .int v1), (2, .int v2), (3, .int v3), (4, .int v4)]) :
    W p l e { frames := 1, cells := 0, slots := 0, locals := 22 } s m args below meth c H locs 0 0 (ab_ki_E below args s D (tyC t) (wT t q) A (g_AB_load_35 k z u v1 v2 v3 v4)) (F0 m 35 ls []) := by
  induction k generalizing z u v1 v2 v3 v4 H locs ls with
  | zero => exact absurd hq ab_ldI_0
  | succ k ih =>
    refine lv_iload (pc := 35) X.1 X.2.1 d_AB_load_35 (lv_at hl 4 rfl) ?_
    refine lv_iload_n (pc := 37) X.1 X.2.1 d_AB_load_37 rfl (lv_at hl 3 rfl) ?_
    refine lv_icmp_ge (pc := 38) (tgt := 65) X.1 X.2.1 d_AB_load_38 (by decide) (fun h6 => ?_) (fun h6 => ?_)
    ·
      refine lv_iconst (pc := 65) (v := 1) X.1 X.2.1 d_AB_load_65 (by decide) ?_
      exact ab_ki_ret (pc := 66) X hr hk hX rfl (by rw [g_AB_load_35, if_pos h6]) d_AB_load_66
    ·
      refine lv_aload_n (pc := 41) X.1 X.2.1 d_AB_load_41 rfl (lv_at hl 0 rfl) ?_
      refine ab_gx (pc := 42) (v := .ref (q 4)) X hX 0 8 1 rfl rfl (Nat.le_of_ble_eq_true rfl) in_AB rfl tw_496 rfl d_AB_load_42 ?_
      refine lv_iload_n (pc := 45) X.1 X.2.1 d_AB_load_45 rfl (lv_at hl 1 rfl) ?_
      refine lv_iload (pc := 46) X.1 X.2.1 d_AB_load_46 (lv_at hl 4 rfl) ?_
      refine lv_iadd (pc := 48) X.1 X.2.1 d_AB_load_48 ?_
      refine lv_iload_n (pc := 49) X.1 X.2.1 d_AB_load_49 rfl (lv_at hl 2 rfl) ?_
      refine lv_bipush (pc := 50) (v := 8) X.1 X.2.1 d_AB_load_50 (by decide) ?_
      refine lv_iload (pc := 52) X.1 X.2.1 d_AB_load_52 (lv_at hl 4 rfl) ?_
      refine lv_imul (pc := 54) X.1 X.2.1 d_AB_load_54 ?_
      refine lv_ishr (pc := 55) X.1 X.2.1 d_AB_load_55 ?_
      refine ab_kv_callV (pc := 56) (wr := (wA t q z)) (w := (wC t q)) (u := u) (F := f_Memory_burn u (v1 + v4) (v2 >>> ((8 * v4) &&& 31))) (as := [.int (v1 + v4), .int (v2 >>> ((8 * v4) &&& 31))]) (rest := []) X hX (c_Memory_burn l D t q u (v1 + v4) (v2 >>> ((8 * v4) &&& 31))) ok_Memory_burn okv_Memory_burn tw_497 13 2 rfl rfl rfl hl.1 rfl (Nat.le_of_ble_eq_true rfl) ⟨rfl, rfl, Nat.le_of_ble_eq_true rfl, Nat.le_of_ble_eq_true rfl⟩ ⟨Nat.zero_le _, Nat.zero_le _⟩ d_AB_load_56 (fun H locs hX => ?_)
      have hX : ab_hx D (wT t q (z, (f_Memory_burn u (v1 + v4) (v2 >>> ((8 * v4) &&& 31))))) A s.heap H locs := hX
      refine lv_iinc (pc := 59) (k := 4) (v := v4 + 1) (lv' := [(4, .int (v4 + 1)), (0, .ref (q 12)), (1, .int v1), (2, .int v2), (3, .int v3)]) X.1 X.2.1 d_AB_load_59 hl rfl rfl (Nat.le_of_ble_eq_true rfl) rfl (fun ls hl => ?_)
      refine lv_goto (pc := 62) (tgt := 35) X.1 X.2.1 d_AB_load_62 (by decide) ?_
      rw [show g_AB_load_35 (k + 1) z u v1 v2 v3 v4 = g_AB_load_35 k z (f_Memory_burn u (v1 + v4) (v2 >>> ((8 * v4) &&& 31))) v1 v2 v3 (v4 + 1) from by rw [g_AB_load_35, if_neg h6]]
      exact ih z (f_Memory_burn u (v1 + v4) (v2 >>> ((8 * v4) &&& 31))) v1 v2 v3 (v4 + 1) (ab_ldI_s hq h6) hX (lv_sub hl [1, 2, 3, 4, 0] rfl)
set_option maxHeartbeats 1000000 in
set_option maxRecDepth 100000 in
theorem c_AB_load (l : Launch) (D : va_G) (t : Nat → ClassId) (q : Nat → Nat) (z u : SS) (x1 : Int32) (x2 : Int32) (x3 : Int32) : ab_ki l D (tyC t) (wT t q) y_AB_load b_AB_load 5 .boolean { frames := 1, cells := 0, slots := 0, locals := 22 } [.ref (q 12), .int x1, .int x2, .int x3] (z, u) (f_AB_load z u x1 x2 x3) := by
  refine ab_ki_ofW (by decide) (Nat.le_of_ble_eq_true rfl) (fun p e s m below meth c ls A X hr hk hl hX => ?_)
  have hl : lv_has ls 5 [(0, .ref (q 12)), (1, .int x1), (2, .int x2), (3, .int x3)] := hl
  refine lv_aload_n (pc := 0) X.1 X.2.1 d_AB_load_0 rfl (lv_at hl 0 rfl) ?_
  refine ab_gx (pc := 1) (v := .int (z 0 0)) X hX 0 8 9 rfl rfl (Nat.le_of_ble_eq_true rfl) in_AB rfl tw_495 rfl d_AB_load_1 ?_
  refine lv_if_ne (pc := 4) (tgt := 30) X.1 X.2.1 d_AB_load_4 (by decide) (fun h1 => ?_) (fun h1 => ?_)
  ·
    refine lv_iconst (pc := 30) (v := 0) X.1 X.2.1 d_AB_load_30 (by decide) ?_
    exact ab_ki_ret (pc := 31) X hr hk hX rfl (by rw [f_AB_load, if_neg h1]) d_AB_load_31
  ·
    refine lv_iload_n (pc := 7) X.1 X.2.1 d_AB_load_7 rfl (lv_at hl 3 rfl) ?_
    refine lv_iconst (pc := 8) (v := 1) X.1 X.2.1 d_AB_load_8 (by decide) ?_
    refine lv_icmp_lt (pc := 9) (tgt := 30) X.1 X.2.1 d_AB_load_9 (by decide) (fun h2 => ?_) (fun h2 => ?_)
    ·
      refine lv_iconst (pc := 30) (v := 0) X.1 X.2.1 d_AB_load_30 (by decide) ?_
      exact ab_ki_ret (pc := 31) X hr hk hX rfl (by rw [f_AB_load, if_pos h1, if_pos h2]) d_AB_load_31
    ·
      refine lv_iload_n (pc := 12) X.1 X.2.1 d_AB_load_12 rfl (lv_at hl 3 rfl) ?_
      refine lv_iconst (pc := 13) (v := 4) X.1 X.2.1 d_AB_load_13 (by decide) ?_
      refine lv_icmp_gt (pc := 14) (tgt := 30) X.1 X.2.1 d_AB_load_14 (by decide) (fun h3 => ?_) (fun h3 => ?_)
      ·
        refine lv_iconst (pc := 30) (v := 0) X.1 X.2.1 d_AB_load_30 (by decide) ?_
        exact ab_ki_ret (pc := 31) X hr hk hX rfl (by rw [f_AB_load, if_pos h1, if_neg h2, if_pos h3]) d_AB_load_31
      ·
        refine lv_iload_n (pc := 17) X.1 X.2.1 d_AB_load_17 rfl (lv_at hl 1 rfl) ?_
        refine lv_if_lt (pc := 18) (tgt := 30) X.1 X.2.1 d_AB_load_18 (by decide) (fun h4 => ?_) (fun h4 => ?_)
        ·
          refine lv_iconst (pc := 30) (v := 0) X.1 X.2.1 d_AB_load_30 (by decide) ?_
          exact ab_ki_ret (pc := 31) X hr hk hX rfl (by rw [f_AB_load, if_pos h1, if_neg h2, if_neg h3, if_pos h4]) d_AB_load_31
        ·
          refine lv_iload_n (pc := 21) X.1 X.2.1 d_AB_load_21 rfl (lv_at hl 1 rfl) ?_
          refine lv_sipush (pc := 22) (v := 512) X.1 X.2.1 d_AB_load_22 (by decide) ?_
          refine lv_iload_n (pc := 25) X.1 X.2.1 d_AB_load_25 rfl (lv_at hl 3 rfl) ?_
          refine lv_isub (pc := 26) X.1 X.2.1 d_AB_load_26 ?_
          refine lv_icmp_le (pc := 27) (tgt := 32) X.1 X.2.1 d_AB_load_27 (by decide) (fun h5 => ?_) (fun h5 => ?_)
          ·
            refine lv_iconst (pc := 32) (v := 0) X.1 X.2.1 d_AB_load_32 (by decide) ?_
            refine lv_istore (pc := 33) (lv' := [(4, .int 0), (0, .ref (q 12)), (1, .int x1), (2, .int x2), (3, .int x3)]) X.1 X.2.1 d_AB_load_33 hl (Nat.le_of_ble_eq_true rfl) rfl (fun ls hl => ?_)
            rw [show f_AB_load z u x1 x2 x3 = g_AB_load_35 5 z u x1 x2 x3 0 from by rw [f_AB_load, if_pos h1, if_neg h2, if_neg h3, if_neg h4, if_pos h5]]
            exact k_AB_load_35 X hr hk 5 z u x1 x2 x3 0 (ab_ldI_i h2 h3 h4 h5) hX (lv_sub hl [1, 2, 3, 4, 0] rfl)
          ·
            refine lv_iconst (pc := 30) (v := 0) X.1 X.2.1 d_AB_load_30 (by decide) ?_
            exact ab_ki_ret (pc := 31) X hr hk hX rfl (by rw [f_AB_load, if_pos h1, if_neg h2, if_neg h3, if_neg h4, if_neg h5]) d_AB_load_31
abbrev b_AB_check : ByteArray := prog_1_method_3_code
def y_AB_check : MethodName := ⟨"ArcadeBoard", "check", "()I"⟩
theorem d_AB_check_0 : decode b_AB_check 0 = .ok (.aload_n 0, 1) := by decide +kernel
theorem d_AB_check_1 : decode b_AB_check 1 = .ok (.getfield 21, 3) := by decide +kernel
theorem d_AB_check_4 : decode b_AB_check 4 = .ok (.invokevirtual 82, 3) := by decide +kernel
theorem d_AB_check_7 : decode b_AB_check 7 = .ok (.ireturn, 1) := by decide +kernel
theorem tw_498 : Jvm.Cond.code ⟨"ArcadeBoard", "check", "()I"⟩ prog_1_method_3_code 1 (Option.some Jvm.ClassFile.FieldType.int) ∈ AL := ab_in (ab_t2 (List.mem_of_getElem? (i := 34) (by decide +kernel))) rfl
theorem tw_499 : Jvm.Cond.instanceMethod ⟨"ArcadeBoard", "check", "()I"⟩ ∈ AL := ab_in (ab_t2 (List.mem_of_getElem? (i := 32) (by decide +kernel))) rfl
theorem tw_500 : Jvm.Cond.selects "ArcadeBoard" ⟨"ArcadeBoard", "check", "()I"⟩ ⟨"ArcadeBoard", "check", "()I"⟩ ∈ AL := ab_in (ab_t2 (List.mem_of_getElem? (i := 33) (by decide +kernel))) rfl
theorem tw_501 : Jvm.Cond.methodLink "ArcadeBoard" 82 ⟨"ArcadeBoard$Memory", "programSum", "()I"⟩ ∈ AL := ab_in (ab_t2 (List.mem_of_getElem? (i := 35) (by decide +kernel))) rfl
theorem ok_AB_check : ab_yok y_AB_check b_AB_check 1 (some .int) 0 := ⟨tw_498, tw_492, by decide, by decide, by decide +kernel⟩
theorem okv_AB_check : ab_yok_V y_AB_check := ⟨tw_499, tw_500⟩
set_option maxHeartbeats 1000000 in
set_option maxRecDepth 100000 in
theorem c_AB_check (l : Launch) (D : va_G) (t : Nat → ClassId) (q : Nat → Nat) (z u : SS) : ab_ki l D (tyC t) (wT t q) y_AB_check b_AB_check 1 .int { frames := 2, cells := 0, slots := 0, locals := 45 } [.ref (q 12)] (z, u) ((f_AB_check z u, (z, u))) := by
  refine ab_ki_ofW (by decide) (Nat.le_of_ble_eq_true rfl) (fun p e s m below meth c ls A X hr hk hl hX => ?_)
  have hl : lv_has ls 1 [(0, .ref (q 12))] := hl
  refine lv_aload_n (pc := 0) X.1 X.2.1 d_AB_check_0 rfl (lv_at hl 0 rfl) ?_
  refine ab_gx (pc := 1) (v := .ref (q 4)) X hX 0 8 1 rfl rfl (Nat.le_of_ble_eq_true rfl) in_AB rfl tw_496 rfl d_AB_check_1 ?_
  refine ab_kr_callV (pc := 4) (wr := (wA t q z)) (w := (wC t q)) (u := u) (r := f_Memory_programSum u) (as := []) (rest := []) X hX (c_Memory_programSum l D t q u) ok_Memory_programSum okv_Memory_programSum tw_501 13 2 rfl rfl rfl hl.1 rfl (Nat.le_of_ble_eq_true rfl) ⟨rfl, rfl, Nat.le_of_ble_eq_true rfl, Nat.le_of_ble_eq_true rfl⟩ ⟨Nat.zero_le _, Nat.zero_le _⟩ d_AB_check_4 (fun H locs hX => ?_)
  have hX : ab_hx D (wT t q (z, u)) A s.heap H locs := hX
  exact ab_ki_ret (pc := 7) X hr hk hX rfl (by rw [f_AB_check]) d_AB_check_7
abbrev b_AB_power : ByteArray := prog_1_method_4_code
def y_AB_power : MethodName := ⟨"ArcadeBoard", "power", "(I)Z"⟩
theorem d_AB_power_0 : decode b_AB_power 0 = .ok (.aload_n 0, 1) := by decide +kernel
theorem d_AB_power_1 : decode b_AB_power 1 = .ok (.getfield 21, 3) := by decide +kernel
theorem d_AB_power_4 : decode b_AB_power 4 = .ok (.invokevirtual 82, 3) := by decide +kernel
theorem d_AB_power_7 : decode b_AB_power 7 = .ok (.iload_n 1, 1) := by decide +kernel
theorem d_AB_power_8 : decode b_AB_power 8 = .ok (.if_icmp .eq 13, 3) := by decide +kernel
theorem d_AB_power_11 : decode b_AB_power 11 = .ok (.new 86, 3) := by decide +kernel
theorem d_AB_power_14 : decode b_AB_power 14 = .ok (.dup, 1) := by decide +kernel
theorem d_AB_power_15 : decode b_AB_power 15 = .ok (.ldc 88, 2) := by decide +kernel
theorem d_AB_power_17 : decode b_AB_power 17 = .ok (.invokespecial 90, 3) := by decide +kernel
theorem d_AB_power_20 : decode b_AB_power 20 = .ok (.athrow, 1) := by decide +kernel
theorem d_AB_power_21 : decode b_AB_power 21 = .ok (.aload_n 0, 1) := by decide +kernel
theorem d_AB_power_22 : decode b_AB_power 22 = .ok (.getfield 74, 3) := by decide +kernel
theorem d_AB_power_25 : decode b_AB_power 25 = .ok (.ifCond .eq 13, 3) := by decide +kernel
theorem d_AB_power_28 : decode b_AB_power 28 = .ok (.new 93, 3) := by decide +kernel
theorem d_AB_power_31 : decode b_AB_power 31 = .ok (.dup, 1) := by decide +kernel
theorem d_AB_power_32 : decode b_AB_power 32 = .ok (.ldc 95, 2) := by decide +kernel
theorem d_AB_power_34 : decode b_AB_power 34 = .ok (.invokespecial 97, 3) := by decide +kernel
theorem d_AB_power_37 : decode b_AB_power 37 = .ok (.athrow, 1) := by decide +kernel
theorem d_AB_power_38 : decode b_AB_power 38 = .ok (.aload_n 0, 1) := by decide +kernel
theorem d_AB_power_39 : decode b_AB_power 39 = .ok (.iconst 1, 1) := by decide +kernel
theorem d_AB_power_40 : decode b_AB_power 40 = .ok (.putfield 74, 3) := by decide +kernel
theorem d_AB_power_43 : decode b_AB_power 43 = .ok (.aload_n 0, 1) := by decide +kernel
theorem d_AB_power_44 : decode b_AB_power 44 = .ok (.getfield 53, 3) := by decide +kernel
theorem d_AB_power_47 : decode b_AB_power 47 = .ok (.invokevirtual 98, 3) := by decide +kernel
theorem d_AB_power_50 : decode b_AB_power 50 = .ok (.iconst 1, 1) := by decide +kernel
theorem d_AB_power_51 : decode b_AB_power 51 = .ok (.ireturn, 1) := by decide +kernel
theorem tw_502 : Jvm.Cond.code ⟨"ArcadeBoard", "power", "(I)Z"⟩ prog_1_method_4_code 2 (Option.some Jvm.ClassFile.FieldType.boolean) ∈ AL := ab_in (ab_t2 (List.mem_of_getElem? (i := 116) (by decide +kernel))) rfl
theorem tw_503 : Jvm.Cond.instanceMethod ⟨"ArcadeBoard", "power", "(I)Z"⟩ ∈ AL := ab_in (ab_t2 (List.mem_of_getElem? (i := 114) (by decide +kernel))) rfl
theorem tw_504 : Jvm.Cond.selects "ArcadeBoard" ⟨"ArcadeBoard", "power", "(I)Z"⟩ ⟨"ArcadeBoard", "power", "(I)Z"⟩ ∈ AL := ab_in (ab_t2 (List.mem_of_getElem? (i := 115) (by decide +kernel))) rfl
theorem tw_505 : Jvm.Cond.fieldLink "ArcadeBoard" 53 "ArcadeBoard" "clock" "LArcadeBoard$Clock;" ∈ AL := ab_in (ab_t1 (List.mem_of_getElem? (i := 236) (by decide +kernel))) rfl
theorem tw_506 : Jvm.Cond.methodLink "ArcadeBoard" 98 ⟨"ArcadeBoard$Clock", "reset", "()V"⟩ ∈ AL := ab_in (ab_t2 (List.mem_of_getElem? (i := 200) (by decide +kernel))) rfl
theorem tw_507 : Jvm.Cond.stringRef "ArcadeBoard" 95 "the board is on" ∈ lw_tbl := ab_t2 (List.mem_of_getElem? (i := 193) (by decide +kernel))
theorem tw_508 : Jvm.Cond.stringRef "ArcadeBoard" 88 "the program has another check" ∈ lw_tbl := ab_t2 (List.mem_of_getElem? (i := 157) (by decide +kernel))
theorem ok_AB_power : ab_yok y_AB_power b_AB_power 2 (some .boolean) 1 := ⟨tw_502, tw_492, by decide, by decide, by decide +kernel⟩
theorem okv_AB_power : ab_yok_V y_AB_power := ⟨tw_503, tw_504⟩
set_option maxHeartbeats 1000000 in
set_option maxRecDepth 100000 in
theorem c_AB_power (l : Launch) (hst : l.stackTraces = false) (D : va_G) (t : Nat → ClassId) (q : Nat → Nat) (z u : SS) (x1 : Int32) : ab_kx l D (tyC t) (wT t q) y_AB_power b_AB_power 2 .boolean { frames := 6, cells := 1, slots := 6, locals := 104 } [.ref (q 12), .int x1] (z, u) (f_AB_power z u x1) := by
  refine ab_kx_ofW (by decide) (Nat.le_of_ble_eq_true rfl) (fun p e s m below meth c ls A X hT hr hk hl hX => ?_)
  have hl : lv_has ls 2 [(0, .ref (q 12)), (1, .int x1)] := hl
  refine lv_aload_n (pc := 0) X.1 X.2.1 d_AB_power_0 rfl (lv_at hl 0 rfl) ?_
  refine ab_gx (pc := 1) (v := .ref (q 4)) X hX 0 8 1 rfl rfl (Nat.le_of_ble_eq_true rfl) in_AB rfl tw_496 rfl d_AB_power_1 ?_
  refine ab_kr_callV (pc := 4) (wr := (wA t q z)) (w := (wC t q)) (u := u) (r := f_Memory_programSum u) (as := []) (rest := []) X hX (c_Memory_programSum l D t q u) ok_Memory_programSum okv_Memory_programSum tw_501 13 2 rfl rfl rfl hl.1 rfl (Nat.le_of_ble_eq_true rfl) ⟨rfl, rfl, Nat.le_of_ble_eq_true rfl, Nat.le_of_ble_eq_true rfl⟩ ⟨Nat.zero_le _, Nat.zero_le _⟩ d_AB_power_4 (fun H locs hX => ?_)
  have hX : ab_hx D (wT t q (z, u)) A s.heap H locs := hX
  obtain ⟨F1, hF1⟩ : ∃ F1, F1 = f_Memory_programSum u := ⟨_, rfl⟩
  rw [← hF1]
  refine lv_iload_n (pc := 7) X.1 X.2.1 d_AB_power_7 rfl (lv_at hl 1 rfl) ?_
  refine lv_icmp_eq (pc := 8) (tgt := 21) X.1 X.2.1 d_AB_power_8 (by decide) (fun h1 => ?_) (fun h1 => ?_)
  ·
    refine lv_aload_n (pc := 21) X.1 X.2.1 d_AB_power_21 rfl (lv_at hl 0 rfl) ?_
    refine ab_gx (pc := 22) (v := .int (z 0 0)) X hX 0 8 9 rfl rfl (Nat.le_of_ble_eq_true rfl) in_AB rfl tw_495 rfl d_AB_power_22 ?_
    refine lv_if_eq (pc := 25) (tgt := 38) X.1 X.2.1 d_AB_power_25 (by decide) (fun h2 => ?_) (fun h2 => ?_)
    ·
      refine lv_aload_n (pc := 38) X.1 X.2.1 d_AB_power_38 rfl (lv_at hl 0 rfl) ?_
      refine lv_iconst (pc := 39) (v := 1) X.1 X.2.1 d_AB_power_39 (by decide) ?_
      refine ab_px (pc := 40) (ws' := (wT t q ((stt z 0 0 1), u))) X hX 0 8 9 ty_AB ty_AB_ok nm_AB rfl rfl (Nat.le_of_ble_eq_true rfl) in_AB rfl tw_495 rfl rfl rfl rfl (Nat.le_of_ble_eq_true rfl) (sf_wT_0_9 t q z u 1) d_AB_power_40 (fun H locs hX => ?_)
      refine lv_aload_n (pc := 43) X.1 X.2.1 d_AB_power_43 rfl (lv_at hl 0 rfl) ?_
      refine ab_gx (pc := 44) (v := .ref (q 11)) X hX 0 8 5 rfl rfl (Nat.le_of_ble_eq_true rfl) in_AB rfl tw_505 rfl d_AB_power_44 ?_
      refine ab_kv_callV (pc := 47) (wr := (wA t q (stt z 0 0 1))) (w := (wC t q)) (u := u) (F := f_Clock_reset u) (as := []) (rest := []) X hX (c_Clock_reset l D t q u) ok_Clock_reset okv_Clock_reset tw_506 20 1 rfl rfl rfl hl.1 rfl (Nat.le_of_ble_eq_true rfl) ⟨rfl, rfl, Nat.le_of_ble_eq_true rfl, Nat.le_of_ble_eq_true rfl⟩ ⟨Nat.zero_le _, Nat.zero_le _⟩ d_AB_power_47 (fun H locs hX => ?_)
      have hX : ab_hx D (wT t q ((stt z 0 0 1), (f_Clock_reset u))) A s.heap H locs := hX
      refine lv_iconst (pc := 50) (v := 1) X.1 X.2.1 d_AB_power_50 (by decide) ?_
      exact ab_kx_ret (pc := 51) X hr hk hX rfl (by rw [f_AB_power, ← hF1, if_pos h1, if_pos h2]) d_AB_power_51
    ·
      exact ab_kx_throw (pc := 28) (cls := "java/lang/IllegalStateException") hst X hT hk hX hl.1 (xw_ISE tw_507) rfl (by rw [f_AB_power, ← hF1, if_pos h1, if_neg h2]) rfl ⟨Nat.le_of_ble_eq_true rfl, Nat.le_of_ble_eq_true rfl, Nat.le_of_ble_eq_true rfl, Nat.le_of_ble_eq_true rfl⟩ d_AB_power_28 d_AB_power_31 d_AB_power_32 d_AB_power_34 d_AB_power_37
  ·
    exact ab_kx_throw (pc := 11) (cls := "java/lang/IllegalArgumentException") hst X hT hk hX hl.1 (xw_IAE tw_508) rfl (by rw [f_AB_power, ← hF1, if_neg h1]) rfl ⟨Nat.le_of_ble_eq_true rfl, Nat.le_of_ble_eq_true rfl, Nat.le_of_ble_eq_true rfl, Nat.le_of_ble_eq_true rfl⟩ d_AB_power_11 d_AB_power_14 d_AB_power_15 d_AB_power_17 d_AB_power_20
abbrev b_AB_off : ByteArray := prog_1_method_5_code
def y_AB_off : MethodName := ⟨"ArcadeBoard", "off", "()Z"⟩
theorem d_AB_off_0 : decode b_AB_off 0 = .ok (.aload_n 0, 1) := by decide +kernel
theorem d_AB_off_1 : decode b_AB_off 1 = .ok (.getfield 74, 3) := by decide +kernel
theorem d_AB_off_4 : decode b_AB_off 4 = .ok (.istore_n 1, 1) := by decide +kernel
theorem d_AB_off_5 : decode b_AB_off 5 = .ok (.aload_n 0, 1) := by decide +kernel
theorem d_AB_off_6 : decode b_AB_off 6 = .ok (.iconst 0, 1) := by decide +kernel
theorem d_AB_off_7 : decode b_AB_off 7 = .ok (.putfield 74, 3) := by decide +kernel
theorem d_AB_off_10 : decode b_AB_off 10 = .ok (.iload_n 1, 1) := by decide +kernel
theorem d_AB_off_11 : decode b_AB_off 11 = .ok (.ireturn, 1) := by decide +kernel
theorem tw_509 : Jvm.Cond.code ⟨"ArcadeBoard", "off", "()Z"⟩ prog_1_method_5_code 2 (Option.some Jvm.ClassFile.FieldType.boolean) ∈ AL := ab_in (ab_t2 (List.mem_of_getElem? (i := 47) (by decide +kernel))) rfl
theorem tw_510 : Jvm.Cond.instanceMethod ⟨"ArcadeBoard", "off", "()Z"⟩ ∈ AL := ab_in (ab_t2 (List.mem_of_getElem? (i := 45) (by decide +kernel))) rfl
theorem tw_511 : Jvm.Cond.selects "ArcadeBoard" ⟨"ArcadeBoard", "off", "()Z"⟩ ⟨"ArcadeBoard", "off", "()Z"⟩ ∈ AL := ab_in (ab_t2 (List.mem_of_getElem? (i := 46) (by decide +kernel))) rfl
theorem ok_AB_off : ab_yok y_AB_off b_AB_off 2 (some .boolean) 0 := ⟨tw_509, tw_492, by decide, by decide, by decide +kernel⟩
theorem okv_AB_off : ab_yok_V y_AB_off := ⟨tw_510, tw_511⟩
set_option maxHeartbeats 1000000 in
set_option maxRecDepth 100000 in
theorem c_AB_off (l : Launch) (D : va_G) (t : Nat → ClassId) (q : Nat → Nat) (z u : SS) (pb : ab_bo (z 0 0)) : ab_ki l D (tyC t) (wT t q) y_AB_off b_AB_off 2 .boolean { frames := 0, cells := 0, slots := 0, locals := 0 } [.ref (q 12)] (z, u) (f_AB_off z u) := by
  refine ab_ki_ofW (by decide) (Nat.le_of_ble_eq_true rfl) (fun p e s m below meth c ls A X hr hk hl hX => ?_)
  have hl : lv_has ls 2 [(0, .ref (q 12))] := hl
  refine lv_aload_n (pc := 0) X.1 X.2.1 d_AB_off_0 rfl (lv_at hl 0 rfl) ?_
  refine ab_gx (pc := 1) (v := .int (z 0 0)) X hX 0 8 9 rfl rfl (Nat.le_of_ble_eq_true rfl) in_AB rfl tw_495 rfl d_AB_off_1 ?_
  refine lv_istore_n (pc := 4) (lv' := [(1, .int (z 0 0)), (0, .ref (q 12))]) X.1 X.2.1 d_AB_off_4 rfl hl (Nat.le_of_ble_eq_true rfl) rfl (fun ls hl => ?_)
  refine lv_aload_n (pc := 5) X.1 X.2.1 d_AB_off_5 rfl (lv_at hl 1 rfl) ?_
  refine lv_iconst (pc := 6) (v := 0) X.1 X.2.1 d_AB_off_6 (by decide) ?_
  refine ab_px (pc := 7) (ws' := (wT t q ((stt z 0 0 0), u))) X hX 0 8 9 ty_AB ty_AB_ok nm_AB rfl rfl (Nat.le_of_ble_eq_true rfl) in_AB rfl tw_495 rfl rfl rfl rfl (Nat.le_of_ble_eq_true rfl) (sf_wT_0_9 t q z u 0) d_AB_off_7 (fun H locs hX => ?_)
  refine lv_iload_n (pc := 10) X.1 X.2.1 d_AB_off_10 rfl (lv_at hl 0 rfl) ?_
  exact ab_ki_ret (pc := 11) X hr hk hX (ab_nb pb) (by rw [f_AB_off]) d_AB_off_11
abbrev b_AB_run : ByteArray := prog_1_method_6_code
def y_AB_run : MethodName := ⟨"ArcadeBoard", "run", "(I)I"⟩
theorem d_AB_run_0 : decode b_AB_run 0 = .ok (.iload_n 1, 1) := by decide +kernel
theorem d_AB_run_1 : decode b_AB_run 1 = .ok (.ifCond .lt 9, 3) := by decide +kernel
theorem d_AB_run_4 : decode b_AB_run 4 = .ok (.iload_n 1, 1) := by decide +kernel
theorem d_AB_run_5 : decode b_AB_run 5 = .ok (.bipush 60, 2) := by decide +kernel
theorem d_AB_run_7 : decode b_AB_run 7 = .ok (.if_icmp .le 13, 3) := by decide +kernel
theorem d_AB_run_10 : decode b_AB_run 10 = .ok (.new 86, 3) := by decide +kernel
theorem d_AB_run_13 : decode b_AB_run 13 = .ok (.dup, 1) := by decide +kernel
theorem d_AB_run_14 : decode b_AB_run 14 = .ok (.ldc 101, 2) := by decide +kernel
theorem d_AB_run_16 : decode b_AB_run 16 = .ok (.invokespecial 90, 3) := by decide +kernel
theorem d_AB_run_19 : decode b_AB_run 19 = .ok (.athrow, 1) := by decide +kernel
theorem d_AB_run_20 : decode b_AB_run 20 = .ok (.aload_n 0, 1) := by decide +kernel
theorem d_AB_run_21 : decode b_AB_run 21 = .ok (.getfield 74, 3) := by decide +kernel
theorem d_AB_run_24 : decode b_AB_run 24 = .ok (.ifCond .ne 13, 3) := by decide +kernel
theorem d_AB_run_27 : decode b_AB_run 27 = .ok (.new 93, 3) := by decide +kernel
theorem d_AB_run_30 : decode b_AB_run 30 = .ok (.dup, 1) := by decide +kernel
theorem d_AB_run_31 : decode b_AB_run 31 = .ok (.ldc 103, 2) := by decide +kernel
theorem d_AB_run_33 : decode b_AB_run 33 = .ok (.invokespecial 97, 3) := by decide +kernel
theorem d_AB_run_36 : decode b_AB_run 36 = .ok (.athrow, 1) := by decide +kernel
theorem d_AB_run_37 : decode b_AB_run 37 = .ok (.iconst 0, 1) := by decide +kernel
theorem d_AB_run_38 : decode b_AB_run 38 = .ok (.istore_n 2, 1) := by decide +kernel
theorem d_AB_run_39 : decode b_AB_run 39 = .ok (.iconst 0, 1) := by decide +kernel
theorem d_AB_run_40 : decode b_AB_run 40 = .ok (.istore_n 3, 1) := by decide +kernel
theorem d_AB_run_41 : decode b_AB_run 41 = .ok (.iload_n 3, 1) := by decide +kernel
theorem d_AB_run_42 : decode b_AB_run 42 = .ok (.iload_n 1, 1) := by decide +kernel
theorem d_AB_run_43 : decode b_AB_run 43 = .ok (.if_icmp .ge 19, 3) := by decide +kernel
theorem d_AB_run_46 : decode b_AB_run 46 = .ok (.iload_n 2, 1) := by decide +kernel
theorem d_AB_run_47 : decode b_AB_run 47 = .ok (.aload_n 0, 1) := by decide +kernel
theorem d_AB_run_48 : decode b_AB_run 48 = .ok (.getfield 62, 3) := by decide +kernel
theorem d_AB_run_51 : decode b_AB_run 51 = .ok (.invokevirtual 105, 3) := by decide +kernel
theorem d_AB_run_54 : decode b_AB_run 54 = .ok (.iadd, 1) := by decide +kernel
theorem d_AB_run_55 : decode b_AB_run 55 = .ok (.istore_n 2, 1) := by decide +kernel
theorem d_AB_run_56 : decode b_AB_run 56 = .ok (.iinc 3 1, 3) := by decide +kernel
theorem d_AB_run_59 : decode b_AB_run 59 = .ok (.goto (-18), 3) := by decide +kernel
theorem d_AB_run_62 : decode b_AB_run 62 = .ok (.iload_n 2, 1) := by decide +kernel
theorem d_AB_run_63 : decode b_AB_run 63 = .ok (.ireturn, 1) := by decide +kernel
theorem tw_512 : Jvm.Cond.code ⟨"ArcadeBoard", "run", "(I)I"⟩ prog_1_method_6_code 4 (Option.some Jvm.ClassFile.FieldType.int) ∈ AL := ab_in (ab_t2 (List.mem_of_getElem? (i := 210) (by decide +kernel))) rfl
theorem tw_513 : Jvm.Cond.instanceMethod ⟨"ArcadeBoard", "run", "(I)I"⟩ ∈ AL := ab_in (ab_t2 (List.mem_of_getElem? (i := 208) (by decide +kernel))) rfl
theorem tw_514 : Jvm.Cond.selects "ArcadeBoard" ⟨"ArcadeBoard", "run", "(I)I"⟩ ⟨"ArcadeBoard", "run", "(I)I"⟩ ∈ AL := ab_in (ab_t2 (List.mem_of_getElem? (i := 209) (by decide +kernel))) rfl
theorem tw_515 : Jvm.Cond.stringRef "ArcadeBoard" 101 "the steps are not 0 to 60" ∈ lw_tbl := ab_t2 (List.mem_of_getElem? (i := 211) (by decide +kernel))
theorem tw_516 : Jvm.Cond.stringRef "ArcadeBoard" 103 "the board is off" ∈ lw_tbl := ab_t2 (List.mem_of_getElem? (i := 212) (by decide +kernel))
theorem tw_517 : Jvm.Cond.fieldLink "ArcadeBoard" 62 "ArcadeBoard" "processor" "LArcadeBoard$Processor;" ∈ AL := ab_in (ab_t1 (List.mem_of_getElem? (i := 237) (by decide +kernel))) rfl
theorem tw_518 : Jvm.Cond.methodLink "ArcadeBoard" 105 ⟨"ArcadeBoard$Processor", "step", "()I"⟩ ∈ AL := ab_in (ab_t2 (List.mem_of_getElem? (i := 213) (by decide +kernel))) rfl
theorem ok_AB_run : ab_yok y_AB_run b_AB_run 4 (some .int) 1 := ⟨tw_512, tw_492, by decide, by decide, by decide +kernel⟩
theorem okv_AB_run : ab_yok_V y_AB_run := ⟨tw_513, tw_514⟩
set_option maxHeartbeats 1000000 in
set_option maxRecDepth 100000 in
theorem k_AB_run_41 {p : Program} {l : Launch} {e : Env} {s : State} {m : MethodId} {args : Array Value} {below : List Frame} {meth : Method} {c : Code} {A : Nat → Prop} {D : va_G} {t : Nat → ClassId} {q : Nat → Nat} (X : ab_cx p s m args c b_AB_run 4 y_AB_run.cls D (tyC t)) (hr : meth.sig.returnType = some .int) (hk : meth.locks = false) (k : Nat) (z u : SS) (v1 : Int32) (v2 : Int32) (v3 : Int32) (hq : ab_rnI k v1 v3) {H : Heap} {locs : List Loc} {ls : Array Slot} (hX : ab_hx D (wT t q (z, u)) A s.heap H locs) (hl : lv_has ls 4 [(0, .ref (q 12)), (1, .int v1), (2, .int v2), (3, .int v3)]) :
    W p l e { frames := 7, cells := 1, slots := 6, locals := 152 } s m args below meth c H locs 0 0 (ab_kx_E below args s D (tyC t) (wT t q) A (g_AB_run_41 k z u v1 v2 v3)) (F0 m 41 ls []) := by
  induction k generalizing z u v1 v2 v3 H locs ls with
  | zero => exact absurd hq ab_rnI_0
  | succ k ih =>
    refine lv_iload_n (pc := 41) X.1 X.2.1 d_AB_run_41 rfl (lv_at hl 3 rfl) ?_
    refine lv_iload_n (pc := 42) X.1 X.2.1 d_AB_run_42 rfl (lv_at hl 1 rfl) ?_
    refine lv_icmp_ge (pc := 43) (tgt := 62) X.1 X.2.1 d_AB_run_43 (by decide) (fun h4 => ?_) (fun h4 => ?_)
    ·
      refine lv_iload_n (pc := 62) X.1 X.2.1 d_AB_run_62 rfl (lv_at hl 2 rfl) ?_
      exact ab_kx_ret (pc := 63) X hr hk hX rfl (by rw [g_AB_run_41, if_pos h4]) d_AB_run_63
    ·
      refine lv_iload_n (pc := 46) X.1 X.2.1 d_AB_run_46 rfl (lv_at hl 2 rfl) ?_
      refine lv_aload_n (pc := 47) X.1 X.2.1 d_AB_run_47 rfl (lv_at hl 0 rfl) ?_
      refine ab_gx (pc := 48) (v := .ref (q 0)) X hX 0 8 6 rfl rfl (Nat.le_of_ble_eq_true rfl) in_AB rfl tw_517 rfl d_AB_run_48 ?_
      refine ab_ki_callV (pc := 51) (wr := (wA t q z)) (w := (wC t q)) (u := u) (F := f_Processor_step u) (as := []) (rest := [.int v2]) X hX (c_Processor_step l D t q u) ok_Processor_step okv_Processor_step tw_518 9 4 rfl rfl rfl hl.1 rfl (Nat.le_of_ble_eq_true rfl) ⟨rfl, rfl, Nat.le_of_ble_eq_true rfl, Nat.le_of_ble_eq_true rfl⟩ ⟨Nat.zero_le _, Nat.zero_le _⟩ d_AB_run_51 (fun H locs hX => ?_)
      have hX : ab_hx D (wT t q (z, ((f_Processor_step u).2))) A s.heap H locs := hX
      refine lv_iadd (pc := 54) X.1 X.2.1 d_AB_run_54 ?_
      refine lv_istore_n (pc := 55) (lv' := [(2, .int (v2 + ((f_Processor_step u).1))), (0, .ref (q 12)), (1, .int v1), (3, .int v3)]) X.1 X.2.1 d_AB_run_55 rfl hl (Nat.le_of_ble_eq_true rfl) rfl (fun ls hl => ?_)
      refine lv_iinc (pc := 56) (k := 3) (v := v3 + 1) (lv' := [(3, .int (v3 + 1)), (2, .int (v2 + ((f_Processor_step u).1))), (0, .ref (q 12)), (1, .int v1)]) X.1 X.2.1 d_AB_run_56 hl rfl rfl (Nat.le_of_ble_eq_true rfl) rfl (fun ls hl => ?_)
      refine lv_goto (pc := 59) (tgt := 41) X.1 X.2.1 d_AB_run_59 (by decide) ?_
      rw [show g_AB_run_41 (k + 1) z u v1 v2 v3 = g_AB_run_41 k z ((f_Processor_step u).2) v1 (v2 + ((f_Processor_step u).1)) (v3 + 1) from by rw [g_AB_run_41, if_neg h4]]
      exact ih z ((f_Processor_step u).2) v1 (v2 + ((f_Processor_step u).1)) (v3 + 1) (ab_rnI_s hq h4) hX (lv_sub hl [2, 3, 1, 0] rfl)
set_option maxHeartbeats 1000000 in
set_option maxRecDepth 100000 in
theorem c_AB_run (l : Launch) (hst : l.stackTraces = false) (D : va_G) (t : Nat → ClassId) (q : Nat → Nat) (z u : SS) (x1 : Int32) : ab_kx l D (tyC t) (wT t q) y_AB_run b_AB_run 4 .int { frames := 7, cells := 1, slots := 6, locals := 152 } [.ref (q 12), .int x1] (z, u) (f_AB_run z u x1) := by
  refine ab_kx_ofW (by decide) (Nat.le_of_ble_eq_true rfl) (fun p e s m below meth c ls A X hT hr hk hl hX => ?_)
  have hl : lv_has ls 4 [(0, .ref (q 12)), (1, .int x1)] := hl
  refine lv_iload_n (pc := 0) X.1 X.2.1 d_AB_run_0 rfl (lv_at hl 1 rfl) ?_
  refine lv_if_lt (pc := 1) (tgt := 10) X.1 X.2.1 d_AB_run_1 (by decide) (fun h1 => ?_) (fun h1 => ?_)
  ·
    exact ab_kx_throw (pc := 10) (cls := "java/lang/IllegalArgumentException") hst X hT hk hX hl.1 (xw_IAE tw_515) rfl (by rw [f_AB_run, if_pos h1]) rfl ⟨Nat.le_of_ble_eq_true rfl, Nat.le_of_ble_eq_true rfl, Nat.le_of_ble_eq_true rfl, Nat.le_of_ble_eq_true rfl⟩ d_AB_run_10 d_AB_run_13 d_AB_run_14 d_AB_run_16 d_AB_run_19
  ·
    refine lv_iload_n (pc := 4) X.1 X.2.1 d_AB_run_4 rfl (lv_at hl 1 rfl) ?_
    refine lv_bipush (pc := 5) (v := 60) X.1 X.2.1 d_AB_run_5 (by decide) ?_
    refine lv_icmp_le (pc := 7) (tgt := 20) X.1 X.2.1 d_AB_run_7 (by decide) (fun h2 => ?_) (fun h2 => ?_)
    ·
      refine lv_aload_n (pc := 20) X.1 X.2.1 d_AB_run_20 rfl (lv_at hl 0 rfl) ?_
      refine ab_gx (pc := 21) (v := .int (z 0 0)) X hX 0 8 9 rfl rfl (Nat.le_of_ble_eq_true rfl) in_AB rfl tw_495 rfl d_AB_run_21 ?_
      refine lv_if_ne (pc := 24) (tgt := 37) X.1 X.2.1 d_AB_run_24 (by decide) (fun h3 => ?_) (fun h3 => ?_)
      ·
        refine lv_iconst (pc := 37) (v := 0) X.1 X.2.1 d_AB_run_37 (by decide) ?_
        refine lv_istore_n (pc := 38) (lv' := [(2, .int 0), (0, .ref (q 12)), (1, .int x1)]) X.1 X.2.1 d_AB_run_38 rfl hl (Nat.le_of_ble_eq_true rfl) rfl (fun ls hl => ?_)
        refine lv_iconst (pc := 39) (v := 0) X.1 X.2.1 d_AB_run_39 (by decide) ?_
        refine lv_istore_n (pc := 40) (lv' := [(3, .int 0), (2, .int 0), (0, .ref (q 12)), (1, .int x1)]) X.1 X.2.1 d_AB_run_40 rfl hl (Nat.le_of_ble_eq_true rfl) rfl (fun ls hl => ?_)
        rw [show f_AB_run z u x1 = g_AB_run_41 61 z u x1 0 0 from by rw [f_AB_run, if_neg h1, if_pos h2, if_neg h3]]
        exact k_AB_run_41 X hr hk 61 z u x1 0 0 (ab_rnI_j h1 h2) hX (lv_sub hl [2, 3, 1, 0] rfl)
      ·
        exact ab_kx_throw (pc := 27) (cls := "java/lang/IllegalStateException") hst X hT hk hX hl.1 (xw_ISE tw_516) rfl (by rw [f_AB_run, if_neg h1, if_pos h2, if_pos h3]) rfl ⟨Nat.le_of_ble_eq_true rfl, Nat.le_of_ble_eq_true rfl, Nat.le_of_ble_eq_true rfl, Nat.le_of_ble_eq_true rfl⟩ d_AB_run_27 d_AB_run_30 d_AB_run_31 d_AB_run_33 d_AB_run_36
    ·
      exact ab_kx_throw (pc := 10) (cls := "java/lang/IllegalArgumentException") hst X hT hk hX hl.1 (xw_IAE tw_515) rfl (by rw [f_AB_run, if_neg h1, if_neg h2]) rfl ⟨Nat.le_of_ble_eq_true rfl, Nat.le_of_ble_eq_true rfl, Nat.le_of_ble_eq_true rfl, Nat.le_of_ble_eq_true rfl⟩ d_AB_run_10 d_AB_run_13 d_AB_run_14 d_AB_run_16 d_AB_run_19
