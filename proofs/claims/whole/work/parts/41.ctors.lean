abbrev b_State_init : ByteArray := prog_9_method_1_code
def y_State_init : MethodName := ⟨"ArcadeBoard$State", "<init>", "()V"⟩
theorem d_State_init_0 : decode b_State_init 0 = .ok (.aload_n 0, 1) := by decide +kernel
theorem d_State_init_1 : decode b_State_init 1 = .ok (.invokespecial 3, 3) := by decide +kernel
theorem d_State_init_4 : decode b_State_init 4 = .ok (.aload_n 0, 1) := by decide +kernel
theorem d_State_init_5 : decode b_State_init 5 = .ok (.sipush 512, 3) := by decide +kernel
theorem d_State_init_8 : decode b_State_init 8 = .ok (.newarray .int, 2) := by decide +kernel
theorem d_State_init_10 : decode b_State_init 10 = .ok (.putfield 9, 3) := by decide +kernel
theorem d_State_init_13 : decode b_State_init 13 = .ok (.aload_n 0, 1) := by decide +kernel
theorem d_State_init_14 : decode b_State_init 14 = .ok (.bipush 8, 2) := by decide +kernel
theorem d_State_init_16 : decode b_State_init 16 = .ok (.newarray .int, 2) := by decide +kernel
theorem d_State_init_18 : decode b_State_init 18 = .ok (.putfield 15, 3) := by decide +kernel
theorem d_State_init_21 : decode b_State_init 21 = .ok (.aload_n 0, 1) := by decide +kernel
theorem d_State_init_22 : decode b_State_init 22 = .ok (.iconst 2, 1) := by decide +kernel
theorem d_State_init_23 : decode b_State_init 23 = .ok (.putfield 18, 3) := by decide +kernel
theorem d_State_init_26 : decode b_State_init 26 = .ok (.aload_n 0, 1) := by decide +kernel
theorem d_State_init_27 : decode b_State_init 27 = .ok (.iconst 0, 1) := by decide +kernel
theorem d_State_init_28 : decode b_State_init 28 = .ok (.putfield 22, 3) := by decide +kernel
theorem d_State_init_31 : decode b_State_init 31 = .ok (.aload_n 0, 1) := by decide +kernel
theorem d_State_init_32 : decode b_State_init 32 = .ok (.iconst 0, 1) := by decide +kernel
theorem d_State_init_33 : decode b_State_init 33 = .ok (.putfield 25, 3) := by decide +kernel
theorem d_State_init_36 : decode b_State_init 36 = .ok (.aload_n 0, 1) := by decide +kernel
theorem d_State_init_37 : decode b_State_init 37 = .ok (.iconst 0, 1) := by decide +kernel
theorem d_State_init_38 : decode b_State_init 38 = .ok (.putfield 28, 3) := by decide +kernel
theorem d_State_init_41 : decode b_State_init 41 = .ok (.aload_n 0, 1) := by decide +kernel
theorem d_State_init_42 : decode b_State_init 42 = .ok (.iconst 0, 1) := by decide +kernel
theorem d_State_init_43 : decode b_State_init 43 = .ok (.putfield 32, 3) := by decide +kernel
theorem d_State_init_46 : decode b_State_init 46 = .ok (.aload_n 0, 1) := by decide +kernel
theorem d_State_init_47 : decode b_State_init 47 = .ok (.iconst 0, 1) := by decide +kernel
theorem d_State_init_48 : decode b_State_init 48 = .ok (.putfield 35, 3) := by decide +kernel
theorem d_State_init_51 : decode b_State_init 51 = .ok (.aload_n 0, 1) := by decide +kernel
theorem d_State_init_52 : decode b_State_init 52 = .ok (.iconst 0, 1) := by decide +kernel
theorem d_State_init_53 : decode b_State_init 53 = .ok (.putfield 38, 3) := by decide +kernel
theorem d_State_init_56 : decode b_State_init 56 = .ok (.aload_n 0, 1) := by decide +kernel
theorem d_State_init_57 : decode b_State_init 57 = .ok (.iconst 0, 1) := by decide +kernel
theorem d_State_init_58 : decode b_State_init 58 = .ok (.putfield 41, 3) := by decide +kernel
theorem d_State_init_61 : decode b_State_init 61 = .ok (.aload_n 0, 1) := by decide +kernel
theorem d_State_init_62 : decode b_State_init 62 = .ok (.iconst 0, 1) := by decide +kernel
theorem d_State_init_63 : decode b_State_init 63 = .ok (.putfield 44, 3) := by decide +kernel
theorem d_State_init_66 : decode b_State_init 66 = .ok (.aload_n 0, 1) := by decide +kernel
theorem d_State_init_67 : decode b_State_init 67 = .ok (.iconst 0, 1) := by decide +kernel
theorem d_State_init_68 : decode b_State_init 68 = .ok (.putfield 47, 3) := by decide +kernel
theorem d_State_init_71 : decode b_State_init 71 = .ok (.aload_n 0, 1) := by decide +kernel
theorem d_State_init_72 : decode b_State_init 72 = .ok (.iconst 0, 1) := by decide +kernel
theorem d_State_init_73 : decode b_State_init 73 = .ok (.putfield 50, 3) := by decide +kernel
theorem d_State_init_76 : decode b_State_init 76 = .ok (.aload_n 0, 1) := by decide +kernel
theorem d_State_init_77 : decode b_State_init 77 = .ok (.iconst 0, 1) := by decide +kernel
theorem d_State_init_78 : decode b_State_init 78 = .ok (.putfield 53, 3) := by decide +kernel
theorem d_State_init_81 : decode b_State_init 81 = .ok (.aload_n 0, 1) := by decide +kernel
theorem d_State_init_82 : decode b_State_init 82 = .ok (.iconst 0, 1) := by decide +kernel
theorem d_State_init_83 : decode b_State_init 83 = .ok (.putfield 56, 3) := by decide +kernel
theorem d_State_init_86 : decode b_State_init 86 = .ok (.aload_n 0, 1) := by decide +kernel
theorem d_State_init_87 : decode b_State_init 87 = .ok (.iconst 0, 1) := by decide +kernel
theorem d_State_init_88 : decode b_State_init 88 = .ok (.putfield 59, 3) := by decide +kernel
theorem d_State_init_91 : decode b_State_init 91 = .ok (.aload_n 0, 1) := by decide +kernel
theorem d_State_init_92 : decode b_State_init 92 = .ok (.iconst 0, 1) := by decide +kernel
theorem d_State_init_93 : decode b_State_init 93 = .ok (.putfield 62, 3) := by decide +kernel
theorem d_State_init_96 : decode b_State_init 96 = .ok (.return_, 1) := by decide +kernel
theorem tw_569 : Jvm.Cond.code ⟨"ArcadeBoard$State", "<init>", "()V"⟩ prog_9_method_1_code 1 (Option.none : Option Jvm.ClassFile.FieldType) ∈ AL := ab_in (ab_t1 (List.mem_of_getElem? (i := 30) (by decide +kernel))) rfl
theorem tw_570 : Jvm.Cond.methodLink "ArcadeBoard$State" 3 ⟨"java/lang/Object", "<init>", "()V"⟩ ∈ AL := ab_in (ab_t1 (List.mem_of_getElem? (i := 31) (by decide +kernel))) rfl
theorem tw_571 : Jvm.Cond.instanceMethod ⟨"java/lang/Object", "<init>", "()V"⟩ ∈ AL := ab_in (ab_t1 (List.mem_of_getElem? (i := 24) (by decide +kernel))) rfl
theorem tw_572 : Jvm.Cond.code ⟨"java/lang/Object", "<init>", "()V"⟩ object_method_1_code 1 (Option.none : Option Jvm.ClassFile.FieldType) ∈ AL := ab_in (ab_t1 (List.mem_of_getElem? (i := 25) (by decide +kernel))) rfl
theorem tw_573 : Jvm.Cond.arrayClass Jvm.ClassFile.FieldType.int ∈ AL := ab_in (ab_t1 (List.mem_of_getElem? (i := 126) (by decide +kernel))) rfl
theorem ok_State_init : ab_yok y_State_init b_State_init 1 none 0 := ⟨tw_569, tw_467, by decide, by decide, by decide +kernel⟩
def w1_State_init (t : Nat → ClassId) (a0 : Nat) (r : Nat → Nat) : va_W := [(a0, .inr (7, [.ref (r 0), .ref (r 1), .int 2, .int 0, .int 0, .int 0, .int 0, .int 0, .int 0, .int 0, .int 0, .int 0, .int 0, .int 0, .int 0, .int 0, .int 0])), ((r 0), .inl (t 0, 512, .inl (fun _ => 0))), ((r 1), .inl (t 0, 8, .inl (fun _ => 0)))]
set_option maxHeartbeats 1000000 in
set_option maxRecDepth 100000 in
theorem c_State_init (l : Launch) (D : va_G) (t : Nat → ClassId) (a0 : Nat) : ab_kn l D (tyC t) y_State_init b_State_init 1 { frames := 1, cells := 2, slots := 520, locals := 12 } [.ref a0] [(a0, .inr (7, [.null, .null, .int 0, .int 0, .int 0, .int 0, .int 0, .int 0, .int 0, .int 0, .int 0, .int 0, .int 0, .int 0, .int 0, .int 0, .int 0]))] (w1_State_init t a0) := by
  refine ab_kn_ofW (by decide) rfl (Nat.le_of_ble_eq_true rfl) (fun p e s m below meth c ls A X hE hr hk hl hX => ?_)
  have hl : lv_has ls 1 [(0, .ref a0)] := hl
  refine lv_aload_n (pc := 0) X.1 X.2.1 d_State_init_0 rfl (lv_at hl 0 rfl) ?_
  refine ab_obj (pc := 1) X hl.1 ⟨tw_570, tw_571, tw_572⟩ ⟨Nat.le_of_ble_eq_true rfl, Nat.le_of_ble_eq_true rfl⟩ d_State_init_1 ?_
  refine lv_aload_n (pc := 4) X.1 X.2.1 d_State_init_4 rfl (lv_at hl 0 rfl) ?_
  refine lv_sipush (pc := 5) (v := 512) X.1 X.2.1 d_State_init_5 (by decide) ?_
  refine ab_newa (pc := 8) (atype := .int) (N := 512) X hX 0 (512, .inl (fun _ => 0)) rfl tw_573 rfl (fun _ _ h1 h2 => Option.some.inj (h1.symm.trans h2)) (fun _ => rfl) (by decide) (by decide) (by decide) ⟨Nat.le_of_ble_eq_true rfl, Nat.le_of_ble_eq_true rfl⟩ d_State_init_8 (fun q8 H hX => ?_)
  have hX : ab_hx D [(a0, .inr (7, [.null, .null, .int 0, .int 0, .int 0, .int 0, .int 0, .int 0, .int 0, .int 0, .int 0, .int 0, .int 0, .int 0, .int 0, .int 0, .int 0])), (q8, .inl (t 0, 512, .inl (fun _ => 0)))] A s.heap _ _ := hX
  refine ab_pxF (pc := 10) (ws' := [(a0, .inr (7, [.ref q8, .null, .int 0, .int 0, .int 0, .int 0, .int 0, .int 0, .int 0, .int 0, .int 0, .int 0, .int 0, .int 0, .int 0, .int 0, .int 0])), (q8, .inl (t 0, 512, .inl (fun _ => 0)))]) X hX hE.2 0 7 0 ty_State ty_State_ok nm_State rfl rfl (Nat.le_of_ble_eq_true rfl) in_State rfl tw_470 rfl rfl rfl rfl rfl (Nat.le_of_ble_eq_true rfl) rfl d_State_init_10 (fun H locs hX => ?_)
  refine lv_aload_n (pc := 13) X.1 X.2.1 d_State_init_13 rfl (lv_at hl 0 rfl) ?_
  refine lv_bipush (pc := 14) (v := 8) X.1 X.2.1 d_State_init_14 (by decide) ?_
  refine ab_newa (pc := 16) (atype := .int) (N := 8) X hX 0 (8, .inl (fun _ => 0)) rfl tw_573 rfl (fun _ _ h1 h2 => Option.some.inj (h1.symm.trans h2)) (fun _ => rfl) (by decide) (by decide) (by decide) ⟨Nat.le_of_ble_eq_true rfl, Nat.le_of_ble_eq_true rfl⟩ d_State_init_16 (fun q16 H hX => ?_)
  have hX : ab_hx D [(a0, .inr (7, [.ref q8, .null, .int 0, .int 0, .int 0, .int 0, .int 0, .int 0, .int 0, .int 0, .int 0, .int 0, .int 0, .int 0, .int 0, .int 0, .int 0])), (q8, .inl (t 0, 512, .inl (fun _ => 0))), (q16, .inl (t 0, 8, .inl (fun _ => 0)))] A s.heap _ _ := hX
  refine ab_pxF (pc := 18) (ws' := [(a0, .inr (7, [.ref q8, .ref q16, .int 0, .int 0, .int 0, .int 0, .int 0, .int 0, .int 0, .int 0, .int 0, .int 0, .int 0, .int 0, .int 0, .int 0, .int 0])), (q8, .inl (t 0, 512, .inl (fun _ => 0))), (q16, .inl (t 0, 8, .inl (fun _ => 0)))]) X hX hE.2 0 7 1 ty_State ty_State_ok nm_State rfl rfl (Nat.le_of_ble_eq_true rfl) in_State rfl tw_475 rfl rfl rfl rfl rfl (Nat.le_of_ble_eq_true rfl) rfl d_State_init_18 (fun H locs hX => ?_)
  refine lv_aload_n (pc := 21) X.1 X.2.1 d_State_init_21 rfl (lv_at hl 0 rfl) ?_
  refine lv_iconst (pc := 22) (v := 2) X.1 X.2.1 d_State_init_22 (by decide) ?_
  refine ab_px (pc := 23) (ws' := [(a0, .inr (7, [.ref q8, .ref q16, .int 2, .int 0, .int 0, .int 0, .int 0, .int 0, .int 0, .int 0, .int 0, .int 0, .int 0, .int 0, .int 0, .int 0, .int 0])), (q8, .inl (t 0, 512, .inl (fun _ => 0))), (q16, .inl (t 0, 8, .inl (fun _ => 0)))]) X hX 0 7 2 ty_State ty_State_ok nm_State rfl rfl (Nat.le_of_ble_eq_true rfl) in_State rfl tw_476 rfl rfl rfl rfl (Nat.le_of_ble_eq_true rfl) rfl d_State_init_23 (fun H locs hX => ?_)
  refine lv_aload_n (pc := 26) X.1 X.2.1 d_State_init_26 rfl (lv_at hl 0 rfl) ?_
  refine lv_iconst (pc := 27) (v := 0) X.1 X.2.1 d_State_init_27 (by decide) ?_
  refine ab_px (pc := 28) (ws' := [(a0, .inr (7, [.ref q8, .ref q16, .int 2, .int 0, .int 0, .int 0, .int 0, .int 0, .int 0, .int 0, .int 0, .int 0, .int 0, .int 0, .int 0, .int 0, .int 0])), (q8, .inl (t 0, 512, .inl (fun _ => 0))), (q16, .inl (t 0, 8, .inl (fun _ => 0)))]) X hX 0 7 3 ty_State ty_State_ok nm_State rfl rfl (Nat.le_of_ble_eq_true rfl) in_State rfl tw_477 rfl rfl rfl rfl (Nat.le_of_ble_eq_true rfl) rfl d_State_init_28 (fun H locs hX => ?_)
  refine lv_aload_n (pc := 31) X.1 X.2.1 d_State_init_31 rfl (lv_at hl 0 rfl) ?_
  refine lv_iconst (pc := 32) (v := 0) X.1 X.2.1 d_State_init_32 (by decide) ?_
  refine ab_px (pc := 33) (ws' := [(a0, .inr (7, [.ref q8, .ref q16, .int 2, .int 0, .int 0, .int 0, .int 0, .int 0, .int 0, .int 0, .int 0, .int 0, .int 0, .int 0, .int 0, .int 0, .int 0])), (q8, .inl (t 0, 512, .inl (fun _ => 0))), (q16, .inl (t 0, 8, .inl (fun _ => 0)))]) X hX 0 7 4 ty_State ty_State_ok nm_State rfl rfl (Nat.le_of_ble_eq_true rfl) in_State rfl tw_478 rfl rfl rfl rfl (Nat.le_of_ble_eq_true rfl) rfl d_State_init_33 (fun H locs hX => ?_)
  refine lv_aload_n (pc := 36) X.1 X.2.1 d_State_init_36 rfl (lv_at hl 0 rfl) ?_
  refine lv_iconst (pc := 37) (v := 0) X.1 X.2.1 d_State_init_37 (by decide) ?_
  refine ab_px (pc := 38) (ws' := [(a0, .inr (7, [.ref q8, .ref q16, .int 2, .int 0, .int 0, .int 0, .int 0, .int 0, .int 0, .int 0, .int 0, .int 0, .int 0, .int 0, .int 0, .int 0, .int 0])), (q8, .inl (t 0, 512, .inl (fun _ => 0))), (q16, .inl (t 0, 8, .inl (fun _ => 0)))]) X hX 0 7 5 ty_State ty_State_ok nm_State rfl rfl (Nat.le_of_ble_eq_true rfl) in_State rfl tw_479 rfl rfl rfl rfl (Nat.le_of_ble_eq_true rfl) rfl d_State_init_38 (fun H locs hX => ?_)
  refine lv_aload_n (pc := 41) X.1 X.2.1 d_State_init_41 rfl (lv_at hl 0 rfl) ?_
  refine lv_iconst (pc := 42) (v := 0) X.1 X.2.1 d_State_init_42 (by decide) ?_
  refine ab_px (pc := 43) (ws' := [(a0, .inr (7, [.ref q8, .ref q16, .int 2, .int 0, .int 0, .int 0, .int 0, .int 0, .int 0, .int 0, .int 0, .int 0, .int 0, .int 0, .int 0, .int 0, .int 0])), (q8, .inl (t 0, 512, .inl (fun _ => 0))), (q16, .inl (t 0, 8, .inl (fun _ => 0)))]) X hX 0 7 6 ty_State ty_State_ok nm_State rfl rfl (Nat.le_of_ble_eq_true rfl) in_State rfl tw_480 rfl rfl rfl rfl (Nat.le_of_ble_eq_true rfl) rfl d_State_init_43 (fun H locs hX => ?_)
  refine lv_aload_n (pc := 46) X.1 X.2.1 d_State_init_46 rfl (lv_at hl 0 rfl) ?_
  refine lv_iconst (pc := 47) (v := 0) X.1 X.2.1 d_State_init_47 (by decide) ?_
  refine ab_px (pc := 48) (ws' := [(a0, .inr (7, [.ref q8, .ref q16, .int 2, .int 0, .int 0, .int 0, .int 0, .int 0, .int 0, .int 0, .int 0, .int 0, .int 0, .int 0, .int 0, .int 0, .int 0])), (q8, .inl (t 0, 512, .inl (fun _ => 0))), (q16, .inl (t 0, 8, .inl (fun _ => 0)))]) X hX 0 7 7 ty_State ty_State_ok nm_State rfl rfl (Nat.le_of_ble_eq_true rfl) in_State rfl tw_481 rfl rfl rfl rfl (Nat.le_of_ble_eq_true rfl) rfl d_State_init_48 (fun H locs hX => ?_)
  refine lv_aload_n (pc := 51) X.1 X.2.1 d_State_init_51 rfl (lv_at hl 0 rfl) ?_
  refine lv_iconst (pc := 52) (v := 0) X.1 X.2.1 d_State_init_52 (by decide) ?_
  refine ab_px (pc := 53) (ws' := [(a0, .inr (7, [.ref q8, .ref q16, .int 2, .int 0, .int 0, .int 0, .int 0, .int 0, .int 0, .int 0, .int 0, .int 0, .int 0, .int 0, .int 0, .int 0, .int 0])), (q8, .inl (t 0, 512, .inl (fun _ => 0))), (q16, .inl (t 0, 8, .inl (fun _ => 0)))]) X hX 0 7 8 ty_State ty_State_ok nm_State rfl rfl (Nat.le_of_ble_eq_true rfl) in_State rfl tw_482 rfl rfl rfl rfl (Nat.le_of_ble_eq_true rfl) rfl d_State_init_53 (fun H locs hX => ?_)
  refine lv_aload_n (pc := 56) X.1 X.2.1 d_State_init_56 rfl (lv_at hl 0 rfl) ?_
  refine lv_iconst (pc := 57) (v := 0) X.1 X.2.1 d_State_init_57 (by decide) ?_
  refine ab_px (pc := 58) (ws' := [(a0, .inr (7, [.ref q8, .ref q16, .int 2, .int 0, .int 0, .int 0, .int 0, .int 0, .int 0, .int 0, .int 0, .int 0, .int 0, .int 0, .int 0, .int 0, .int 0])), (q8, .inl (t 0, 512, .inl (fun _ => 0))), (q16, .inl (t 0, 8, .inl (fun _ => 0)))]) X hX 0 7 9 ty_State ty_State_ok nm_State rfl rfl (Nat.le_of_ble_eq_true rfl) in_State rfl tw_483 rfl rfl rfl rfl (Nat.le_of_ble_eq_true rfl) rfl d_State_init_58 (fun H locs hX => ?_)
  refine lv_aload_n (pc := 61) X.1 X.2.1 d_State_init_61 rfl (lv_at hl 0 rfl) ?_
  refine lv_iconst (pc := 62) (v := 0) X.1 X.2.1 d_State_init_62 (by decide) ?_
  refine ab_px (pc := 63) (ws' := [(a0, .inr (7, [.ref q8, .ref q16, .int 2, .int 0, .int 0, .int 0, .int 0, .int 0, .int 0, .int 0, .int 0, .int 0, .int 0, .int 0, .int 0, .int 0, .int 0])), (q8, .inl (t 0, 512, .inl (fun _ => 0))), (q16, .inl (t 0, 8, .inl (fun _ => 0)))]) X hX 0 7 10 ty_State ty_State_ok nm_State rfl rfl (Nat.le_of_ble_eq_true rfl) in_State rfl tw_484 rfl rfl rfl rfl (Nat.le_of_ble_eq_true rfl) rfl d_State_init_63 (fun H locs hX => ?_)
  refine lv_aload_n (pc := 66) X.1 X.2.1 d_State_init_66 rfl (lv_at hl 0 rfl) ?_
  refine lv_iconst (pc := 67) (v := 0) X.1 X.2.1 d_State_init_67 (by decide) ?_
  refine ab_px (pc := 68) (ws' := [(a0, .inr (7, [.ref q8, .ref q16, .int 2, .int 0, .int 0, .int 0, .int 0, .int 0, .int 0, .int 0, .int 0, .int 0, .int 0, .int 0, .int 0, .int 0, .int 0])), (q8, .inl (t 0, 512, .inl (fun _ => 0))), (q16, .inl (t 0, 8, .inl (fun _ => 0)))]) X hX 0 7 11 ty_State ty_State_ok nm_State rfl rfl (Nat.le_of_ble_eq_true rfl) in_State rfl tw_485 rfl rfl rfl rfl (Nat.le_of_ble_eq_true rfl) rfl d_State_init_68 (fun H locs hX => ?_)
  refine lv_aload_n (pc := 71) X.1 X.2.1 d_State_init_71 rfl (lv_at hl 0 rfl) ?_
  refine lv_iconst (pc := 72) (v := 0) X.1 X.2.1 d_State_init_72 (by decide) ?_
  refine ab_px (pc := 73) (ws' := [(a0, .inr (7, [.ref q8, .ref q16, .int 2, .int 0, .int 0, .int 0, .int 0, .int 0, .int 0, .int 0, .int 0, .int 0, .int 0, .int 0, .int 0, .int 0, .int 0])), (q8, .inl (t 0, 512, .inl (fun _ => 0))), (q16, .inl (t 0, 8, .inl (fun _ => 0)))]) X hX 0 7 12 ty_State ty_State_ok nm_State rfl rfl (Nat.le_of_ble_eq_true rfl) in_State rfl tw_486 rfl rfl rfl rfl (Nat.le_of_ble_eq_true rfl) rfl d_State_init_73 (fun H locs hX => ?_)
  refine lv_aload_n (pc := 76) X.1 X.2.1 d_State_init_76 rfl (lv_at hl 0 rfl) ?_
  refine lv_iconst (pc := 77) (v := 0) X.1 X.2.1 d_State_init_77 (by decide) ?_
  refine ab_px (pc := 78) (ws' := [(a0, .inr (7, [.ref q8, .ref q16, .int 2, .int 0, .int 0, .int 0, .int 0, .int 0, .int 0, .int 0, .int 0, .int 0, .int 0, .int 0, .int 0, .int 0, .int 0])), (q8, .inl (t 0, 512, .inl (fun _ => 0))), (q16, .inl (t 0, 8, .inl (fun _ => 0)))]) X hX 0 7 13 ty_State ty_State_ok nm_State rfl rfl (Nat.le_of_ble_eq_true rfl) in_State rfl tw_487 rfl rfl rfl rfl (Nat.le_of_ble_eq_true rfl) rfl d_State_init_78 (fun H locs hX => ?_)
  refine lv_aload_n (pc := 81) X.1 X.2.1 d_State_init_81 rfl (lv_at hl 0 rfl) ?_
  refine lv_iconst (pc := 82) (v := 0) X.1 X.2.1 d_State_init_82 (by decide) ?_
  refine ab_px (pc := 83) (ws' := [(a0, .inr (7, [.ref q8, .ref q16, .int 2, .int 0, .int 0, .int 0, .int 0, .int 0, .int 0, .int 0, .int 0, .int 0, .int 0, .int 0, .int 0, .int 0, .int 0])), (q8, .inl (t 0, 512, .inl (fun _ => 0))), (q16, .inl (t 0, 8, .inl (fun _ => 0)))]) X hX 0 7 14 ty_State ty_State_ok nm_State rfl rfl (Nat.le_of_ble_eq_true rfl) in_State rfl tw_488 rfl rfl rfl rfl (Nat.le_of_ble_eq_true rfl) rfl d_State_init_83 (fun H locs hX => ?_)
  refine lv_aload_n (pc := 86) X.1 X.2.1 d_State_init_86 rfl (lv_at hl 0 rfl) ?_
  refine lv_iconst (pc := 87) (v := 0) X.1 X.2.1 d_State_init_87 (by decide) ?_
  refine ab_px (pc := 88) (ws' := [(a0, .inr (7, [.ref q8, .ref q16, .int 2, .int 0, .int 0, .int 0, .int 0, .int 0, .int 0, .int 0, .int 0, .int 0, .int 0, .int 0, .int 0, .int 0, .int 0])), (q8, .inl (t 0, 512, .inl (fun _ => 0))), (q16, .inl (t 0, 8, .inl (fun _ => 0)))]) X hX 0 7 15 ty_State ty_State_ok nm_State rfl rfl (Nat.le_of_ble_eq_true rfl) in_State rfl tw_489 rfl rfl rfl rfl (Nat.le_of_ble_eq_true rfl) rfl d_State_init_88 (fun H locs hX => ?_)
  refine lv_aload_n (pc := 91) X.1 X.2.1 d_State_init_91 rfl (lv_at hl 0 rfl) ?_
  refine lv_iconst (pc := 92) (v := 0) X.1 X.2.1 d_State_init_92 (by decide) ?_
  refine ab_px (pc := 93) (ws' := [(a0, .inr (7, [.ref q8, .ref q16, .int 2, .int 0, .int 0, .int 0, .int 0, .int 0, .int 0, .int 0, .int 0, .int 0, .int 0, .int 0, .int 0, .int 0, .int 0])), (q8, .inl (t 0, 512, .inl (fun _ => 0))), (q16, .inl (t 0, 8, .inl (fun _ => 0)))]) X hX 0 7 16 ty_State ty_State_ok nm_State rfl rfl (Nat.le_of_ble_eq_true rfl) in_State rfl tw_490 rfl rfl rfl rfl (Nat.le_of_ble_eq_true rfl) rfl d_State_init_93 (fun H locs hX => ?_)
  exact ab_kn_ret (fun k => ([q8, q16] : List Nat).getD k 0) X hr hk hX d_State_init_96
abbrev b_Memory_init : ByteArray := prog_4_method_1_code
def y_Memory_init : MethodName := ⟨"ArcadeBoard$Memory", "<init>", "(LArcadeBoard$State;)V"⟩
theorem d_Memory_init_0 : decode b_Memory_init 0 = .ok (.aload_n 0, 1) := by decide +kernel
theorem d_Memory_init_1 : decode b_Memory_init 1 = .ok (.invokespecial 3, 3) := by decide +kernel
theorem d_Memory_init_4 : decode b_Memory_init 4 = .ok (.aload_n 0, 1) := by decide +kernel
theorem d_Memory_init_5 : decode b_Memory_init 5 = .ok (.sipush 512, 3) := by decide +kernel
theorem d_Memory_init_8 : decode b_Memory_init 8 = .ok (.newarray .int, 2) := by decide +kernel
theorem d_Memory_init_10 : decode b_Memory_init 10 = .ok (.putfield 9, 3) := by decide +kernel
theorem d_Memory_init_13 : decode b_Memory_init 13 = .ok (.aload_n 0, 1) := by decide +kernel
theorem d_Memory_init_14 : decode b_Memory_init 14 = .ok (.aload_n 1, 1) := by decide +kernel
theorem d_Memory_init_15 : decode b_Memory_init 15 = .ok (.putfield 15, 3) := by decide +kernel
theorem d_Memory_init_18 : decode b_Memory_init 18 = .ok (.return_, 1) := by decide +kernel
theorem tw_574 : Jvm.Cond.code ⟨"ArcadeBoard$Memory", "<init>", "(LArcadeBoard$State;)V"⟩ prog_4_method_1_code 2 (Option.none : Option Jvm.ClassFile.FieldType) ∈ AL := ab_in (ab_t1 (List.mem_of_getElem? (i := 131) (by decide +kernel))) rfl
theorem tw_575 : Jvm.Cond.methodLink "ArcadeBoard$Memory" 3 ⟨"java/lang/Object", "<init>", "()V"⟩ ∈ AL := ab_in (ab_t1 (List.mem_of_getElem? (i := 132) (by decide +kernel))) rfl
theorem ok_Memory_init : ab_yok y_Memory_init b_Memory_init 2 none 1 := ⟨tw_574, tw_1, by decide, by decide, by decide +kernel⟩
def w1_Memory_init (t : Nat → ClassId) (a0 : Nat) (a1 : Nat) (r : Nat → Nat) : va_W := [(a0, .inr (2, [.ref (r 0), .ref a1])), ((r 0), .inl (t 0, 512, .inl (fun _ => 0)))]
set_option maxHeartbeats 1000000 in
set_option maxRecDepth 100000 in
theorem c_Memory_init (l : Launch) (D : va_G) (t : Nat → ClassId) (a0 : Nat) (a1 : Nat) : ab_kn l D (tyC t) y_Memory_init b_Memory_init 2 { frames := 1, cells := 1, slots := 512, locals := 12 } [.ref a0, .ref a1] [(a0, .inr (2, [.null, .null]))] (w1_Memory_init t a0 a1) := by
  refine ab_kn_ofW (by decide) rfl (Nat.le_of_ble_eq_true rfl) (fun p e s m below meth c ls A X hE hr hk hl hX => ?_)
  have hl : lv_has ls 2 [(0, .ref a0), (1, .ref a1)] := hl
  refine lv_aload_n (pc := 0) X.1 X.2.1 d_Memory_init_0 rfl (lv_at hl 0 rfl) ?_
  refine ab_obj (pc := 1) X hl.1 ⟨tw_575, tw_571, tw_572⟩ ⟨Nat.le_of_ble_eq_true rfl, Nat.le_of_ble_eq_true rfl⟩ d_Memory_init_1 ?_
  refine lv_aload_n (pc := 4) X.1 X.2.1 d_Memory_init_4 rfl (lv_at hl 0 rfl) ?_
  refine lv_sipush (pc := 5) (v := 512) X.1 X.2.1 d_Memory_init_5 (by decide) ?_
  refine ab_newa (pc := 8) (atype := .int) (N := 512) X hX 0 (512, .inl (fun _ => 0)) rfl tw_573 rfl (fun _ _ h1 h2 => Option.some.inj (h1.symm.trans h2)) (fun _ => rfl) (by decide) (by decide) (by decide) ⟨Nat.le_of_ble_eq_true rfl, Nat.le_of_ble_eq_true rfl⟩ d_Memory_init_8 (fun q8 H hX => ?_)
  have hX : ab_hx D [(a0, .inr (2, [.null, .null])), (q8, .inl (t 0, 512, .inl (fun _ => 0)))] A s.heap _ _ := hX
  refine ab_pxF (pc := 10) (ws' := [(a0, .inr (2, [.ref q8, .null])), (q8, .inl (t 0, 512, .inl (fun _ => 0)))]) X hX hE.2 0 2 0 ty_Memory ty_Memory_ok nm_Memory rfl rfl (Nat.le_of_ble_eq_true rfl) in_Memory rfl tw_6 rfl rfl rfl rfl rfl (Nat.le_of_ble_eq_true rfl) rfl d_Memory_init_10 (fun H locs hX => ?_)
  refine lv_aload_n (pc := 13) X.1 X.2.1 d_Memory_init_13 rfl (lv_at hl 0 rfl) ?_
  refine lv_aload_n (pc := 14) X.1 X.2.1 d_Memory_init_14 rfl (lv_at hl 1 rfl) ?_
  refine ab_pxF (pc := 15) (ws' := [(a0, .inr (2, [.ref q8, .ref a1])), (q8, .inl (t 0, 512, .inl (fun _ => 0)))]) X hX hE.2 0 2 1 ty_Memory ty_Memory_ok nm_Memory rfl rfl (Nat.le_of_ble_eq_true rfl) in_Memory rfl tw_4 rfl rfl rfl rfl rfl (Nat.le_of_ble_eq_true rfl) rfl d_Memory_init_15 (fun H locs hX => ?_)
  exact ab_kn_ret (fun k => ([q8] : List Nat).getD k 0) X hr hk hX d_Memory_init_18
abbrev b_Registers_init : ByteArray := prog_7_method_1_code
def y_Registers_init : MethodName := ⟨"ArcadeBoard$Registers", "<init>", "(LArcadeBoard$State;LArcadeBoard$Memory;)V"⟩
theorem d_Registers_init_0 : decode b_Registers_init 0 = .ok (.aload_n 0, 1) := by decide +kernel
theorem d_Registers_init_1 : decode b_Registers_init 1 = .ok (.invokespecial 3, 3) := by decide +kernel
theorem d_Registers_init_4 : decode b_Registers_init 4 = .ok (.aload_n 0, 1) := by decide +kernel
theorem d_Registers_init_5 : decode b_Registers_init 5 = .ok (.aload_n 1, 1) := by decide +kernel
theorem d_Registers_init_6 : decode b_Registers_init 6 = .ok (.putfield 9, 3) := by decide +kernel
theorem d_Registers_init_9 : decode b_Registers_init 9 = .ok (.aload_n 0, 1) := by decide +kernel
theorem d_Registers_init_10 : decode b_Registers_init 10 = .ok (.aload_n 2, 1) := by decide +kernel
theorem d_Registers_init_11 : decode b_Registers_init 11 = .ok (.putfield 15, 3) := by decide +kernel
theorem d_Registers_init_14 : decode b_Registers_init 14 = .ok (.return_, 1) := by decide +kernel
theorem tw_576 : Jvm.Cond.code ⟨"ArcadeBoard$Registers", "<init>", "(LArcadeBoard$State;LArcadeBoard$Memory;)V"⟩ prog_7_method_1_code 3 (Option.none : Option Jvm.ClassFile.FieldType) ∈ AL := ab_in (ab_t1 (List.mem_of_getElem? (i := 144) (by decide +kernel))) rfl
theorem tw_577 : Jvm.Cond.methodLink "ArcadeBoard$Registers" 3 ⟨"java/lang/Object", "<init>", "()V"⟩ ∈ AL := ab_in (ab_t1 (List.mem_of_getElem? (i := 145) (by decide +kernel))) rfl
theorem ok_Registers_init : ab_yok y_Registers_init b_Registers_init 3 none 2 := ⟨tw_576, tw_37, by decide, by decide, by decide +kernel⟩
def w1_Registers_init (t : Nat → ClassId) (a0 : Nat) (a1 : Nat) (a2 : Nat) (r : Nat → Nat) : va_W := [(a0, .inr (5, [.ref a1, .ref a2]))]
set_option maxHeartbeats 1000000 in
set_option maxRecDepth 100000 in
theorem c_Registers_init (l : Launch) (D : va_G) (t : Nat → ClassId) (a0 : Nat) (a1 : Nat) (a2 : Nat) : ab_kn l D (tyC t) y_Registers_init b_Registers_init 3 { frames := 1, cells := 0, slots := 0, locals := 12 } [.ref a0, .ref a1, .ref a2] [(a0, .inr (5, [.null, .null]))] (w1_Registers_init t a0 a1 a2) := by
  refine ab_kn_ofW (by decide) rfl (Nat.le_of_ble_eq_true rfl) (fun p e s m below meth c ls A X hE hr hk hl hX => ?_)
  have hl : lv_has ls 3 [(0, .ref a0), (1, .ref a1), (2, .ref a2)] := hl
  refine lv_aload_n (pc := 0) X.1 X.2.1 d_Registers_init_0 rfl (lv_at hl 0 rfl) ?_
  refine ab_obj (pc := 1) X hl.1 ⟨tw_577, tw_571, tw_572⟩ ⟨Nat.le_of_ble_eq_true rfl, Nat.le_of_ble_eq_true rfl⟩ d_Registers_init_1 ?_
  refine lv_aload_n (pc := 4) X.1 X.2.1 d_Registers_init_4 rfl (lv_at hl 0 rfl) ?_
  refine lv_aload_n (pc := 5) X.1 X.2.1 d_Registers_init_5 rfl (lv_at hl 1 rfl) ?_
  refine ab_pxF (pc := 6) (ws' := [(a0, .inr (5, [.ref a1, .null]))]) X hX hE.2 0 5 0 ty_Registers ty_Registers_ok nm_Registers rfl rfl (Nat.le_of_ble_eq_true rfl) in_Registers rfl tw_40 rfl rfl rfl rfl rfl (Nat.le_of_ble_eq_true rfl) rfl d_Registers_init_6 (fun H locs hX => ?_)
  refine lv_aload_n (pc := 9) X.1 X.2.1 d_Registers_init_9 rfl (lv_at hl 0 rfl) ?_
  refine lv_aload_n (pc := 10) X.1 X.2.1 d_Registers_init_10 rfl (lv_at hl 2 rfl) ?_
  refine ab_pxF (pc := 11) (ws' := [(a0, .inr (5, [.ref a1, .ref a2]))]) X hX hE.2 0 5 1 ty_Registers ty_Registers_ok nm_Registers rfl rfl (Nat.le_of_ble_eq_true rfl) in_Registers rfl tw_46 rfl rfl rfl rfl rfl (Nat.le_of_ble_eq_true rfl) rfl d_Registers_init_11 (fun H locs hX => ?_)
  exact ab_kn_ret (fun k => ([] : List Nat).getD k 0) X hr hk hX d_Registers_init_14
abbrev b_Sounds_init : ByteArray := prog_8_method_1_code
def y_Sounds_init : MethodName := ⟨"ArcadeBoard$Sounds", "<init>", "()V"⟩
theorem d_Sounds_init_0 : decode b_Sounds_init 0 = .ok (.aload_n 0, 1) := by decide +kernel
theorem d_Sounds_init_1 : decode b_Sounds_init 1 = .ok (.invokespecial 3, 3) := by decide +kernel
theorem d_Sounds_init_4 : decode b_Sounds_init 4 = .ok (.aload_n 0, 1) := by decide +kernel
theorem d_Sounds_init_5 : decode b_Sounds_init 5 = .ok (.bipush 8, 2) := by decide +kernel
theorem d_Sounds_init_7 : decode b_Sounds_init 7 = .ok (.newarray .int, 2) := by decide +kernel
theorem d_Sounds_init_9 : decode b_Sounds_init 9 = .ok (.putfield 9, 3) := by decide +kernel
theorem d_Sounds_init_12 : decode b_Sounds_init 12 = .ok (.aload_n 0, 1) := by decide +kernel
theorem d_Sounds_init_13 : decode b_Sounds_init 13 = .ok (.iconst 0, 1) := by decide +kernel
theorem d_Sounds_init_14 : decode b_Sounds_init 14 = .ok (.putfield 15, 3) := by decide +kernel
theorem d_Sounds_init_17 : decode b_Sounds_init 17 = .ok (.return_, 1) := by decide +kernel
theorem tw_578 : Jvm.Cond.code ⟨"ArcadeBoard$Sounds", "<init>", "()V"⟩ prog_8_method_1_code 1 (Option.none : Option Jvm.ClassFile.FieldType) ∈ AL := ab_in (ab_t1 (List.mem_of_getElem? (i := 157) (by decide +kernel))) rfl
theorem tw_579 : Jvm.Cond.methodLink "ArcadeBoard$Sounds" 3 ⟨"java/lang/Object", "<init>", "()V"⟩ ∈ AL := ab_in (ab_t1 (List.mem_of_getElem? (i := 158) (by decide +kernel))) rfl
theorem ok_Sounds_init : ab_yok y_Sounds_init b_Sounds_init 1 none 0 := ⟨tw_578, tw_150, by decide, by decide, by decide +kernel⟩
def w1_Sounds_init (t : Nat → ClassId) (a0 : Nat) (r : Nat → Nat) : va_W := [(a0, .inr (6, [.ref (r 0), .int 0])), ((r 0), .inl (t 0, 8, .inl (fun _ => 0)))]
set_option maxHeartbeats 1000000 in
set_option maxRecDepth 100000 in
theorem c_Sounds_init (l : Launch) (D : va_G) (t : Nat → ClassId) (a0 : Nat) : ab_kn l D (tyC t) y_Sounds_init b_Sounds_init 1 { frames := 1, cells := 1, slots := 8, locals := 12 } [.ref a0] [(a0, .inr (6, [.null, .int 0]))] (w1_Sounds_init t a0) := by
  refine ab_kn_ofW (by decide) rfl (Nat.le_of_ble_eq_true rfl) (fun p e s m below meth c ls A X hE hr hk hl hX => ?_)
  have hl : lv_has ls 1 [(0, .ref a0)] := hl
  refine lv_aload_n (pc := 0) X.1 X.2.1 d_Sounds_init_0 rfl (lv_at hl 0 rfl) ?_
  refine ab_obj (pc := 1) X hl.1 ⟨tw_579, tw_571, tw_572⟩ ⟨Nat.le_of_ble_eq_true rfl, Nat.le_of_ble_eq_true rfl⟩ d_Sounds_init_1 ?_
  refine lv_aload_n (pc := 4) X.1 X.2.1 d_Sounds_init_4 rfl (lv_at hl 0 rfl) ?_
  refine lv_bipush (pc := 5) (v := 8) X.1 X.2.1 d_Sounds_init_5 (by decide) ?_
  refine ab_newa (pc := 7) (atype := .int) (N := 8) X hX 0 (8, .inl (fun _ => 0)) rfl tw_573 rfl (fun _ _ h1 h2 => Option.some.inj (h1.symm.trans h2)) (fun _ => rfl) (by decide) (by decide) (by decide) ⟨Nat.le_of_ble_eq_true rfl, Nat.le_of_ble_eq_true rfl⟩ d_Sounds_init_7 (fun q7 H hX => ?_)
  have hX : ab_hx D [(a0, .inr (6, [.null, .int 0])), (q7, .inl (t 0, 8, .inl (fun _ => 0)))] A s.heap _ _ := hX
  refine ab_pxF (pc := 9) (ws' := [(a0, .inr (6, [.ref q7, .int 0])), (q7, .inl (t 0, 8, .inl (fun _ => 0)))]) X hX hE.2 0 6 0 ty_Sounds ty_Sounds_ok nm_Sounds rfl rfl (Nat.le_of_ble_eq_true rfl) in_Sounds rfl tw_153 rfl rfl rfl rfl rfl (Nat.le_of_ble_eq_true rfl) rfl d_Sounds_init_9 (fun H locs hX => ?_)
  refine lv_aload_n (pc := 12) X.1 X.2.1 d_Sounds_init_12 rfl (lv_at hl 0 rfl) ?_
  refine lv_iconst (pc := 13) (v := 0) X.1 X.2.1 d_Sounds_init_13 (by decide) ?_
  refine ab_px (pc := 14) (ws' := [(a0, .inr (6, [.ref q7, .int 0])), (q7, .inl (t 0, 8, .inl (fun _ => 0)))]) X hX 0 6 1 ty_Sounds ty_Sounds_ok nm_Sounds rfl rfl (Nat.le_of_ble_eq_true rfl) in_Sounds rfl tw_154 rfl rfl rfl rfl (Nat.le_of_ble_eq_true rfl) rfl d_Sounds_init_14 (fun H locs hX => ?_)
  exact ab_kn_ret (fun k => ([q7] : List Nat).getD k 0) X hr hk hX d_Sounds_init_17
abbrev b_Ports_init : ByteArray := prog_5_method_1_code
def y_Ports_init : MethodName := ⟨"ArcadeBoard$Ports", "<init>", "(LArcadeBoard$State;LArcadeBoard$Sounds;)V"⟩
theorem d_Ports_init_0 : decode b_Ports_init 0 = .ok (.aload_n 0, 1) := by decide +kernel
theorem d_Ports_init_1 : decode b_Ports_init 1 = .ok (.invokespecial 3, 3) := by decide +kernel
theorem d_Ports_init_4 : decode b_Ports_init 4 = .ok (.aload_n 0, 1) := by decide +kernel
theorem d_Ports_init_5 : decode b_Ports_init 5 = .ok (.iconst 0, 1) := by decide +kernel
theorem d_Ports_init_6 : decode b_Ports_init 6 = .ok (.putfield 9, 3) := by decide +kernel
theorem d_Ports_init_9 : decode b_Ports_init 9 = .ok (.aload_n 0, 1) := by decide +kernel
theorem d_Ports_init_10 : decode b_Ports_init 10 = .ok (.iconst 0, 1) := by decide +kernel
theorem d_Ports_init_11 : decode b_Ports_init 11 = .ok (.putfield 15, 3) := by decide +kernel
theorem d_Ports_init_14 : decode b_Ports_init 14 = .ok (.aload_n 0, 1) := by decide +kernel
theorem d_Ports_init_15 : decode b_Ports_init 15 = .ok (.aload_n 1, 1) := by decide +kernel
theorem d_Ports_init_16 : decode b_Ports_init 16 = .ok (.putfield 18, 3) := by decide +kernel
theorem d_Ports_init_19 : decode b_Ports_init 19 = .ok (.aload_n 0, 1) := by decide +kernel
theorem d_Ports_init_20 : decode b_Ports_init 20 = .ok (.aload_n 2, 1) := by decide +kernel
theorem d_Ports_init_21 : decode b_Ports_init 21 = .ok (.putfield 22, 3) := by decide +kernel
theorem d_Ports_init_24 : decode b_Ports_init 24 = .ok (.return_, 1) := by decide +kernel
theorem tw_580 : Jvm.Cond.code ⟨"ArcadeBoard$Ports", "<init>", "(LArcadeBoard$State;LArcadeBoard$Sounds;)V"⟩ prog_5_method_1_code 3 (Option.none : Option Jvm.ClassFile.FieldType) ∈ AL := ab_in (ab_t1 (List.mem_of_getElem? (i := 170) (by decide +kernel))) rfl
theorem tw_581 : Jvm.Cond.methodLink "ArcadeBoard$Ports" 3 ⟨"java/lang/Object", "<init>", "()V"⟩ ∈ AL := ab_in (ab_t1 (List.mem_of_getElem? (i := 171) (by decide +kernel))) rfl
theorem ok_Ports_init : ab_yok y_Ports_init b_Ports_init 3 none 2 := ⟨tw_580, tw_137, by decide, by decide, by decide +kernel⟩
def w1_Ports_init (t : Nat → ClassId) (a0 : Nat) (a1 : Nat) (a2 : Nat) (r : Nat → Nat) : va_W := [(a0, .inr (3, [.ref a1, .ref a2, .int 0, .int 0]))]
set_option maxHeartbeats 1000000 in
set_option maxRecDepth 100000 in
theorem c_Ports_init (l : Launch) (D : va_G) (t : Nat → ClassId) (a0 : Nat) (a1 : Nat) (a2 : Nat) : ab_kn l D (tyC t) y_Ports_init b_Ports_init 3 { frames := 1, cells := 0, slots := 0, locals := 12 } [.ref a0, .ref a1, .ref a2] [(a0, .inr (3, [.null, .null, .int 0, .int 0]))] (w1_Ports_init t a0 a1 a2) := by
  refine ab_kn_ofW (by decide) rfl (Nat.le_of_ble_eq_true rfl) (fun p e s m below meth c ls A X hE hr hk hl hX => ?_)
  have hl : lv_has ls 3 [(0, .ref a0), (1, .ref a1), (2, .ref a2)] := hl
  refine lv_aload_n (pc := 0) X.1 X.2.1 d_Ports_init_0 rfl (lv_at hl 0 rfl) ?_
  refine ab_obj (pc := 1) X hl.1 ⟨tw_581, tw_571, tw_572⟩ ⟨Nat.le_of_ble_eq_true rfl, Nat.le_of_ble_eq_true rfl⟩ d_Ports_init_1 ?_
  refine lv_aload_n (pc := 4) X.1 X.2.1 d_Ports_init_4 rfl (lv_at hl 0 rfl) ?_
  refine lv_iconst (pc := 5) (v := 0) X.1 X.2.1 d_Ports_init_5 (by decide) ?_
  refine ab_px (pc := 6) (ws' := [(a0, .inr (3, [.null, .null, .int 0, .int 0]))]) X hX 0 3 2 ty_Ports ty_Ports_ok nm_Ports rfl rfl (Nat.le_of_ble_eq_true rfl) in_Ports rfl tw_141 rfl rfl rfl rfl (Nat.le_of_ble_eq_true rfl) rfl d_Ports_init_6 (fun H locs hX => ?_)
  refine lv_aload_n (pc := 9) X.1 X.2.1 d_Ports_init_9 rfl (lv_at hl 0 rfl) ?_
  refine lv_iconst (pc := 10) (v := 0) X.1 X.2.1 d_Ports_init_10 (by decide) ?_
  refine ab_px (pc := 11) (ws' := [(a0, .inr (3, [.null, .null, .int 0, .int 0]))]) X hX 0 3 3 ty_Ports ty_Ports_ok nm_Ports rfl rfl (Nat.le_of_ble_eq_true rfl) in_Ports rfl tw_140 rfl rfl rfl rfl (Nat.le_of_ble_eq_true rfl) rfl d_Ports_init_11 (fun H locs hX => ?_)
  refine lv_aload_n (pc := 14) X.1 X.2.1 d_Ports_init_14 rfl (lv_at hl 0 rfl) ?_
  refine lv_aload_n (pc := 15) X.1 X.2.1 d_Ports_init_15 rfl (lv_at hl 1 rfl) ?_
  refine ab_pxF (pc := 16) (ws' := [(a0, .inr (3, [.ref a1, .null, .int 0, .int 0]))]) X hX hE.2 0 3 0 ty_Ports ty_Ports_ok nm_Ports rfl rfl (Nat.le_of_ble_eq_true rfl) in_Ports rfl tw_145 rfl rfl rfl rfl rfl (Nat.le_of_ble_eq_true rfl) rfl d_Ports_init_16 (fun H locs hX => ?_)
  refine lv_aload_n (pc := 19) X.1 X.2.1 d_Ports_init_19 rfl (lv_at hl 0 rfl) ?_
  refine lv_aload_n (pc := 20) X.1 X.2.1 d_Ports_init_20 rfl (lv_at hl 2 rfl) ?_
  refine ab_pxF (pc := 21) (ws' := [(a0, .inr (3, [.ref a1, .ref a2, .int 0, .int 0]))]) X hX hE.2 0 3 1 ty_Ports ty_Ports_ok nm_Ports rfl rfl (Nat.le_of_ble_eq_true rfl) in_Ports rfl tw_158 rfl rfl rfl rfl rfl (Nat.le_of_ble_eq_true rfl) rfl d_Ports_init_21 (fun H locs hX => ?_)
  exact ab_kn_ret (fun k => ([] : List Nat).getD k 0) X hr hk hX d_Ports_init_24
abbrev b_Clock_init : ByteArray := prog_3_method_1_code
def y_Clock_init : MethodName := ⟨"ArcadeBoard$Clock", "<init>", "(LArcadeBoard$State;)V"⟩
theorem d_Clock_init_0 : decode b_Clock_init 0 = .ok (.aload_n 0, 1) := by decide +kernel
theorem d_Clock_init_1 : decode b_Clock_init 1 = .ok (.invokespecial 1, 3) := by decide +kernel
theorem d_Clock_init_4 : decode b_Clock_init 4 = .ok (.aload_n 0, 1) := by decide +kernel
theorem d_Clock_init_5 : decode b_Clock_init 5 = .ok (.aload_n 1, 1) := by decide +kernel
theorem d_Clock_init_6 : decode b_Clock_init 6 = .ok (.putfield 7, 3) := by decide +kernel
theorem d_Clock_init_9 : decode b_Clock_init 9 = .ok (.return_, 1) := by decide +kernel
theorem tw_582 : Jvm.Cond.code ⟨"ArcadeBoard$Clock", "<init>", "(LArcadeBoard$State;)V"⟩ prog_3_method_1_code 2 (Option.none : Option Jvm.ClassFile.FieldType) ∈ AL := ab_in (ab_t1 (List.mem_of_getElem? (i := 189) (by decide +kernel))) rfl
theorem tw_583 : Jvm.Cond.methodLink "ArcadeBoard$Clock" 1 ⟨"java/lang/Object", "<init>", "()V"⟩ ∈ AL := ab_in (ab_t1 (List.mem_of_getElem? (i := 190) (by decide +kernel))) rfl
theorem ok_Clock_init : ab_yok y_Clock_init b_Clock_init 2 none 1 := ⟨tw_582, tw_114, by decide, by decide, by decide +kernel⟩
def w1_Clock_init (t : Nat → ClassId) (a0 : Nat) (a1 : Nat) (r : Nat → Nat) : va_W := [(a0, .inr (1, [.ref a1]))]
set_option maxHeartbeats 1000000 in
set_option maxRecDepth 100000 in
theorem c_Clock_init (l : Launch) (D : va_G) (t : Nat → ClassId) (a0 : Nat) (a1 : Nat) : ab_kn l D (tyC t) y_Clock_init b_Clock_init 2 { frames := 1, cells := 0, slots := 0, locals := 12 } [.ref a0, .ref a1] [(a0, .inr (1, [.null]))] (w1_Clock_init t a0 a1) := by
  refine ab_kn_ofW (by decide) rfl (Nat.le_of_ble_eq_true rfl) (fun p e s m below meth c ls A X hE hr hk hl hX => ?_)
  have hl : lv_has ls 2 [(0, .ref a0), (1, .ref a1)] := hl
  refine lv_aload_n (pc := 0) X.1 X.2.1 d_Clock_init_0 rfl (lv_at hl 0 rfl) ?_
  refine ab_obj (pc := 1) X hl.1 ⟨tw_583, tw_571, tw_572⟩ ⟨Nat.le_of_ble_eq_true rfl, Nat.le_of_ble_eq_true rfl⟩ d_Clock_init_1 ?_
  refine lv_aload_n (pc := 4) X.1 X.2.1 d_Clock_init_4 rfl (lv_at hl 0 rfl) ?_
  refine lv_aload_n (pc := 5) X.1 X.2.1 d_Clock_init_5 rfl (lv_at hl 1 rfl) ?_
  refine ab_pxF (pc := 6) (ws' := [(a0, .inr (1, [.ref a1]))]) X hX hE.2 0 1 0 ty_Clock ty_Clock_ok nm_Clock rfl rfl (Nat.le_of_ble_eq_true rfl) in_Clock rfl tw_117 rfl rfl rfl rfl rfl (Nat.le_of_ble_eq_true rfl) rfl d_Clock_init_6 (fun H locs hX => ?_)
  exact ab_kn_ret (fun k => ([] : List Nat).getD k 0) X hr hk hX d_Clock_init_9
abbrev b_Arithmetic_init : ByteArray := prog_2_method_1_code
def y_Arithmetic_init : MethodName := ⟨"ArcadeBoard$Arithmetic", "<init>", "(LArcadeBoard$State;)V"⟩
theorem d_Arithmetic_init_0 : decode b_Arithmetic_init 0 = .ok (.aload_n 0, 1) := by decide +kernel
theorem d_Arithmetic_init_1 : decode b_Arithmetic_init 1 = .ok (.invokespecial 3, 3) := by decide +kernel
theorem d_Arithmetic_init_4 : decode b_Arithmetic_init 4 = .ok (.aload_n 0, 1) := by decide +kernel
theorem d_Arithmetic_init_5 : decode b_Arithmetic_init 5 = .ok (.aload_n 1, 1) := by decide +kernel
theorem d_Arithmetic_init_6 : decode b_Arithmetic_init 6 = .ok (.putfield 9, 3) := by decide +kernel
theorem d_Arithmetic_init_9 : decode b_Arithmetic_init 9 = .ok (.return_, 1) := by decide +kernel
theorem tw_584 : Jvm.Cond.code ⟨"ArcadeBoard$Arithmetic", "<init>", "(LArcadeBoard$State;)V"⟩ prog_2_method_1_code 2 (Option.none : Option Jvm.ClassFile.FieldType) ∈ AL := ab_in (ab_t1 (List.mem_of_getElem? (i := 205) (by decide +kernel))) rfl
theorem tw_585 : Jvm.Cond.methodLink "ArcadeBoard$Arithmetic" 3 ⟨"java/lang/Object", "<init>", "()V"⟩ ∈ AL := ab_in (ab_t1 (List.mem_of_getElem? (i := 206) (by decide +kernel))) rfl
theorem ok_Arithmetic_init : ab_yok y_Arithmetic_init b_Arithmetic_init 2 none 1 := ⟨tw_584, tw_58, by decide, by decide, by decide +kernel⟩
def w1_Arithmetic_init (t : Nat → ClassId) (a0 : Nat) (a1 : Nat) (r : Nat → Nat) : va_W := [(a0, .inr (0, [.ref a1]))]
set_option maxHeartbeats 1000000 in
set_option maxRecDepth 100000 in
theorem c_Arithmetic_init (l : Launch) (D : va_G) (t : Nat → ClassId) (a0 : Nat) (a1 : Nat) : ab_kn l D (tyC t) y_Arithmetic_init b_Arithmetic_init 2 { frames := 1, cells := 0, slots := 0, locals := 12 } [.ref a0, .ref a1] [(a0, .inr (0, [.null]))] (w1_Arithmetic_init t a0 a1) := by
  refine ab_kn_ofW (by decide) rfl (Nat.le_of_ble_eq_true rfl) (fun p e s m below meth c ls A X hE hr hk hl hX => ?_)
  have hl : lv_has ls 2 [(0, .ref a0), (1, .ref a1)] := hl
  refine lv_aload_n (pc := 0) X.1 X.2.1 d_Arithmetic_init_0 rfl (lv_at hl 0 rfl) ?_
  refine ab_obj (pc := 1) X hl.1 ⟨tw_585, tw_571, tw_572⟩ ⟨Nat.le_of_ble_eq_true rfl, Nat.le_of_ble_eq_true rfl⟩ d_Arithmetic_init_1 ?_
  refine lv_aload_n (pc := 4) X.1 X.2.1 d_Arithmetic_init_4 rfl (lv_at hl 0 rfl) ?_
  refine lv_aload_n (pc := 5) X.1 X.2.1 d_Arithmetic_init_5 rfl (lv_at hl 1 rfl) ?_
  refine ab_pxF (pc := 6) (ws' := [(a0, .inr (0, [.ref a1]))]) X hX hE.2 0 0 0 ty_Arithmetic ty_Arithmetic_ok nm_Arithmetic rfl rfl (Nat.le_of_ble_eq_true rfl) in_Arithmetic rfl tw_61 rfl rfl rfl rfl rfl (Nat.le_of_ble_eq_true rfl) rfl d_Arithmetic_init_6 (fun H locs hX => ?_)
  exact ab_kn_ret (fun k => ([] : List Nat).getD k 0) X hr hk hX d_Arithmetic_init_9
abbrev b_Processor_init : ByteArray := prog_6_method_1_code
def y_Processor_init : MethodName := ⟨"ArcadeBoard$Processor", "<init>", "(LArcadeBoard$State;LArcadeBoard$Memory;LArcadeBoard$Registers;LArcadeBoard$Ports;LArcadeBoard$Clock;)V"⟩
theorem d_Processor_init_0 : decode b_Processor_init 0 = .ok (.aload_n 0, 1) := by decide +kernel
theorem d_Processor_init_1 : decode b_Processor_init 1 = .ok (.invokespecial 3, 3) := by decide +kernel
theorem d_Processor_init_4 : decode b_Processor_init 4 = .ok (.aload_n 0, 1) := by decide +kernel
theorem d_Processor_init_5 : decode b_Processor_init 5 = .ok (.aload_n 1, 1) := by decide +kernel
theorem d_Processor_init_6 : decode b_Processor_init 6 = .ok (.putfield 9, 3) := by decide +kernel
theorem d_Processor_init_9 : decode b_Processor_init 9 = .ok (.aload_n 0, 1) := by decide +kernel
theorem d_Processor_init_10 : decode b_Processor_init 10 = .ok (.aload_n 2, 1) := by decide +kernel
theorem d_Processor_init_11 : decode b_Processor_init 11 = .ok (.putfield 15, 3) := by decide +kernel
theorem d_Processor_init_14 : decode b_Processor_init 14 = .ok (.aload_n 0, 1) := by decide +kernel
theorem d_Processor_init_15 : decode b_Processor_init 15 = .ok (.aload_n 3, 1) := by decide +kernel
theorem d_Processor_init_16 : decode b_Processor_init 16 = .ok (.putfield 19, 3) := by decide +kernel
theorem d_Processor_init_19 : decode b_Processor_init 19 = .ok (.aload_n 0, 1) := by decide +kernel
theorem d_Processor_init_20 : decode b_Processor_init 20 = .ok (.new 23, 3) := by decide +kernel
theorem d_Processor_init_23 : decode b_Processor_init 23 = .ok (.dup, 1) := by decide +kernel
theorem d_Processor_init_24 : decode b_Processor_init 24 = .ok (.aload_n 1, 1) := by decide +kernel
theorem d_Processor_init_25 : decode b_Processor_init 25 = .ok (.invokespecial 25, 3) := by decide +kernel
theorem d_Processor_init_28 : decode b_Processor_init 28 = .ok (.putfield 28, 3) := by decide +kernel
theorem d_Processor_init_31 : decode b_Processor_init 31 = .ok (.aload_n 0, 1) := by decide +kernel
theorem d_Processor_init_32 : decode b_Processor_init 32 = .ok (.aload 4, 2) := by decide +kernel
theorem d_Processor_init_34 : decode b_Processor_init 34 = .ok (.putfield 32, 3) := by decide +kernel
theorem d_Processor_init_37 : decode b_Processor_init 37 = .ok (.aload_n 0, 1) := by decide +kernel
theorem d_Processor_init_38 : decode b_Processor_init 38 = .ok (.aload 5, 2) := by decide +kernel
theorem d_Processor_init_40 : decode b_Processor_init 40 = .ok (.putfield 36, 3) := by decide +kernel
theorem d_Processor_init_43 : decode b_Processor_init 43 = .ok (.return_, 1) := by decide +kernel
theorem tw_586 : Jvm.Cond.code ⟨"ArcadeBoard$Processor", "<init>", "(LArcadeBoard$State;LArcadeBoard$Memory;LArcadeBoard$Registers;LArcadeBoard$Ports;LArcadeBoard$Clock;)V"⟩ prog_6_method_1_code 6 (Option.none : Option Jvm.ClassFile.FieldType) ∈ AL := ab_in (ab_t1 (List.mem_of_getElem? (i := 199) (by decide +kernel))) rfl
theorem tw_587 : Jvm.Cond.methodLink "ArcadeBoard$Processor" 3 ⟨"java/lang/Object", "<init>", "()V"⟩ ∈ AL := ab_in (ab_t1 (List.mem_of_getElem? (i := 200) (by decide +kernel))) rfl
theorem tw_588 : Jvm.Cond.classLink "ArcadeBoard$Processor" 23 "ArcadeBoard$Arithmetic" ∈ AL := ab_in (ab_t1 (List.mem_of_getElem? (i := 201) (by decide +kernel))) rfl
theorem tw_589 : Jvm.Cond.instantiable "ArcadeBoard$Arithmetic" 1 ∈ AL := ab_in (ab_t1 (List.mem_of_getElem? (i := 202) (by decide +kernel))) rfl
theorem tw_590 : Jvm.Cond.instanceMethod ⟨"ArcadeBoard$Arithmetic", "<init>", "(LArcadeBoard$State;)V"⟩ ∈ AL := ab_in (ab_t1 (List.mem_of_getElem? (i := 204) (by decide +kernel))) rfl
theorem tw_591 : Jvm.Cond.methodLink "ArcadeBoard$Processor" 25 ⟨"ArcadeBoard$Arithmetic", "<init>", "(LArcadeBoard$State;)V"⟩ ∈ AL := ab_in (ab_t1 (List.mem_of_getElem? (i := 203) (by decide +kernel))) rfl
theorem ok_Processor_init : ab_yok y_Processor_init b_Processor_init 6 none 5 := ⟨tw_586, tw_170, by decide, by decide, by decide +kernel⟩
def w1_Processor_init (t : Nat → ClassId) (a0 : Nat) (a1 : Nat) (a2 : Nat) (a3 : Nat) (a4 : Nat) (a5 : Nat) (r : Nat → Nat) : va_W := [(a0, .inr (4, [.ref a1, .ref a2, .ref a3, .ref (r 0), .ref a4, .ref a5])), ((r 0), .inr (0, [.ref a1]))]
set_option maxHeartbeats 1000000 in
set_option maxRecDepth 100000 in
theorem c_Processor_init (l : Launch) (D : va_G) (t : Nat → ClassId) (a0 : Nat) (a1 : Nat) (a2 : Nat) (a3 : Nat) (a4 : Nat) (a5 : Nat) : ab_kn l D (tyC t) y_Processor_init b_Processor_init 6 { frames := 2, cells := 1, slots := 1, locals := 33 } [.ref a0, .ref a1, .ref a2, .ref a3, .ref a4, .ref a5] [(a0, .inr (4, [.null, .null, .null, .null, .null, .null]))] (w1_Processor_init t a0 a1 a2 a3 a4 a5) := by
  refine ab_kn_ofW (by decide) rfl (Nat.le_of_ble_eq_true rfl) (fun p e s m below meth c ls A X hE hr hk hl hX => ?_)
  have hl : lv_has ls 6 [(0, .ref a0), (1, .ref a1), (2, .ref a2), (3, .ref a3), (4, .ref a4), (5, .ref a5)] := hl
  refine lv_aload_n (pc := 0) X.1 X.2.1 d_Processor_init_0 rfl (lv_at hl 0 rfl) ?_
  refine ab_obj (pc := 1) X hl.1 ⟨tw_587, tw_571, tw_572⟩ ⟨Nat.le_of_ble_eq_true rfl, Nat.le_of_ble_eq_true rfl⟩ d_Processor_init_1 ?_
  refine lv_aload_n (pc := 4) X.1 X.2.1 d_Processor_init_4 rfl (lv_at hl 0 rfl) ?_
  refine lv_aload_n (pc := 5) X.1 X.2.1 d_Processor_init_5 rfl (lv_at hl 1 rfl) ?_
  refine ab_pxF (pc := 6) (ws' := [(a0, .inr (4, [.ref a1, .null, .null, .null, .null, .null]))]) X hX hE.2 0 4 0 ty_Processor ty_Processor_ok nm_Processor rfl rfl (Nat.le_of_ble_eq_true rfl) in_Processor rfl tw_174 rfl rfl rfl rfl rfl (Nat.le_of_ble_eq_true rfl) rfl d_Processor_init_6 (fun H locs hX => ?_)
  refine lv_aload_n (pc := 9) X.1 X.2.1 d_Processor_init_9 rfl (lv_at hl 0 rfl) ?_
  refine lv_aload_n (pc := 10) X.1 X.2.1 d_Processor_init_10 rfl (lv_at hl 2 rfl) ?_
  refine ab_pxF (pc := 11) (ws' := [(a0, .inr (4, [.ref a1, .ref a2, .null, .null, .null, .null]))]) X hX hE.2 0 4 1 ty_Processor ty_Processor_ok nm_Processor rfl rfl (Nat.le_of_ble_eq_true rfl) in_Processor rfl tw_173 rfl rfl rfl rfl rfl (Nat.le_of_ble_eq_true rfl) rfl d_Processor_init_11 (fun H locs hX => ?_)
  refine lv_aload_n (pc := 14) X.1 X.2.1 d_Processor_init_14 rfl (lv_at hl 0 rfl) ?_
  refine lv_aload_n (pc := 15) X.1 X.2.1 d_Processor_init_15 rfl (lv_at hl 3 rfl) ?_
  refine ab_pxF (pc := 16) (ws' := [(a0, .inr (4, [.ref a1, .ref a2, .ref a3, .null, .null, .null]))]) X hX hE.2 0 4 2 ty_Processor ty_Processor_ok nm_Processor rfl rfl (Nat.le_of_ble_eq_true rfl) in_Processor rfl tw_196 rfl rfl rfl rfl rfl (Nat.le_of_ble_eq_true rfl) rfl d_Processor_init_16 (fun H locs hX => ?_)
  refine lv_aload_n (pc := 19) X.1 X.2.1 d_Processor_init_19 rfl (lv_at hl 0 rfl) ?_
  refine ab_new (pc := 20) (fs := [.null]) X hX 0 rfl in_Arithmetic ty_Arithmetic ty_Arithmetic_ok ⟨tw_588, tw_589, tw_58⟩ (by decide +kernel) ⟨Nat.le_of_ble_eq_true rfl, Nat.le_of_ble_eq_true rfl⟩ d_Processor_init_20 (fun q20 H hX => ?_)
  have hX : ab_hx D [(a0, .inr (4, [.ref a1, .ref a2, .ref a3, .null, .null, .null])), (q20, .inr (0, [.null]))] A s.heap _ _ := hX
  refine lv_dup (pc := 23) X.1 X.2.1 d_Processor_init_23 rfl ?_
  refine lv_aload_n (pc := 24) X.1 X.2.1 d_Processor_init_24 rfl (lv_at hl 1 rfl) ?_
  refine ab_kn_callI (pc := 25) (wr := [(a0, .inr (4, [.ref a1, .ref a2, .ref a3, .null, .null, .null]))]) (wc := [(q20, .inr (0, [.null]))]) (as := [.ref a1]) (rest := [.ref q20, .ref a0]) X hX hE.1 (c_Arithmetic_init l D t q20 a1) ok_Arithmetic_init tw_590 tw_591 rfl rfl hl.1 rfl (Nat.le_of_ble_eq_true rfl) ⟨Nat.le_of_ble_eq_true rfl, Nat.le_of_ble_eq_true rfl⟩ ⟨Nat.le_of_ble_eq_true rfl, Nat.le_of_ble_eq_true rfl⟩ d_Processor_init_25 (fun r25 H locs hX => ?_)
  have hX : ab_hx D [(a0, .inr (4, [.ref a1, .ref a2, .ref a3, .null, .null, .null])), (q20, .inr (0, [.ref a1]))] A s.heap _ _ := hX
  refine ab_pxF (pc := 28) (ws' := [(a0, .inr (4, [.ref a1, .ref a2, .ref a3, .ref q20, .null, .null])), (q20, .inr (0, [.ref a1]))]) X hX hE.2 0 4 3 ty_Processor ty_Processor_ok nm_Processor rfl rfl (Nat.le_of_ble_eq_true rfl) in_Processor rfl tw_195 rfl rfl rfl rfl rfl (Nat.le_of_ble_eq_true rfl) rfl d_Processor_init_28 (fun H locs hX => ?_)
  refine lv_aload_n (pc := 31) X.1 X.2.1 d_Processor_init_31 rfl (lv_at hl 0 rfl) ?_
  refine lv_aload (pc := 32) X.1 X.2.1 d_Processor_init_32 (lv_at hl 4 rfl) ?_
  refine ab_pxF (pc := 34) (ws' := [(a0, .inr (4, [.ref a1, .ref a2, .ref a3, .ref q20, .ref a4, .null])), (q20, .inr (0, [.ref a1]))]) X hX hE.2 0 4 4 ty_Processor ty_Processor_ok nm_Processor rfl rfl (Nat.le_of_ble_eq_true rfl) in_Processor rfl tw_245 rfl rfl rfl rfl rfl (Nat.le_of_ble_eq_true rfl) rfl d_Processor_init_34 (fun H locs hX => ?_)
  refine lv_aload_n (pc := 37) X.1 X.2.1 d_Processor_init_37 rfl (lv_at hl 0 rfl) ?_
  refine lv_aload (pc := 38) X.1 X.2.1 d_Processor_init_38 (lv_at hl 5 rfl) ?_
  refine ab_pxF (pc := 40) (ws' := [(a0, .inr (4, [.ref a1, .ref a2, .ref a3, .ref q20, .ref a4, .ref a5])), (q20, .inr (0, [.ref a1]))]) X hX hE.2 0 4 5 ty_Processor ty_Processor_ok nm_Processor rfl rfl (Nat.le_of_ble_eq_true rfl) in_Processor rfl tw_277 rfl rfl rfl rfl rfl (Nat.le_of_ble_eq_true rfl) rfl d_Processor_init_40 (fun H locs hX => ?_)
  exact ab_kn_ret (fun k => ([q20] : List Nat).getD k 0) X hr hk hX d_Processor_init_43
abbrev b_AB_init : ByteArray := prog_1_method_1_code
def y_AB_init : MethodName := ⟨"ArcadeBoard", "<init>", "()V"⟩
theorem d_AB_init_0 : decode b_AB_init 0 = .ok (.aload_n 0, 1) := by decide +kernel
theorem d_AB_init_1 : decode b_AB_init 1 = .ok (.invokespecial 1, 3) := by decide +kernel
theorem d_AB_init_4 : decode b_AB_init 4 = .ok (.aload_n 0, 1) := by decide +kernel
theorem d_AB_init_5 : decode b_AB_init 5 = .ok (.new 7, 3) := by decide +kernel
theorem d_AB_init_8 : decode b_AB_init 8 = .ok (.dup, 1) := by decide +kernel
theorem d_AB_init_9 : decode b_AB_init 9 = .ok (.invokespecial 9, 3) := by decide +kernel
theorem d_AB_init_12 : decode b_AB_init 12 = .ok (.putfield 10, 3) := by decide +kernel
theorem d_AB_init_15 : decode b_AB_init 15 = .ok (.aload_n 0, 1) := by decide +kernel
theorem d_AB_init_16 : decode b_AB_init 16 = .ok (.new 16, 3) := by decide +kernel
theorem d_AB_init_19 : decode b_AB_init 19 = .ok (.dup, 1) := by decide +kernel
theorem d_AB_init_20 : decode b_AB_init 20 = .ok (.aload_n 0, 1) := by decide +kernel
theorem d_AB_init_21 : decode b_AB_init 21 = .ok (.getfield 10, 3) := by decide +kernel
theorem d_AB_init_24 : decode b_AB_init 24 = .ok (.invokespecial 18, 3) := by decide +kernel
theorem d_AB_init_27 : decode b_AB_init 27 = .ok (.putfield 21, 3) := by decide +kernel
theorem d_AB_init_30 : decode b_AB_init 30 = .ok (.aload_n 0, 1) := by decide +kernel
theorem d_AB_init_31 : decode b_AB_init 31 = .ok (.new 25, 3) := by decide +kernel
theorem d_AB_init_34 : decode b_AB_init 34 = .ok (.dup, 1) := by decide +kernel
theorem d_AB_init_35 : decode b_AB_init 35 = .ok (.aload_n 0, 1) := by decide +kernel
theorem d_AB_init_36 : decode b_AB_init 36 = .ok (.getfield 10, 3) := by decide +kernel
theorem d_AB_init_39 : decode b_AB_init 39 = .ok (.aload_n 0, 1) := by decide +kernel
theorem d_AB_init_40 : decode b_AB_init 40 = .ok (.getfield 21, 3) := by decide +kernel
theorem d_AB_init_43 : decode b_AB_init 43 = .ok (.invokespecial 27, 3) := by decide +kernel
theorem d_AB_init_46 : decode b_AB_init 46 = .ok (.putfield 30, 3) := by decide +kernel
theorem d_AB_init_49 : decode b_AB_init 49 = .ok (.aload_n 0, 1) := by decide +kernel
theorem d_AB_init_50 : decode b_AB_init 50 = .ok (.new 34, 3) := by decide +kernel
theorem d_AB_init_53 : decode b_AB_init 53 = .ok (.dup, 1) := by decide +kernel
theorem d_AB_init_54 : decode b_AB_init 54 = .ok (.invokespecial 36, 3) := by decide +kernel
theorem d_AB_init_57 : decode b_AB_init 57 = .ok (.putfield 37, 3) := by decide +kernel
theorem d_AB_init_60 : decode b_AB_init 60 = .ok (.aload_n 0, 1) := by decide +kernel
theorem d_AB_init_61 : decode b_AB_init 61 = .ok (.new 41, 3) := by decide +kernel
theorem d_AB_init_64 : decode b_AB_init 64 = .ok (.dup, 1) := by decide +kernel
theorem d_AB_init_65 : decode b_AB_init 65 = .ok (.aload_n 0, 1) := by decide +kernel
theorem d_AB_init_66 : decode b_AB_init 66 = .ok (.getfield 10, 3) := by decide +kernel
theorem d_AB_init_69 : decode b_AB_init 69 = .ok (.aload_n 0, 1) := by decide +kernel
theorem d_AB_init_70 : decode b_AB_init 70 = .ok (.getfield 37, 3) := by decide +kernel
theorem d_AB_init_73 : decode b_AB_init 73 = .ok (.invokespecial 43, 3) := by decide +kernel
theorem d_AB_init_76 : decode b_AB_init 76 = .ok (.putfield 46, 3) := by decide +kernel
theorem d_AB_init_79 : decode b_AB_init 79 = .ok (.aload_n 0, 1) := by decide +kernel
theorem d_AB_init_80 : decode b_AB_init 80 = .ok (.new 50, 3) := by decide +kernel
theorem d_AB_init_83 : decode b_AB_init 83 = .ok (.dup, 1) := by decide +kernel
theorem d_AB_init_84 : decode b_AB_init 84 = .ok (.aload_n 0, 1) := by decide +kernel
theorem d_AB_init_85 : decode b_AB_init 85 = .ok (.getfield 10, 3) := by decide +kernel
theorem d_AB_init_88 : decode b_AB_init 88 = .ok (.invokespecial 52, 3) := by decide +kernel
theorem d_AB_init_91 : decode b_AB_init 91 = .ok (.putfield 53, 3) := by decide +kernel
theorem d_AB_init_94 : decode b_AB_init 94 = .ok (.aload_n 0, 1) := by decide +kernel
theorem d_AB_init_95 : decode b_AB_init 95 = .ok (.new 57, 3) := by decide +kernel
theorem d_AB_init_98 : decode b_AB_init 98 = .ok (.dup, 1) := by decide +kernel
theorem d_AB_init_99 : decode b_AB_init 99 = .ok (.aload_n 0, 1) := by decide +kernel
theorem d_AB_init_100 : decode b_AB_init 100 = .ok (.getfield 10, 3) := by decide +kernel
theorem d_AB_init_103 : decode b_AB_init 103 = .ok (.aload_n 0, 1) := by decide +kernel
theorem d_AB_init_104 : decode b_AB_init 104 = .ok (.getfield 21, 3) := by decide +kernel
theorem d_AB_init_107 : decode b_AB_init 107 = .ok (.aload_n 0, 1) := by decide +kernel
theorem d_AB_init_108 : decode b_AB_init 108 = .ok (.getfield 30, 3) := by decide +kernel
theorem d_AB_init_111 : decode b_AB_init 111 = .ok (.aload_n 0, 1) := by decide +kernel
theorem d_AB_init_112 : decode b_AB_init 112 = .ok (.getfield 46, 3) := by decide +kernel
theorem d_AB_init_115 : decode b_AB_init 115 = .ok (.aload_n 0, 1) := by decide +kernel
theorem d_AB_init_116 : decode b_AB_init 116 = .ok (.getfield 53, 3) := by decide +kernel
theorem d_AB_init_119 : decode b_AB_init 119 = .ok (.invokespecial 59, 3) := by decide +kernel
theorem d_AB_init_122 : decode b_AB_init 122 = .ok (.putfield 62, 3) := by decide +kernel
theorem d_AB_init_125 : decode b_AB_init 125 = .ok (.aload_n 0, 1) := by decide +kernel
theorem d_AB_init_126 : decode b_AB_init 126 = .ok (.iconst 2, 1) := by decide +kernel
theorem d_AB_init_127 : decode b_AB_init 127 = .ok (.anewarray 7, 3) := by decide +kernel
theorem d_AB_init_130 : decode b_AB_init 130 = .ok (.dup, 1) := by decide +kernel
theorem d_AB_init_131 : decode b_AB_init 131 = .ok (.iconst 0, 1) := by decide +kernel
theorem d_AB_init_132 : decode b_AB_init 132 = .ok (.new 7, 3) := by decide +kernel
theorem d_AB_init_135 : decode b_AB_init 135 = .ok (.dup, 1) := by decide +kernel
theorem d_AB_init_136 : decode b_AB_init 136 = .ok (.invokespecial 9, 3) := by decide +kernel
theorem d_AB_init_139 : decode b_AB_init 139 = .ok (.aastore, 1) := by decide +kernel
theorem d_AB_init_140 : decode b_AB_init 140 = .ok (.dup, 1) := by decide +kernel
theorem d_AB_init_141 : decode b_AB_init 141 = .ok (.iconst 1, 1) := by decide +kernel
theorem d_AB_init_142 : decode b_AB_init 142 = .ok (.new 7, 3) := by decide +kernel
theorem d_AB_init_145 : decode b_AB_init 145 = .ok (.dup, 1) := by decide +kernel
theorem d_AB_init_146 : decode b_AB_init 146 = .ok (.invokespecial 9, 3) := by decide +kernel
theorem d_AB_init_149 : decode b_AB_init 149 = .ok (.aastore, 1) := by decide +kernel
theorem d_AB_init_150 : decode b_AB_init 150 = .ok (.putfield 66, 3) := by decide +kernel
theorem d_AB_init_153 : decode b_AB_init 153 = .ok (.aload_n 0, 1) := by decide +kernel
theorem d_AB_init_154 : decode b_AB_init 154 = .ok (.iconst 2, 1) := by decide +kernel
theorem d_AB_init_155 : decode b_AB_init 155 = .ok (.newarray .boolean, 2) := by decide +kernel
theorem d_AB_init_157 : decode b_AB_init 157 = .ok (.putfield 70, 3) := by decide +kernel
theorem d_AB_init_160 : decode b_AB_init 160 = .ok (.aload_n 0, 1) := by decide +kernel
theorem d_AB_init_161 : decode b_AB_init 161 = .ok (.iconst 0, 1) := by decide +kernel
theorem d_AB_init_162 : decode b_AB_init 162 = .ok (.putfield 74, 3) := by decide +kernel
theorem d_AB_init_165 : decode b_AB_init 165 = .ok (.return_, 1) := by decide +kernel
theorem tw_592 : Jvm.Cond.code ⟨"ArcadeBoard", "<init>", "()V"⟩ prog_1_method_1_code 1 (Option.none : Option Jvm.ClassFile.FieldType) ∈ AL := ab_in (ab_t1 (List.mem_of_getElem? (i := 22) (by decide +kernel))) rfl
theorem tw_593 : Jvm.Cond.methodLink "ArcadeBoard" 1 ⟨"java/lang/Object", "<init>", "()V"⟩ ∈ AL := ab_in (ab_t1 (List.mem_of_getElem? (i := 23) (by decide +kernel))) rfl
theorem tw_594 : Jvm.Cond.classLink "ArcadeBoard" 7 "ArcadeBoard$State" ∈ AL := ab_in (ab_t1 (List.mem_of_getElem? (i := 26) (by decide +kernel))) rfl
theorem tw_595 : Jvm.Cond.instantiable "ArcadeBoard$State" 17 ∈ AL := ab_in (ab_t1 (List.mem_of_getElem? (i := 27) (by decide +kernel))) rfl
theorem tw_596 : Jvm.Cond.instanceMethod ⟨"ArcadeBoard$State", "<init>", "()V"⟩ ∈ AL := ab_in (ab_t1 (List.mem_of_getElem? (i := 29) (by decide +kernel))) rfl
theorem tw_597 : Jvm.Cond.classLink "ArcadeBoard" 16 "ArcadeBoard$Memory" ∈ AL := ab_in (ab_t1 (List.mem_of_getElem? (i := 127) (by decide +kernel))) rfl
theorem tw_598 : Jvm.Cond.instantiable "ArcadeBoard$Memory" 2 ∈ AL := ab_in (ab_t1 (List.mem_of_getElem? (i := 128) (by decide +kernel))) rfl
theorem tw_599 : Jvm.Cond.instanceMethod ⟨"ArcadeBoard$Memory", "<init>", "(LArcadeBoard$State;)V"⟩ ∈ AL := ab_in (ab_t1 (List.mem_of_getElem? (i := 130) (by decide +kernel))) rfl
theorem tw_600 : Jvm.Cond.methodLink "ArcadeBoard" 18 ⟨"ArcadeBoard$Memory", "<init>", "(LArcadeBoard$State;)V"⟩ ∈ AL := ab_in (ab_t1 (List.mem_of_getElem? (i := 129) (by decide +kernel))) rfl
theorem tw_601 : Jvm.Cond.classLink "ArcadeBoard" 25 "ArcadeBoard$Registers" ∈ AL := ab_in (ab_t1 (List.mem_of_getElem? (i := 140) (by decide +kernel))) rfl
theorem tw_602 : Jvm.Cond.instantiable "ArcadeBoard$Registers" 2 ∈ AL := ab_in (ab_t1 (List.mem_of_getElem? (i := 141) (by decide +kernel))) rfl
theorem tw_603 : Jvm.Cond.instanceMethod ⟨"ArcadeBoard$Registers", "<init>", "(LArcadeBoard$State;LArcadeBoard$Memory;)V"⟩ ∈ AL := ab_in (ab_t1 (List.mem_of_getElem? (i := 143) (by decide +kernel))) rfl
theorem tw_604 : Jvm.Cond.methodLink "ArcadeBoard" 27 ⟨"ArcadeBoard$Registers", "<init>", "(LArcadeBoard$State;LArcadeBoard$Memory;)V"⟩ ∈ AL := ab_in (ab_t1 (List.mem_of_getElem? (i := 142) (by decide +kernel))) rfl
theorem tw_605 : Jvm.Cond.classLink "ArcadeBoard" 34 "ArcadeBoard$Sounds" ∈ AL := ab_in (ab_t1 (List.mem_of_getElem? (i := 153) (by decide +kernel))) rfl
theorem tw_606 : Jvm.Cond.instantiable "ArcadeBoard$Sounds" 2 ∈ AL := ab_in (ab_t1 (List.mem_of_getElem? (i := 154) (by decide +kernel))) rfl
theorem tw_607 : Jvm.Cond.instanceMethod ⟨"ArcadeBoard$Sounds", "<init>", "()V"⟩ ∈ AL := ab_in (ab_t1 (List.mem_of_getElem? (i := 156) (by decide +kernel))) rfl
theorem tw_608 : Jvm.Cond.classLink "ArcadeBoard" 41 "ArcadeBoard$Ports" ∈ AL := ab_in (ab_t1 (List.mem_of_getElem? (i := 166) (by decide +kernel))) rfl
theorem tw_609 : Jvm.Cond.instantiable "ArcadeBoard$Ports" 4 ∈ AL := ab_in (ab_t1 (List.mem_of_getElem? (i := 167) (by decide +kernel))) rfl
theorem tw_610 : Jvm.Cond.instanceMethod ⟨"ArcadeBoard$Ports", "<init>", "(LArcadeBoard$State;LArcadeBoard$Sounds;)V"⟩ ∈ AL := ab_in (ab_t1 (List.mem_of_getElem? (i := 169) (by decide +kernel))) rfl
theorem tw_611 : Jvm.Cond.methodLink "ArcadeBoard" 43 ⟨"ArcadeBoard$Ports", "<init>", "(LArcadeBoard$State;LArcadeBoard$Sounds;)V"⟩ ∈ AL := ab_in (ab_t1 (List.mem_of_getElem? (i := 168) (by decide +kernel))) rfl
theorem tw_612 : Jvm.Cond.classLink "ArcadeBoard" 50 "ArcadeBoard$Clock" ∈ AL := ab_in (ab_t1 (List.mem_of_getElem? (i := 185) (by decide +kernel))) rfl
theorem tw_613 : Jvm.Cond.instantiable "ArcadeBoard$Clock" 1 ∈ AL := ab_in (ab_t1 (List.mem_of_getElem? (i := 186) (by decide +kernel))) rfl
theorem tw_614 : Jvm.Cond.instanceMethod ⟨"ArcadeBoard$Clock", "<init>", "(LArcadeBoard$State;)V"⟩ ∈ AL := ab_in (ab_t1 (List.mem_of_getElem? (i := 188) (by decide +kernel))) rfl
theorem tw_615 : Jvm.Cond.methodLink "ArcadeBoard" 52 ⟨"ArcadeBoard$Clock", "<init>", "(LArcadeBoard$State;)V"⟩ ∈ AL := ab_in (ab_t1 (List.mem_of_getElem? (i := 187) (by decide +kernel))) rfl
theorem tw_616 : Jvm.Cond.classLink "ArcadeBoard" 57 "ArcadeBoard$Processor" ∈ AL := ab_in (ab_t1 (List.mem_of_getElem? (i := 195) (by decide +kernel))) rfl
theorem tw_617 : Jvm.Cond.instantiable "ArcadeBoard$Processor" 6 ∈ AL := ab_in (ab_t1 (List.mem_of_getElem? (i := 196) (by decide +kernel))) rfl
theorem tw_618 : Jvm.Cond.instanceMethod ⟨"ArcadeBoard$Processor", "<init>", "(LArcadeBoard$State;LArcadeBoard$Memory;LArcadeBoard$Registers;LArcadeBoard$Ports;LArcadeBoard$Clock;)V"⟩ ∈ AL := ab_in (ab_t1 (List.mem_of_getElem? (i := 198) (by decide +kernel))) rfl
theorem tw_619 : Jvm.Cond.methodLink "ArcadeBoard" 59 ⟨"ArcadeBoard$Processor", "<init>", "(LArcadeBoard$State;LArcadeBoard$Memory;LArcadeBoard$Registers;LArcadeBoard$Ports;LArcadeBoard$Clock;)V"⟩ ∈ AL := ab_in (ab_t1 (List.mem_of_getElem? (i := 197) (by decide +kernel))) rfl
theorem tw_620 : Jvm.Cond.arrayClass Jvm.ClassFile.FieldType.boolean ∈ AL := ab_in (ab_t2 (List.mem_of_getElem? (i := 22) (by decide +kernel))) rfl
theorem ok_AB_init : ab_yok y_AB_init b_AB_init 1 none 0 := ⟨tw_592, tw_492, by decide, by decide, by decide +kernel⟩
def w1_AB_init (t : Nat → ClassId) (a0 : Nat) (r : Nat → Nat) : va_W := [(a0, .inr (8, [.ref (r 0), .ref (r 3), .ref (r 5), .ref (r 6), .ref (r 8), .ref (r 9), .ref (r 10), .ref (r 12), .ref (r 19), .int 0])), ((r 0), .inr (7, [.ref (r 1), .ref (r 2), .int 2, .int 0, .int 0, .int 0, .int 0, .int 0, .int 0, .int 0, .int 0, .int 0, .int 0, .int 0, .int 0, .int 0, .int 0])), ((r 1), .inl (t 0, 512, .inl (fun _ => 0))), ((r 2), .inl (t 0, 8, .inl (fun _ => 0))), ((r 3), .inr (2, [.ref (r 4), .ref (r 0)])), ((r 4), .inl (t 0, 512, .inl (fun _ => 0))), ((r 5), .inr (5, [.ref (r 0), .ref (r 3)])), ((r 6), .inr (6, [.ref (r 7), .int 0])), ((r 7), .inl (t 0, 8, .inl (fun _ => 0))), ((r 8), .inr (3, [.ref (r 0), .ref (r 6), .int 0, .int 0])), ((r 9), .inr (1, [.ref (r 0)])), ((r 10), .inr (4, [.ref (r 0), .ref (r 3), .ref (r 5), .ref (r 11), .ref (r 8), .ref (r 9)])), ((r 11), .inr (0, [.ref (r 0)])), ((r 12), .inl (t 2, 2, .inr (.inr (.inr (.inr (va_up (va_up (fun _ => none) (0 : Int32).toNatClampNeg (some (r 13))) (1 : Int32).toNatClampNeg (some (r 16)))))))), ((r 13), .inr (7, [.ref (r 14), .ref (r 15), .int 2, .int 0, .int 0, .int 0, .int 0, .int 0, .int 0, .int 0, .int 0, .int 0, .int 0, .int 0, .int 0, .int 0, .int 0])), ((r 14), .inl (t 0, 512, .inl (fun _ => 0))), ((r 15), .inl (t 0, 8, .inl (fun _ => 0))), ((r 16), .inr (7, [.ref (r 17), .ref (r 18), .int 2, .int 0, .int 0, .int 0, .int 0, .int 0, .int 0, .int 0, .int 0, .int 0, .int 0, .int 0, .int 0, .int 0, .int 0])), ((r 17), .inl (t 0, 512, .inl (fun _ => 0))), ((r 18), .inl (t 0, 8, .inl (fun _ => 0))), ((r 19), .inl (t 1, 2, .inl (fun _ => 0)))]
set_option maxHeartbeats 1000000 in
set_option maxRecDepth 100000 in
theorem c_AB_init (l : Launch) (D : va_G) (t : Nat → ClassId) (a0 : Nat) : ab_kn l D (tyC t) y_AB_init b_AB_init 1 { frames := 3, cells := 20, slots := 2153, locals := 58 } [.ref a0] [(a0, .inr (8, [.null, .null, .null, .null, .null, .null, .null, .null, .null, .int 0]))] (w1_AB_init t a0) := by
  refine ab_kn_ofW (by decide) rfl (Nat.le_of_ble_eq_true rfl) (fun p e s m below meth c ls A X hE hr hk hl hX => ?_)
  have hl : lv_has ls 1 [(0, .ref a0)] := hl
  refine lv_aload_n (pc := 0) X.1 X.2.1 d_AB_init_0 rfl (lv_at hl 0 rfl) ?_
  refine ab_obj (pc := 1) X hl.1 ⟨tw_593, tw_571, tw_572⟩ ⟨Nat.le_of_ble_eq_true rfl, Nat.le_of_ble_eq_true rfl⟩ d_AB_init_1 ?_
  refine lv_aload_n (pc := 4) X.1 X.2.1 d_AB_init_4 rfl (lv_at hl 0 rfl) ?_
  refine ab_new (pc := 5) (fs := [.null, .null, .int 0, .int 0, .int 0, .int 0, .int 0, .int 0, .int 0, .int 0, .int 0, .int 0, .int 0, .int 0, .int 0, .int 0, .int 0]) X hX 7 rfl in_State ty_State ty_State_ok ⟨tw_594, tw_595, tw_467⟩ (by decide +kernel) ⟨Nat.le_of_ble_eq_true rfl, Nat.le_of_ble_eq_true rfl⟩ d_AB_init_5 (fun q5 H hX => ?_)
  have hX : ab_hx D [(a0, .inr (8, [.null, .null, .null, .null, .null, .null, .null, .null, .null, .int 0])), (q5, .inr (7, [.null, .null, .int 0, .int 0, .int 0, .int 0, .int 0, .int 0, .int 0, .int 0, .int 0, .int 0, .int 0, .int 0, .int 0, .int 0, .int 0]))] A s.heap _ _ := hX
  refine lv_dup (pc := 8) X.1 X.2.1 d_AB_init_8 rfl ?_
  refine ab_kn_callN (pc := 9) (wr := [(a0, .inr (8, [.null, .null, .null, .null, .null, .null, .null, .null, .null, .int 0]))]) (wc := [(q5, .inr (7, [.null, .null, .int 0, .int 0, .int 0, .int 0, .int 0, .int 0, .int 0, .int 0, .int 0, .int 0, .int 0, .int 0, .int 0, .int 0, .int 0]))]) (as := []) (rest := [.ref q5, .ref a0]) X hX hE.1 (c_State_init l D t q5) ok_State_init tw_596 hE.1.2.1 rfl rfl hl.1 rfl (Nat.le_of_ble_eq_true rfl) ⟨Nat.le_of_ble_eq_true rfl, Nat.le_of_ble_eq_true rfl⟩ ⟨Nat.le_of_ble_eq_true rfl, Nat.le_of_ble_eq_true rfl⟩ d_AB_init_9 (fun r9 H locs hX => ?_)
  have hX : ab_hx D [(a0, .inr (8, [.null, .null, .null, .null, .null, .null, .null, .null, .null, .int 0])), (q5, .inr (7, [.ref (r9 0), .ref (r9 1), .int 2, .int 0, .int 0, .int 0, .int 0, .int 0, .int 0, .int 0, .int 0, .int 0, .int 0, .int 0, .int 0, .int 0, .int 0])), ((r9 0), .inl (t 0, 512, .inl (fun _ => 0))), ((r9 1), .inl (t 0, 8, .inl (fun _ => 0)))] A s.heap _ _ := hX
  refine ab_pxF (pc := 12) (ws' := [(a0, .inr (8, [.ref q5, .null, .null, .null, .null, .null, .null, .null, .null, .int 0])), (q5, .inr (7, [.ref (r9 0), .ref (r9 1), .int 2, .int 0, .int 0, .int 0, .int 0, .int 0, .int 0, .int 0, .int 0, .int 0, .int 0, .int 0, .int 0, .int 0, .int 0])), ((r9 0), .inl (t 0, 512, .inl (fun _ => 0))), ((r9 1), .inl (t 0, 8, .inl (fun _ => 0)))]) X hX hE.2 0 8 0 ty_AB ty_AB_ok nm_AB rfl rfl (Nat.le_of_ble_eq_true rfl) in_AB rfl tw_527 rfl rfl rfl rfl rfl (Nat.le_of_ble_eq_true rfl) rfl d_AB_init_12 (fun H locs hX => ?_)
  refine lv_aload_n (pc := 15) X.1 X.2.1 d_AB_init_15 rfl (lv_at hl 0 rfl) ?_
  refine ab_new (pc := 16) (fs := [.null, .null]) X hX 2 rfl in_Memory ty_Memory ty_Memory_ok ⟨tw_597, tw_598, tw_1⟩ (by decide +kernel) ⟨Nat.le_of_ble_eq_true rfl, Nat.le_of_ble_eq_true rfl⟩ d_AB_init_16 (fun q16 H hX => ?_)
  have hX : ab_hx D [(a0, .inr (8, [.ref q5, .null, .null, .null, .null, .null, .null, .null, .null, .int 0])), (q5, .inr (7, [.ref (r9 0), .ref (r9 1), .int 2, .int 0, .int 0, .int 0, .int 0, .int 0, .int 0, .int 0, .int 0, .int 0, .int 0, .int 0, .int 0, .int 0, .int 0])), ((r9 0), .inl (t 0, 512, .inl (fun _ => 0))), ((r9 1), .inl (t 0, 8, .inl (fun _ => 0))), (q16, .inr (2, [.null, .null]))] A s.heap _ _ := hX
  refine lv_dup (pc := 19) X.1 X.2.1 d_AB_init_19 rfl ?_
  refine lv_aload_n (pc := 20) X.1 X.2.1 d_AB_init_20 rfl (lv_at hl 0 rfl) ?_
  refine ab_gx (pc := 21) (v := .ref q5) X hX 0 8 0 rfl rfl (Nat.le_of_ble_eq_true rfl) in_AB rfl tw_527 rfl d_AB_init_21 ?_
  refine ab_kn_callI (pc := 24) (wr := [(a0, .inr (8, [.ref q5, .null, .null, .null, .null, .null, .null, .null, .null, .int 0])), (q5, .inr (7, [.ref (r9 0), .ref (r9 1), .int 2, .int 0, .int 0, .int 0, .int 0, .int 0, .int 0, .int 0, .int 0, .int 0, .int 0, .int 0, .int 0, .int 0, .int 0])), ((r9 0), .inl (t 0, 512, .inl (fun _ => 0))), ((r9 1), .inl (t 0, 8, .inl (fun _ => 0)))]) (wc := [(q16, .inr (2, [.null, .null]))]) (as := [.ref q5]) (rest := [.ref q16, .ref a0]) X hX hE.1 (c_Memory_init l D t q16 q5) ok_Memory_init tw_599 tw_600 rfl rfl hl.1 rfl (Nat.le_of_ble_eq_true rfl) ⟨Nat.le_of_ble_eq_true rfl, Nat.le_of_ble_eq_true rfl⟩ ⟨Nat.le_of_ble_eq_true rfl, Nat.le_of_ble_eq_true rfl⟩ d_AB_init_24 (fun r24 H locs hX => ?_)
  have hX : ab_hx D [(a0, .inr (8, [.ref q5, .null, .null, .null, .null, .null, .null, .null, .null, .int 0])), (q5, .inr (7, [.ref (r9 0), .ref (r9 1), .int 2, .int 0, .int 0, .int 0, .int 0, .int 0, .int 0, .int 0, .int 0, .int 0, .int 0, .int 0, .int 0, .int 0, .int 0])), ((r9 0), .inl (t 0, 512, .inl (fun _ => 0))), ((r9 1), .inl (t 0, 8, .inl (fun _ => 0))), (q16, .inr (2, [.ref (r24 0), .ref q5])), ((r24 0), .inl (t 0, 512, .inl (fun _ => 0)))] A s.heap _ _ := hX
  refine ab_pxF (pc := 27) (ws' := [(a0, .inr (8, [.ref q5, .ref q16, .null, .null, .null, .null, .null, .null, .null, .int 0])), (q5, .inr (7, [.ref (r9 0), .ref (r9 1), .int 2, .int 0, .int 0, .int 0, .int 0, .int 0, .int 0, .int 0, .int 0, .int 0, .int 0, .int 0, .int 0, .int 0, .int 0])), ((r9 0), .inl (t 0, 512, .inl (fun _ => 0))), ((r9 1), .inl (t 0, 8, .inl (fun _ => 0))), (q16, .inr (2, [.ref (r24 0), .ref q5])), ((r24 0), .inl (t 0, 512, .inl (fun _ => 0)))]) X hX hE.2 0 8 1 ty_AB ty_AB_ok nm_AB rfl rfl (Nat.le_of_ble_eq_true rfl) in_AB rfl tw_496 rfl rfl rfl rfl rfl (Nat.le_of_ble_eq_true rfl) rfl d_AB_init_27 (fun H locs hX => ?_)
  refine lv_aload_n (pc := 30) X.1 X.2.1 d_AB_init_30 rfl (lv_at hl 0 rfl) ?_
  refine ab_new (pc := 31) (fs := [.null, .null]) X hX 5 rfl in_Registers ty_Registers ty_Registers_ok ⟨tw_601, tw_602, tw_37⟩ (by decide +kernel) ⟨Nat.le_of_ble_eq_true rfl, Nat.le_of_ble_eq_true rfl⟩ d_AB_init_31 (fun q31 H hX => ?_)
  have hX : ab_hx D [(a0, .inr (8, [.ref q5, .ref q16, .null, .null, .null, .null, .null, .null, .null, .int 0])), (q5, .inr (7, [.ref (r9 0), .ref (r9 1), .int 2, .int 0, .int 0, .int 0, .int 0, .int 0, .int 0, .int 0, .int 0, .int 0, .int 0, .int 0, .int 0, .int 0, .int 0])), ((r9 0), .inl (t 0, 512, .inl (fun _ => 0))), ((r9 1), .inl (t 0, 8, .inl (fun _ => 0))), (q16, .inr (2, [.ref (r24 0), .ref q5])), ((r24 0), .inl (t 0, 512, .inl (fun _ => 0))), (q31, .inr (5, [.null, .null]))] A s.heap _ _ := hX
  refine lv_dup (pc := 34) X.1 X.2.1 d_AB_init_34 rfl ?_
  refine lv_aload_n (pc := 35) X.1 X.2.1 d_AB_init_35 rfl (lv_at hl 0 rfl) ?_
  refine ab_gx (pc := 36) (v := .ref q5) X hX 0 8 0 rfl rfl (Nat.le_of_ble_eq_true rfl) in_AB rfl tw_527 rfl d_AB_init_36 ?_
  refine lv_aload_n (pc := 39) X.1 X.2.1 d_AB_init_39 rfl (lv_at hl 0 rfl) ?_
  refine ab_gx (pc := 40) (v := .ref q16) X hX 0 8 1 rfl rfl (Nat.le_of_ble_eq_true rfl) in_AB rfl tw_496 rfl d_AB_init_40 ?_
  refine ab_kn_callI (pc := 43) (wr := [(a0, .inr (8, [.ref q5, .ref q16, .null, .null, .null, .null, .null, .null, .null, .int 0])), (q5, .inr (7, [.ref (r9 0), .ref (r9 1), .int 2, .int 0, .int 0, .int 0, .int 0, .int 0, .int 0, .int 0, .int 0, .int 0, .int 0, .int 0, .int 0, .int 0, .int 0])), ((r9 0), .inl (t 0, 512, .inl (fun _ => 0))), ((r9 1), .inl (t 0, 8, .inl (fun _ => 0))), (q16, .inr (2, [.ref (r24 0), .ref q5])), ((r24 0), .inl (t 0, 512, .inl (fun _ => 0)))]) (wc := [(q31, .inr (5, [.null, .null]))]) (as := [.ref q5, .ref q16]) (rest := [.ref q31, .ref a0]) X hX hE.1 (c_Registers_init l D t q31 q5 q16) ok_Registers_init tw_603 tw_604 rfl rfl hl.1 rfl (Nat.le_of_ble_eq_true rfl) ⟨Nat.le_of_ble_eq_true rfl, Nat.le_of_ble_eq_true rfl⟩ ⟨Nat.le_of_ble_eq_true rfl, Nat.le_of_ble_eq_true rfl⟩ d_AB_init_43 (fun r43 H locs hX => ?_)
  have hX : ab_hx D [(a0, .inr (8, [.ref q5, .ref q16, .null, .null, .null, .null, .null, .null, .null, .int 0])), (q5, .inr (7, [.ref (r9 0), .ref (r9 1), .int 2, .int 0, .int 0, .int 0, .int 0, .int 0, .int 0, .int 0, .int 0, .int 0, .int 0, .int 0, .int 0, .int 0, .int 0])), ((r9 0), .inl (t 0, 512, .inl (fun _ => 0))), ((r9 1), .inl (t 0, 8, .inl (fun _ => 0))), (q16, .inr (2, [.ref (r24 0), .ref q5])), ((r24 0), .inl (t 0, 512, .inl (fun _ => 0))), (q31, .inr (5, [.ref q5, .ref q16]))] A s.heap _ _ := hX
  refine ab_pxF (pc := 46) (ws' := [(a0, .inr (8, [.ref q5, .ref q16, .ref q31, .null, .null, .null, .null, .null, .null, .int 0])), (q5, .inr (7, [.ref (r9 0), .ref (r9 1), .int 2, .int 0, .int 0, .int 0, .int 0, .int 0, .int 0, .int 0, .int 0, .int 0, .int 0, .int 0, .int 0, .int 0, .int 0])), ((r9 0), .inl (t 0, 512, .inl (fun _ => 0))), ((r9 1), .inl (t 0, 8, .inl (fun _ => 0))), (q16, .inr (2, [.ref (r24 0), .ref q5])), ((r24 0), .inl (t 0, 512, .inl (fun _ => 0))), (q31, .inr (5, [.ref q5, .ref q16]))]) X hX hE.2 0 8 2 ty_AB ty_AB_ok nm_AB rfl rfl (Nat.le_of_ble_eq_true rfl) in_AB rfl tw_543 rfl rfl rfl rfl rfl (Nat.le_of_ble_eq_true rfl) rfl d_AB_init_46 (fun H locs hX => ?_)
  refine lv_aload_n (pc := 49) X.1 X.2.1 d_AB_init_49 rfl (lv_at hl 0 rfl) ?_
  refine ab_new (pc := 50) (fs := [.null, .int 0]) X hX 6 rfl in_Sounds ty_Sounds ty_Sounds_ok ⟨tw_605, tw_606, tw_150⟩ (by decide +kernel) ⟨Nat.le_of_ble_eq_true rfl, Nat.le_of_ble_eq_true rfl⟩ d_AB_init_50 (fun q50 H hX => ?_)
  have hX : ab_hx D [(a0, .inr (8, [.ref q5, .ref q16, .ref q31, .null, .null, .null, .null, .null, .null, .int 0])), (q5, .inr (7, [.ref (r9 0), .ref (r9 1), .int 2, .int 0, .int 0, .int 0, .int 0, .int 0, .int 0, .int 0, .int 0, .int 0, .int 0, .int 0, .int 0, .int 0, .int 0])), ((r9 0), .inl (t 0, 512, .inl (fun _ => 0))), ((r9 1), .inl (t 0, 8, .inl (fun _ => 0))), (q16, .inr (2, [.ref (r24 0), .ref q5])), ((r24 0), .inl (t 0, 512, .inl (fun _ => 0))), (q31, .inr (5, [.ref q5, .ref q16])), (q50, .inr (6, [.null, .int 0]))] A s.heap _ _ := hX
  refine lv_dup (pc := 53) X.1 X.2.1 d_AB_init_53 rfl ?_
  refine ab_kn_callN (pc := 54) (wr := [(a0, .inr (8, [.ref q5, .ref q16, .ref q31, .null, .null, .null, .null, .null, .null, .int 0])), (q5, .inr (7, [.ref (r9 0), .ref (r9 1), .int 2, .int 0, .int 0, .int 0, .int 0, .int 0, .int 0, .int 0, .int 0, .int 0, .int 0, .int 0, .int 0, .int 0, .int 0])), ((r9 0), .inl (t 0, 512, .inl (fun _ => 0))), ((r9 1), .inl (t 0, 8, .inl (fun _ => 0))), (q16, .inr (2, [.ref (r24 0), .ref q5])), ((r24 0), .inl (t 0, 512, .inl (fun _ => 0))), (q31, .inr (5, [.ref q5, .ref q16]))]) (wc := [(q50, .inr (6, [.null, .int 0]))]) (as := []) (rest := [.ref q50, .ref a0]) X hX hE.1 (c_Sounds_init l D t q50) ok_Sounds_init tw_607 hE.1.2.2 rfl rfl hl.1 rfl (Nat.le_of_ble_eq_true rfl) ⟨Nat.le_of_ble_eq_true rfl, Nat.le_of_ble_eq_true rfl⟩ ⟨Nat.le_of_ble_eq_true rfl, Nat.le_of_ble_eq_true rfl⟩ d_AB_init_54 (fun r54 H locs hX => ?_)
  have hX : ab_hx D [(a0, .inr (8, [.ref q5, .ref q16, .ref q31, .null, .null, .null, .null, .null, .null, .int 0])), (q5, .inr (7, [.ref (r9 0), .ref (r9 1), .int 2, .int 0, .int 0, .int 0, .int 0, .int 0, .int 0, .int 0, .int 0, .int 0, .int 0, .int 0, .int 0, .int 0, .int 0])), ((r9 0), .inl (t 0, 512, .inl (fun _ => 0))), ((r9 1), .inl (t 0, 8, .inl (fun _ => 0))), (q16, .inr (2, [.ref (r24 0), .ref q5])), ((r24 0), .inl (t 0, 512, .inl (fun _ => 0))), (q31, .inr (5, [.ref q5, .ref q16])), (q50, .inr (6, [.ref (r54 0), .int 0])), ((r54 0), .inl (t 0, 8, .inl (fun _ => 0)))] A s.heap _ _ := hX
  refine ab_pxF (pc := 57) (ws' := [(a0, .inr (8, [.ref q5, .ref q16, .ref q31, .ref q50, .null, .null, .null, .null, .null, .int 0])), (q5, .inr (7, [.ref (r9 0), .ref (r9 1), .int 2, .int 0, .int 0, .int 0, .int 0, .int 0, .int 0, .int 0, .int 0, .int 0, .int 0, .int 0, .int 0, .int 0, .int 0])), ((r9 0), .inl (t 0, 512, .inl (fun _ => 0))), ((r9 1), .inl (t 0, 8, .inl (fun _ => 0))), (q16, .inr (2, [.ref (r24 0), .ref q5])), ((r24 0), .inl (t 0, 512, .inl (fun _ => 0))), (q31, .inr (5, [.ref q5, .ref q16])), (q50, .inr (6, [.ref (r54 0), .int 0])), ((r54 0), .inl (t 0, 8, .inl (fun _ => 0)))]) X hX hE.2 0 8 3 ty_AB ty_AB_ok nm_AB rfl rfl (Nat.le_of_ble_eq_true rfl) in_AB rfl tw_555 rfl rfl rfl rfl rfl (Nat.le_of_ble_eq_true rfl) rfl d_AB_init_57 (fun H locs hX => ?_)
  refine lv_aload_n (pc := 60) X.1 X.2.1 d_AB_init_60 rfl (lv_at hl 0 rfl) ?_
  refine ab_new (pc := 61) (fs := [.null, .null, .int 0, .int 0]) X hX 3 rfl in_Ports ty_Ports ty_Ports_ok ⟨tw_608, tw_609, tw_137⟩ (by decide +kernel) ⟨Nat.le_of_ble_eq_true rfl, Nat.le_of_ble_eq_true rfl⟩ d_AB_init_61 (fun q61 H hX => ?_)
  have hX : ab_hx D [(a0, .inr (8, [.ref q5, .ref q16, .ref q31, .ref q50, .null, .null, .null, .null, .null, .int 0])), (q5, .inr (7, [.ref (r9 0), .ref (r9 1), .int 2, .int 0, .int 0, .int 0, .int 0, .int 0, .int 0, .int 0, .int 0, .int 0, .int 0, .int 0, .int 0, .int 0, .int 0])), ((r9 0), .inl (t 0, 512, .inl (fun _ => 0))), ((r9 1), .inl (t 0, 8, .inl (fun _ => 0))), (q16, .inr (2, [.ref (r24 0), .ref q5])), ((r24 0), .inl (t 0, 512, .inl (fun _ => 0))), (q31, .inr (5, [.ref q5, .ref q16])), (q50, .inr (6, [.ref (r54 0), .int 0])), ((r54 0), .inl (t 0, 8, .inl (fun _ => 0))), (q61, .inr (3, [.null, .null, .int 0, .int 0]))] A s.heap _ _ := hX
  refine lv_dup (pc := 64) X.1 X.2.1 d_AB_init_64 rfl ?_
  refine lv_aload_n (pc := 65) X.1 X.2.1 d_AB_init_65 rfl (lv_at hl 0 rfl) ?_
  refine ab_gx (pc := 66) (v := .ref q5) X hX 0 8 0 rfl rfl (Nat.le_of_ble_eq_true rfl) in_AB rfl tw_527 rfl d_AB_init_66 ?_
  refine lv_aload_n (pc := 69) X.1 X.2.1 d_AB_init_69 rfl (lv_at hl 0 rfl) ?_
  refine ab_gx (pc := 70) (v := .ref q50) X hX 0 8 3 rfl rfl (Nat.le_of_ble_eq_true rfl) in_AB rfl tw_555 rfl d_AB_init_70 ?_
  refine ab_kn_callI (pc := 73) (wr := [(a0, .inr (8, [.ref q5, .ref q16, .ref q31, .ref q50, .null, .null, .null, .null, .null, .int 0])), (q5, .inr (7, [.ref (r9 0), .ref (r9 1), .int 2, .int 0, .int 0, .int 0, .int 0, .int 0, .int 0, .int 0, .int 0, .int 0, .int 0, .int 0, .int 0, .int 0, .int 0])), ((r9 0), .inl (t 0, 512, .inl (fun _ => 0))), ((r9 1), .inl (t 0, 8, .inl (fun _ => 0))), (q16, .inr (2, [.ref (r24 0), .ref q5])), ((r24 0), .inl (t 0, 512, .inl (fun _ => 0))), (q31, .inr (5, [.ref q5, .ref q16])), (q50, .inr (6, [.ref (r54 0), .int 0])), ((r54 0), .inl (t 0, 8, .inl (fun _ => 0)))]) (wc := [(q61, .inr (3, [.null, .null, .int 0, .int 0]))]) (as := [.ref q5, .ref q50]) (rest := [.ref q61, .ref a0]) X hX hE.1 (c_Ports_init l D t q61 q5 q50) ok_Ports_init tw_610 tw_611 rfl rfl hl.1 rfl (Nat.le_of_ble_eq_true rfl) ⟨Nat.le_of_ble_eq_true rfl, Nat.le_of_ble_eq_true rfl⟩ ⟨Nat.le_of_ble_eq_true rfl, Nat.le_of_ble_eq_true rfl⟩ d_AB_init_73 (fun r73 H locs hX => ?_)
  have hX : ab_hx D [(a0, .inr (8, [.ref q5, .ref q16, .ref q31, .ref q50, .null, .null, .null, .null, .null, .int 0])), (q5, .inr (7, [.ref (r9 0), .ref (r9 1), .int 2, .int 0, .int 0, .int 0, .int 0, .int 0, .int 0, .int 0, .int 0, .int 0, .int 0, .int 0, .int 0, .int 0, .int 0])), ((r9 0), .inl (t 0, 512, .inl (fun _ => 0))), ((r9 1), .inl (t 0, 8, .inl (fun _ => 0))), (q16, .inr (2, [.ref (r24 0), .ref q5])), ((r24 0), .inl (t 0, 512, .inl (fun _ => 0))), (q31, .inr (5, [.ref q5, .ref q16])), (q50, .inr (6, [.ref (r54 0), .int 0])), ((r54 0), .inl (t 0, 8, .inl (fun _ => 0))), (q61, .inr (3, [.ref q5, .ref q50, .int 0, .int 0]))] A s.heap _ _ := hX
  refine ab_pxF (pc := 76) (ws' := [(a0, .inr (8, [.ref q5, .ref q16, .ref q31, .ref q50, .ref q61, .null, .null, .null, .null, .int 0])), (q5, .inr (7, [.ref (r9 0), .ref (r9 1), .int 2, .int 0, .int 0, .int 0, .int 0, .int 0, .int 0, .int 0, .int 0, .int 0, .int 0, .int 0, .int 0, .int 0, .int 0])), ((r9 0), .inl (t 0, 512, .inl (fun _ => 0))), ((r9 1), .inl (t 0, 8, .inl (fun _ => 0))), (q16, .inr (2, [.ref (r24 0), .ref q5])), ((r24 0), .inl (t 0, 512, .inl (fun _ => 0))), (q31, .inr (5, [.ref q5, .ref q16])), (q50, .inr (6, [.ref (r54 0), .int 0])), ((r54 0), .inl (t 0, 8, .inl (fun _ => 0))), (q61, .inr (3, [.ref q5, .ref q50, .int 0, .int 0]))]) X hX hE.2 0 8 4 ty_AB ty_AB_ok nm_AB rfl rfl (Nat.le_of_ble_eq_true rfl) in_AB rfl tw_522 rfl rfl rfl rfl rfl (Nat.le_of_ble_eq_true rfl) rfl d_AB_init_76 (fun H locs hX => ?_)
  refine lv_aload_n (pc := 79) X.1 X.2.1 d_AB_init_79 rfl (lv_at hl 0 rfl) ?_
  refine ab_new (pc := 80) (fs := [.null]) X hX 1 rfl in_Clock ty_Clock ty_Clock_ok ⟨tw_612, tw_613, tw_114⟩ (by decide +kernel) ⟨Nat.le_of_ble_eq_true rfl, Nat.le_of_ble_eq_true rfl⟩ d_AB_init_80 (fun q80 H hX => ?_)
  have hX : ab_hx D [(a0, .inr (8, [.ref q5, .ref q16, .ref q31, .ref q50, .ref q61, .null, .null, .null, .null, .int 0])), (q5, .inr (7, [.ref (r9 0), .ref (r9 1), .int 2, .int 0, .int 0, .int 0, .int 0, .int 0, .int 0, .int 0, .int 0, .int 0, .int 0, .int 0, .int 0, .int 0, .int 0])), ((r9 0), .inl (t 0, 512, .inl (fun _ => 0))), ((r9 1), .inl (t 0, 8, .inl (fun _ => 0))), (q16, .inr (2, [.ref (r24 0), .ref q5])), ((r24 0), .inl (t 0, 512, .inl (fun _ => 0))), (q31, .inr (5, [.ref q5, .ref q16])), (q50, .inr (6, [.ref (r54 0), .int 0])), ((r54 0), .inl (t 0, 8, .inl (fun _ => 0))), (q61, .inr (3, [.ref q5, .ref q50, .int 0, .int 0])), (q80, .inr (1, [.null]))] A s.heap _ _ := hX
  refine lv_dup (pc := 83) X.1 X.2.1 d_AB_init_83 rfl ?_
  refine lv_aload_n (pc := 84) X.1 X.2.1 d_AB_init_84 rfl (lv_at hl 0 rfl) ?_
  refine ab_gx (pc := 85) (v := .ref q5) X hX 0 8 0 rfl rfl (Nat.le_of_ble_eq_true rfl) in_AB rfl tw_527 rfl d_AB_init_85 ?_
  refine ab_kn_callI (pc := 88) (wr := [(a0, .inr (8, [.ref q5, .ref q16, .ref q31, .ref q50, .ref q61, .null, .null, .null, .null, .int 0])), (q5, .inr (7, [.ref (r9 0), .ref (r9 1), .int 2, .int 0, .int 0, .int 0, .int 0, .int 0, .int 0, .int 0, .int 0, .int 0, .int 0, .int 0, .int 0, .int 0, .int 0])), ((r9 0), .inl (t 0, 512, .inl (fun _ => 0))), ((r9 1), .inl (t 0, 8, .inl (fun _ => 0))), (q16, .inr (2, [.ref (r24 0), .ref q5])), ((r24 0), .inl (t 0, 512, .inl (fun _ => 0))), (q31, .inr (5, [.ref q5, .ref q16])), (q50, .inr (6, [.ref (r54 0), .int 0])), ((r54 0), .inl (t 0, 8, .inl (fun _ => 0))), (q61, .inr (3, [.ref q5, .ref q50, .int 0, .int 0]))]) (wc := [(q80, .inr (1, [.null]))]) (as := [.ref q5]) (rest := [.ref q80, .ref a0]) X hX hE.1 (c_Clock_init l D t q80 q5) ok_Clock_init tw_614 tw_615 rfl rfl hl.1 rfl (Nat.le_of_ble_eq_true rfl) ⟨Nat.le_of_ble_eq_true rfl, Nat.le_of_ble_eq_true rfl⟩ ⟨Nat.le_of_ble_eq_true rfl, Nat.le_of_ble_eq_true rfl⟩ d_AB_init_88 (fun r88 H locs hX => ?_)
  have hX : ab_hx D [(a0, .inr (8, [.ref q5, .ref q16, .ref q31, .ref q50, .ref q61, .null, .null, .null, .null, .int 0])), (q5, .inr (7, [.ref (r9 0), .ref (r9 1), .int 2, .int 0, .int 0, .int 0, .int 0, .int 0, .int 0, .int 0, .int 0, .int 0, .int 0, .int 0, .int 0, .int 0, .int 0])), ((r9 0), .inl (t 0, 512, .inl (fun _ => 0))), ((r9 1), .inl (t 0, 8, .inl (fun _ => 0))), (q16, .inr (2, [.ref (r24 0), .ref q5])), ((r24 0), .inl (t 0, 512, .inl (fun _ => 0))), (q31, .inr (5, [.ref q5, .ref q16])), (q50, .inr (6, [.ref (r54 0), .int 0])), ((r54 0), .inl (t 0, 8, .inl (fun _ => 0))), (q61, .inr (3, [.ref q5, .ref q50, .int 0, .int 0])), (q80, .inr (1, [.ref q5]))] A s.heap _ _ := hX
  refine ab_pxF (pc := 91) (ws' := [(a0, .inr (8, [.ref q5, .ref q16, .ref q31, .ref q50, .ref q61, .ref q80, .null, .null, .null, .int 0])), (q5, .inr (7, [.ref (r9 0), .ref (r9 1), .int 2, .int 0, .int 0, .int 0, .int 0, .int 0, .int 0, .int 0, .int 0, .int 0, .int 0, .int 0, .int 0, .int 0, .int 0])), ((r9 0), .inl (t 0, 512, .inl (fun _ => 0))), ((r9 1), .inl (t 0, 8, .inl (fun _ => 0))), (q16, .inr (2, [.ref (r24 0), .ref q5])), ((r24 0), .inl (t 0, 512, .inl (fun _ => 0))), (q31, .inr (5, [.ref q5, .ref q16])), (q50, .inr (6, [.ref (r54 0), .int 0])), ((r54 0), .inl (t 0, 8, .inl (fun _ => 0))), (q61, .inr (3, [.ref q5, .ref q50, .int 0, .int 0])), (q80, .inr (1, [.ref q5]))]) X hX hE.2 0 8 5 ty_AB ty_AB_ok nm_AB rfl rfl (Nat.le_of_ble_eq_true rfl) in_AB rfl tw_505 rfl rfl rfl rfl rfl (Nat.le_of_ble_eq_true rfl) rfl d_AB_init_91 (fun H locs hX => ?_)
  refine lv_aload_n (pc := 94) X.1 X.2.1 d_AB_init_94 rfl (lv_at hl 0 rfl) ?_
  refine ab_new (pc := 95) (fs := [.null, .null, .null, .null, .null, .null]) X hX 4 rfl in_Processor ty_Processor ty_Processor_ok ⟨tw_616, tw_617, tw_170⟩ (by decide +kernel) ⟨Nat.le_of_ble_eq_true rfl, Nat.le_of_ble_eq_true rfl⟩ d_AB_init_95 (fun q95 H hX => ?_)
  have hX : ab_hx D [(a0, .inr (8, [.ref q5, .ref q16, .ref q31, .ref q50, .ref q61, .ref q80, .null, .null, .null, .int 0])), (q5, .inr (7, [.ref (r9 0), .ref (r9 1), .int 2, .int 0, .int 0, .int 0, .int 0, .int 0, .int 0, .int 0, .int 0, .int 0, .int 0, .int 0, .int 0, .int 0, .int 0])), ((r9 0), .inl (t 0, 512, .inl (fun _ => 0))), ((r9 1), .inl (t 0, 8, .inl (fun _ => 0))), (q16, .inr (2, [.ref (r24 0), .ref q5])), ((r24 0), .inl (t 0, 512, .inl (fun _ => 0))), (q31, .inr (5, [.ref q5, .ref q16])), (q50, .inr (6, [.ref (r54 0), .int 0])), ((r54 0), .inl (t 0, 8, .inl (fun _ => 0))), (q61, .inr (3, [.ref q5, .ref q50, .int 0, .int 0])), (q80, .inr (1, [.ref q5])), (q95, .inr (4, [.null, .null, .null, .null, .null, .null]))] A s.heap _ _ := hX
  refine lv_dup (pc := 98) X.1 X.2.1 d_AB_init_98 rfl ?_
  refine lv_aload_n (pc := 99) X.1 X.2.1 d_AB_init_99 rfl (lv_at hl 0 rfl) ?_
  refine ab_gx (pc := 100) (v := .ref q5) X hX 0 8 0 rfl rfl (Nat.le_of_ble_eq_true rfl) in_AB rfl tw_527 rfl d_AB_init_100 ?_
  refine lv_aload_n (pc := 103) X.1 X.2.1 d_AB_init_103 rfl (lv_at hl 0 rfl) ?_
  refine ab_gx (pc := 104) (v := .ref q16) X hX 0 8 1 rfl rfl (Nat.le_of_ble_eq_true rfl) in_AB rfl tw_496 rfl d_AB_init_104 ?_
  refine lv_aload_n (pc := 107) X.1 X.2.1 d_AB_init_107 rfl (lv_at hl 0 rfl) ?_
  refine ab_gx (pc := 108) (v := .ref q31) X hX 0 8 2 rfl rfl (Nat.le_of_ble_eq_true rfl) in_AB rfl tw_543 rfl d_AB_init_108 ?_
  refine lv_aload_n (pc := 111) X.1 X.2.1 d_AB_init_111 rfl (lv_at hl 0 rfl) ?_
  refine ab_gx (pc := 112) (v := .ref q61) X hX 0 8 4 rfl rfl (Nat.le_of_ble_eq_true rfl) in_AB rfl tw_522 rfl d_AB_init_112 ?_
  refine lv_aload_n (pc := 115) X.1 X.2.1 d_AB_init_115 rfl (lv_at hl 0 rfl) ?_
  refine ab_gx (pc := 116) (v := .ref q80) X hX 0 8 5 rfl rfl (Nat.le_of_ble_eq_true rfl) in_AB rfl tw_505 rfl d_AB_init_116 ?_
  refine ab_kn_callI (pc := 119) (wr := [(a0, .inr (8, [.ref q5, .ref q16, .ref q31, .ref q50, .ref q61, .ref q80, .null, .null, .null, .int 0])), (q5, .inr (7, [.ref (r9 0), .ref (r9 1), .int 2, .int 0, .int 0, .int 0, .int 0, .int 0, .int 0, .int 0, .int 0, .int 0, .int 0, .int 0, .int 0, .int 0, .int 0])), ((r9 0), .inl (t 0, 512, .inl (fun _ => 0))), ((r9 1), .inl (t 0, 8, .inl (fun _ => 0))), (q16, .inr (2, [.ref (r24 0), .ref q5])), ((r24 0), .inl (t 0, 512, .inl (fun _ => 0))), (q31, .inr (5, [.ref q5, .ref q16])), (q50, .inr (6, [.ref (r54 0), .int 0])), ((r54 0), .inl (t 0, 8, .inl (fun _ => 0))), (q61, .inr (3, [.ref q5, .ref q50, .int 0, .int 0])), (q80, .inr (1, [.ref q5]))]) (wc := [(q95, .inr (4, [.null, .null, .null, .null, .null, .null]))]) (as := [.ref q5, .ref q16, .ref q31, .ref q61, .ref q80]) (rest := [.ref q95, .ref a0]) X hX hE.1 (c_Processor_init l D t q95 q5 q16 q31 q61 q80) ok_Processor_init tw_618 tw_619 rfl rfl hl.1 rfl (Nat.le_of_ble_eq_true rfl) ⟨Nat.le_of_ble_eq_true rfl, Nat.le_of_ble_eq_true rfl⟩ ⟨Nat.le_of_ble_eq_true rfl, Nat.le_of_ble_eq_true rfl⟩ d_AB_init_119 (fun r119 H locs hX => ?_)
  have hX : ab_hx D [(a0, .inr (8, [.ref q5, .ref q16, .ref q31, .ref q50, .ref q61, .ref q80, .null, .null, .null, .int 0])), (q5, .inr (7, [.ref (r9 0), .ref (r9 1), .int 2, .int 0, .int 0, .int 0, .int 0, .int 0, .int 0, .int 0, .int 0, .int 0, .int 0, .int 0, .int 0, .int 0, .int 0])), ((r9 0), .inl (t 0, 512, .inl (fun _ => 0))), ((r9 1), .inl (t 0, 8, .inl (fun _ => 0))), (q16, .inr (2, [.ref (r24 0), .ref q5])), ((r24 0), .inl (t 0, 512, .inl (fun _ => 0))), (q31, .inr (5, [.ref q5, .ref q16])), (q50, .inr (6, [.ref (r54 0), .int 0])), ((r54 0), .inl (t 0, 8, .inl (fun _ => 0))), (q61, .inr (3, [.ref q5, .ref q50, .int 0, .int 0])), (q80, .inr (1, [.ref q5])), (q95, .inr (4, [.ref q5, .ref q16, .ref q31, .ref (r119 0), .ref q61, .ref q80])), ((r119 0), .inr (0, [.ref q5]))] A s.heap _ _ := hX
  refine ab_pxF (pc := 122) (ws' := [(a0, .inr (8, [.ref q5, .ref q16, .ref q31, .ref q50, .ref q61, .ref q80, .ref q95, .null, .null, .int 0])), (q5, .inr (7, [.ref (r9 0), .ref (r9 1), .int 2, .int 0, .int 0, .int 0, .int 0, .int 0, .int 0, .int 0, .int 0, .int 0, .int 0, .int 0, .int 0, .int 0, .int 0])), ((r9 0), .inl (t 0, 512, .inl (fun _ => 0))), ((r9 1), .inl (t 0, 8, .inl (fun _ => 0))), (q16, .inr (2, [.ref (r24 0), .ref q5])), ((r24 0), .inl (t 0, 512, .inl (fun _ => 0))), (q31, .inr (5, [.ref q5, .ref q16])), (q50, .inr (6, [.ref (r54 0), .int 0])), ((r54 0), .inl (t 0, 8, .inl (fun _ => 0))), (q61, .inr (3, [.ref q5, .ref q50, .int 0, .int 0])), (q80, .inr (1, [.ref q5])), (q95, .inr (4, [.ref q5, .ref q16, .ref q31, .ref (r119 0), .ref q61, .ref q80])), ((r119 0), .inr (0, [.ref q5]))]) X hX hE.2 0 8 6 ty_AB ty_AB_ok nm_AB rfl rfl (Nat.le_of_ble_eq_true rfl) in_AB rfl tw_517 rfl rfl rfl rfl rfl (Nat.le_of_ble_eq_true rfl) rfl d_AB_init_122 (fun H locs hX => ?_)
  refine lv_aload_n (pc := 125) X.1 X.2.1 d_AB_init_125 rfl (lv_at hl 0 rfl) ?_
  refine lv_iconst (pc := 126) (v := 2) X.1 X.2.1 d_AB_init_126 (by decide) ?_
  refine ab_newq (pc := 127) (N := 2) X hX hE.1.1 2 rfl tw_594 (by decide) (by decide) (by decide) ⟨Nat.le_of_ble_eq_true rfl, Nat.le_of_ble_eq_true rfl⟩ d_AB_init_127 (fun q127 H hX => ?_)
  have hX : ab_hx D [(a0, .inr (8, [.ref q5, .ref q16, .ref q31, .ref q50, .ref q61, .ref q80, .ref q95, .null, .null, .int 0])), (q5, .inr (7, [.ref (r9 0), .ref (r9 1), .int 2, .int 0, .int 0, .int 0, .int 0, .int 0, .int 0, .int 0, .int 0, .int 0, .int 0, .int 0, .int 0, .int 0, .int 0])), ((r9 0), .inl (t 0, 512, .inl (fun _ => 0))), ((r9 1), .inl (t 0, 8, .inl (fun _ => 0))), (q16, .inr (2, [.ref (r24 0), .ref q5])), ((r24 0), .inl (t 0, 512, .inl (fun _ => 0))), (q31, .inr (5, [.ref q5, .ref q16])), (q50, .inr (6, [.ref (r54 0), .int 0])), ((r54 0), .inl (t 0, 8, .inl (fun _ => 0))), (q61, .inr (3, [.ref q5, .ref q50, .int 0, .int 0])), (q80, .inr (1, [.ref q5])), (q95, .inr (4, [.ref q5, .ref q16, .ref q31, .ref (r119 0), .ref q61, .ref q80])), ((r119 0), .inr (0, [.ref q5])), (q127, .inl (t 2, 2, .inr (.inr (.inr (.inr (fun _ => none))))))] A s.heap _ _ := hX
  refine lv_dup (pc := 130) X.1 X.2.1 d_AB_init_130 rfl ?_
  refine lv_iconst (pc := 131) (v := 0) X.1 X.2.1 d_AB_init_131 (by decide) ?_
  refine ab_new (pc := 132) (fs := [.null, .null, .int 0, .int 0, .int 0, .int 0, .int 0, .int 0, .int 0, .int 0, .int 0, .int 0, .int 0, .int 0, .int 0, .int 0, .int 0]) X hX 7 rfl in_State ty_State ty_State_ok ⟨tw_594, tw_595, tw_467⟩ (by decide +kernel) ⟨Nat.le_of_ble_eq_true rfl, Nat.le_of_ble_eq_true rfl⟩ d_AB_init_132 (fun q132 H hX => ?_)
  have hX : ab_hx D [(a0, .inr (8, [.ref q5, .ref q16, .ref q31, .ref q50, .ref q61, .ref q80, .ref q95, .null, .null, .int 0])), (q5, .inr (7, [.ref (r9 0), .ref (r9 1), .int 2, .int 0, .int 0, .int 0, .int 0, .int 0, .int 0, .int 0, .int 0, .int 0, .int 0, .int 0, .int 0, .int 0, .int 0])), ((r9 0), .inl (t 0, 512, .inl (fun _ => 0))), ((r9 1), .inl (t 0, 8, .inl (fun _ => 0))), (q16, .inr (2, [.ref (r24 0), .ref q5])), ((r24 0), .inl (t 0, 512, .inl (fun _ => 0))), (q31, .inr (5, [.ref q5, .ref q16])), (q50, .inr (6, [.ref (r54 0), .int 0])), ((r54 0), .inl (t 0, 8, .inl (fun _ => 0))), (q61, .inr (3, [.ref q5, .ref q50, .int 0, .int 0])), (q80, .inr (1, [.ref q5])), (q95, .inr (4, [.ref q5, .ref q16, .ref q31, .ref (r119 0), .ref q61, .ref q80])), ((r119 0), .inr (0, [.ref q5])), (q127, .inl (t 2, 2, .inr (.inr (.inr (.inr (fun _ => none)))))), (q132, .inr (7, [.null, .null, .int 0, .int 0, .int 0, .int 0, .int 0, .int 0, .int 0, .int 0, .int 0, .int 0, .int 0, .int 0, .int 0, .int 0, .int 0]))] A s.heap _ _ := hX
  refine lv_dup (pc := 135) X.1 X.2.1 d_AB_init_135 rfl ?_
  refine ab_kn_callN (pc := 136) (wr := [(a0, .inr (8, [.ref q5, .ref q16, .ref q31, .ref q50, .ref q61, .ref q80, .ref q95, .null, .null, .int 0])), (q5, .inr (7, [.ref (r9 0), .ref (r9 1), .int 2, .int 0, .int 0, .int 0, .int 0, .int 0, .int 0, .int 0, .int 0, .int 0, .int 0, .int 0, .int 0, .int 0, .int 0])), ((r9 0), .inl (t 0, 512, .inl (fun _ => 0))), ((r9 1), .inl (t 0, 8, .inl (fun _ => 0))), (q16, .inr (2, [.ref (r24 0), .ref q5])), ((r24 0), .inl (t 0, 512, .inl (fun _ => 0))), (q31, .inr (5, [.ref q5, .ref q16])), (q50, .inr (6, [.ref (r54 0), .int 0])), ((r54 0), .inl (t 0, 8, .inl (fun _ => 0))), (q61, .inr (3, [.ref q5, .ref q50, .int 0, .int 0])), (q80, .inr (1, [.ref q5])), (q95, .inr (4, [.ref q5, .ref q16, .ref q31, .ref (r119 0), .ref q61, .ref q80])), ((r119 0), .inr (0, [.ref q5])), (q127, .inl (t 2, 2, .inr (.inr (.inr (.inr (fun _ => none))))))]) (wc := [(q132, .inr (7, [.null, .null, .int 0, .int 0, .int 0, .int 0, .int 0, .int 0, .int 0, .int 0, .int 0, .int 0, .int 0, .int 0, .int 0, .int 0, .int 0]))]) (as := []) (rest := [.ref q132, .int 0, .ref q127, .ref q127, .ref a0]) X hX hE.1 (c_State_init l D t q132) ok_State_init tw_596 hE.1.2.1 rfl rfl hl.1 rfl (Nat.le_of_ble_eq_true rfl) ⟨Nat.le_of_ble_eq_true rfl, Nat.le_of_ble_eq_true rfl⟩ ⟨Nat.le_of_ble_eq_true rfl, Nat.le_of_ble_eq_true rfl⟩ d_AB_init_136 (fun r136 H locs hX => ?_)
  have hX : ab_hx D [(a0, .inr (8, [.ref q5, .ref q16, .ref q31, .ref q50, .ref q61, .ref q80, .ref q95, .null, .null, .int 0])), (q5, .inr (7, [.ref (r9 0), .ref (r9 1), .int 2, .int 0, .int 0, .int 0, .int 0, .int 0, .int 0, .int 0, .int 0, .int 0, .int 0, .int 0, .int 0, .int 0, .int 0])), ((r9 0), .inl (t 0, 512, .inl (fun _ => 0))), ((r9 1), .inl (t 0, 8, .inl (fun _ => 0))), (q16, .inr (2, [.ref (r24 0), .ref q5])), ((r24 0), .inl (t 0, 512, .inl (fun _ => 0))), (q31, .inr (5, [.ref q5, .ref q16])), (q50, .inr (6, [.ref (r54 0), .int 0])), ((r54 0), .inl (t 0, 8, .inl (fun _ => 0))), (q61, .inr (3, [.ref q5, .ref q50, .int 0, .int 0])), (q80, .inr (1, [.ref q5])), (q95, .inr (4, [.ref q5, .ref q16, .ref q31, .ref (r119 0), .ref q61, .ref q80])), ((r119 0), .inr (0, [.ref q5])), (q127, .inl (t 2, 2, .inr (.inr (.inr (.inr (fun _ => none)))))), (q132, .inr (7, [.ref (r136 0), .ref (r136 1), .int 2, .int 0, .int 0, .int 0, .int 0, .int 0, .int 0, .int 0, .int 0, .int 0, .int 0, .int 0, .int 0, .int 0, .int 0])), ((r136 0), .inl (t 0, 512, .inl (fun _ => 0))), ((r136 1), .inl (t 0, 8, .inl (fun _ => 0)))] A s.heap _ _ := hX
  refine ab_astr (pc := 139) (ws' := [(a0, .inr (8, [.ref q5, .ref q16, .ref q31, .ref q50, .ref q61, .ref q80, .ref q95, .null, .null, .int 0])), (q5, .inr (7, [.ref (r9 0), .ref (r9 1), .int 2, .int 0, .int 0, .int 0, .int 0, .int 0, .int 0, .int 0, .int 0, .int 0, .int 0, .int 0, .int 0, .int 0, .int 0])), ((r9 0), .inl (t 0, 512, .inl (fun _ => 0))), ((r9 1), .inl (t 0, 8, .inl (fun _ => 0))), (q16, .inr (2, [.ref (r24 0), .ref q5])), ((r24 0), .inl (t 0, 512, .inl (fun _ => 0))), (q31, .inr (5, [.ref q5, .ref q16])), (q50, .inr (6, [.ref (r54 0), .int 0])), ((r54 0), .inl (t 0, 8, .inl (fun _ => 0))), (q61, .inr (3, [.ref q5, .ref q50, .int 0, .int 0])), (q80, .inr (1, [.ref q5])), (q95, .inr (4, [.ref q5, .ref q16, .ref q31, .ref (r119 0), .ref q61, .ref q80])), ((r119 0), .inr (0, [.ref q5])), (q127, .inl (t 2, 2, .inr (.inr (.inr (.inr (va_up (fun _ => none) (0 : Int32).toNatClampNeg (some q132))))))), (q132, .inr (7, [.ref (r136 0), .ref (r136 1), .int 2, .int 0, .int 0, .int 0, .int 0, .int 0, .int 0, .int 0, .int 0, .int 0, .int 0, .int 0, .int 0, .int 0, .int 0])), ((r136 0), .inl (t 0, 512, .inl (fun _ => 0))), ((r136 1), .inl (t 0, 8, .inl (fun _ => 0)))]) X hX 13 2 14 7 rfl rfl rfl rfl (ab_inc (by decide)) rfl d_AB_init_139 (fun H locs hX => ?_)
  refine lv_dup (pc := 140) X.1 X.2.1 d_AB_init_140 rfl ?_
  refine lv_iconst (pc := 141) (v := 1) X.1 X.2.1 d_AB_init_141 (by decide) ?_
  refine ab_new (pc := 142) (fs := [.null, .null, .int 0, .int 0, .int 0, .int 0, .int 0, .int 0, .int 0, .int 0, .int 0, .int 0, .int 0, .int 0, .int 0, .int 0, .int 0]) X hX 7 rfl in_State ty_State ty_State_ok ⟨tw_594, tw_595, tw_467⟩ (by decide +kernel) ⟨Nat.le_of_ble_eq_true rfl, Nat.le_of_ble_eq_true rfl⟩ d_AB_init_142 (fun q142 H hX => ?_)
  have hX : ab_hx D [(a0, .inr (8, [.ref q5, .ref q16, .ref q31, .ref q50, .ref q61, .ref q80, .ref q95, .null, .null, .int 0])), (q5, .inr (7, [.ref (r9 0), .ref (r9 1), .int 2, .int 0, .int 0, .int 0, .int 0, .int 0, .int 0, .int 0, .int 0, .int 0, .int 0, .int 0, .int 0, .int 0, .int 0])), ((r9 0), .inl (t 0, 512, .inl (fun _ => 0))), ((r9 1), .inl (t 0, 8, .inl (fun _ => 0))), (q16, .inr (2, [.ref (r24 0), .ref q5])), ((r24 0), .inl (t 0, 512, .inl (fun _ => 0))), (q31, .inr (5, [.ref q5, .ref q16])), (q50, .inr (6, [.ref (r54 0), .int 0])), ((r54 0), .inl (t 0, 8, .inl (fun _ => 0))), (q61, .inr (3, [.ref q5, .ref q50, .int 0, .int 0])), (q80, .inr (1, [.ref q5])), (q95, .inr (4, [.ref q5, .ref q16, .ref q31, .ref (r119 0), .ref q61, .ref q80])), ((r119 0), .inr (0, [.ref q5])), (q127, .inl (t 2, 2, .inr (.inr (.inr (.inr (va_up (fun _ => none) (0 : Int32).toNatClampNeg (some q132))))))), (q132, .inr (7, [.ref (r136 0), .ref (r136 1), .int 2, .int 0, .int 0, .int 0, .int 0, .int 0, .int 0, .int 0, .int 0, .int 0, .int 0, .int 0, .int 0, .int 0, .int 0])), ((r136 0), .inl (t 0, 512, .inl (fun _ => 0))), ((r136 1), .inl (t 0, 8, .inl (fun _ => 0))), (q142, .inr (7, [.null, .null, .int 0, .int 0, .int 0, .int 0, .int 0, .int 0, .int 0, .int 0, .int 0, .int 0, .int 0, .int 0, .int 0, .int 0, .int 0]))] A s.heap _ _ := hX
  refine lv_dup (pc := 145) X.1 X.2.1 d_AB_init_145 rfl ?_
  refine ab_kn_callN (pc := 146) (wr := [(a0, .inr (8, [.ref q5, .ref q16, .ref q31, .ref q50, .ref q61, .ref q80, .ref q95, .null, .null, .int 0])), (q5, .inr (7, [.ref (r9 0), .ref (r9 1), .int 2, .int 0, .int 0, .int 0, .int 0, .int 0, .int 0, .int 0, .int 0, .int 0, .int 0, .int 0, .int 0, .int 0, .int 0])), ((r9 0), .inl (t 0, 512, .inl (fun _ => 0))), ((r9 1), .inl (t 0, 8, .inl (fun _ => 0))), (q16, .inr (2, [.ref (r24 0), .ref q5])), ((r24 0), .inl (t 0, 512, .inl (fun _ => 0))), (q31, .inr (5, [.ref q5, .ref q16])), (q50, .inr (6, [.ref (r54 0), .int 0])), ((r54 0), .inl (t 0, 8, .inl (fun _ => 0))), (q61, .inr (3, [.ref q5, .ref q50, .int 0, .int 0])), (q80, .inr (1, [.ref q5])), (q95, .inr (4, [.ref q5, .ref q16, .ref q31, .ref (r119 0), .ref q61, .ref q80])), ((r119 0), .inr (0, [.ref q5])), (q127, .inl (t 2, 2, .inr (.inr (.inr (.inr (va_up (fun _ => none) (0 : Int32).toNatClampNeg (some q132))))))), (q132, .inr (7, [.ref (r136 0), .ref (r136 1), .int 2, .int 0, .int 0, .int 0, .int 0, .int 0, .int 0, .int 0, .int 0, .int 0, .int 0, .int 0, .int 0, .int 0, .int 0])), ((r136 0), .inl (t 0, 512, .inl (fun _ => 0))), ((r136 1), .inl (t 0, 8, .inl (fun _ => 0)))]) (wc := [(q142, .inr (7, [.null, .null, .int 0, .int 0, .int 0, .int 0, .int 0, .int 0, .int 0, .int 0, .int 0, .int 0, .int 0, .int 0, .int 0, .int 0, .int 0]))]) (as := []) (rest := [.ref q142, .int 1, .ref q127, .ref q127, .ref a0]) X hX hE.1 (c_State_init l D t q142) ok_State_init tw_596 hE.1.2.1 rfl rfl hl.1 rfl (Nat.le_of_ble_eq_true rfl) ⟨Nat.le_of_ble_eq_true rfl, Nat.le_of_ble_eq_true rfl⟩ ⟨Nat.le_of_ble_eq_true rfl, Nat.le_of_ble_eq_true rfl⟩ d_AB_init_146 (fun r146 H locs hX => ?_)
  have hX : ab_hx D [(a0, .inr (8, [.ref q5, .ref q16, .ref q31, .ref q50, .ref q61, .ref q80, .ref q95, .null, .null, .int 0])), (q5, .inr (7, [.ref (r9 0), .ref (r9 1), .int 2, .int 0, .int 0, .int 0, .int 0, .int 0, .int 0, .int 0, .int 0, .int 0, .int 0, .int 0, .int 0, .int 0, .int 0])), ((r9 0), .inl (t 0, 512, .inl (fun _ => 0))), ((r9 1), .inl (t 0, 8, .inl (fun _ => 0))), (q16, .inr (2, [.ref (r24 0), .ref q5])), ((r24 0), .inl (t 0, 512, .inl (fun _ => 0))), (q31, .inr (5, [.ref q5, .ref q16])), (q50, .inr (6, [.ref (r54 0), .int 0])), ((r54 0), .inl (t 0, 8, .inl (fun _ => 0))), (q61, .inr (3, [.ref q5, .ref q50, .int 0, .int 0])), (q80, .inr (1, [.ref q5])), (q95, .inr (4, [.ref q5, .ref q16, .ref q31, .ref (r119 0), .ref q61, .ref q80])), ((r119 0), .inr (0, [.ref q5])), (q127, .inl (t 2, 2, .inr (.inr (.inr (.inr (va_up (fun _ => none) (0 : Int32).toNatClampNeg (some q132))))))), (q132, .inr (7, [.ref (r136 0), .ref (r136 1), .int 2, .int 0, .int 0, .int 0, .int 0, .int 0, .int 0, .int 0, .int 0, .int 0, .int 0, .int 0, .int 0, .int 0, .int 0])), ((r136 0), .inl (t 0, 512, .inl (fun _ => 0))), ((r136 1), .inl (t 0, 8, .inl (fun _ => 0))), (q142, .inr (7, [.ref (r146 0), .ref (r146 1), .int 2, .int 0, .int 0, .int 0, .int 0, .int 0, .int 0, .int 0, .int 0, .int 0, .int 0, .int 0, .int 0, .int 0, .int 0])), ((r146 0), .inl (t 0, 512, .inl (fun _ => 0))), ((r146 1), .inl (t 0, 8, .inl (fun _ => 0)))] A s.heap _ _ := hX
  refine ab_astr (pc := 149) (ws' := [(a0, .inr (8, [.ref q5, .ref q16, .ref q31, .ref q50, .ref q61, .ref q80, .ref q95, .null, .null, .int 0])), (q5, .inr (7, [.ref (r9 0), .ref (r9 1), .int 2, .int 0, .int 0, .int 0, .int 0, .int 0, .int 0, .int 0, .int 0, .int 0, .int 0, .int 0, .int 0, .int 0, .int 0])), ((r9 0), .inl (t 0, 512, .inl (fun _ => 0))), ((r9 1), .inl (t 0, 8, .inl (fun _ => 0))), (q16, .inr (2, [.ref (r24 0), .ref q5])), ((r24 0), .inl (t 0, 512, .inl (fun _ => 0))), (q31, .inr (5, [.ref q5, .ref q16])), (q50, .inr (6, [.ref (r54 0), .int 0])), ((r54 0), .inl (t 0, 8, .inl (fun _ => 0))), (q61, .inr (3, [.ref q5, .ref q50, .int 0, .int 0])), (q80, .inr (1, [.ref q5])), (q95, .inr (4, [.ref q5, .ref q16, .ref q31, .ref (r119 0), .ref q61, .ref q80])), ((r119 0), .inr (0, [.ref q5])), (q127, .inl (t 2, 2, .inr (.inr (.inr (.inr (va_up (va_up (fun _ => none) (0 : Int32).toNatClampNeg (some q132)) (1 : Int32).toNatClampNeg (some q142))))))), (q132, .inr (7, [.ref (r136 0), .ref (r136 1), .int 2, .int 0, .int 0, .int 0, .int 0, .int 0, .int 0, .int 0, .int 0, .int 0, .int 0, .int 0, .int 0, .int 0, .int 0])), ((r136 0), .inl (t 0, 512, .inl (fun _ => 0))), ((r136 1), .inl (t 0, 8, .inl (fun _ => 0))), (q142, .inr (7, [.ref (r146 0), .ref (r146 1), .int 2, .int 0, .int 0, .int 0, .int 0, .int 0, .int 0, .int 0, .int 0, .int 0, .int 0, .int 0, .int 0, .int 0, .int 0])), ((r146 0), .inl (t 0, 512, .inl (fun _ => 0))), ((r146 1), .inl (t 0, 8, .inl (fun _ => 0)))]) X hX 13 2 17 7 rfl rfl rfl rfl (ab_inc (by decide)) rfl d_AB_init_149 (fun H locs hX => ?_)
  refine ab_pxF (pc := 150) (ws' := [(a0, .inr (8, [.ref q5, .ref q16, .ref q31, .ref q50, .ref q61, .ref q80, .ref q95, .ref q127, .null, .int 0])), (q5, .inr (7, [.ref (r9 0), .ref (r9 1), .int 2, .int 0, .int 0, .int 0, .int 0, .int 0, .int 0, .int 0, .int 0, .int 0, .int 0, .int 0, .int 0, .int 0, .int 0])), ((r9 0), .inl (t 0, 512, .inl (fun _ => 0))), ((r9 1), .inl (t 0, 8, .inl (fun _ => 0))), (q16, .inr (2, [.ref (r24 0), .ref q5])), ((r24 0), .inl (t 0, 512, .inl (fun _ => 0))), (q31, .inr (5, [.ref q5, .ref q16])), (q50, .inr (6, [.ref (r54 0), .int 0])), ((r54 0), .inl (t 0, 8, .inl (fun _ => 0))), (q61, .inr (3, [.ref q5, .ref q50, .int 0, .int 0])), (q80, .inr (1, [.ref q5])), (q95, .inr (4, [.ref q5, .ref q16, .ref q31, .ref (r119 0), .ref q61, .ref q80])), ((r119 0), .inr (0, [.ref q5])), (q127, .inl (t 2, 2, .inr (.inr (.inr (.inr (va_up (va_up (fun _ => none) (0 : Int32).toNatClampNeg (some q132)) (1 : Int32).toNatClampNeg (some q142))))))), (q132, .inr (7, [.ref (r136 0), .ref (r136 1), .int 2, .int 0, .int 0, .int 0, .int 0, .int 0, .int 0, .int 0, .int 0, .int 0, .int 0, .int 0, .int 0, .int 0, .int 0])), ((r136 0), .inl (t 0, 512, .inl (fun _ => 0))), ((r136 1), .inl (t 0, 8, .inl (fun _ => 0))), (q142, .inr (7, [.ref (r146 0), .ref (r146 1), .int 2, .int 0, .int 0, .int 0, .int 0, .int 0, .int 0, .int 0, .int 0, .int 0, .int 0, .int 0, .int 0, .int 0, .int 0])), ((r146 0), .inl (t 0, 512, .inl (fun _ => 0))), ((r146 1), .inl (t 0, 8, .inl (fun _ => 0)))]) X hX hE.2 0 8 7 ty_AB ty_AB_ok nm_AB rfl rfl (Nat.le_of_ble_eq_true rfl) in_AB rfl tw_561 rfl rfl rfl rfl rfl (Nat.le_of_ble_eq_true rfl) rfl d_AB_init_150 (fun H locs hX => ?_)
  refine lv_aload_n (pc := 153) X.1 X.2.1 d_AB_init_153 rfl (lv_at hl 0 rfl) ?_
  refine lv_iconst (pc := 154) (v := 2) X.1 X.2.1 d_AB_init_154 (by decide) ?_
  refine ab_newa (pc := 155) (atype := .boolean) (N := 2) X hX 1 (2, .inl (fun _ => 0)) rfl tw_620 rfl (fun _ _ h1 h2 => Option.some.inj (h1.symm.trans h2)) (fun _ => rfl) (by decide) (by decide) (by decide) ⟨Nat.le_of_ble_eq_true rfl, Nat.le_of_ble_eq_true rfl⟩ d_AB_init_155 (fun q155 H hX => ?_)
  have hX : ab_hx D [(a0, .inr (8, [.ref q5, .ref q16, .ref q31, .ref q50, .ref q61, .ref q80, .ref q95, .ref q127, .null, .int 0])), (q5, .inr (7, [.ref (r9 0), .ref (r9 1), .int 2, .int 0, .int 0, .int 0, .int 0, .int 0, .int 0, .int 0, .int 0, .int 0, .int 0, .int 0, .int 0, .int 0, .int 0])), ((r9 0), .inl (t 0, 512, .inl (fun _ => 0))), ((r9 1), .inl (t 0, 8, .inl (fun _ => 0))), (q16, .inr (2, [.ref (r24 0), .ref q5])), ((r24 0), .inl (t 0, 512, .inl (fun _ => 0))), (q31, .inr (5, [.ref q5, .ref q16])), (q50, .inr (6, [.ref (r54 0), .int 0])), ((r54 0), .inl (t 0, 8, .inl (fun _ => 0))), (q61, .inr (3, [.ref q5, .ref q50, .int 0, .int 0])), (q80, .inr (1, [.ref q5])), (q95, .inr (4, [.ref q5, .ref q16, .ref q31, .ref (r119 0), .ref q61, .ref q80])), ((r119 0), .inr (0, [.ref q5])), (q127, .inl (t 2, 2, .inr (.inr (.inr (.inr (va_up (va_up (fun _ => none) (0 : Int32).toNatClampNeg (some q132)) (1 : Int32).toNatClampNeg (some q142))))))), (q132, .inr (7, [.ref (r136 0), .ref (r136 1), .int 2, .int 0, .int 0, .int 0, .int 0, .int 0, .int 0, .int 0, .int 0, .int 0, .int 0, .int 0, .int 0, .int 0, .int 0])), ((r136 0), .inl (t 0, 512, .inl (fun _ => 0))), ((r136 1), .inl (t 0, 8, .inl (fun _ => 0))), (q142, .inr (7, [.ref (r146 0), .ref (r146 1), .int 2, .int 0, .int 0, .int 0, .int 0, .int 0, .int 0, .int 0, .int 0, .int 0, .int 0, .int 0, .int 0, .int 0, .int 0])), ((r146 0), .inl (t 0, 512, .inl (fun _ => 0))), ((r146 1), .inl (t 0, 8, .inl (fun _ => 0))), (q155, .inl (t 1, 2, .inl (fun _ => 0)))] A s.heap _ _ := hX
  refine ab_pxF (pc := 157) (ws' := [(a0, .inr (8, [.ref q5, .ref q16, .ref q31, .ref q50, .ref q61, .ref q80, .ref q95, .ref q127, .ref q155, .int 0])), (q5, .inr (7, [.ref (r9 0), .ref (r9 1), .int 2, .int 0, .int 0, .int 0, .int 0, .int 0, .int 0, .int 0, .int 0, .int 0, .int 0, .int 0, .int 0, .int 0, .int 0])), ((r9 0), .inl (t 0, 512, .inl (fun _ => 0))), ((r9 1), .inl (t 0, 8, .inl (fun _ => 0))), (q16, .inr (2, [.ref (r24 0), .ref q5])), ((r24 0), .inl (t 0, 512, .inl (fun _ => 0))), (q31, .inr (5, [.ref q5, .ref q16])), (q50, .inr (6, [.ref (r54 0), .int 0])), ((r54 0), .inl (t 0, 8, .inl (fun _ => 0))), (q61, .inr (3, [.ref q5, .ref q50, .int 0, .int 0])), (q80, .inr (1, [.ref q5])), (q95, .inr (4, [.ref q5, .ref q16, .ref q31, .ref (r119 0), .ref q61, .ref q80])), ((r119 0), .inr (0, [.ref q5])), (q127, .inl (t 2, 2, .inr (.inr (.inr (.inr (va_up (va_up (fun _ => none) (0 : Int32).toNatClampNeg (some q132)) (1 : Int32).toNatClampNeg (some q142))))))), (q132, .inr (7, [.ref (r136 0), .ref (r136 1), .int 2, .int 0, .int 0, .int 0, .int 0, .int 0, .int 0, .int 0, .int 0, .int 0, .int 0, .int 0, .int 0, .int 0, .int 0])), ((r136 0), .inl (t 0, 512, .inl (fun _ => 0))), ((r136 1), .inl (t 0, 8, .inl (fun _ => 0))), (q142, .inr (7, [.ref (r146 0), .ref (r146 1), .int 2, .int 0, .int 0, .int 0, .int 0, .int 0, .int 0, .int 0, .int 0, .int 0, .int 0, .int 0, .int 0, .int 0, .int 0])), ((r146 0), .inl (t 0, 512, .inl (fun _ => 0))), ((r146 1), .inl (t 0, 8, .inl (fun _ => 0))), (q155, .inl (t 1, 2, .inl (fun _ => 0)))]) X hX hE.2 0 8 8 ty_AB ty_AB_ok nm_AB rfl rfl (Nat.le_of_ble_eq_true rfl) in_AB rfl tw_563 rfl rfl rfl rfl rfl (Nat.le_of_ble_eq_true rfl) rfl d_AB_init_157 (fun H locs hX => ?_)
  refine lv_aload_n (pc := 160) X.1 X.2.1 d_AB_init_160 rfl (lv_at hl 0 rfl) ?_
  refine lv_iconst (pc := 161) (v := 0) X.1 X.2.1 d_AB_init_161 (by decide) ?_
  refine ab_px (pc := 162) (ws' := [(a0, .inr (8, [.ref q5, .ref q16, .ref q31, .ref q50, .ref q61, .ref q80, .ref q95, .ref q127, .ref q155, .int 0])), (q5, .inr (7, [.ref (r9 0), .ref (r9 1), .int 2, .int 0, .int 0, .int 0, .int 0, .int 0, .int 0, .int 0, .int 0, .int 0, .int 0, .int 0, .int 0, .int 0, .int 0])), ((r9 0), .inl (t 0, 512, .inl (fun _ => 0))), ((r9 1), .inl (t 0, 8, .inl (fun _ => 0))), (q16, .inr (2, [.ref (r24 0), .ref q5])), ((r24 0), .inl (t 0, 512, .inl (fun _ => 0))), (q31, .inr (5, [.ref q5, .ref q16])), (q50, .inr (6, [.ref (r54 0), .int 0])), ((r54 0), .inl (t 0, 8, .inl (fun _ => 0))), (q61, .inr (3, [.ref q5, .ref q50, .int 0, .int 0])), (q80, .inr (1, [.ref q5])), (q95, .inr (4, [.ref q5, .ref q16, .ref q31, .ref (r119 0), .ref q61, .ref q80])), ((r119 0), .inr (0, [.ref q5])), (q127, .inl (t 2, 2, .inr (.inr (.inr (.inr (va_up (va_up (fun _ => none) (0 : Int32).toNatClampNeg (some q132)) (1 : Int32).toNatClampNeg (some q142))))))), (q132, .inr (7, [.ref (r136 0), .ref (r136 1), .int 2, .int 0, .int 0, .int 0, .int 0, .int 0, .int 0, .int 0, .int 0, .int 0, .int 0, .int 0, .int 0, .int 0, .int 0])), ((r136 0), .inl (t 0, 512, .inl (fun _ => 0))), ((r136 1), .inl (t 0, 8, .inl (fun _ => 0))), (q142, .inr (7, [.ref (r146 0), .ref (r146 1), .int 2, .int 0, .int 0, .int 0, .int 0, .int 0, .int 0, .int 0, .int 0, .int 0, .int 0, .int 0, .int 0, .int 0, .int 0])), ((r146 0), .inl (t 0, 512, .inl (fun _ => 0))), ((r146 1), .inl (t 0, 8, .inl (fun _ => 0))), (q155, .inl (t 1, 2, .inl (fun _ => 0)))]) X hX 0 8 9 ty_AB ty_AB_ok nm_AB rfl rfl (Nat.le_of_ble_eq_true rfl) in_AB rfl tw_495 rfl rfl rfl rfl (Nat.le_of_ble_eq_true rfl) rfl d_AB_init_162 (fun H locs hX => ?_)
  exact ab_kn_ret (fun k => ([q5, (r9 0), (r9 1), q16, (r24 0), q31, q50, (r54 0), q61, q80, q95, (r119 0), q127, q132, (r136 0), (r136 1), q142, (r146 0), (r146 1), q155] : List Nat).getD k 0) X hr hk hX d_AB_init_165
abbrev b_MD_init : ByteArray := prog_11_method_1_code
def y_MD_init : MethodName := ⟨"ArcadeBoardModel", "<init>", "()V"⟩
theorem d_MD_init_0 : decode b_MD_init 0 = .ok (.aload_n 0, 1) := by decide +kernel
theorem d_MD_init_1 : decode b_MD_init 1 = .ok (.invokespecial 1, 3) := by decide +kernel
theorem d_MD_init_4 : decode b_MD_init 4 = .ok (.aload_n 0, 1) := by decide +kernel
theorem d_MD_init_5 : decode b_MD_init 5 = .ok (.sipush 1024, 3) := by decide +kernel
theorem d_MD_init_8 : decode b_MD_init 8 = .ok (.newarray .int, 2) := by decide +kernel
theorem d_MD_init_10 : decode b_MD_init 10 = .ok (.putfield 7, 3) := by decide +kernel
theorem d_MD_init_13 : decode b_MD_init 13 = .ok (.aload_n 0, 1) := by decide +kernel
theorem d_MD_init_14 : decode b_MD_init 14 = .ok (.bipush 8, 2) := by decide +kernel
theorem d_MD_init_16 : decode b_MD_init 16 = .ok (.newarray .int, 2) := by decide +kernel
theorem d_MD_init_18 : decode b_MD_init 18 = .ok (.putfield 13, 3) := by decide +kernel
theorem d_MD_init_21 : decode b_MD_init 21 = .ok (.aload_n 0, 1) := by decide +kernel
theorem d_MD_init_22 : decode b_MD_init 22 = .ok (.bipush 8, 2) := by decide +kernel
theorem d_MD_init_24 : decode b_MD_init 24 = .ok (.newarray .int, 2) := by decide +kernel
theorem d_MD_init_26 : decode b_MD_init 26 = .ok (.putfield 16, 3) := by decide +kernel
theorem d_MD_init_29 : decode b_MD_init 29 = .ok (.aload_n 0, 1) := by decide +kernel
theorem d_MD_init_30 : decode b_MD_init 30 = .ok (.iconst 2, 1) := by decide +kernel
theorem d_MD_init_31 : decode b_MD_init 31 = .ok (.newarray .boolean, 2) := by decide +kernel
theorem d_MD_init_33 : decode b_MD_init 33 = .ok (.putfield 19, 3) := by decide +kernel
theorem d_MD_init_36 : decode b_MD_init 36 = .ok (.aload_n 0, 1) := by decide +kernel
theorem d_MD_init_37 : decode b_MD_init 37 = .ok (.sipush 1080, 3) := by decide +kernel
theorem d_MD_init_40 : decode b_MD_init 40 = .ok (.newarray .int, 2) := by decide +kernel
theorem d_MD_init_42 : decode b_MD_init 42 = .ok (.putfield 23, 3) := by decide +kernel
theorem d_MD_init_45 : decode b_MD_init 45 = .ok (.return_, 1) := by decide +kernel
theorem tw_621 : Jvm.Cond.code ⟨"ArcadeBoardModel", "<init>", "()V"⟩ prog_11_method_1_code 1 (Option.none : Option Jvm.ClassFile.FieldType) ∈ AL := ab_in (ab_t3 (List.mem_of_getElem? (i := 176) (by decide +kernel))) rfl
theorem tw_622 : Jvm.Cond.methodLink "ArcadeBoardModel" 1 ⟨"java/lang/Object", "<init>", "()V"⟩ ∈ AL := ab_in (ab_t3 (List.mem_of_getElem? (i := 177) (by decide +kernel))) rfl
theorem ok_MD_init : ab_yok y_MD_init b_MD_init 1 none 0 := ⟨tw_621, tw_280, by decide, by decide, by decide +kernel⟩
def w1_MD_init (t : Nat → ClassId) (a0 : Nat) (r : Nat → Nat) : va_W := [(a0, .inr (9, [.int 0, .ref (r 0), .int 0, .int 0, .int 0, .ref (r 1), .int 0, .int 0, .int 0, .int 0, .int 0, .int 0, .int 0, .int 0, .int 0, .int 0, .int 0, .int 0, .int 0, .int 0, .int 0, .int 0, .int 0, .int 0, .int 0, .int 0, .ref (r 2), .ref (r 3), .ref (r 4), .int 0])), ((r 0), .inl (t 0, 1024, .inl (fun _ => 0))), ((r 1), .inl (t 0, 8, .inl (fun _ => 0))), ((r 2), .inl (t 0, 8, .inl (fun _ => 0))), ((r 3), .inl (t 1, 2, .inl (fun _ => 0))), ((r 4), .inl (t 0, 1080, .inl (fun _ => 0)))]
set_option maxHeartbeats 1000000 in
set_option maxRecDepth 100000 in
theorem c_MD_init (l : Launch) (D : va_G) (t : Nat → ClassId) (a0 : Nat) : ab_kn l D (tyC t) y_MD_init b_MD_init 1 { frames := 1, cells := 5, slots := 2122, locals := 12 } [.ref a0] [(a0, .inr (9, [.int 0, .null, .int 0, .int 0, .int 0, .null, .int 0, .int 0, .int 0, .int 0, .int 0, .int 0, .int 0, .int 0, .int 0, .int 0, .int 0, .int 0, .int 0, .int 0, .int 0, .int 0, .int 0, .int 0, .int 0, .int 0, .null, .null, .null, .int 0]))] (w1_MD_init t a0) := by
  refine ab_kn_ofW (by decide) rfl (Nat.le_of_ble_eq_true rfl) (fun p e s m below meth c ls A X hE hr hk hl hX => ?_)
  have hl : lv_has ls 1 [(0, .ref a0)] := hl
  refine lv_aload_n (pc := 0) X.1 X.2.1 d_MD_init_0 rfl (lv_at hl 0 rfl) ?_
  refine ab_obj (pc := 1) X hl.1 ⟨tw_622, tw_571, tw_572⟩ ⟨Nat.le_of_ble_eq_true rfl, Nat.le_of_ble_eq_true rfl⟩ d_MD_init_1 ?_
  refine lv_aload_n (pc := 4) X.1 X.2.1 d_MD_init_4 rfl (lv_at hl 0 rfl) ?_
  refine lv_sipush (pc := 5) (v := 1024) X.1 X.2.1 d_MD_init_5 (by decide) ?_
  refine ab_newa (pc := 8) (atype := .int) (N := 1024) X hX 0 (1024, .inl (fun _ => 0)) rfl tw_573 rfl (fun _ _ h1 h2 => Option.some.inj (h1.symm.trans h2)) (fun _ => rfl) (by decide) (by decide) (by decide) ⟨Nat.le_of_ble_eq_true rfl, Nat.le_of_ble_eq_true rfl⟩ d_MD_init_8 (fun q8 H hX => ?_)
  have hX : ab_hx D [(a0, .inr (9, [.int 0, .null, .int 0, .int 0, .int 0, .null, .int 0, .int 0, .int 0, .int 0, .int 0, .int 0, .int 0, .int 0, .int 0, .int 0, .int 0, .int 0, .int 0, .int 0, .int 0, .int 0, .int 0, .int 0, .int 0, .int 0, .null, .null, .null, .int 0])), (q8, .inl (t 0, 1024, .inl (fun _ => 0)))] A s.heap _ _ := hX
  refine ab_pxF (pc := 10) (ws' := [(a0, .inr (9, [.int 0, .ref q8, .int 0, .int 0, .int 0, .null, .int 0, .int 0, .int 0, .int 0, .int 0, .int 0, .int 0, .int 0, .int 0, .int 0, .int 0, .int 0, .int 0, .int 0, .int 0, .int 0, .int 0, .int 0, .int 0, .int 0, .null, .null, .null, .int 0])), (q8, .inl (t 0, 1024, .inl (fun _ => 0)))]) X hX hE.2 0 9 1 ty_MD ty_MD_ok nm_MD rfl rfl (Nat.le_of_ble_eq_true rfl) in_MD rfl tw_287 rfl rfl rfl rfl rfl (Nat.le_of_ble_eq_true rfl) rfl d_MD_init_10 (fun H locs hX => ?_)
  refine lv_aload_n (pc := 13) X.1 X.2.1 d_MD_init_13 rfl (lv_at hl 0 rfl) ?_
  refine lv_bipush (pc := 14) (v := 8) X.1 X.2.1 d_MD_init_14 (by decide) ?_
  refine ab_newa (pc := 16) (atype := .int) (N := 8) X hX 0 (8, .inl (fun _ => 0)) rfl tw_573 rfl (fun _ _ h1 h2 => Option.some.inj (h1.symm.trans h2)) (fun _ => rfl) (by decide) (by decide) (by decide) ⟨Nat.le_of_ble_eq_true rfl, Nat.le_of_ble_eq_true rfl⟩ d_MD_init_16 (fun q16 H hX => ?_)
  have hX : ab_hx D [(a0, .inr (9, [.int 0, .ref q8, .int 0, .int 0, .int 0, .null, .int 0, .int 0, .int 0, .int 0, .int 0, .int 0, .int 0, .int 0, .int 0, .int 0, .int 0, .int 0, .int 0, .int 0, .int 0, .int 0, .int 0, .int 0, .int 0, .int 0, .null, .null, .null, .int 0])), (q8, .inl (t 0, 1024, .inl (fun _ => 0))), (q16, .inl (t 0, 8, .inl (fun _ => 0)))] A s.heap _ _ := hX
  refine ab_pxF (pc := 18) (ws' := [(a0, .inr (9, [.int 0, .ref q8, .int 0, .int 0, .int 0, .ref q16, .int 0, .int 0, .int 0, .int 0, .int 0, .int 0, .int 0, .int 0, .int 0, .int 0, .int 0, .int 0, .int 0, .int 0, .int 0, .int 0, .int 0, .int 0, .int 0, .int 0, .null, .null, .null, .int 0])), (q8, .inl (t 0, 1024, .inl (fun _ => 0))), (q16, .inl (t 0, 8, .inl (fun _ => 0)))]) X hX hE.2 0 9 5 ty_MD ty_MD_ok nm_MD rfl rfl (Nat.le_of_ble_eq_true rfl) in_MD rfl tw_304 rfl rfl rfl rfl rfl (Nat.le_of_ble_eq_true rfl) rfl d_MD_init_18 (fun H locs hX => ?_)
  refine lv_aload_n (pc := 21) X.1 X.2.1 d_MD_init_21 rfl (lv_at hl 0 rfl) ?_
  refine lv_bipush (pc := 22) (v := 8) X.1 X.2.1 d_MD_init_22 (by decide) ?_
  refine ab_newa (pc := 24) (atype := .int) (N := 8) X hX 0 (8, .inl (fun _ => 0)) rfl tw_573 rfl (fun _ _ h1 h2 => Option.some.inj (h1.symm.trans h2)) (fun _ => rfl) (by decide) (by decide) (by decide) ⟨Nat.le_of_ble_eq_true rfl, Nat.le_of_ble_eq_true rfl⟩ d_MD_init_24 (fun q24 H hX => ?_)
  have hX : ab_hx D [(a0, .inr (9, [.int 0, .ref q8, .int 0, .int 0, .int 0, .ref q16, .int 0, .int 0, .int 0, .int 0, .int 0, .int 0, .int 0, .int 0, .int 0, .int 0, .int 0, .int 0, .int 0, .int 0, .int 0, .int 0, .int 0, .int 0, .int 0, .int 0, .null, .null, .null, .int 0])), (q8, .inl (t 0, 1024, .inl (fun _ => 0))), (q16, .inl (t 0, 8, .inl (fun _ => 0))), (q24, .inl (t 0, 8, .inl (fun _ => 0)))] A s.heap _ _ := hX
  refine ab_pxF (pc := 26) (ws' := [(a0, .inr (9, [.int 0, .ref q8, .int 0, .int 0, .int 0, .ref q16, .int 0, .int 0, .int 0, .int 0, .int 0, .int 0, .int 0, .int 0, .int 0, .int 0, .int 0, .int 0, .int 0, .int 0, .int 0, .int 0, .int 0, .int 0, .int 0, .int 0, .ref q24, .null, .null, .int 0])), (q8, .inl (t 0, 1024, .inl (fun _ => 0))), (q16, .inl (t 0, 8, .inl (fun _ => 0))), (q24, .inl (t 0, 8, .inl (fun _ => 0)))]) X hX hE.2 0 9 26 ty_MD ty_MD_ok nm_MD rfl rfl (Nat.le_of_ble_eq_true rfl) in_MD rfl tw_373 rfl rfl rfl rfl rfl (Nat.le_of_ble_eq_true rfl) rfl d_MD_init_26 (fun H locs hX => ?_)
  refine lv_aload_n (pc := 29) X.1 X.2.1 d_MD_init_29 rfl (lv_at hl 0 rfl) ?_
  refine lv_iconst (pc := 30) (v := 2) X.1 X.2.1 d_MD_init_30 (by decide) ?_
  refine ab_newa (pc := 31) (atype := .boolean) (N := 2) X hX 1 (2, .inl (fun _ => 0)) rfl tw_620 rfl (fun _ _ h1 h2 => Option.some.inj (h1.symm.trans h2)) (fun _ => rfl) (by decide) (by decide) (by decide) ⟨Nat.le_of_ble_eq_true rfl, Nat.le_of_ble_eq_true rfl⟩ d_MD_init_31 (fun q31 H hX => ?_)
  have hX : ab_hx D [(a0, .inr (9, [.int 0, .ref q8, .int 0, .int 0, .int 0, .ref q16, .int 0, .int 0, .int 0, .int 0, .int 0, .int 0, .int 0, .int 0, .int 0, .int 0, .int 0, .int 0, .int 0, .int 0, .int 0, .int 0, .int 0, .int 0, .int 0, .int 0, .ref q24, .null, .null, .int 0])), (q8, .inl (t 0, 1024, .inl (fun _ => 0))), (q16, .inl (t 0, 8, .inl (fun _ => 0))), (q24, .inl (t 0, 8, .inl (fun _ => 0))), (q31, .inl (t 1, 2, .inl (fun _ => 0)))] A s.heap _ _ := hX
  refine ab_pxF (pc := 33) (ws' := [(a0, .inr (9, [.int 0, .ref q8, .int 0, .int 0, .int 0, .ref q16, .int 0, .int 0, .int 0, .int 0, .int 0, .int 0, .int 0, .int 0, .int 0, .int 0, .int 0, .int 0, .int 0, .int 0, .int 0, .int 0, .int 0, .int 0, .int 0, .int 0, .ref q24, .ref q31, .null, .int 0])), (q8, .inl (t 0, 1024, .inl (fun _ => 0))), (q16, .inl (t 0, 8, .inl (fun _ => 0))), (q24, .inl (t 0, 8, .inl (fun _ => 0))), (q31, .inl (t 1, 2, .inl (fun _ => 0)))]) X hX hE.2 0 9 27 ty_MD ty_MD_ok nm_MD rfl rfl (Nat.le_of_ble_eq_true rfl) in_MD rfl tw_457 rfl rfl rfl rfl rfl (Nat.le_of_ble_eq_true rfl) rfl d_MD_init_33 (fun H locs hX => ?_)
  refine lv_aload_n (pc := 36) X.1 X.2.1 d_MD_init_36 rfl (lv_at hl 0 rfl) ?_
  refine lv_sipush (pc := 37) (v := 1080) X.1 X.2.1 d_MD_init_37 (by decide) ?_
  refine ab_newa (pc := 40) (atype := .int) (N := 1080) X hX 0 (1080, .inl (fun _ => 0)) rfl tw_573 rfl (fun _ _ h1 h2 => Option.some.inj (h1.symm.trans h2)) (fun _ => rfl) (by decide) (by decide) (by decide) ⟨Nat.le_of_ble_eq_true rfl, Nat.le_of_ble_eq_true rfl⟩ d_MD_init_40 (fun q40 H hX => ?_)
  have hX : ab_hx D [(a0, .inr (9, [.int 0, .ref q8, .int 0, .int 0, .int 0, .ref q16, .int 0, .int 0, .int 0, .int 0, .int 0, .int 0, .int 0, .int 0, .int 0, .int 0, .int 0, .int 0, .int 0, .int 0, .int 0, .int 0, .int 0, .int 0, .int 0, .int 0, .ref q24, .ref q31, .null, .int 0])), (q8, .inl (t 0, 1024, .inl (fun _ => 0))), (q16, .inl (t 0, 8, .inl (fun _ => 0))), (q24, .inl (t 0, 8, .inl (fun _ => 0))), (q31, .inl (t 1, 2, .inl (fun _ => 0))), (q40, .inl (t 0, 1080, .inl (fun _ => 0)))] A s.heap _ _ := hX
  refine ab_pxF (pc := 42) (ws' := [(a0, .inr (9, [.int 0, .ref q8, .int 0, .int 0, .int 0, .ref q16, .int 0, .int 0, .int 0, .int 0, .int 0, .int 0, .int 0, .int 0, .int 0, .int 0, .int 0, .int 0, .int 0, .int 0, .int 0, .int 0, .int 0, .int 0, .int 0, .int 0, .ref q24, .ref q31, .ref q40, .int 0])), (q8, .inl (t 0, 1024, .inl (fun _ => 0))), (q16, .inl (t 0, 8, .inl (fun _ => 0))), (q24, .inl (t 0, 8, .inl (fun _ => 0))), (q31, .inl (t 1, 2, .inl (fun _ => 0))), (q40, .inl (t 0, 1080, .inl (fun _ => 0)))]) X hX hE.2 0 9 28 ty_MD ty_MD_ok nm_MD rfl rfl (Nat.le_of_ble_eq_true rfl) in_MD rfl tw_458 rfl rfl rfl rfl rfl (Nat.le_of_ble_eq_true rfl) rfl d_MD_init_42 (fun H locs hX => ?_)
  exact ab_kn_ret (fun k => ([q8, q16, q24, q31, q40] : List Nat).getD k 0) X hr hk hX d_MD_init_45
