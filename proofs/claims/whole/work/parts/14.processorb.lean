abbrev b_Processor_move : ByteArray := prog_6_method_5_code
def y_Processor_move : MethodName := ⟨"ArcadeBoard$Processor", "move", "(II)I"⟩
theorem d_Processor_move_0 : decode b_Processor_move 0 = .ok (.iload_n 1, 1) := by decide +kernel
theorem d_Processor_move_1 : decode b_Processor_move 1 = .ok (.bipush 6, 2) := by decide +kernel
theorem d_Processor_move_3 : decode b_Processor_move 3 = .ok (.if_icmp .ne 20, 3) := by decide +kernel
theorem d_Processor_move_6 : decode b_Processor_move 6 = .ok (.iload_n 2, 1) := by decide +kernel
theorem d_Processor_move_7 : decode b_Processor_move 7 = .ok (.bipush 6, 2) := by decide +kernel
theorem d_Processor_move_9 : decode b_Processor_move 9 = .ok (.if_icmp .ne 14, 3) := by decide +kernel
theorem d_Processor_move_12 : decode b_Processor_move 12 = .ok (.aload_n 0, 1) := by decide +kernel
theorem d_Processor_move_13 : decode b_Processor_move 13 = .ok (.getfield 9, 3) := by decide +kernel
theorem d_Processor_move_16 : decode b_Processor_move 16 = .ok (.iconst 1, 1) := by decide +kernel
theorem d_Processor_move_17 : decode b_Processor_move 17 = .ok (.putfield 57, 3) := by decide +kernel
theorem d_Processor_move_20 : decode b_Processor_move 20 = .ok (.bipush 7, 2) := by decide +kernel
theorem d_Processor_move_22 : decode b_Processor_move 22 = .ok (.ireturn, 1) := by decide +kernel
theorem d_Processor_move_23 : decode b_Processor_move 23 = .ok (.aload_n 0, 1) := by decide +kernel
theorem d_Processor_move_24 : decode b_Processor_move 24 = .ok (.getfield 19, 3) := by decide +kernel
theorem d_Processor_move_27 : decode b_Processor_move 27 = .ok (.iload_n 1, 1) := by decide +kernel
theorem d_Processor_move_28 : decode b_Processor_move 28 = .ok (.aload_n 0, 1) := by decide +kernel
theorem d_Processor_move_29 : decode b_Processor_move 29 = .ok (.getfield 19, 3) := by decide +kernel
theorem d_Processor_move_32 : decode b_Processor_move 32 = .ok (.iload_n 2, 1) := by decide +kernel
theorem d_Processor_move_33 : decode b_Processor_move 33 = .ok (.invokevirtual 83, 3) := by decide +kernel
theorem d_Processor_move_36 : decode b_Processor_move 36 = .ok (.invokevirtual 94, 3) := by decide +kernel
theorem d_Processor_move_39 : decode b_Processor_move 39 = .ok (.iload_n 1, 1) := by decide +kernel
theorem d_Processor_move_40 : decode b_Processor_move 40 = .ok (.bipush 6, 2) := by decide +kernel
theorem d_Processor_move_42 : decode b_Processor_move 42 = .ok (.if_icmp .eq 9, 3) := by decide +kernel
theorem d_Processor_move_45 : decode b_Processor_move 45 = .ok (.iload_n 2, 1) := by decide +kernel
theorem d_Processor_move_46 : decode b_Processor_move 46 = .ok (.bipush 6, 2) := by decide +kernel
theorem d_Processor_move_48 : decode b_Processor_move 48 = .ok (.if_icmp .ne 8, 3) := by decide +kernel
theorem d_Processor_move_51 : decode b_Processor_move 51 = .ok (.bipush 7, 2) := by decide +kernel
theorem d_Processor_move_53 : decode b_Processor_move 53 = .ok (.goto 4, 3) := by decide +kernel
theorem d_Processor_move_56 : decode b_Processor_move 56 = .ok (.iconst 5, 1) := by decide +kernel
theorem d_Processor_move_57 : decode b_Processor_move 57 = .ok (.ireturn, 1) := by decide +kernel
theorem tw_220 : Jvm.Cond.code ⟨"ArcadeBoard$Processor", "move", "(II)I"⟩ prog_6_method_5_code 3 (Option.some Jvm.ClassFile.FieldType.int) ∈ AL := ab_in (ab_t3 (List.mem_of_getElem? (i := 85) (by decide +kernel))) rfl
theorem tw_221 : Jvm.Cond.instanceMethod ⟨"ArcadeBoard$Processor", "move", "(II)I"⟩ ∈ AL := ab_in (ab_t3 (List.mem_of_getElem? (i := 84) (by decide +kernel))) rfl
theorem tw_222 : Cond.selects "ArcadeBoard$Processor" ⟨"ArcadeBoard$Processor", "move", "(II)I"⟩ ⟨"ArcadeBoard$Processor", "move", "(II)I"⟩ ∈ AL := ab_in (ab_s1 (List.mem_of_getElem? (i := 10) (by decide +kernel))) rfl
theorem ok_Processor_move : ab_yok y_Processor_move b_Processor_move 3 (some .int) 2 := ⟨tw_220, tw_170, by decide, by decide, by decide +kernel⟩
theorem okv_Processor_move : ab_yok_V y_Processor_move := ⟨tw_221, tw_222⟩
set_option maxHeartbeats 1000000 in
set_option maxRecDepth 100000 in
theorem c_Processor_move (l : Launch) (D : va_G) (t : Nat → ClassId) (q : Nat → Nat) (u : SS) (x1 : Int32) (x2 : Int32) : ab_ki l D (tyC t) (wC t q) y_Processor_move b_Processor_move 3 .int { frames := 2, cells := 0, slots := 0, locals := 45 } [.ref (q 0), .int x1, .int x2] u (f_Processor_move u x1 x2) := by
  refine ab_ki_ofW (by decide) (Nat.le_of_ble_eq_true rfl) (fun p e s m below meth c ls A X hr hk hl hX => ?_)
  have hl : lv_has ls 3 [(0, .ref (q 0)), (1, .int x1), (2, .int x2)] := hl
  refine lv_iload_n (pc := 0) X.1 X.2.1 d_Processor_move_0 rfl (lv_at hl 1 rfl) ?_
  refine lv_bipush (pc := 1) (v := 6) X.1 X.2.1 d_Processor_move_1 (by decide) ?_
  refine lv_icmp_ne (pc := 3) (tgt := 23) X.1 X.2.1 d_Processor_move_3 (by decide) (fun h1 => ?_) (fun h1 => ?_)
  ·
    refine lv_aload_n (pc := 23) X.1 X.2.1 d_Processor_move_23 rfl (lv_at hl 0 rfl) ?_
    refine ab_gx (pc := 24) (v := .ref (q 6)) X hX 0 4 2 rfl rfl (Nat.le_of_ble_eq_true rfl) in_Processor rfl tw_196 rfl d_Processor_move_24 ?_
    refine lv_iload_n (pc := 27) X.1 X.2.1 d_Processor_move_27 rfl (lv_at hl 1 rfl) ?_
    refine lv_aload_n (pc := 28) X.1 X.2.1 d_Processor_move_28 rfl (lv_at hl 0 rfl) ?_
    refine ab_gx (pc := 29) (v := .ref (q 6)) X hX 0 4 2 rfl rfl (Nat.le_of_ble_eq_true rfl) in_Processor rfl tw_196 rfl d_Processor_move_29 ?_
    refine lv_iload_n (pc := 32) X.1 X.2.1 d_Processor_move_32 rfl (lv_at hl 2 rfl) ?_
    refine ab_kr_callV (pc := 33) (wr := []) (w := (wC t q)) (u := u) (r := f_Registers_value u x2) (as := [.int x2]) (rest := [.int x1, .ref (q 6)]) X hX (c_Registers_value l D t q u x2) ok_Registers_value okv_Registers_value tw_213 6 5 rfl rfl rfl hl.1 rfl (Nat.le_of_ble_eq_true rfl) ⟨rfl, rfl, Nat.le_of_ble_eq_true rfl, Nat.le_of_ble_eq_true rfl⟩ ⟨Nat.zero_le _, Nat.zero_le _⟩ d_Processor_move_33 (fun H locs hX => ?_)
    refine ab_kv_callV (pc := 36) (wr := []) (w := (wC t q)) (u := u) (F := f_Registers_set u x1 (f_Registers_value u x2)) (as := [.int x1, .int (f_Registers_value u x2)]) (rest := []) X hX (c_Registers_set l D t q u x1 (f_Registers_value u x2)) ok_Registers_set okv_Registers_set tw_215 6 5 rfl rfl rfl hl.1 rfl (Nat.le_of_ble_eq_true rfl) ⟨rfl, rfl, Nat.le_of_ble_eq_true rfl, Nat.le_of_ble_eq_true rfl⟩ ⟨Nat.zero_le _, Nat.zero_le _⟩ d_Processor_move_36 (fun H locs hX => ?_)
    refine lv_iload_n (pc := 39) X.1 X.2.1 d_Processor_move_39 rfl (lv_at hl 1 rfl) ?_
    refine lv_bipush (pc := 40) (v := 6) X.1 X.2.1 d_Processor_move_40 (by decide) ?_
    refine ab_jn (ls := ls) (rest := []) 57 (if x1 = 6 then 7 else (if x2 = 6 then 7 else 5 : Int32) : Int32) ?_ (fun J => ?_)
    rotate_left
    ·
      refine lv_icmp_eq (pc := 42) (tgt := 51) X.1 X.2.1 d_Processor_move_42 (by decide) (fun h2 => ?_) (fun h2 => ?_)
      ·
        refine lv_bipush (pc := 51) (v := 7) X.1 X.2.1 d_Processor_move_51 (by decide) ?_
        refine lv_goto (pc := 53) (tgt := 57) X.1 X.2.1 d_Processor_move_53 (by decide) ?_
        exact ab_jt (by rw [if_pos h2]) J
      ·
        refine lv_iload_n (pc := 45) X.1 X.2.1 d_Processor_move_45 rfl (lv_at hl 2 rfl) ?_
        refine lv_bipush (pc := 46) (v := 6) X.1 X.2.1 d_Processor_move_46 (by decide) ?_
        refine lv_icmp_ne (pc := 48) (tgt := 56) X.1 X.2.1 d_Processor_move_48 (by decide) (fun h3 => ?_) (fun h3 => ?_)
        ·
          refine lv_iconst (pc := 56) (v := 5) X.1 X.2.1 d_Processor_move_56 (by decide) ?_
          exact ab_jt (by rw [if_neg h2, if_neg h3]) J
        ·
          refine lv_bipush (pc := 51) (v := 7) X.1 X.2.1 d_Processor_move_51 (by decide) ?_
          refine lv_goto (pc := 53) (tgt := 57) X.1 X.2.1 d_Processor_move_53 (by decide) ?_
          exact ab_jt (by rw [if_neg h2, if_pos h3]) J
    exact ab_ki_ret (pc := 57) X hr hk hX rfl (by rw [f_Processor_move, if_neg h1]) d_Processor_move_57
  ·
    refine lv_iload_n (pc := 6) X.1 X.2.1 d_Processor_move_6 rfl (lv_at hl 2 rfl) ?_
    refine lv_bipush (pc := 7) (v := 6) X.1 X.2.1 d_Processor_move_7 (by decide) ?_
    refine lv_icmp_ne (pc := 9) (tgt := 23) X.1 X.2.1 d_Processor_move_9 (by decide) (fun h4 => ?_) (fun h4 => ?_)
    ·
      refine lv_aload_n (pc := 23) X.1 X.2.1 d_Processor_move_23 rfl (lv_at hl 0 rfl) ?_
      refine ab_gx (pc := 24) (v := .ref (q 6)) X hX 0 4 2 rfl rfl (Nat.le_of_ble_eq_true rfl) in_Processor rfl tw_196 rfl d_Processor_move_24 ?_
      refine lv_iload_n (pc := 27) X.1 X.2.1 d_Processor_move_27 rfl (lv_at hl 1 rfl) ?_
      refine lv_aload_n (pc := 28) X.1 X.2.1 d_Processor_move_28 rfl (lv_at hl 0 rfl) ?_
      refine ab_gx (pc := 29) (v := .ref (q 6)) X hX 0 4 2 rfl rfl (Nat.le_of_ble_eq_true rfl) in_Processor rfl tw_196 rfl d_Processor_move_29 ?_
      refine lv_iload_n (pc := 32) X.1 X.2.1 d_Processor_move_32 rfl (lv_at hl 2 rfl) ?_
      refine ab_kr_callV (pc := 33) (wr := []) (w := (wC t q)) (u := u) (r := f_Registers_value u x2) (as := [.int x2]) (rest := [.int x1, .ref (q 6)]) X hX (c_Registers_value l D t q u x2) ok_Registers_value okv_Registers_value tw_213 6 5 rfl rfl rfl hl.1 rfl (Nat.le_of_ble_eq_true rfl) ⟨rfl, rfl, Nat.le_of_ble_eq_true rfl, Nat.le_of_ble_eq_true rfl⟩ ⟨Nat.zero_le _, Nat.zero_le _⟩ d_Processor_move_33 (fun H locs hX => ?_)
      refine ab_kv_callV (pc := 36) (wr := []) (w := (wC t q)) (u := u) (F := f_Registers_set u x1 (f_Registers_value u x2)) (as := [.int x1, .int (f_Registers_value u x2)]) (rest := []) X hX (c_Registers_set l D t q u x1 (f_Registers_value u x2)) ok_Registers_set okv_Registers_set tw_215 6 5 rfl rfl rfl hl.1 rfl (Nat.le_of_ble_eq_true rfl) ⟨rfl, rfl, Nat.le_of_ble_eq_true rfl, Nat.le_of_ble_eq_true rfl⟩ ⟨Nat.zero_le _, Nat.zero_le _⟩ d_Processor_move_36 (fun H locs hX => ?_)
      refine lv_iload_n (pc := 39) X.1 X.2.1 d_Processor_move_39 rfl (lv_at hl 1 rfl) ?_
      refine lv_bipush (pc := 40) (v := 6) X.1 X.2.1 d_Processor_move_40 (by decide) ?_
      refine ab_jn (ls := ls) (rest := []) 57 (if x1 = 6 then 7 else (if x2 = 6 then 7 else 5 : Int32) : Int32) ?_ (fun J => ?_)
      rotate_left
      ·
        refine lv_icmp_eq (pc := 42) (tgt := 51) X.1 X.2.1 d_Processor_move_42 (by decide) (fun h5 => ?_) (fun h5 => ?_)
        ·
          refine lv_bipush (pc := 51) (v := 7) X.1 X.2.1 d_Processor_move_51 (by decide) ?_
          refine lv_goto (pc := 53) (tgt := 57) X.1 X.2.1 d_Processor_move_53 (by decide) ?_
          exact ab_jt (by rw [if_pos h5]) J
        ·
          refine lv_iload_n (pc := 45) X.1 X.2.1 d_Processor_move_45 rfl (lv_at hl 2 rfl) ?_
          refine lv_bipush (pc := 46) (v := 6) X.1 X.2.1 d_Processor_move_46 (by decide) ?_
          refine lv_icmp_ne (pc := 48) (tgt := 56) X.1 X.2.1 d_Processor_move_48 (by decide) (fun h6 => ?_) (fun h6 => ?_)
          ·
            refine lv_iconst (pc := 56) (v := 5) X.1 X.2.1 d_Processor_move_56 (by decide) ?_
            exact ab_jt (by rw [if_neg h5, if_neg h6]) J
          ·
            refine lv_bipush (pc := 51) (v := 7) X.1 X.2.1 d_Processor_move_51 (by decide) ?_
            refine lv_goto (pc := 53) (tgt := 57) X.1 X.2.1 d_Processor_move_53 (by decide) ?_
            exact ab_jt (by rw [if_neg h5, if_pos h6]) J
      exact ab_ki_ret (pc := 57) X hr hk hX rfl (by rw [f_Processor_move, if_pos h1, if_neg h4]) d_Processor_move_57
    ·
      refine lv_aload_n (pc := 12) X.1 X.2.1 d_Processor_move_12 rfl (lv_at hl 0 rfl) ?_
      refine ab_gx (pc := 13) (v := .ref (q 1)) X hX 0 4 0 rfl rfl (Nat.le_of_ble_eq_true rfl) in_Processor rfl tw_174 rfl d_Processor_move_13 ?_
      refine lv_iconst (pc := 16) (v := 1) X.1 X.2.1 d_Processor_move_16 (by decide) ?_
      refine ab_px (pc := 17) (ws' := (wC t q (stt u 0 5 1))) X hX 1 7 7 ty_State ty_State_ok nm_State rfl rfl (Nat.le_of_ble_eq_true rfl) in_State rfl tw_182 rfl rfl rfl rfl (Nat.le_of_ble_eq_true rfl) (sf_wC_1_7 t q u 1) d_Processor_move_17 (fun H locs hX => ?_)
      refine lv_bipush (pc := 20) (v := 7) X.1 X.2.1 d_Processor_move_20 (by decide) ?_
      exact ab_ki_ret (pc := 22) X hr hk hX rfl (by rw [f_Processor_move, if_pos h1, if_pos h4]) d_Processor_move_22
abbrev b_Processor_holds : ByteArray := prog_6_method_18_code
def y_Processor_holds : MethodName := ⟨"ArcadeBoard$Processor", "holds", "(I)Z"⟩
theorem d_Processor_holds_0 : decode b_Processor_holds 0 = .ok (.iload_n 1, 1) := by decide +kernel
theorem d_Processor_holds_1 : decode b_Processor_holds 1 = .ok (.iconst 2, 1) := by decide +kernel
theorem d_Processor_holds_2 : decode b_Processor_holds 2 = .ok (.irem, 1) := by decide +kernel
theorem d_Processor_holds_3 : decode b_Processor_holds 3 = .ok (.iconst 1, 1) := by decide +kernel
theorem d_Processor_holds_4 : decode b_Processor_holds 4 = .ok (.if_icmp .ne 7, 3) := by decide +kernel
theorem d_Processor_holds_7 : decode b_Processor_holds 7 = .ok (.iconst 1, 1) := by decide +kernel
theorem d_Processor_holds_8 : decode b_Processor_holds 8 = .ok (.goto 4, 3) := by decide +kernel
theorem d_Processor_holds_11 : decode b_Processor_holds 11 = .ok (.iconst 0, 1) := by decide +kernel
theorem d_Processor_holds_12 : decode b_Processor_holds 12 = .ok (.istore_n 2, 1) := by decide +kernel
theorem d_Processor_holds_13 : decode b_Processor_holds 13 = .ok (.iload_n 1, 1) := by decide +kernel
theorem d_Processor_holds_14 : decode b_Processor_holds 14 = .ok (.iconst 2, 1) := by decide +kernel
theorem d_Processor_holds_15 : decode b_Processor_holds 15 = .ok (.idiv, 1) := by decide +kernel
theorem d_Processor_holds_16 : decode b_Processor_holds 16 = .ok (.tableswitch 110 0 2 #[28, 56, 83], 28) := by decide +kernel
theorem d_Processor_holds_44 : decode b_Processor_holds 44 = .ok (.aload_n 0, 1) := by decide +kernel
theorem d_Processor_holds_45 : decode b_Processor_holds 45 = .ok (.getfield 9, 3) := by decide +kernel
theorem d_Processor_holds_48 : decode b_Processor_holds 48 = .ok (.getfield 179, 3) := by decide +kernel
theorem d_Processor_holds_51 : decode b_Processor_holds 51 = .ok (.bipush 64, 2) := by decide +kernel
theorem d_Processor_holds_53 : decode b_Processor_holds 53 = .ok (.iand, 1) := by decide +kernel
theorem d_Processor_holds_54 : decode b_Processor_holds 54 = .ok (.ifCond .eq 7, 3) := by decide +kernel
theorem d_Processor_holds_57 : decode b_Processor_holds 57 = .ok (.iconst 1, 1) := by decide +kernel
theorem d_Processor_holds_58 : decode b_Processor_holds 58 = .ok (.goto 4, 3) := by decide +kernel
theorem d_Processor_holds_61 : decode b_Processor_holds 61 = .ok (.iconst 0, 1) := by decide +kernel
theorem d_Processor_holds_62 : decode b_Processor_holds 62 = .ok (.iload_n 2, 1) := by decide +kernel
theorem d_Processor_holds_63 : decode b_Processor_holds 63 = .ok (.if_icmp .ne 7, 3) := by decide +kernel
theorem d_Processor_holds_66 : decode b_Processor_holds 66 = .ok (.iconst 1, 1) := by decide +kernel
theorem d_Processor_holds_67 : decode b_Processor_holds 67 = .ok (.goto 4, 3) := by decide +kernel
theorem d_Processor_holds_70 : decode b_Processor_holds 70 = .ok (.iconst 0, 1) := by decide +kernel
theorem d_Processor_holds_71 : decode b_Processor_holds 71 = .ok (.ireturn, 1) := by decide +kernel
theorem d_Processor_holds_72 : decode b_Processor_holds 72 = .ok (.aload_n 0, 1) := by decide +kernel
theorem d_Processor_holds_73 : decode b_Processor_holds 73 = .ok (.getfield 9, 3) := by decide +kernel
theorem d_Processor_holds_76 : decode b_Processor_holds 76 = .ok (.getfield 179, 3) := by decide +kernel
theorem d_Processor_holds_79 : decode b_Processor_holds 79 = .ok (.iconst 1, 1) := by decide +kernel
theorem d_Processor_holds_80 : decode b_Processor_holds 80 = .ok (.iand, 1) := by decide +kernel
theorem d_Processor_holds_81 : decode b_Processor_holds 81 = .ok (.ifCond .eq 7, 3) := by decide +kernel
theorem d_Processor_holds_84 : decode b_Processor_holds 84 = .ok (.iconst 1, 1) := by decide +kernel
theorem d_Processor_holds_85 : decode b_Processor_holds 85 = .ok (.goto 4, 3) := by decide +kernel
theorem d_Processor_holds_88 : decode b_Processor_holds 88 = .ok (.iconst 0, 1) := by decide +kernel
theorem d_Processor_holds_89 : decode b_Processor_holds 89 = .ok (.iload_n 2, 1) := by decide +kernel
theorem d_Processor_holds_90 : decode b_Processor_holds 90 = .ok (.if_icmp .ne 7, 3) := by decide +kernel
theorem d_Processor_holds_93 : decode b_Processor_holds 93 = .ok (.iconst 1, 1) := by decide +kernel
theorem d_Processor_holds_94 : decode b_Processor_holds 94 = .ok (.goto 4, 3) := by decide +kernel
theorem d_Processor_holds_97 : decode b_Processor_holds 97 = .ok (.iconst 0, 1) := by decide +kernel
theorem d_Processor_holds_98 : decode b_Processor_holds 98 = .ok (.ireturn, 1) := by decide +kernel
theorem d_Processor_holds_99 : decode b_Processor_holds 99 = .ok (.aload_n 0, 1) := by decide +kernel
theorem d_Processor_holds_100 : decode b_Processor_holds 100 = .ok (.getfield 9, 3) := by decide +kernel
theorem d_Processor_holds_103 : decode b_Processor_holds 103 = .ok (.getfield 179, 3) := by decide +kernel
theorem d_Processor_holds_106 : decode b_Processor_holds 106 = .ok (.iconst 4, 1) := by decide +kernel
theorem d_Processor_holds_107 : decode b_Processor_holds 107 = .ok (.iand, 1) := by decide +kernel
theorem d_Processor_holds_108 : decode b_Processor_holds 108 = .ok (.ifCond .eq 7, 3) := by decide +kernel
theorem d_Processor_holds_111 : decode b_Processor_holds 111 = .ok (.iconst 1, 1) := by decide +kernel
theorem d_Processor_holds_112 : decode b_Processor_holds 112 = .ok (.goto 4, 3) := by decide +kernel
theorem d_Processor_holds_115 : decode b_Processor_holds 115 = .ok (.iconst 0, 1) := by decide +kernel
theorem d_Processor_holds_116 : decode b_Processor_holds 116 = .ok (.iload_n 2, 1) := by decide +kernel
theorem d_Processor_holds_117 : decode b_Processor_holds 117 = .ok (.if_icmp .ne 7, 3) := by decide +kernel
theorem d_Processor_holds_120 : decode b_Processor_holds 120 = .ok (.iconst 1, 1) := by decide +kernel
theorem d_Processor_holds_121 : decode b_Processor_holds 121 = .ok (.goto 4, 3) := by decide +kernel
theorem d_Processor_holds_124 : decode b_Processor_holds 124 = .ok (.iconst 0, 1) := by decide +kernel
theorem d_Processor_holds_125 : decode b_Processor_holds 125 = .ok (.ireturn, 1) := by decide +kernel
theorem d_Processor_holds_126 : decode b_Processor_holds 126 = .ok (.aload_n 0, 1) := by decide +kernel
theorem d_Processor_holds_127 : decode b_Processor_holds 127 = .ok (.getfield 9, 3) := by decide +kernel
theorem d_Processor_holds_130 : decode b_Processor_holds 130 = .ok (.getfield 179, 3) := by decide +kernel
theorem d_Processor_holds_133 : decode b_Processor_holds 133 = .ok (.sipush 128, 3) := by decide +kernel
theorem d_Processor_holds_136 : decode b_Processor_holds 136 = .ok (.iand, 1) := by decide +kernel
theorem d_Processor_holds_137 : decode b_Processor_holds 137 = .ok (.ifCond .eq 7, 3) := by decide +kernel
theorem d_Processor_holds_140 : decode b_Processor_holds 140 = .ok (.iconst 1, 1) := by decide +kernel
theorem d_Processor_holds_141 : decode b_Processor_holds 141 = .ok (.goto 4, 3) := by decide +kernel
theorem d_Processor_holds_144 : decode b_Processor_holds 144 = .ok (.iconst 0, 1) := by decide +kernel
theorem d_Processor_holds_145 : decode b_Processor_holds 145 = .ok (.iload_n 2, 1) := by decide +kernel
theorem d_Processor_holds_146 : decode b_Processor_holds 146 = .ok (.if_icmp .ne 7, 3) := by decide +kernel
theorem d_Processor_holds_149 : decode b_Processor_holds 149 = .ok (.iconst 1, 1) := by decide +kernel
theorem d_Processor_holds_150 : decode b_Processor_holds 150 = .ok (.goto 4, 3) := by decide +kernel
theorem d_Processor_holds_153 : decode b_Processor_holds 153 = .ok (.iconst 0, 1) := by decide +kernel
theorem d_Processor_holds_154 : decode b_Processor_holds 154 = .ok (.ireturn, 1) := by decide +kernel
theorem tw_223 : Jvm.Cond.code ⟨"ArcadeBoard$Processor", "holds", "(I)Z"⟩ prog_6_method_18_code 3 (Option.some Jvm.ClassFile.FieldType.boolean) ∈ AL := ab_in (ab_t3 (List.mem_of_getElem? (i := 109) (by decide +kernel))) rfl
theorem tw_224 : Jvm.Cond.instanceMethod ⟨"ArcadeBoard$Processor", "holds", "(I)Z"⟩ ∈ AL := ab_in (ab_t3 (List.mem_of_getElem? (i := 108) (by decide +kernel))) rfl
theorem tw_225 : Cond.selects "ArcadeBoard$Processor" ⟨"ArcadeBoard$Processor", "holds", "(I)Z"⟩ ⟨"ArcadeBoard$Processor", "holds", "(I)Z"⟩ ∈ AL := ab_in (ab_s1 (List.mem_of_getElem? (i := 15) (by decide +kernel))) rfl
theorem tw_226 : Jvm.Cond.fieldLink "ArcadeBoard$Processor" 179 "ArcadeBoard$State" "flags" "I" ∈ AL := ab_in (ab_t1 (List.mem_of_getElem? (i := 41) (by decide +kernel))) rfl
theorem ok_Processor_holds : ab_yok y_Processor_holds b_Processor_holds 3 (some .boolean) 1 := ⟨tw_223, tw_170, by decide, by decide, by decide +kernel⟩
theorem okv_Processor_holds : ab_yok_V y_Processor_holds := ⟨tw_224, tw_225⟩
set_option maxHeartbeats 1000000 in
set_option maxRecDepth 100000 in
theorem c_Processor_holds (l : Launch) (D : va_G) (t : Nat → ClassId) (q : Nat → Nat) (u : SS) (x1 : Int32) : ab_ki l D (tyC t) (wC t q) y_Processor_holds b_Processor_holds 3 .boolean { frames := 0, cells := 0, slots := 0, locals := 0 } [.ref (q 0), .int x1] u ((f_Processor_holds u x1, u)) := by
  refine ab_ki_ofW (by decide) (Nat.le_of_ble_eq_true rfl) (fun p e s m below meth c ls A X hr hk hl hX => ?_)
  have hl : lv_has ls 3 [(0, .ref (q 0)), (1, .int x1)] := hl
  refine lv_iload_n (pc := 0) X.1 X.2.1 d_Processor_holds_0 rfl (lv_at hl 1 rfl) ?_
  refine lv_iconst (pc := 1) (v := 2) X.1 X.2.1 d_Processor_holds_1 (by decide) ?_
  refine lv_irem (pc := 2) X.1 X.2.1 d_Processor_holds_2 (by decide) ?_
  refine lv_iconst (pc := 3) (v := 1) X.1 X.2.1 d_Processor_holds_3 (by decide) ?_
  refine ab_jn (ls := ls) (rest := []) 12 (if (x1 - x1 / 2 * 2) = 1 then 1 else 0 : Int32) ?_ (fun J => ?_)
  rotate_left
  ·
    refine lv_icmp_ne (pc := 4) (tgt := 11) X.1 X.2.1 d_Processor_holds_4 (by decide) (fun h1 => ?_) (fun h1 => ?_)
    ·
      refine lv_iconst (pc := 11) (v := 0) X.1 X.2.1 d_Processor_holds_11 (by decide) ?_
      exact ab_jt (by rw [if_neg h1]) J
    ·
      refine lv_iconst (pc := 7) (v := 1) X.1 X.2.1 d_Processor_holds_7 (by decide) ?_
      refine lv_goto (pc := 8) (tgt := 12) X.1 X.2.1 d_Processor_holds_8 (by decide) ?_
      exact ab_jt (by rw [if_pos h1]) J
  refine lv_istore_n (pc := 12) (lv' := [(2, .int (if (x1 - x1 / 2 * 2) = 1 then 1 else 0 : Int32)), (0, .ref (q 0)), (1, .int x1)]) X.1 X.2.1 d_Processor_holds_12 rfl hl (Nat.le_of_ble_eq_true rfl) rfl (fun ls hl => ?_)
  refine lv_iload_n (pc := 13) X.1 X.2.1 d_Processor_holds_13 rfl (lv_at hl 2 rfl) ?_
  refine lv_iconst (pc := 14) (v := 2) X.1 X.2.1 d_Processor_holds_14 (by decide) ?_
  refine lv_idiv (pc := 15) X.1 X.2.1 d_Processor_holds_15 (by decide) ?_
  by_cases h2 : x1 / 2 = 0
  ·
    refine ab_swIn (pc := 16) (tgt := 44) (off := 28) X.1 X.2.1 d_Processor_holds_16 h2 (by decide) (by decide) (by decide) (by decide) ?_
    refine lv_aload_n (pc := 44) X.1 X.2.1 d_Processor_holds_44 rfl (lv_at hl 1 rfl) ?_
    refine ab_gx (pc := 45) (v := .ref (q 1)) X hX 0 4 0 rfl rfl (Nat.le_of_ble_eq_true rfl) in_Processor rfl tw_174 rfl d_Processor_holds_45 ?_
    refine ab_gx (pc := 48) (v := .int (u 0 0)) X hX 1 7 2 rfl rfl (Nat.le_of_ble_eq_true rfl) in_State rfl tw_226 rfl d_Processor_holds_48 ?_
    refine lv_bipush (pc := 51) (v := 64) X.1 X.2.1 d_Processor_holds_51 (by decide) ?_
    refine lv_iand (pc := 53) X.1 X.2.1 d_Processor_holds_53 ?_
    refine ab_jn (ls := ls) (rest := []) 62 (if ((u 0 0) &&& 64) = 0 then 0 else 1 : Int32) ?_ (fun J => ?_)
    rotate_left
    ·
      refine lv_if_eq (pc := 54) (tgt := 61) X.1 X.2.1 d_Processor_holds_54 (by decide) (fun h3 => ?_) (fun h3 => ?_)
      ·
        refine lv_iconst (pc := 61) (v := 0) X.1 X.2.1 d_Processor_holds_61 (by decide) ?_
        exact ab_jt (by rw [if_pos h3]) J
      ·
        refine lv_iconst (pc := 57) (v := 1) X.1 X.2.1 d_Processor_holds_57 (by decide) ?_
        refine lv_goto (pc := 58) (tgt := 62) X.1 X.2.1 d_Processor_holds_58 (by decide) ?_
        exact ab_jt (by rw [if_neg h3]) J
    refine lv_iload_n (pc := 62) X.1 X.2.1 d_Processor_holds_62 rfl (lv_at hl 0 rfl) ?_
    refine ab_jn (ls := ls) (rest := []) 71 (if (if ((u 0 0) &&& 64) = 0 then 0 else 1 : Int32) = (if (x1 - x1 / 2 * 2) = 1 then 1 else 0 : Int32) then 1 else 0 : Int32) ?_ (fun J => ?_)
    rotate_left
    ·
      refine lv_icmp_ne (pc := 63) (tgt := 70) X.1 X.2.1 d_Processor_holds_63 (by decide) (fun h4 => ?_) (fun h4 => ?_)
      ·
        refine lv_iconst (pc := 70) (v := 0) X.1 X.2.1 d_Processor_holds_70 (by decide) ?_
        exact ab_jt (by rw [if_neg h4]) J
      ·
        refine lv_iconst (pc := 66) (v := 1) X.1 X.2.1 d_Processor_holds_66 (by decide) ?_
        refine lv_goto (pc := 67) (tgt := 71) X.1 X.2.1 d_Processor_holds_67 (by decide) ?_
        exact ab_jt (by rw [if_pos h4]) J
    exact ab_ki_ret (pc := 71) X hr hk hX (ab_nb (by repeat' (first | exact ab_bo0 | exact ab_bo1 | split))) (by rw [f_Processor_holds, if_pos h2]) d_Processor_holds_71
  ·
    by_cases h5 : x1 / 2 = 1
    ·
      refine ab_swIn (pc := 16) (tgt := 72) (off := 56) X.1 X.2.1 d_Processor_holds_16 h5 (by decide) (by decide) (by decide) (by decide) ?_
      refine lv_aload_n (pc := 72) X.1 X.2.1 d_Processor_holds_72 rfl (lv_at hl 1 rfl) ?_
      refine ab_gx (pc := 73) (v := .ref (q 1)) X hX 0 4 0 rfl rfl (Nat.le_of_ble_eq_true rfl) in_Processor rfl tw_174 rfl d_Processor_holds_73 ?_
      refine ab_gx (pc := 76) (v := .int (u 0 0)) X hX 1 7 2 rfl rfl (Nat.le_of_ble_eq_true rfl) in_State rfl tw_226 rfl d_Processor_holds_76 ?_
      refine lv_iconst (pc := 79) (v := 1) X.1 X.2.1 d_Processor_holds_79 (by decide) ?_
      refine lv_iand (pc := 80) X.1 X.2.1 d_Processor_holds_80 ?_
      refine ab_jn (ls := ls) (rest := []) 89 (if ((u 0 0) &&& 1) = 0 then 0 else 1 : Int32) ?_ (fun J => ?_)
      rotate_left
      ·
        refine lv_if_eq (pc := 81) (tgt := 88) X.1 X.2.1 d_Processor_holds_81 (by decide) (fun h6 => ?_) (fun h6 => ?_)
        ·
          refine lv_iconst (pc := 88) (v := 0) X.1 X.2.1 d_Processor_holds_88 (by decide) ?_
          exact ab_jt (by rw [if_pos h6]) J
        ·
          refine lv_iconst (pc := 84) (v := 1) X.1 X.2.1 d_Processor_holds_84 (by decide) ?_
          refine lv_goto (pc := 85) (tgt := 89) X.1 X.2.1 d_Processor_holds_85 (by decide) ?_
          exact ab_jt (by rw [if_neg h6]) J
      refine lv_iload_n (pc := 89) X.1 X.2.1 d_Processor_holds_89 rfl (lv_at hl 0 rfl) ?_
      refine ab_jn (ls := ls) (rest := []) 98 (if (if ((u 0 0) &&& 1) = 0 then 0 else 1 : Int32) = (if (x1 - x1 / 2 * 2) = 1 then 1 else 0 : Int32) then 1 else 0 : Int32) ?_ (fun J => ?_)
      rotate_left
      ·
        refine lv_icmp_ne (pc := 90) (tgt := 97) X.1 X.2.1 d_Processor_holds_90 (by decide) (fun h7 => ?_) (fun h7 => ?_)
        ·
          refine lv_iconst (pc := 97) (v := 0) X.1 X.2.1 d_Processor_holds_97 (by decide) ?_
          exact ab_jt (by rw [if_neg h7]) J
        ·
          refine lv_iconst (pc := 93) (v := 1) X.1 X.2.1 d_Processor_holds_93 (by decide) ?_
          refine lv_goto (pc := 94) (tgt := 98) X.1 X.2.1 d_Processor_holds_94 (by decide) ?_
          exact ab_jt (by rw [if_pos h7]) J
      exact ab_ki_ret (pc := 98) X hr hk hX (ab_nb (by repeat' (first | exact ab_bo0 | exact ab_bo1 | split))) (by rw [f_Processor_holds, if_neg h2, if_pos h5]) d_Processor_holds_98
    ·
      by_cases h8 : x1 / 2 = 2
      ·
        refine ab_swIn (pc := 16) (tgt := 99) (off := 83) X.1 X.2.1 d_Processor_holds_16 h8 (by decide) (by decide) (by decide) (by decide) ?_
        refine lv_aload_n (pc := 99) X.1 X.2.1 d_Processor_holds_99 rfl (lv_at hl 1 rfl) ?_
        refine ab_gx (pc := 100) (v := .ref (q 1)) X hX 0 4 0 rfl rfl (Nat.le_of_ble_eq_true rfl) in_Processor rfl tw_174 rfl d_Processor_holds_100 ?_
        refine ab_gx (pc := 103) (v := .int (u 0 0)) X hX 1 7 2 rfl rfl (Nat.le_of_ble_eq_true rfl) in_State rfl tw_226 rfl d_Processor_holds_103 ?_
        refine lv_iconst (pc := 106) (v := 4) X.1 X.2.1 d_Processor_holds_106 (by decide) ?_
        refine lv_iand (pc := 107) X.1 X.2.1 d_Processor_holds_107 ?_
        refine ab_jn (ls := ls) (rest := []) 116 (if ((u 0 0) &&& 4) = 0 then 0 else 1 : Int32) ?_ (fun J => ?_)
        rotate_left
        ·
          refine lv_if_eq (pc := 108) (tgt := 115) X.1 X.2.1 d_Processor_holds_108 (by decide) (fun h9 => ?_) (fun h9 => ?_)
          ·
            refine lv_iconst (pc := 115) (v := 0) X.1 X.2.1 d_Processor_holds_115 (by decide) ?_
            exact ab_jt (by rw [if_pos h9]) J
          ·
            refine lv_iconst (pc := 111) (v := 1) X.1 X.2.1 d_Processor_holds_111 (by decide) ?_
            refine lv_goto (pc := 112) (tgt := 116) X.1 X.2.1 d_Processor_holds_112 (by decide) ?_
            exact ab_jt (by rw [if_neg h9]) J
        refine lv_iload_n (pc := 116) X.1 X.2.1 d_Processor_holds_116 rfl (lv_at hl 0 rfl) ?_
        refine ab_jn (ls := ls) (rest := []) 125 (if (if ((u 0 0) &&& 4) = 0 then 0 else 1 : Int32) = (if (x1 - x1 / 2 * 2) = 1 then 1 else 0 : Int32) then 1 else 0 : Int32) ?_ (fun J => ?_)
        rotate_left
        ·
          refine lv_icmp_ne (pc := 117) (tgt := 124) X.1 X.2.1 d_Processor_holds_117 (by decide) (fun h10 => ?_) (fun h10 => ?_)
          ·
            refine lv_iconst (pc := 124) (v := 0) X.1 X.2.1 d_Processor_holds_124 (by decide) ?_
            exact ab_jt (by rw [if_neg h10]) J
          ·
            refine lv_iconst (pc := 120) (v := 1) X.1 X.2.1 d_Processor_holds_120 (by decide) ?_
            refine lv_goto (pc := 121) (tgt := 125) X.1 X.2.1 d_Processor_holds_121 (by decide) ?_
            exact ab_jt (by rw [if_pos h10]) J
        exact ab_ki_ret (pc := 125) X hr hk hX (ab_nb (by repeat' (first | exact ab_bo0 | exact ab_bo1 | split))) (by rw [f_Processor_holds, if_neg h2, if_neg h5, if_pos h8]) d_Processor_holds_125
      ·
        have hno : (x1 / 2).toInt < 0 ∨ 2 < (x1 / 2).toInt := by
          have n0 := lv_neT h2 (k := 0) (a := 0) (by decide)
          have n1 := lv_neT h5 (k := 1) (a := 1) (by decide)
          have n2 := lv_neT h8 (k := 2) (a := 2) (by decide)
          omega
        refine lv_tableOut (pc := 16) (tgt := 126) X.1 X.2.1 d_Processor_holds_16 hno (by decide) ?_
        refine lv_aload_n (pc := 126) X.1 X.2.1 d_Processor_holds_126 rfl (lv_at hl 1 rfl) ?_
        refine ab_gx (pc := 127) (v := .ref (q 1)) X hX 0 4 0 rfl rfl (Nat.le_of_ble_eq_true rfl) in_Processor rfl tw_174 rfl d_Processor_holds_127 ?_
        refine ab_gx (pc := 130) (v := .int (u 0 0)) X hX 1 7 2 rfl rfl (Nat.le_of_ble_eq_true rfl) in_State rfl tw_226 rfl d_Processor_holds_130 ?_
        refine lv_sipush (pc := 133) (v := 128) X.1 X.2.1 d_Processor_holds_133 (by decide) ?_
        refine lv_iand (pc := 136) X.1 X.2.1 d_Processor_holds_136 ?_
        refine ab_jn (ls := ls) (rest := []) 145 (if ((u 0 0) &&& 128) = 0 then 0 else 1 : Int32) ?_ (fun J => ?_)
        rotate_left
        ·
          refine lv_if_eq (pc := 137) (tgt := 144) X.1 X.2.1 d_Processor_holds_137 (by decide) (fun h11 => ?_) (fun h11 => ?_)
          ·
            refine lv_iconst (pc := 144) (v := 0) X.1 X.2.1 d_Processor_holds_144 (by decide) ?_
            exact ab_jt (by rw [if_pos h11]) J
          ·
            refine lv_iconst (pc := 140) (v := 1) X.1 X.2.1 d_Processor_holds_140 (by decide) ?_
            refine lv_goto (pc := 141) (tgt := 145) X.1 X.2.1 d_Processor_holds_141 (by decide) ?_
            exact ab_jt (by rw [if_neg h11]) J
        refine lv_iload_n (pc := 145) X.1 X.2.1 d_Processor_holds_145 rfl (lv_at hl 0 rfl) ?_
        refine ab_jn (ls := ls) (rest := []) 154 (if (if ((u 0 0) &&& 128) = 0 then 0 else 1 : Int32) = (if (x1 - x1 / 2 * 2) = 1 then 1 else 0 : Int32) then 1 else 0 : Int32) ?_ (fun J => ?_)
        rotate_left
        ·
          refine lv_icmp_ne (pc := 146) (tgt := 153) X.1 X.2.1 d_Processor_holds_146 (by decide) (fun h12 => ?_) (fun h12 => ?_)
          ·
            refine lv_iconst (pc := 153) (v := 0) X.1 X.2.1 d_Processor_holds_153 (by decide) ?_
            exact ab_jt (by rw [if_neg h12]) J
          ·
            refine lv_iconst (pc := 149) (v := 1) X.1 X.2.1 d_Processor_holds_149 (by decide) ?_
            refine lv_goto (pc := 150) (tgt := 154) X.1 X.2.1 d_Processor_holds_150 (by decide) ?_
            exact ab_jt (by rw [if_pos h12]) J
        exact ab_ki_ret (pc := 154) X hr hk hX (ab_nb (by repeat' (first | exact ab_bo0 | exact ab_bo1 | split))) (by rw [f_Processor_holds, if_neg h2, if_neg h5, if_neg h8]) d_Processor_holds_154
abbrev b_Processor_returnIf : ByteArray := prog_6_method_10_code
def y_Processor_returnIf : MethodName := ⟨"ArcadeBoard$Processor", "returnIf", "(Z)I"⟩
theorem d_Processor_returnIf_0 : decode b_Processor_returnIf 0 = .ok (.iload_n 1, 1) := by decide +kernel
theorem d_Processor_returnIf_1 : decode b_Processor_returnIf 1 = .ok (.ifCond .ne 5, 3) := by decide +kernel
theorem d_Processor_returnIf_4 : decode b_Processor_returnIf 4 = .ok (.iconst 5, 1) := by decide +kernel
theorem d_Processor_returnIf_5 : decode b_Processor_returnIf 5 = .ok (.ireturn, 1) := by decide +kernel
theorem d_Processor_returnIf_6 : decode b_Processor_returnIf 6 = .ok (.aload_n 0, 1) := by decide +kernel
theorem d_Processor_returnIf_7 : decode b_Processor_returnIf 7 = .ok (.getfield 9, 3) := by decide +kernel
theorem d_Processor_returnIf_10 : decode b_Processor_returnIf 10 = .ok (.aload_n 0, 1) := by decide +kernel
theorem d_Processor_returnIf_11 : decode b_Processor_returnIf 11 = .ok (.getfield 15, 3) := by decide +kernel
theorem d_Processor_returnIf_14 : decode b_Processor_returnIf 14 = .ok (.invokevirtual 167, 3) := by decide +kernel
theorem d_Processor_returnIf_17 : decode b_Processor_returnIf 17 = .ok (.putfield 170, 3) := by decide +kernel
theorem d_Processor_returnIf_20 : decode b_Processor_returnIf 20 = .ok (.bipush 11, 2) := by decide +kernel
theorem d_Processor_returnIf_22 : decode b_Processor_returnIf 22 = .ok (.ireturn, 1) := by decide +kernel
theorem tw_227 : Jvm.Cond.code ⟨"ArcadeBoard$Processor", "returnIf", "(Z)I"⟩ prog_6_method_10_code 2 (Option.some Jvm.ClassFile.FieldType.int) ∈ AL := ab_in (ab_t3 (List.mem_of_getElem? (i := 113) (by decide +kernel))) rfl
theorem tw_228 : Jvm.Cond.instanceMethod ⟨"ArcadeBoard$Processor", "returnIf", "(Z)I"⟩ ∈ AL := ab_in (ab_t3 (List.mem_of_getElem? (i := 112) (by decide +kernel))) rfl
theorem tw_229 : Cond.selects "ArcadeBoard$Processor" ⟨"ArcadeBoard$Processor", "returnIf", "(Z)I"⟩ ⟨"ArcadeBoard$Processor", "returnIf", "(Z)I"⟩ ∈ AL := ab_in (ab_s2 (List.mem_of_getElem? (i := 0) (by decide +kernel))) rfl
theorem tw_230 : Jvm.Cond.methodLink "ArcadeBoard$Processor" 167 ⟨"ArcadeBoard$Memory", "pop", "()I"⟩ ∈ AL := ab_in (ab_t3 (List.mem_of_getElem? (i := 114) (by decide +kernel))) rfl
theorem ok_Processor_returnIf : ab_yok y_Processor_returnIf b_Processor_returnIf 2 (some .int) 1 := ⟨tw_227, tw_170, by decide, by decide, by decide +kernel⟩
theorem okv_Processor_returnIf : ab_yok_V y_Processor_returnIf := ⟨tw_228, tw_229⟩
set_option maxHeartbeats 1000000 in
set_option maxRecDepth 100000 in
theorem c_Processor_returnIf (l : Launch) (D : va_G) (t : Nat → ClassId) (q : Nat → Nat) (u : SS) (x1 : Int32) : ab_ki l D (tyC t) (wC t q) y_Processor_returnIf b_Processor_returnIf 2 .int { frames := 2, cells := 0, slots := 0, locals := 43 } [.ref (q 0), .int x1] u (f_Processor_returnIf u x1) := by
  refine ab_ki_ofW (by decide) (Nat.le_of_ble_eq_true rfl) (fun p e s m below meth c ls A X hr hk hl hX => ?_)
  have hl : lv_has ls 2 [(0, .ref (q 0)), (1, .int x1)] := hl
  refine lv_iload_n (pc := 0) X.1 X.2.1 d_Processor_returnIf_0 rfl (lv_at hl 1 rfl) ?_
  refine lv_if_ne (pc := 1) (tgt := 6) X.1 X.2.1 d_Processor_returnIf_1 (by decide) (fun h1 => ?_) (fun h1 => ?_)
  ·
    refine lv_aload_n (pc := 6) X.1 X.2.1 d_Processor_returnIf_6 rfl (lv_at hl 0 rfl) ?_
    refine ab_gx (pc := 7) (v := .ref (q 1)) X hX 0 4 0 rfl rfl (Nat.le_of_ble_eq_true rfl) in_Processor rfl tw_174 rfl d_Processor_returnIf_7 ?_
    refine lv_aload_n (pc := 10) X.1 X.2.1 d_Processor_returnIf_10 rfl (lv_at hl 0 rfl) ?_
    refine ab_gx (pc := 11) (v := .ref (q 4)) X hX 0 4 1 rfl rfl (Nat.le_of_ble_eq_true rfl) in_Processor rfl tw_173 rfl d_Processor_returnIf_11 ?_
    refine ab_ki_callV (pc := 14) (wr := []) (w := (wC t q)) (u := u) (F := f_Memory_pop u) (as := []) (rest := [.ref (q 1)]) X hX (c_Memory_pop l D t q u) ok_Memory_pop okv_Memory_pop tw_230 4 2 rfl rfl rfl hl.1 rfl (Nat.le_of_ble_eq_true rfl) ⟨rfl, rfl, Nat.le_of_ble_eq_true rfl, Nat.le_of_ble_eq_true rfl⟩ ⟨Nat.zero_le _, Nat.zero_le _⟩ d_Processor_returnIf_14 (fun H locs hX => ?_)
    refine ab_px (pc := 17) (ws' := (wC t q (stt ((f_Memory_pop u).2) 0 2 ((f_Memory_pop u).1)))) X hX 1 7 4 ty_State ty_State_ok nm_State rfl rfl (Nat.le_of_ble_eq_true rfl) in_State rfl tw_175 rfl rfl rfl rfl (Nat.le_of_ble_eq_true rfl) (sf_wC_1_4 t q ((f_Memory_pop u).2) ((f_Memory_pop u).1)) d_Processor_returnIf_17 (fun H locs hX => ?_)
    refine lv_bipush (pc := 20) (v := 11) X.1 X.2.1 d_Processor_returnIf_20 (by decide) ?_
    exact ab_ki_ret (pc := 22) X hr hk hX rfl (by rw [f_Processor_returnIf, if_neg h1]) d_Processor_returnIf_22
  ·
    refine lv_iconst (pc := 4) (v := 5) X.1 X.2.1 d_Processor_returnIf_4 (by decide) ?_
    exact ab_ki_ret (pc := 5) X hr hk hX rfl (by rw [f_Processor_returnIf, if_pos h1]) d_Processor_returnIf_5
abbrev b_Processor_popAAndFlags : ByteArray := prog_6_method_12_code
def y_Processor_popAAndFlags : MethodName := ⟨"ArcadeBoard$Processor", "popAAndFlags", "()V"⟩
theorem d_Processor_popAAndFlags_0 : decode b_Processor_popAAndFlags 0 = .ok (.aload_n 0, 1) := by decide +kernel
theorem d_Processor_popAAndFlags_1 : decode b_Processor_popAAndFlags 1 = .ok (.getfield 15, 3) := by decide +kernel
theorem d_Processor_popAAndFlags_4 : decode b_Processor_popAAndFlags 4 = .ok (.invokevirtual 167, 3) := by decide +kernel
theorem d_Processor_popAAndFlags_7 : decode b_Processor_popAAndFlags 7 = .ok (.istore_n 1, 1) := by decide +kernel
theorem d_Processor_popAAndFlags_8 : decode b_Processor_popAAndFlags 8 = .ok (.aload_n 0, 1) := by decide +kernel
theorem d_Processor_popAAndFlags_9 : decode b_Processor_popAAndFlags 9 = .ok (.getfield 9, 3) := by decide +kernel
theorem d_Processor_popAAndFlags_12 : decode b_Processor_popAAndFlags 12 = .ok (.getfield 127, 3) := by decide +kernel
theorem d_Processor_popAAndFlags_15 : decode b_Processor_popAAndFlags 15 = .ok (.bipush 7, 2) := by decide +kernel
theorem d_Processor_popAAndFlags_17 : decode b_Processor_popAAndFlags 17 = .ok (.iload_n 1, 1) := by decide +kernel
theorem d_Processor_popAAndFlags_18 : decode b_Processor_popAAndFlags 18 = .ok (.bipush 8, 2) := by decide +kernel
theorem d_Processor_popAAndFlags_20 : decode b_Processor_popAAndFlags 20 = .ok (.ishr, 1) := by decide +kernel
theorem d_Processor_popAAndFlags_21 : decode b_Processor_popAAndFlags 21 = .ok (.iastore, 1) := by decide +kernel
theorem d_Processor_popAAndFlags_22 : decode b_Processor_popAAndFlags 22 = .ok (.aload_n 0, 1) := by decide +kernel
theorem d_Processor_popAAndFlags_23 : decode b_Processor_popAAndFlags 23 = .ok (.getfield 9, 3) := by decide +kernel
theorem d_Processor_popAAndFlags_26 : decode b_Processor_popAAndFlags 26 = .ok (.iload_n 1, 1) := by decide +kernel
theorem d_Processor_popAAndFlags_27 : decode b_Processor_popAAndFlags 27 = .ok (.sipush 213, 3) := by decide +kernel
theorem d_Processor_popAAndFlags_30 : decode b_Processor_popAAndFlags 30 = .ok (.iand, 1) := by decide +kernel
theorem d_Processor_popAAndFlags_31 : decode b_Processor_popAAndFlags 31 = .ok (.iconst 2, 1) := by decide +kernel
theorem d_Processor_popAAndFlags_32 : decode b_Processor_popAAndFlags 32 = .ok (.ior, 1) := by decide +kernel
theorem d_Processor_popAAndFlags_33 : decode b_Processor_popAAndFlags 33 = .ok (.putfield 179, 3) := by decide +kernel
theorem d_Processor_popAAndFlags_36 : decode b_Processor_popAAndFlags 36 = .ok (.return_, 1) := by decide +kernel
theorem tw_231 : Jvm.Cond.code ⟨"ArcadeBoard$Processor", "popAAndFlags", "()V"⟩ prog_6_method_12_code 2 (Option.none : Option Jvm.ClassFile.FieldType) ∈ AL := ab_in (ab_t3 (List.mem_of_getElem? (i := 125) (by decide +kernel))) rfl
theorem tw_232 : Jvm.Cond.instanceMethod ⟨"ArcadeBoard$Processor", "popAAndFlags", "()V"⟩ ∈ AL := ab_in (ab_t3 (List.mem_of_getElem? (i := 124) (by decide +kernel))) rfl
theorem tw_233 : Cond.selects "ArcadeBoard$Processor" ⟨"ArcadeBoard$Processor", "popAAndFlags", "()V"⟩ ⟨"ArcadeBoard$Processor", "popAAndFlags", "()V"⟩ ∈ AL := ab_in (ab_s2 (List.mem_of_getElem? (i := 2) (by decide +kernel))) rfl
theorem ok_Processor_popAAndFlags : ab_yok y_Processor_popAAndFlags b_Processor_popAAndFlags 2 none 0 := ⟨tw_231, tw_170, by decide, by decide, by decide +kernel⟩
theorem okv_Processor_popAAndFlags : ab_yok_V y_Processor_popAAndFlags := ⟨tw_232, tw_233⟩
set_option maxHeartbeats 1000000 in
set_option maxRecDepth 100000 in
theorem c_Processor_popAAndFlags (l : Launch) (D : va_G) (t : Nat → ClassId) (q : Nat → Nat) (u : SS) : ab_kv l D (tyC t) (wC t q) y_Processor_popAAndFlags b_Processor_popAAndFlags 2 { frames := 2, cells := 0, slots := 0, locals := 43 } [.ref (q 0)] u (f_Processor_popAAndFlags u) := by
  refine ab_kv_ofW (by decide) (Nat.le_of_ble_eq_true rfl) (fun p e s m below meth c ls A X hr hk hl hX => ?_)
  have hl : lv_has ls 2 [(0, .ref (q 0))] := hl
  refine lv_aload_n (pc := 0) X.1 X.2.1 d_Processor_popAAndFlags_0 rfl (lv_at hl 0 rfl) ?_
  refine ab_gx (pc := 1) (v := .ref (q 4)) X hX 0 4 1 rfl rfl (Nat.le_of_ble_eq_true rfl) in_Processor rfl tw_173 rfl d_Processor_popAAndFlags_1 ?_
  refine ab_ki_callV (pc := 4) (wr := []) (w := (wC t q)) (u := u) (F := f_Memory_pop u) (as := []) (rest := []) X hX (c_Memory_pop l D t q u) ok_Memory_pop okv_Memory_pop tw_230 4 2 rfl rfl rfl hl.1 rfl (Nat.le_of_ble_eq_true rfl) ⟨rfl, rfl, Nat.le_of_ble_eq_true rfl, Nat.le_of_ble_eq_true rfl⟩ ⟨Nat.zero_le _, Nat.zero_le _⟩ d_Processor_popAAndFlags_4 (fun H locs hX => ?_)
  refine lv_istore_n (pc := 7) (lv' := [(1, .int ((f_Memory_pop u).1)), (0, .ref (q 0))]) X.1 X.2.1 d_Processor_popAAndFlags_7 rfl hl (Nat.le_of_ble_eq_true rfl) rfl (fun ls hl => ?_)
  refine lv_aload_n (pc := 8) X.1 X.2.1 d_Processor_popAAndFlags_8 rfl (lv_at hl 1 rfl) ?_
  refine ab_gx (pc := 9) (v := .ref (q 1)) X hX 0 4 0 rfl rfl (Nat.le_of_ble_eq_true rfl) in_Processor rfl tw_174 rfl d_Processor_popAAndFlags_9 ?_
  refine ab_gx (pc := 12) (v := .ref (q 3)) X hX 1 7 1 rfl rfl (Nat.le_of_ble_eq_true rfl) in_State rfl tw_204 rfl d_Processor_popAAndFlags_12 ?_
  refine lv_bipush (pc := 15) (v := 7) X.1 X.2.1 d_Processor_popAAndFlags_15 (by decide) ?_
  refine lv_iload_n (pc := 17) X.1 X.2.1 d_Processor_popAAndFlags_17 rfl (lv_at hl 0 rfl) ?_
  refine lv_bipush (pc := 18) (v := 8) X.1 X.2.1 d_Processor_popAAndFlags_18 (by decide) ?_
  refine lv_ishr (pc := 20) X.1 X.2.1 d_Processor_popAAndFlags_20 ?_
  refine ab_ast (pc := 21) (f := ((f_Memory_pop u).2) 2) (j := 7) (ws' := (wC t q (stt ((f_Memory_pop u).2) 2 7 (((f_Memory_pop u).1) >>> ((8 : Int32) &&& 31))))) X hX 3 0 rfl rfl (ab_inc (by decide)) rfl (sa_wC_3 t q ((f_Memory_pop u).2) 7 (((f_Memory_pop u).1) >>> ((8 : Int32) &&& 31))) d_Processor_popAAndFlags_21 (fun H locs hX => ?_)
  refine lv_aload_n (pc := 22) X.1 X.2.1 d_Processor_popAAndFlags_22 rfl (lv_at hl 1 rfl) ?_
  refine ab_gx (pc := 23) (v := .ref (q 1)) X hX 0 4 0 rfl rfl (Nat.le_of_ble_eq_true rfl) in_Processor rfl tw_174 rfl d_Processor_popAAndFlags_23 ?_
  refine lv_iload_n (pc := 26) X.1 X.2.1 d_Processor_popAAndFlags_26 rfl (lv_at hl 0 rfl) ?_
  refine lv_sipush (pc := 27) (v := 213) X.1 X.2.1 d_Processor_popAAndFlags_27 (by decide) ?_
  refine lv_iand (pc := 30) X.1 X.2.1 d_Processor_popAAndFlags_30 ?_
  refine lv_iconst (pc := 31) (v := 2) X.1 X.2.1 d_Processor_popAAndFlags_31 (by decide) ?_
  refine lv_ior (pc := 32) X.1 X.2.1 d_Processor_popAAndFlags_32 ?_
  refine ab_px (pc := 33) (ws' := (wC t q (stt (stt ((f_Memory_pop u).2) 2 7 (((f_Memory_pop u).1) >>> ((8 : Int32) &&& 31))) 0 0 ((((f_Memory_pop u).1) &&& 213) ||| 2)))) X hX 1 7 2 ty_State ty_State_ok nm_State rfl rfl (Nat.le_of_ble_eq_true rfl) in_State rfl tw_226 rfl rfl rfl rfl (Nat.le_of_ble_eq_true rfl) (sf_wC_1_2 t q (stt ((f_Memory_pop u).2) 2 7 (((f_Memory_pop u).1) >>> ((8 : Int32) &&& 31))) ((((f_Memory_pop u).1) &&& 213) ||| 2)) d_Processor_popAAndFlags_33 (fun H locs hX => ?_)
  exact ab_kv_ret (pc := 36) X hr hk hX (by rw [f_Processor_popAAndFlags]) d_Processor_popAAndFlags_36
abbrev b_Processor_popOrGo : ByteArray := prog_6_method_11_code
def y_Processor_popOrGo : MethodName := ⟨"ArcadeBoard$Processor", "popOrGo", "(I)I"⟩
theorem d_Processor_popOrGo_0 : decode b_Processor_popOrGo 0 = .ok (.iload_n 1, 1) := by decide +kernel
theorem d_Processor_popOrGo_1 : decode b_Processor_popOrGo 1 = .ok (.tableswitch 101 1 7 #[43, 101, 43, 101, 60, 94, 77], 43) := by decide +kernel
theorem d_Processor_popOrGo_44 : decode b_Processor_popOrGo 44 = .ok (.aload_n 0, 1) := by decide +kernel
theorem d_Processor_popOrGo_45 : decode b_Processor_popOrGo 45 = .ok (.getfield 9, 3) := by decide +kernel
theorem d_Processor_popOrGo_48 : decode b_Processor_popOrGo 48 = .ok (.aload_n 0, 1) := by decide +kernel
theorem d_Processor_popOrGo_49 : decode b_Processor_popOrGo 49 = .ok (.getfield 15, 3) := by decide +kernel
theorem d_Processor_popOrGo_52 : decode b_Processor_popOrGo 52 = .ok (.invokevirtual 167, 3) := by decide +kernel
theorem d_Processor_popOrGo_55 : decode b_Processor_popOrGo 55 = .ok (.putfield 170, 3) := by decide +kernel
theorem d_Processor_popOrGo_58 : decode b_Processor_popOrGo 58 = .ok (.bipush 10, 2) := by decide +kernel
theorem d_Processor_popOrGo_60 : decode b_Processor_popOrGo 60 = .ok (.ireturn, 1) := by decide +kernel
theorem d_Processor_popOrGo_61 : decode b_Processor_popOrGo 61 = .ok (.aload_n 0, 1) := by decide +kernel
theorem d_Processor_popOrGo_62 : decode b_Processor_popOrGo 62 = .ok (.getfield 9, 3) := by decide +kernel
theorem d_Processor_popOrGo_65 : decode b_Processor_popOrGo 65 = .ok (.aload_n 0, 1) := by decide +kernel
theorem d_Processor_popOrGo_66 : decode b_Processor_popOrGo 66 = .ok (.getfield 19, 3) := by decide +kernel
theorem d_Processor_popOrGo_69 : decode b_Processor_popOrGo 69 = .ok (.iconst 2, 1) := by decide +kernel
theorem d_Processor_popOrGo_70 : decode b_Processor_popOrGo 70 = .ok (.invokevirtual 103, 3) := by decide +kernel
theorem d_Processor_popOrGo_73 : decode b_Processor_popOrGo 73 = .ok (.putfield 170, 3) := by decide +kernel
theorem d_Processor_popOrGo_76 : decode b_Processor_popOrGo 76 = .ok (.iconst 5, 1) := by decide +kernel
theorem d_Processor_popOrGo_77 : decode b_Processor_popOrGo 77 = .ok (.ireturn, 1) := by decide +kernel
theorem d_Processor_popOrGo_78 : decode b_Processor_popOrGo 78 = .ok (.aload_n 0, 1) := by decide +kernel
theorem d_Processor_popOrGo_79 : decode b_Processor_popOrGo 79 = .ok (.getfield 9, 3) := by decide +kernel
theorem d_Processor_popOrGo_82 : decode b_Processor_popOrGo 82 = .ok (.aload_n 0, 1) := by decide +kernel
theorem d_Processor_popOrGo_83 : decode b_Processor_popOrGo 83 = .ok (.getfield 19, 3) := by decide +kernel
theorem d_Processor_popOrGo_86 : decode b_Processor_popOrGo 86 = .ok (.iconst 2, 1) := by decide +kernel
theorem d_Processor_popOrGo_87 : decode b_Processor_popOrGo 87 = .ok (.invokevirtual 103, 3) := by decide +kernel
theorem d_Processor_popOrGo_90 : decode b_Processor_popOrGo 90 = .ok (.putfield 173, 3) := by decide +kernel
theorem d_Processor_popOrGo_93 : decode b_Processor_popOrGo 93 = .ok (.iconst 5, 1) := by decide +kernel
theorem d_Processor_popOrGo_94 : decode b_Processor_popOrGo 94 = .ok (.ireturn, 1) := by decide +kernel
theorem d_Processor_popOrGo_95 : decode b_Processor_popOrGo 95 = .ok (.aload_n 0, 1) := by decide +kernel
theorem d_Processor_popOrGo_96 : decode b_Processor_popOrGo 96 = .ok (.invokevirtual 176, 3) := by decide +kernel
theorem d_Processor_popOrGo_99 : decode b_Processor_popOrGo 99 = .ok (.bipush 10, 2) := by decide +kernel
theorem d_Processor_popOrGo_101 : decode b_Processor_popOrGo 101 = .ok (.ireturn, 1) := by decide +kernel
theorem d_Processor_popOrGo_102 : decode b_Processor_popOrGo 102 = .ok (.aload_n 0, 1) := by decide +kernel
theorem d_Processor_popOrGo_103 : decode b_Processor_popOrGo 103 = .ok (.getfield 19, 3) := by decide +kernel
theorem d_Processor_popOrGo_106 : decode b_Processor_popOrGo 106 = .ok (.iload_n 1, 1) := by decide +kernel
theorem d_Processor_popOrGo_107 : decode b_Processor_popOrGo 107 = .ok (.iconst 2, 1) := by decide +kernel
theorem d_Processor_popOrGo_108 : decode b_Processor_popOrGo 108 = .ok (.idiv, 1) := by decide +kernel
theorem d_Processor_popOrGo_109 : decode b_Processor_popOrGo 109 = .ok (.aload_n 0, 1) := by decide +kernel
theorem d_Processor_popOrGo_110 : decode b_Processor_popOrGo 110 = .ok (.getfield 15, 3) := by decide +kernel
theorem d_Processor_popOrGo_113 : decode b_Processor_popOrGo 113 = .ok (.invokevirtual 167, 3) := by decide +kernel
theorem d_Processor_popOrGo_116 : decode b_Processor_popOrGo 116 = .ok (.invokevirtual 106, 3) := by decide +kernel
theorem d_Processor_popOrGo_119 : decode b_Processor_popOrGo 119 = .ok (.bipush 10, 2) := by decide +kernel
theorem d_Processor_popOrGo_121 : decode b_Processor_popOrGo 121 = .ok (.ireturn, 1) := by decide +kernel
theorem tw_234 : Jvm.Cond.code ⟨"ArcadeBoard$Processor", "popOrGo", "(I)I"⟩ prog_6_method_11_code 2 (Option.some Jvm.ClassFile.FieldType.int) ∈ AL := ab_in (ab_t3 (List.mem_of_getElem? (i := 121) (by decide +kernel))) rfl
theorem tw_235 : Jvm.Cond.instanceMethod ⟨"ArcadeBoard$Processor", "popOrGo", "(I)I"⟩ ∈ AL := ab_in (ab_t3 (List.mem_of_getElem? (i := 120) (by decide +kernel))) rfl
theorem tw_236 : Cond.selects "ArcadeBoard$Processor" ⟨"ArcadeBoard$Processor", "popOrGo", "(I)I"⟩ ⟨"ArcadeBoard$Processor", "popOrGo", "(I)I"⟩ ∈ AL := ab_in (ab_s2 (List.mem_of_getElem? (i := 1) (by decide +kernel))) rfl
theorem tw_237 : Jvm.Cond.methodLink "ArcadeBoard$Processor" 176 ⟨"ArcadeBoard$Processor", "popAAndFlags", "()V"⟩ ∈ AL := ab_in (ab_t3 (List.mem_of_getElem? (i := 122) (by decide +kernel))) rfl
theorem tw_238 : Jvm.Cond.fieldLink "ArcadeBoard$Processor" 173 "ArcadeBoard$State" "sp" "I" ∈ AL := ab_in (ab_t1 (List.mem_of_getElem? (i := 46) (by decide +kernel))) rfl
theorem ok_Processor_popOrGo : ab_yok y_Processor_popOrGo b_Processor_popOrGo 2 (some .int) 1 := ⟨tw_234, tw_170, by decide, by decide, by decide +kernel⟩
theorem okv_Processor_popOrGo : ab_yok_V y_Processor_popOrGo := ⟨tw_235, tw_236⟩
set_option maxHeartbeats 1000000 in
set_option maxRecDepth 100000 in
theorem c_Processor_popOrGo (l : Launch) (D : va_G) (t : Nat → ClassId) (q : Nat → Nat) (u : SS) (x1 : Int32) : ab_ki l D (tyC t) (wC t q) y_Processor_popOrGo b_Processor_popOrGo 2 .int { frames := 3, cells := 0, slots := 0, locals := 64 } [.ref (q 0), .int x1] u (f_Processor_popOrGo u x1) := by
  refine ab_ki_ofW (by decide) (Nat.le_of_ble_eq_true rfl) (fun p e s m below meth c ls A X hr hk hl hX => ?_)
  have hl : lv_has ls 2 [(0, .ref (q 0)), (1, .int x1)] := hl
  refine lv_iload_n (pc := 0) X.1 X.2.1 d_Processor_popOrGo_0 rfl (lv_at hl 1 rfl) ?_
  by_cases h1 : x1 = 1
  ·
    refine ab_swIn (pc := 1) (tgt := 44) (off := 43) X.1 X.2.1 d_Processor_popOrGo_1 h1 (by decide) (by decide) (by decide) (by decide) ?_
    refine lv_aload_n (pc := 44) X.1 X.2.1 d_Processor_popOrGo_44 rfl (lv_at hl 0 rfl) ?_
    refine ab_gx (pc := 45) (v := .ref (q 1)) X hX 0 4 0 rfl rfl (Nat.le_of_ble_eq_true rfl) in_Processor rfl tw_174 rfl d_Processor_popOrGo_45 ?_
    refine lv_aload_n (pc := 48) X.1 X.2.1 d_Processor_popOrGo_48 rfl (lv_at hl 0 rfl) ?_
    refine ab_gx (pc := 49) (v := .ref (q 4)) X hX 0 4 1 rfl rfl (Nat.le_of_ble_eq_true rfl) in_Processor rfl tw_173 rfl d_Processor_popOrGo_49 ?_
    refine ab_ki_callV (pc := 52) (wr := []) (w := (wC t q)) (u := u) (F := f_Memory_pop u) (as := []) (rest := [.ref (q 1)]) X hX (c_Memory_pop l D t q u) ok_Memory_pop okv_Memory_pop tw_230 4 2 rfl rfl rfl hl.1 rfl (Nat.le_of_ble_eq_true rfl) ⟨rfl, rfl, Nat.le_of_ble_eq_true rfl, Nat.le_of_ble_eq_true rfl⟩ ⟨Nat.zero_le _, Nat.zero_le _⟩ d_Processor_popOrGo_52 (fun H locs hX => ?_)
    refine ab_px (pc := 55) (ws' := (wC t q (stt ((f_Memory_pop u).2) 0 2 ((f_Memory_pop u).1)))) X hX 1 7 4 ty_State ty_State_ok nm_State rfl rfl (Nat.le_of_ble_eq_true rfl) in_State rfl tw_175 rfl rfl rfl rfl (Nat.le_of_ble_eq_true rfl) (sf_wC_1_4 t q ((f_Memory_pop u).2) ((f_Memory_pop u).1)) d_Processor_popOrGo_55 (fun H locs hX => ?_)
    refine lv_bipush (pc := 58) (v := 10) X.1 X.2.1 d_Processor_popOrGo_58 (by decide) ?_
    exact ab_ki_ret (pc := 60) X hr hk hX rfl (by rw [f_Processor_popOrGo, if_pos h1]) d_Processor_popOrGo_60
  ·
    by_cases h2 : x1 = 2
    ·
      refine ab_swIn (pc := 1) (tgt := 102) (off := 101) X.1 X.2.1 d_Processor_popOrGo_1 h2 (by decide) (by decide) (by decide) (by decide) ?_
      refine lv_aload_n (pc := 102) X.1 X.2.1 d_Processor_popOrGo_102 rfl (lv_at hl 0 rfl) ?_
      refine ab_gx (pc := 103) (v := .ref (q 6)) X hX 0 4 2 rfl rfl (Nat.le_of_ble_eq_true rfl) in_Processor rfl tw_196 rfl d_Processor_popOrGo_103 ?_
      refine lv_iload_n (pc := 106) X.1 X.2.1 d_Processor_popOrGo_106 rfl (lv_at hl 1 rfl) ?_
      refine lv_iconst (pc := 107) (v := 2) X.1 X.2.1 d_Processor_popOrGo_107 (by decide) ?_
      refine lv_idiv (pc := 108) X.1 X.2.1 d_Processor_popOrGo_108 (by decide) ?_
      refine lv_aload_n (pc := 109) X.1 X.2.1 d_Processor_popOrGo_109 rfl (lv_at hl 0 rfl) ?_
      refine ab_gx (pc := 110) (v := .ref (q 4)) X hX 0 4 1 rfl rfl (Nat.le_of_ble_eq_true rfl) in_Processor rfl tw_173 rfl d_Processor_popOrGo_110 ?_
      refine ab_ki_callV (pc := 113) (wr := []) (w := (wC t q)) (u := u) (F := f_Memory_pop u) (as := []) (rest := [.int (x1 / 2), .ref (q 6)]) X hX (c_Memory_pop l D t q u) ok_Memory_pop okv_Memory_pop tw_230 4 2 rfl rfl rfl hl.1 rfl (Nat.le_of_ble_eq_true rfl) ⟨rfl, rfl, Nat.le_of_ble_eq_true rfl, Nat.le_of_ble_eq_true rfl⟩ ⟨Nat.zero_le _, Nat.zero_le _⟩ d_Processor_popOrGo_113 (fun H locs hX => ?_)
      refine ab_kv_callV (pc := 116) (wr := []) (w := (wC t q)) (u := ((f_Memory_pop u).2)) (F := f_Registers_setPair ((f_Memory_pop u).2) (x1 / 2) ((f_Memory_pop u).1)) (as := [.int (x1 / 2), .int ((f_Memory_pop u).1)]) (rest := []) X hX (c_Registers_setPair l D t q ((f_Memory_pop u).2) (x1 / 2) ((f_Memory_pop u).1)) ok_Registers_setPair okv_Registers_setPair tw_200 6 5 rfl rfl rfl hl.1 rfl (Nat.le_of_ble_eq_true rfl) ⟨rfl, rfl, Nat.le_of_ble_eq_true rfl, Nat.le_of_ble_eq_true rfl⟩ ⟨Nat.zero_le _, Nat.zero_le _⟩ d_Processor_popOrGo_116 (fun H locs hX => ?_)
      refine lv_bipush (pc := 119) (v := 10) X.1 X.2.1 d_Processor_popOrGo_119 (by decide) ?_
      exact ab_ki_ret (pc := 121) X hr hk hX rfl (by rw [f_Processor_popOrGo, if_neg h1, if_pos h2]) d_Processor_popOrGo_121
    ·
      by_cases h3 : x1 = 3
      ·
        refine ab_swIn (pc := 1) (tgt := 44) (off := 43) X.1 X.2.1 d_Processor_popOrGo_1 h3 (by decide) (by decide) (by decide) (by decide) ?_
        refine lv_aload_n (pc := 44) X.1 X.2.1 d_Processor_popOrGo_44 rfl (lv_at hl 0 rfl) ?_
        refine ab_gx (pc := 45) (v := .ref (q 1)) X hX 0 4 0 rfl rfl (Nat.le_of_ble_eq_true rfl) in_Processor rfl tw_174 rfl d_Processor_popOrGo_45 ?_
        refine lv_aload_n (pc := 48) X.1 X.2.1 d_Processor_popOrGo_48 rfl (lv_at hl 0 rfl) ?_
        refine ab_gx (pc := 49) (v := .ref (q 4)) X hX 0 4 1 rfl rfl (Nat.le_of_ble_eq_true rfl) in_Processor rfl tw_173 rfl d_Processor_popOrGo_49 ?_
        refine ab_ki_callV (pc := 52) (wr := []) (w := (wC t q)) (u := u) (F := f_Memory_pop u) (as := []) (rest := [.ref (q 1)]) X hX (c_Memory_pop l D t q u) ok_Memory_pop okv_Memory_pop tw_230 4 2 rfl rfl rfl hl.1 rfl (Nat.le_of_ble_eq_true rfl) ⟨rfl, rfl, Nat.le_of_ble_eq_true rfl, Nat.le_of_ble_eq_true rfl⟩ ⟨Nat.zero_le _, Nat.zero_le _⟩ d_Processor_popOrGo_52 (fun H locs hX => ?_)
        refine ab_px (pc := 55) (ws' := (wC t q (stt ((f_Memory_pop u).2) 0 2 ((f_Memory_pop u).1)))) X hX 1 7 4 ty_State ty_State_ok nm_State rfl rfl (Nat.le_of_ble_eq_true rfl) in_State rfl tw_175 rfl rfl rfl rfl (Nat.le_of_ble_eq_true rfl) (sf_wC_1_4 t q ((f_Memory_pop u).2) ((f_Memory_pop u).1)) d_Processor_popOrGo_55 (fun H locs hX => ?_)
        refine lv_bipush (pc := 58) (v := 10) X.1 X.2.1 d_Processor_popOrGo_58 (by decide) ?_
        exact ab_ki_ret (pc := 60) X hr hk hX rfl (by rw [f_Processor_popOrGo, if_neg h1, if_neg h2, if_pos h3]) d_Processor_popOrGo_60
      ·
        by_cases h4 : x1 = 4
        ·
          refine ab_swIn (pc := 1) (tgt := 102) (off := 101) X.1 X.2.1 d_Processor_popOrGo_1 h4 (by decide) (by decide) (by decide) (by decide) ?_
          refine lv_aload_n (pc := 102) X.1 X.2.1 d_Processor_popOrGo_102 rfl (lv_at hl 0 rfl) ?_
          refine ab_gx (pc := 103) (v := .ref (q 6)) X hX 0 4 2 rfl rfl (Nat.le_of_ble_eq_true rfl) in_Processor rfl tw_196 rfl d_Processor_popOrGo_103 ?_
          refine lv_iload_n (pc := 106) X.1 X.2.1 d_Processor_popOrGo_106 rfl (lv_at hl 1 rfl) ?_
          refine lv_iconst (pc := 107) (v := 2) X.1 X.2.1 d_Processor_popOrGo_107 (by decide) ?_
          refine lv_idiv (pc := 108) X.1 X.2.1 d_Processor_popOrGo_108 (by decide) ?_
          refine lv_aload_n (pc := 109) X.1 X.2.1 d_Processor_popOrGo_109 rfl (lv_at hl 0 rfl) ?_
          refine ab_gx (pc := 110) (v := .ref (q 4)) X hX 0 4 1 rfl rfl (Nat.le_of_ble_eq_true rfl) in_Processor rfl tw_173 rfl d_Processor_popOrGo_110 ?_
          refine ab_ki_callV (pc := 113) (wr := []) (w := (wC t q)) (u := u) (F := f_Memory_pop u) (as := []) (rest := [.int (x1 / 2), .ref (q 6)]) X hX (c_Memory_pop l D t q u) ok_Memory_pop okv_Memory_pop tw_230 4 2 rfl rfl rfl hl.1 rfl (Nat.le_of_ble_eq_true rfl) ⟨rfl, rfl, Nat.le_of_ble_eq_true rfl, Nat.le_of_ble_eq_true rfl⟩ ⟨Nat.zero_le _, Nat.zero_le _⟩ d_Processor_popOrGo_113 (fun H locs hX => ?_)
          refine ab_kv_callV (pc := 116) (wr := []) (w := (wC t q)) (u := ((f_Memory_pop u).2)) (F := f_Registers_setPair ((f_Memory_pop u).2) (x1 / 2) ((f_Memory_pop u).1)) (as := [.int (x1 / 2), .int ((f_Memory_pop u).1)]) (rest := []) X hX (c_Registers_setPair l D t q ((f_Memory_pop u).2) (x1 / 2) ((f_Memory_pop u).1)) ok_Registers_setPair okv_Registers_setPair tw_200 6 5 rfl rfl rfl hl.1 rfl (Nat.le_of_ble_eq_true rfl) ⟨rfl, rfl, Nat.le_of_ble_eq_true rfl, Nat.le_of_ble_eq_true rfl⟩ ⟨Nat.zero_le _, Nat.zero_le _⟩ d_Processor_popOrGo_116 (fun H locs hX => ?_)
          refine lv_bipush (pc := 119) (v := 10) X.1 X.2.1 d_Processor_popOrGo_119 (by decide) ?_
          exact ab_ki_ret (pc := 121) X hr hk hX rfl (by rw [f_Processor_popOrGo, if_neg h1, if_neg h2, if_neg h3, if_pos h4]) d_Processor_popOrGo_121
        ·
          by_cases h5 : x1 = 5
          ·
            refine ab_swIn (pc := 1) (tgt := 61) (off := 60) X.1 X.2.1 d_Processor_popOrGo_1 h5 (by decide) (by decide) (by decide) (by decide) ?_
            refine lv_aload_n (pc := 61) X.1 X.2.1 d_Processor_popOrGo_61 rfl (lv_at hl 0 rfl) ?_
            refine ab_gx (pc := 62) (v := .ref (q 1)) X hX 0 4 0 rfl rfl (Nat.le_of_ble_eq_true rfl) in_Processor rfl tw_174 rfl d_Processor_popOrGo_62 ?_
            refine lv_aload_n (pc := 65) X.1 X.2.1 d_Processor_popOrGo_65 rfl (lv_at hl 0 rfl) ?_
            refine ab_gx (pc := 66) (v := .ref (q 6)) X hX 0 4 2 rfl rfl (Nat.le_of_ble_eq_true rfl) in_Processor rfl tw_196 rfl d_Processor_popOrGo_66 ?_
            refine lv_iconst (pc := 69) (v := 2) X.1 X.2.1 d_Processor_popOrGo_69 (by decide) ?_
            refine ab_kr_callV (pc := 70) (wr := []) (w := (wC t q)) (u := u) (r := f_Registers_pair u 2) (as := [.int 2]) (rest := [.ref (q 1)]) X hX (c_Registers_pair l D t q u 2) ok_Registers_pair okv_Registers_pair tw_197 6 5 rfl rfl rfl hl.1 rfl (Nat.le_of_ble_eq_true rfl) ⟨rfl, rfl, Nat.le_of_ble_eq_true rfl, Nat.le_of_ble_eq_true rfl⟩ ⟨Nat.zero_le _, Nat.zero_le _⟩ d_Processor_popOrGo_70 (fun H locs hX => ?_)
            refine ab_px (pc := 73) (ws' := (wC t q (stt u 0 2 (f_Registers_pair u 2)))) X hX 1 7 4 ty_State ty_State_ok nm_State rfl rfl (Nat.le_of_ble_eq_true rfl) in_State rfl tw_175 rfl rfl rfl rfl (Nat.le_of_ble_eq_true rfl) (sf_wC_1_4 t q u (f_Registers_pair u 2)) d_Processor_popOrGo_73 (fun H locs hX => ?_)
            refine lv_iconst (pc := 76) (v := 5) X.1 X.2.1 d_Processor_popOrGo_76 (by decide) ?_
            exact ab_ki_ret (pc := 77) X hr hk hX rfl (by rw [f_Processor_popOrGo, if_neg h1, if_neg h2, if_neg h3, if_neg h4, if_pos h5]) d_Processor_popOrGo_77
          ·
            by_cases h6 : x1 = 6
            ·
              refine ab_swIn (pc := 1) (tgt := 95) (off := 94) X.1 X.2.1 d_Processor_popOrGo_1 h6 (by decide) (by decide) (by decide) (by decide) ?_
              refine lv_aload_n (pc := 95) X.1 X.2.1 d_Processor_popOrGo_95 rfl (lv_at hl 0 rfl) ?_
              refine ab_kv_callV (pc := 96) (wr := []) (w := (wC t q)) (u := u) (F := f_Processor_popAAndFlags u) (as := []) (rest := []) X hX (c_Processor_popAAndFlags l D t q u) ok_Processor_popAAndFlags okv_Processor_popAAndFlags tw_237 0 4 rfl rfl rfl hl.1 rfl (Nat.le_of_ble_eq_true rfl) ⟨rfl, rfl, Nat.le_of_ble_eq_true rfl, Nat.le_of_ble_eq_true rfl⟩ ⟨Nat.zero_le _, Nat.zero_le _⟩ d_Processor_popOrGo_96 (fun H locs hX => ?_)
              refine lv_bipush (pc := 99) (v := 10) X.1 X.2.1 d_Processor_popOrGo_99 (by decide) ?_
              exact ab_ki_ret (pc := 101) X hr hk hX rfl (by rw [f_Processor_popOrGo, if_neg h1, if_neg h2, if_neg h3, if_neg h4, if_neg h5, if_pos h6]) d_Processor_popOrGo_101
            ·
              by_cases h7 : x1 = 7
              ·
                refine ab_swIn (pc := 1) (tgt := 78) (off := 77) X.1 X.2.1 d_Processor_popOrGo_1 h7 (by decide) (by decide) (by decide) (by decide) ?_
                refine lv_aload_n (pc := 78) X.1 X.2.1 d_Processor_popOrGo_78 rfl (lv_at hl 0 rfl) ?_
                refine ab_gx (pc := 79) (v := .ref (q 1)) X hX 0 4 0 rfl rfl (Nat.le_of_ble_eq_true rfl) in_Processor rfl tw_174 rfl d_Processor_popOrGo_79 ?_
                refine lv_aload_n (pc := 82) X.1 X.2.1 d_Processor_popOrGo_82 rfl (lv_at hl 0 rfl) ?_
                refine ab_gx (pc := 83) (v := .ref (q 6)) X hX 0 4 2 rfl rfl (Nat.le_of_ble_eq_true rfl) in_Processor rfl tw_196 rfl d_Processor_popOrGo_83 ?_
                refine lv_iconst (pc := 86) (v := 2) X.1 X.2.1 d_Processor_popOrGo_86 (by decide) ?_
                refine ab_kr_callV (pc := 87) (wr := []) (w := (wC t q)) (u := u) (r := f_Registers_pair u 2) (as := [.int 2]) (rest := [.ref (q 1)]) X hX (c_Registers_pair l D t q u 2) ok_Registers_pair okv_Registers_pair tw_197 6 5 rfl rfl rfl hl.1 rfl (Nat.le_of_ble_eq_true rfl) ⟨rfl, rfl, Nat.le_of_ble_eq_true rfl, Nat.le_of_ble_eq_true rfl⟩ ⟨Nat.zero_le _, Nat.zero_le _⟩ d_Processor_popOrGo_87 (fun H locs hX => ?_)
                refine ab_px (pc := 90) (ws' := (wC t q (stt u 0 1 (f_Registers_pair u 2)))) X hX 1 7 3 ty_State ty_State_ok nm_State rfl rfl (Nat.le_of_ble_eq_true rfl) in_State rfl tw_238 rfl rfl rfl rfl (Nat.le_of_ble_eq_true rfl) (sf_wC_1_3 t q u (f_Registers_pair u 2)) d_Processor_popOrGo_90 (fun H locs hX => ?_)
                refine lv_iconst (pc := 93) (v := 5) X.1 X.2.1 d_Processor_popOrGo_93 (by decide) ?_
                exact ab_ki_ret (pc := 94) X hr hk hX rfl (by rw [f_Processor_popOrGo, if_neg h1, if_neg h2, if_neg h3, if_neg h4, if_neg h5, if_neg h6, if_pos h7]) d_Processor_popOrGo_94
              ·
                have hno : x1.toInt < 1 ∨ 7 < x1.toInt := by
                  have n0 := lv_neT h1 (k := 1) (a := 1) (by decide)
                  have n1 := lv_neT h2 (k := 2) (a := 2) (by decide)
                  have n2 := lv_neT h3 (k := 3) (a := 3) (by decide)
                  have n3 := lv_neT h4 (k := 4) (a := 4) (by decide)
                  have n4 := lv_neT h5 (k := 5) (a := 5) (by decide)
                  have n5 := lv_neT h6 (k := 6) (a := 6) (by decide)
                  have n6 := lv_neT h7 (k := 7) (a := 7) (by decide)
                  omega
                refine lv_tableOut (pc := 1) (tgt := 102) X.1 X.2.1 d_Processor_popOrGo_1 hno (by decide) ?_
                refine lv_aload_n (pc := 102) X.1 X.2.1 d_Processor_popOrGo_102 rfl (lv_at hl 0 rfl) ?_
                refine ab_gx (pc := 103) (v := .ref (q 6)) X hX 0 4 2 rfl rfl (Nat.le_of_ble_eq_true rfl) in_Processor rfl tw_196 rfl d_Processor_popOrGo_103 ?_
                refine lv_iload_n (pc := 106) X.1 X.2.1 d_Processor_popOrGo_106 rfl (lv_at hl 1 rfl) ?_
                refine lv_iconst (pc := 107) (v := 2) X.1 X.2.1 d_Processor_popOrGo_107 (by decide) ?_
                refine lv_idiv (pc := 108) X.1 X.2.1 d_Processor_popOrGo_108 (by decide) ?_
                refine lv_aload_n (pc := 109) X.1 X.2.1 d_Processor_popOrGo_109 rfl (lv_at hl 0 rfl) ?_
                refine ab_gx (pc := 110) (v := .ref (q 4)) X hX 0 4 1 rfl rfl (Nat.le_of_ble_eq_true rfl) in_Processor rfl tw_173 rfl d_Processor_popOrGo_110 ?_
                refine ab_ki_callV (pc := 113) (wr := []) (w := (wC t q)) (u := u) (F := f_Memory_pop u) (as := []) (rest := [.int (x1 / 2), .ref (q 6)]) X hX (c_Memory_pop l D t q u) ok_Memory_pop okv_Memory_pop tw_230 4 2 rfl rfl rfl hl.1 rfl (Nat.le_of_ble_eq_true rfl) ⟨rfl, rfl, Nat.le_of_ble_eq_true rfl, Nat.le_of_ble_eq_true rfl⟩ ⟨Nat.zero_le _, Nat.zero_le _⟩ d_Processor_popOrGo_113 (fun H locs hX => ?_)
                refine ab_kv_callV (pc := 116) (wr := []) (w := (wC t q)) (u := ((f_Memory_pop u).2)) (F := f_Registers_setPair ((f_Memory_pop u).2) (x1 / 2) ((f_Memory_pop u).1)) (as := [.int (x1 / 2), .int ((f_Memory_pop u).1)]) (rest := []) X hX (c_Registers_setPair l D t q ((f_Memory_pop u).2) (x1 / 2) ((f_Memory_pop u).1)) ok_Registers_setPair okv_Registers_setPair tw_200 6 5 rfl rfl rfl hl.1 rfl (Nat.le_of_ble_eq_true rfl) ⟨rfl, rfl, Nat.le_of_ble_eq_true rfl, Nat.le_of_ble_eq_true rfl⟩ ⟨Nat.zero_le _, Nat.zero_le _⟩ d_Processor_popOrGo_116 (fun H locs hX => ?_)
                refine lv_bipush (pc := 119) (v := 10) X.1 X.2.1 d_Processor_popOrGo_119 (by decide) ?_
                exact ab_ki_ret (pc := 121) X hr hk hX rfl (by rw [f_Processor_popOrGo, if_neg h1, if_neg h2, if_neg h3, if_neg h4, if_neg h5, if_neg h6, if_neg h7]) d_Processor_popOrGo_121
abbrev b_Processor_goIf : ByteArray := prog_6_method_14_code
def y_Processor_goIf : MethodName := ⟨"ArcadeBoard$Processor", "goIf", "(Z)I"⟩
theorem d_Processor_goIf_0 : decode b_Processor_goIf 0 = .ok (.aload_n 0, 1) := by decide +kernel
theorem d_Processor_goIf_1 : decode b_Processor_goIf 1 = .ok (.invokevirtual 121, 3) := by decide +kernel
theorem d_Processor_goIf_4 : decode b_Processor_goIf 4 = .ok (.istore_n 2, 1) := by decide +kernel
theorem d_Processor_goIf_5 : decode b_Processor_goIf 5 = .ok (.iload_n 1, 1) := by decide +kernel
theorem d_Processor_goIf_6 : decode b_Processor_goIf 6 = .ok (.ifCond .eq 11, 3) := by decide +kernel
theorem d_Processor_goIf_9 : decode b_Processor_goIf 9 = .ok (.aload_n 0, 1) := by decide +kernel
theorem d_Processor_goIf_10 : decode b_Processor_goIf 10 = .ok (.getfield 9, 3) := by decide +kernel
theorem d_Processor_goIf_13 : decode b_Processor_goIf 13 = .ok (.iload_n 2, 1) := by decide +kernel
theorem d_Processor_goIf_14 : decode b_Processor_goIf 14 = .ok (.putfield 170, 3) := by decide +kernel
theorem d_Processor_goIf_17 : decode b_Processor_goIf 17 = .ok (.bipush 10, 2) := by decide +kernel
theorem d_Processor_goIf_19 : decode b_Processor_goIf 19 = .ok (.ireturn, 1) := by decide +kernel
theorem tw_239 : Jvm.Cond.code ⟨"ArcadeBoard$Processor", "goIf", "(Z)I"⟩ prog_6_method_14_code 3 (Option.some Jvm.ClassFile.FieldType.int) ∈ AL := ab_in (ab_t3 (List.mem_of_getElem? (i := 129) (by decide +kernel))) rfl
theorem tw_240 : Jvm.Cond.instanceMethod ⟨"ArcadeBoard$Processor", "goIf", "(Z)I"⟩ ∈ AL := ab_in (ab_t3 (List.mem_of_getElem? (i := 128) (by decide +kernel))) rfl
theorem tw_241 : Cond.selects "ArcadeBoard$Processor" ⟨"ArcadeBoard$Processor", "goIf", "(Z)I"⟩ ⟨"ArcadeBoard$Processor", "goIf", "(Z)I"⟩ ∈ AL := ab_in (ab_s2 (List.mem_of_getElem? (i := 3) (by decide +kernel))) rfl
theorem ok_Processor_goIf : ab_yok y_Processor_goIf b_Processor_goIf 3 (some .int) 1 := ⟨tw_239, tw_170, by decide, by decide, by decide +kernel⟩
theorem okv_Processor_goIf : ab_yok_V y_Processor_goIf := ⟨tw_240, tw_241⟩
set_option maxHeartbeats 1000000 in
set_option maxRecDepth 100000 in
theorem c_Processor_goIf (l : Launch) (D : va_G) (t : Nat → ClassId) (q : Nat → Nat) (u : SS) (x1 : Int32) : ab_ki l D (tyC t) (wC t q) y_Processor_goIf b_Processor_goIf 3 .int { frames := 2, cells := 0, slots := 0, locals := 43 } [.ref (q 0), .int x1] u (f_Processor_goIf u x1) := by
  refine ab_ki_ofW (by decide) (Nat.le_of_ble_eq_true rfl) (fun p e s m below meth c ls A X hr hk hl hX => ?_)
  have hl : lv_has ls 3 [(0, .ref (q 0)), (1, .int x1)] := hl
  refine lv_aload_n (pc := 0) X.1 X.2.1 d_Processor_goIf_0 rfl (lv_at hl 0 rfl) ?_
  refine ab_ki_callV (pc := 1) (wr := []) (w := (wC t q)) (u := u) (F := f_Processor_nextWord u) (as := []) (rest := []) X hX (c_Processor_nextWord l D t q u) ok_Processor_nextWord okv_Processor_nextWord tw_199 0 4 rfl rfl rfl hl.1 rfl (Nat.le_of_ble_eq_true rfl) ⟨rfl, rfl, Nat.le_of_ble_eq_true rfl, Nat.le_of_ble_eq_true rfl⟩ ⟨Nat.zero_le _, Nat.zero_le _⟩ d_Processor_goIf_1 (fun H locs hX => ?_)
  refine lv_istore_n (pc := 4) (lv' := [(2, .int ((f_Processor_nextWord u).1)), (0, .ref (q 0)), (1, .int x1)]) X.1 X.2.1 d_Processor_goIf_4 rfl hl (Nat.le_of_ble_eq_true rfl) rfl (fun ls hl => ?_)
  refine lv_iload_n (pc := 5) X.1 X.2.1 d_Processor_goIf_5 rfl (lv_at hl 2 rfl) ?_
  refine lv_if_eq (pc := 6) (tgt := 17) X.1 X.2.1 d_Processor_goIf_6 (by decide) (fun h1 => ?_) (fun h1 => ?_)
  ·
    refine lv_bipush (pc := 17) (v := 10) X.1 X.2.1 d_Processor_goIf_17 (by decide) ?_
    exact ab_ki_ret (pc := 19) X hr hk hX rfl (by rw [f_Processor_goIf, if_pos h1]) d_Processor_goIf_19
  ·
    refine lv_aload_n (pc := 9) X.1 X.2.1 d_Processor_goIf_9 rfl (lv_at hl 1 rfl) ?_
    refine ab_gx (pc := 10) (v := .ref (q 1)) X hX 0 4 0 rfl rfl (Nat.le_of_ble_eq_true rfl) in_Processor rfl tw_174 rfl d_Processor_goIf_10 ?_
    refine lv_iload_n (pc := 13) X.1 X.2.1 d_Processor_goIf_13 rfl (lv_at hl 0 rfl) ?_
    refine ab_px (pc := 14) (ws' := (wC t q (stt ((f_Processor_nextWord u).2) 0 2 ((f_Processor_nextWord u).1)))) X hX 1 7 4 ty_State ty_State_ok nm_State rfl rfl (Nat.le_of_ble_eq_true rfl) in_State rfl tw_175 rfl rfl rfl rfl (Nat.le_of_ble_eq_true rfl) (sf_wC_1_4 t q ((f_Processor_nextWord u).2) ((f_Processor_nextWord u).1)) d_Processor_goIf_14 (fun H locs hX => ?_)
    refine lv_bipush (pc := 17) (v := 10) X.1 X.2.1 d_Processor_goIf_17 (by decide) ?_
    exact ab_ki_ret (pc := 19) X hr hk hX rfl (by rw [f_Processor_goIf, if_neg h1]) d_Processor_goIf_19
abbrev b_Processor_goOrExchange : ByteArray := prog_6_method_17_code
def y_Processor_goOrExchange : MethodName := ⟨"ArcadeBoard$Processor", "goOrExchange", "(I)I"⟩
theorem d_Processor_goOrExchange_0 : decode b_Processor_goOrExchange 0 = .ok (.iload_n 1, 1) := by decide +kernel
theorem d_Processor_goOrExchange_1 : decode b_Processor_goOrExchange 1 = .ok (.tableswitch 192 2 7 #[39, 63, 87, 136, 172, 182], 39) := by decide +kernel
theorem d_Processor_goOrExchange_40 : decode b_Processor_goOrExchange 40 = .ok (.aload_n 0, 1) := by decide +kernel
theorem d_Processor_goOrExchange_41 : decode b_Processor_goOrExchange 41 = .ok (.getfield 32, 3) := by decide +kernel
theorem d_Processor_goOrExchange_44 : decode b_Processor_goOrExchange 44 = .ok (.aload_n 0, 1) := by decide +kernel
theorem d_Processor_goOrExchange_45 : decode b_Processor_goOrExchange 45 = .ok (.invokevirtual 60, 3) := by decide +kernel
theorem d_Processor_goOrExchange_48 : decode b_Processor_goOrExchange 48 = .ok (.aload_n 0, 1) := by decide +kernel
theorem d_Processor_goOrExchange_49 : decode b_Processor_goOrExchange 49 = .ok (.getfield 9, 3) := by decide +kernel
theorem d_Processor_goOrExchange_52 : decode b_Processor_goOrExchange 52 = .ok (.getfield 127, 3) := by decide +kernel
theorem d_Processor_goOrExchange_55 : decode b_Processor_goOrExchange 55 = .ok (.bipush 7, 2) := by decide +kernel
theorem d_Processor_goOrExchange_57 : decode b_Processor_goOrExchange 57 = .ok (.iaload, 1) := by decide +kernel
theorem d_Processor_goOrExchange_58 : decode b_Processor_goOrExchange 58 = .ok (.invokevirtual 185, 3) := by decide +kernel
theorem d_Processor_goOrExchange_61 : decode b_Processor_goOrExchange 61 = .ok (.bipush 10, 2) := by decide +kernel
theorem d_Processor_goOrExchange_63 : decode b_Processor_goOrExchange 63 = .ok (.ireturn, 1) := by decide +kernel
theorem d_Processor_goOrExchange_64 : decode b_Processor_goOrExchange 64 = .ok (.aload_n 0, 1) := by decide +kernel
theorem d_Processor_goOrExchange_65 : decode b_Processor_goOrExchange 65 = .ok (.getfield 9, 3) := by decide +kernel
theorem d_Processor_goOrExchange_68 : decode b_Processor_goOrExchange 68 = .ok (.getfield 127, 3) := by decide +kernel
theorem d_Processor_goOrExchange_71 : decode b_Processor_goOrExchange 71 = .ok (.bipush 7, 2) := by decide +kernel
theorem d_Processor_goOrExchange_73 : decode b_Processor_goOrExchange 73 = .ok (.aload_n 0, 1) := by decide +kernel
theorem d_Processor_goOrExchange_74 : decode b_Processor_goOrExchange 74 = .ok (.getfield 32, 3) := by decide +kernel
theorem d_Processor_goOrExchange_77 : decode b_Processor_goOrExchange 77 = .ok (.aload_n 0, 1) := by decide +kernel
theorem d_Processor_goOrExchange_78 : decode b_Processor_goOrExchange 78 = .ok (.invokevirtual 60, 3) := by decide +kernel
theorem d_Processor_goOrExchange_81 : decode b_Processor_goOrExchange 81 = .ok (.invokevirtual 190, 3) := by decide +kernel
theorem d_Processor_goOrExchange_84 : decode b_Processor_goOrExchange 84 = .ok (.iastore, 1) := by decide +kernel
theorem d_Processor_goOrExchange_85 : decode b_Processor_goOrExchange 85 = .ok (.bipush 10, 2) := by decide +kernel
theorem d_Processor_goOrExchange_87 : decode b_Processor_goOrExchange 87 = .ok (.ireturn, 1) := by decide +kernel
theorem d_Processor_goOrExchange_88 : decode b_Processor_goOrExchange 88 = .ok (.aload_n 0, 1) := by decide +kernel
theorem d_Processor_goOrExchange_89 : decode b_Processor_goOrExchange 89 = .ok (.getfield 15, 3) := by decide +kernel
theorem d_Processor_goOrExchange_92 : decode b_Processor_goOrExchange 92 = .ok (.aload_n 0, 1) := by decide +kernel
theorem d_Processor_goOrExchange_93 : decode b_Processor_goOrExchange 93 = .ok (.getfield 9, 3) := by decide +kernel
theorem d_Processor_goOrExchange_96 : decode b_Processor_goOrExchange 96 = .ok (.getfield 173, 3) := by decide +kernel
theorem d_Processor_goOrExchange_99 : decode b_Processor_goOrExchange 99 = .ok (.invokevirtual 141, 3) := by decide +kernel
theorem d_Processor_goOrExchange_102 : decode b_Processor_goOrExchange 102 = .ok (.istore_n 2, 1) := by decide +kernel
theorem d_Processor_goOrExchange_103 : decode b_Processor_goOrExchange 103 = .ok (.aload_n 0, 1) := by decide +kernel
theorem d_Processor_goOrExchange_104 : decode b_Processor_goOrExchange 104 = .ok (.getfield 15, 3) := by decide +kernel
theorem d_Processor_goOrExchange_107 : decode b_Processor_goOrExchange 107 = .ok (.aload_n 0, 1) := by decide +kernel
theorem d_Processor_goOrExchange_108 : decode b_Processor_goOrExchange 108 = .ok (.getfield 9, 3) := by decide +kernel
theorem d_Processor_goOrExchange_111 : decode b_Processor_goOrExchange 111 = .ok (.getfield 173, 3) := by decide +kernel
theorem d_Processor_goOrExchange_114 : decode b_Processor_goOrExchange 114 = .ok (.aload_n 0, 1) := by decide +kernel
theorem d_Processor_goOrExchange_115 : decode b_Processor_goOrExchange 115 = .ok (.getfield 19, 3) := by decide +kernel
theorem d_Processor_goOrExchange_118 : decode b_Processor_goOrExchange 118 = .ok (.iconst 2, 1) := by decide +kernel
theorem d_Processor_goOrExchange_119 : decode b_Processor_goOrExchange 119 = .ok (.invokevirtual 103, 3) := by decide +kernel
theorem d_Processor_goOrExchange_122 : decode b_Processor_goOrExchange 122 = .ok (.invokevirtual 138, 3) := by decide +kernel
theorem d_Processor_goOrExchange_125 : decode b_Processor_goOrExchange 125 = .ok (.aload_n 0, 1) := by decide +kernel
theorem d_Processor_goOrExchange_126 : decode b_Processor_goOrExchange 126 = .ok (.getfield 19, 3) := by decide +kernel
theorem d_Processor_goOrExchange_129 : decode b_Processor_goOrExchange 129 = .ok (.iconst 2, 1) := by decide +kernel
theorem d_Processor_goOrExchange_130 : decode b_Processor_goOrExchange 130 = .ok (.iload_n 2, 1) := by decide +kernel
theorem d_Processor_goOrExchange_131 : decode b_Processor_goOrExchange 131 = .ok (.invokevirtual 106, 3) := by decide +kernel
theorem d_Processor_goOrExchange_134 : decode b_Processor_goOrExchange 134 = .ok (.bipush 18, 2) := by decide +kernel
theorem d_Processor_goOrExchange_136 : decode b_Processor_goOrExchange 136 = .ok (.ireturn, 1) := by decide +kernel
theorem d_Processor_goOrExchange_137 : decode b_Processor_goOrExchange 137 = .ok (.aload_n 0, 1) := by decide +kernel
theorem d_Processor_goOrExchange_138 : decode b_Processor_goOrExchange 138 = .ok (.getfield 19, 3) := by decide +kernel
theorem d_Processor_goOrExchange_141 : decode b_Processor_goOrExchange 141 = .ok (.iconst 1, 1) := by decide +kernel
theorem d_Processor_goOrExchange_142 : decode b_Processor_goOrExchange 142 = .ok (.invokevirtual 103, 3) := by decide +kernel
theorem d_Processor_goOrExchange_145 : decode b_Processor_goOrExchange 145 = .ok (.istore_n 3, 1) := by decide +kernel
theorem d_Processor_goOrExchange_146 : decode b_Processor_goOrExchange 146 = .ok (.aload_n 0, 1) := by decide +kernel
theorem d_Processor_goOrExchange_147 : decode b_Processor_goOrExchange 147 = .ok (.getfield 19, 3) := by decide +kernel
theorem d_Processor_goOrExchange_150 : decode b_Processor_goOrExchange 150 = .ok (.iconst 1, 1) := by decide +kernel
theorem d_Processor_goOrExchange_151 : decode b_Processor_goOrExchange 151 = .ok (.aload_n 0, 1) := by decide +kernel
theorem d_Processor_goOrExchange_152 : decode b_Processor_goOrExchange 152 = .ok (.getfield 19, 3) := by decide +kernel
theorem d_Processor_goOrExchange_155 : decode b_Processor_goOrExchange 155 = .ok (.iconst 2, 1) := by decide +kernel
theorem d_Processor_goOrExchange_156 : decode b_Processor_goOrExchange 156 = .ok (.invokevirtual 103, 3) := by decide +kernel
theorem d_Processor_goOrExchange_159 : decode b_Processor_goOrExchange 159 = .ok (.invokevirtual 106, 3) := by decide +kernel
theorem d_Processor_goOrExchange_162 : decode b_Processor_goOrExchange 162 = .ok (.aload_n 0, 1) := by decide +kernel
theorem d_Processor_goOrExchange_163 : decode b_Processor_goOrExchange 163 = .ok (.getfield 19, 3) := by decide +kernel
theorem d_Processor_goOrExchange_166 : decode b_Processor_goOrExchange 166 = .ok (.iconst 2, 1) := by decide +kernel
theorem d_Processor_goOrExchange_167 : decode b_Processor_goOrExchange 167 = .ok (.iload_n 3, 1) := by decide +kernel
theorem d_Processor_goOrExchange_168 : decode b_Processor_goOrExchange 168 = .ok (.invokevirtual 106, 3) := by decide +kernel
theorem d_Processor_goOrExchange_171 : decode b_Processor_goOrExchange 171 = .ok (.iconst 5, 1) := by decide +kernel
theorem d_Processor_goOrExchange_172 : decode b_Processor_goOrExchange 172 = .ok (.ireturn, 1) := by decide +kernel
theorem d_Processor_goOrExchange_173 : decode b_Processor_goOrExchange 173 = .ok (.aload_n 0, 1) := by decide +kernel
theorem d_Processor_goOrExchange_174 : decode b_Processor_goOrExchange 174 = .ok (.getfield 9, 3) := by decide +kernel
theorem d_Processor_goOrExchange_177 : decode b_Processor_goOrExchange 177 = .ok (.iconst 0, 1) := by decide +kernel
theorem d_Processor_goOrExchange_178 : decode b_Processor_goOrExchange 178 = .ok (.putfield 40, 3) := by decide +kernel
theorem d_Processor_goOrExchange_181 : decode b_Processor_goOrExchange 181 = .ok (.iconst 4, 1) := by decide +kernel
theorem d_Processor_goOrExchange_182 : decode b_Processor_goOrExchange 182 = .ok (.ireturn, 1) := by decide +kernel
theorem d_Processor_goOrExchange_183 : decode b_Processor_goOrExchange 183 = .ok (.aload_n 0, 1) := by decide +kernel
theorem d_Processor_goOrExchange_184 : decode b_Processor_goOrExchange 184 = .ok (.getfield 9, 3) := by decide +kernel
theorem d_Processor_goOrExchange_187 : decode b_Processor_goOrExchange 187 = .ok (.iconst 1, 1) := by decide +kernel
theorem d_Processor_goOrExchange_188 : decode b_Processor_goOrExchange 188 = .ok (.putfield 40, 3) := by decide +kernel
theorem d_Processor_goOrExchange_191 : decode b_Processor_goOrExchange 191 = .ok (.iconst 4, 1) := by decide +kernel
theorem d_Processor_goOrExchange_192 : decode b_Processor_goOrExchange 192 = .ok (.ireturn, 1) := by decide +kernel
theorem d_Processor_goOrExchange_193 : decode b_Processor_goOrExchange 193 = .ok (.aload_n 0, 1) := by decide +kernel
theorem d_Processor_goOrExchange_194 : decode b_Processor_goOrExchange 194 = .ok (.getfield 9, 3) := by decide +kernel
theorem d_Processor_goOrExchange_197 : decode b_Processor_goOrExchange 197 = .ok (.aload_n 0, 1) := by decide +kernel
theorem d_Processor_goOrExchange_198 : decode b_Processor_goOrExchange 198 = .ok (.invokevirtual 121, 3) := by decide +kernel
theorem d_Processor_goOrExchange_201 : decode b_Processor_goOrExchange 201 = .ok (.putfield 170, 3) := by decide +kernel
theorem d_Processor_goOrExchange_204 : decode b_Processor_goOrExchange 204 = .ok (.bipush 10, 2) := by decide +kernel
theorem d_Processor_goOrExchange_206 : decode b_Processor_goOrExchange 206 = .ok (.ireturn, 1) := by decide +kernel
theorem tw_242 : Jvm.Cond.code ⟨"ArcadeBoard$Processor", "goOrExchange", "(I)I"⟩ prog_6_method_17_code 4 (Option.some Jvm.ClassFile.FieldType.int) ∈ AL := ab_in (ab_t3 (List.mem_of_getElem? (i := 133) (by decide +kernel))) rfl
theorem tw_243 : Jvm.Cond.instanceMethod ⟨"ArcadeBoard$Processor", "goOrExchange", "(I)I"⟩ ∈ AL := ab_in (ab_t3 (List.mem_of_getElem? (i := 132) (by decide +kernel))) rfl
theorem tw_244 : Cond.selects "ArcadeBoard$Processor" ⟨"ArcadeBoard$Processor", "goOrExchange", "(I)I"⟩ ⟨"ArcadeBoard$Processor", "goOrExchange", "(I)I"⟩ ∈ AL := ab_in (ab_s2 (List.mem_of_getElem? (i := 4) (by decide +kernel))) rfl
theorem tw_245 : Jvm.Cond.fieldLink "ArcadeBoard$Processor" 32 "ArcadeBoard$Processor" "ports" "LArcadeBoard$Ports;" ∈ AL := ab_in (ab_t1 (List.mem_of_getElem? (i := 215) (by decide +kernel))) rfl
theorem tw_246 : Jvm.Cond.methodLink "ArcadeBoard$Processor" 185 ⟨"ArcadeBoard$Ports", "out", "(II)V"⟩ ∈ AL := ab_in (ab_t3 (List.mem_of_getElem? (i := 134) (by decide +kernel))) rfl
theorem tw_247 : Jvm.Cond.methodLink "ArcadeBoard$Processor" 190 ⟨"ArcadeBoard$Ports", "in", "(I)I"⟩ ∈ AL := ab_in (ab_t3 (List.mem_of_getElem? (i := 142) (by decide +kernel))) rfl
theorem ok_Processor_goOrExchange : ab_yok y_Processor_goOrExchange b_Processor_goOrExchange 4 (some .int) 1 := ⟨tw_242, tw_170, by decide, by decide, by decide +kernel⟩
theorem okv_Processor_goOrExchange : ab_yok_V y_Processor_goOrExchange := ⟨tw_243, tw_244⟩
set_option maxHeartbeats 1000000 in
set_option maxRecDepth 100000 in
theorem c_Processor_goOrExchange (l : Launch) (D : va_G) (t : Nat → ClassId) (q : Nat → Nat) (u : SS) (x1 : Int32) : ab_ki l D (tyC t) (wC t q) y_Processor_goOrExchange b_Processor_goOrExchange 4 .int { frames := 2, cells := 0, slots := 0, locals := 45 } [.ref (q 0), .int x1] u (f_Processor_goOrExchange u x1) := by
  refine ab_ki_ofW (by decide) (Nat.le_of_ble_eq_true rfl) (fun p e s m below meth c ls A X hr hk hl hX => ?_)
  have hl : lv_has ls 4 [(0, .ref (q 0)), (1, .int x1)] := hl
  refine lv_iload_n (pc := 0) X.1 X.2.1 d_Processor_goOrExchange_0 rfl (lv_at hl 1 rfl) ?_
  by_cases h1 : x1 = 2
  ·
    refine ab_swIn (pc := 1) (tgt := 40) (off := 39) X.1 X.2.1 d_Processor_goOrExchange_1 h1 (by decide) (by decide) (by decide) (by decide) ?_
    refine lv_aload_n (pc := 40) X.1 X.2.1 d_Processor_goOrExchange_40 rfl (lv_at hl 0 rfl) ?_
    refine ab_gx (pc := 41) (v := .ref (q 8)) X hX 0 4 4 rfl rfl (Nat.le_of_ble_eq_true rfl) in_Processor rfl tw_245 rfl d_Processor_goOrExchange_41 ?_
    refine lv_aload_n (pc := 44) X.1 X.2.1 d_Processor_goOrExchange_44 rfl (lv_at hl 0 rfl) ?_
    refine ab_ki_callV (pc := 45) (wr := []) (w := (wC t q)) (u := u) (F := f_Processor_nextByte u) (as := []) (rest := [.ref (q 8)]) X hX (c_Processor_nextByte l D t q u) ok_Processor_nextByte okv_Processor_nextByte tw_217 0 4 rfl rfl rfl hl.1 rfl (Nat.le_of_ble_eq_true rfl) ⟨rfl, rfl, Nat.le_of_ble_eq_true rfl, Nat.le_of_ble_eq_true rfl⟩ ⟨Nat.zero_le _, Nat.zero_le _⟩ d_Processor_goOrExchange_45 (fun H locs hX => ?_)
    refine lv_aload_n (pc := 48) X.1 X.2.1 d_Processor_goOrExchange_48 rfl (lv_at hl 0 rfl) ?_
    refine ab_gx (pc := 49) (v := .ref (q 1)) X hX 0 4 0 rfl rfl (Nat.le_of_ble_eq_true rfl) in_Processor rfl tw_174 rfl d_Processor_goOrExchange_49 ?_
    refine ab_gx (pc := 52) (v := .ref (q 3)) X hX 1 7 1 rfl rfl (Nat.le_of_ble_eq_true rfl) in_State rfl tw_204 rfl d_Processor_goOrExchange_52 ?_
    refine lv_bipush (pc := 55) (v := 7) X.1 X.2.1 d_Processor_goOrExchange_55 (by decide) ?_
    refine ab_ald (pc := 57) (f := ((f_Processor_nextByte u).2) 2) (j := 7) X hX 3 0 rfl rfl (ab_inc (by decide)) rfl d_Processor_goOrExchange_57 ?_
    refine ab_kv_callV (pc := 58) (wr := []) (w := (wC t q)) (u := ((f_Processor_nextByte u).2)) (F := f_Ports_out ((f_Processor_nextByte u).2) ((f_Processor_nextByte u).1) (((f_Processor_nextByte u).2) 2 7)) (as := [.int ((f_Processor_nextByte u).1), .int (((f_Processor_nextByte u).2) 2 7)]) (rest := []) X hX (c_Ports_out l D t q ((f_Processor_nextByte u).2) ((f_Processor_nextByte u).1) (((f_Processor_nextByte u).2) 2 7)) ok_Ports_out okv_Ports_out tw_246 8 3 rfl rfl rfl hl.1 rfl (Nat.le_of_ble_eq_true rfl) ⟨rfl, rfl, Nat.le_of_ble_eq_true rfl, Nat.le_of_ble_eq_true rfl⟩ ⟨Nat.zero_le _, Nat.zero_le _⟩ d_Processor_goOrExchange_58 (fun H locs hX => ?_)
    refine lv_bipush (pc := 61) (v := 10) X.1 X.2.1 d_Processor_goOrExchange_61 (by decide) ?_
    exact ab_ki_ret (pc := 63) X hr hk hX rfl (by rw [f_Processor_goOrExchange, if_pos h1]) d_Processor_goOrExchange_63
  ·
    by_cases h2 : x1 = 3
    ·
      refine ab_swIn (pc := 1) (tgt := 64) (off := 63) X.1 X.2.1 d_Processor_goOrExchange_1 h2 (by decide) (by decide) (by decide) (by decide) ?_
      refine lv_aload_n (pc := 64) X.1 X.2.1 d_Processor_goOrExchange_64 rfl (lv_at hl 0 rfl) ?_
      refine ab_gx (pc := 65) (v := .ref (q 1)) X hX 0 4 0 rfl rfl (Nat.le_of_ble_eq_true rfl) in_Processor rfl tw_174 rfl d_Processor_goOrExchange_65 ?_
      refine ab_gx (pc := 68) (v := .ref (q 3)) X hX 1 7 1 rfl rfl (Nat.le_of_ble_eq_true rfl) in_State rfl tw_204 rfl d_Processor_goOrExchange_68 ?_
      refine lv_bipush (pc := 71) (v := 7) X.1 X.2.1 d_Processor_goOrExchange_71 (by decide) ?_
      refine lv_aload_n (pc := 73) X.1 X.2.1 d_Processor_goOrExchange_73 rfl (lv_at hl 0 rfl) ?_
      refine ab_gx (pc := 74) (v := .ref (q 8)) X hX 0 4 4 rfl rfl (Nat.le_of_ble_eq_true rfl) in_Processor rfl tw_245 rfl d_Processor_goOrExchange_74 ?_
      refine lv_aload_n (pc := 77) X.1 X.2.1 d_Processor_goOrExchange_77 rfl (lv_at hl 0 rfl) ?_
      refine ab_ki_callV (pc := 78) (wr := []) (w := (wC t q)) (u := u) (F := f_Processor_nextByte u) (as := []) (rest := [.ref (q 8), .int 7, .ref (q 3)]) X hX (c_Processor_nextByte l D t q u) ok_Processor_nextByte okv_Processor_nextByte tw_217 0 4 rfl rfl rfl hl.1 rfl (Nat.le_of_ble_eq_true rfl) ⟨rfl, rfl, Nat.le_of_ble_eq_true rfl, Nat.le_of_ble_eq_true rfl⟩ ⟨Nat.zero_le _, Nat.zero_le _⟩ d_Processor_goOrExchange_78 (fun H locs hX => ?_)
      refine ab_kr_callV (pc := 81) (wr := []) (w := (wC t q)) (u := ((f_Processor_nextByte u).2)) (r := f_Ports_in ((f_Processor_nextByte u).2) ((f_Processor_nextByte u).1)) (as := [.int ((f_Processor_nextByte u).1)]) (rest := [.int 7, .ref (q 3)]) X hX (c_Ports_in l D t q ((f_Processor_nextByte u).2) ((f_Processor_nextByte u).1)) ok_Ports_in okv_Ports_in tw_247 8 3 rfl rfl rfl hl.1 rfl (Nat.le_of_ble_eq_true rfl) ⟨rfl, rfl, Nat.le_of_ble_eq_true rfl, Nat.le_of_ble_eq_true rfl⟩ ⟨Nat.zero_le _, Nat.zero_le _⟩ d_Processor_goOrExchange_81 (fun H locs hX => ?_)
      refine ab_ast (pc := 84) (f := ((f_Processor_nextByte u).2) 2) (j := 7) (ws' := (wC t q (stt ((f_Processor_nextByte u).2) 2 7 (f_Ports_in ((f_Processor_nextByte u).2) ((f_Processor_nextByte u).1))))) X hX 3 0 rfl rfl (ab_inc (by decide)) rfl (sa_wC_3 t q ((f_Processor_nextByte u).2) 7 (f_Ports_in ((f_Processor_nextByte u).2) ((f_Processor_nextByte u).1))) d_Processor_goOrExchange_84 (fun H locs hX => ?_)
      refine lv_bipush (pc := 85) (v := 10) X.1 X.2.1 d_Processor_goOrExchange_85 (by decide) ?_
      exact ab_ki_ret (pc := 87) X hr hk hX rfl (by rw [f_Processor_goOrExchange, if_neg h1, if_pos h2]) d_Processor_goOrExchange_87
    ·
      by_cases h3 : x1 = 4
      ·
        refine ab_swIn (pc := 1) (tgt := 88) (off := 87) X.1 X.2.1 d_Processor_goOrExchange_1 h3 (by decide) (by decide) (by decide) (by decide) ?_
        refine lv_aload_n (pc := 88) X.1 X.2.1 d_Processor_goOrExchange_88 rfl (lv_at hl 0 rfl) ?_
        refine ab_gx (pc := 89) (v := .ref (q 4)) X hX 0 4 1 rfl rfl (Nat.le_of_ble_eq_true rfl) in_Processor rfl tw_173 rfl d_Processor_goOrExchange_89 ?_
        refine lv_aload_n (pc := 92) X.1 X.2.1 d_Processor_goOrExchange_92 rfl (lv_at hl 0 rfl) ?_
        refine ab_gx (pc := 93) (v := .ref (q 1)) X hX 0 4 0 rfl rfl (Nat.le_of_ble_eq_true rfl) in_Processor rfl tw_174 rfl d_Processor_goOrExchange_93 ?_
        refine ab_gx (pc := 96) (v := .int (u 0 1)) X hX 1 7 3 rfl rfl (Nat.le_of_ble_eq_true rfl) in_State rfl tw_238 rfl d_Processor_goOrExchange_96 ?_
        refine ab_kr_callV (pc := 99) (wr := []) (w := (wC t q)) (u := u) (r := f_Memory_wordAt u (u 0 1)) (as := [.int (u 0 1)]) (rest := []) X hX (c_Memory_wordAt l D t q u (u 0 1)) ok_Memory_wordAt okv_Memory_wordAt tw_207 4 2 rfl rfl rfl hl.1 rfl (Nat.le_of_ble_eq_true rfl) ⟨rfl, rfl, Nat.le_of_ble_eq_true rfl, Nat.le_of_ble_eq_true rfl⟩ ⟨Nat.zero_le _, Nat.zero_le _⟩ d_Processor_goOrExchange_99 (fun H locs hX => ?_)
        refine lv_istore_n (pc := 102) (lv' := [(2, .int (f_Memory_wordAt u (u 0 1))), (0, .ref (q 0)), (1, .int x1)]) X.1 X.2.1 d_Processor_goOrExchange_102 rfl hl (Nat.le_of_ble_eq_true rfl) rfl (fun ls hl => ?_)
        refine lv_aload_n (pc := 103) X.1 X.2.1 d_Processor_goOrExchange_103 rfl (lv_at hl 1 rfl) ?_
        refine ab_gx (pc := 104) (v := .ref (q 4)) X hX 0 4 1 rfl rfl (Nat.le_of_ble_eq_true rfl) in_Processor rfl tw_173 rfl d_Processor_goOrExchange_104 ?_
        refine lv_aload_n (pc := 107) X.1 X.2.1 d_Processor_goOrExchange_107 rfl (lv_at hl 1 rfl) ?_
        refine ab_gx (pc := 108) (v := .ref (q 1)) X hX 0 4 0 rfl rfl (Nat.le_of_ble_eq_true rfl) in_Processor rfl tw_174 rfl d_Processor_goOrExchange_108 ?_
        refine ab_gx (pc := 111) (v := .int (u 0 1)) X hX 1 7 3 rfl rfl (Nat.le_of_ble_eq_true rfl) in_State rfl tw_238 rfl d_Processor_goOrExchange_111 ?_
        refine lv_aload_n (pc := 114) X.1 X.2.1 d_Processor_goOrExchange_114 rfl (lv_at hl 1 rfl) ?_
        refine ab_gx (pc := 115) (v := .ref (q 6)) X hX 0 4 2 rfl rfl (Nat.le_of_ble_eq_true rfl) in_Processor rfl tw_196 rfl d_Processor_goOrExchange_115 ?_
        refine lv_iconst (pc := 118) (v := 2) X.1 X.2.1 d_Processor_goOrExchange_118 (by decide) ?_
        refine ab_kr_callV (pc := 119) (wr := []) (w := (wC t q)) (u := u) (r := f_Registers_pair u 2) (as := [.int 2]) (rest := [.int (u 0 1), .ref (q 4)]) X hX (c_Registers_pair l D t q u 2) ok_Registers_pair okv_Registers_pair tw_197 6 5 rfl rfl rfl hl.1 rfl (Nat.le_of_ble_eq_true rfl) ⟨rfl, rfl, Nat.le_of_ble_eq_true rfl, Nat.le_of_ble_eq_true rfl⟩ ⟨Nat.zero_le _, Nat.zero_le _⟩ d_Processor_goOrExchange_119 (fun H locs hX => ?_)
        refine ab_kv_callV (pc := 122) (wr := []) (w := (wC t q)) (u := u) (F := f_Memory_putWord u (u 0 1) (f_Registers_pair u 2)) (as := [.int (u 0 1), .int (f_Registers_pair u 2)]) (rest := []) X hX (c_Memory_putWord l D t q u (u 0 1) (f_Registers_pair u 2)) ok_Memory_putWord okv_Memory_putWord tw_206 4 2 rfl rfl rfl hl.1 rfl (Nat.le_of_ble_eq_true rfl) ⟨rfl, rfl, Nat.le_of_ble_eq_true rfl, Nat.le_of_ble_eq_true rfl⟩ ⟨Nat.zero_le _, Nat.zero_le _⟩ d_Processor_goOrExchange_122 (fun H locs hX => ?_)
        refine lv_aload_n (pc := 125) X.1 X.2.1 d_Processor_goOrExchange_125 rfl (lv_at hl 1 rfl) ?_
        refine ab_gx (pc := 126) (v := .ref (q 6)) X hX 0 4 2 rfl rfl (Nat.le_of_ble_eq_true rfl) in_Processor rfl tw_196 rfl d_Processor_goOrExchange_126 ?_
        refine lv_iconst (pc := 129) (v := 2) X.1 X.2.1 d_Processor_goOrExchange_129 (by decide) ?_
        refine lv_iload_n (pc := 130) X.1 X.2.1 d_Processor_goOrExchange_130 rfl (lv_at hl 0 rfl) ?_
        refine ab_kv_callV (pc := 131) (wr := []) (w := (wC t q)) (u := (f_Memory_putWord u (u 0 1) (f_Registers_pair u 2))) (F := f_Registers_setPair (f_Memory_putWord u (u 0 1) (f_Registers_pair u 2)) 2 (f_Memory_wordAt u (u 0 1))) (as := [.int 2, .int (f_Memory_wordAt u (u 0 1))]) (rest := []) X hX (c_Registers_setPair l D t q (f_Memory_putWord u (u 0 1) (f_Registers_pair u 2)) 2 (f_Memory_wordAt u (u 0 1))) ok_Registers_setPair okv_Registers_setPair tw_200 6 5 rfl rfl rfl hl.1 rfl (Nat.le_of_ble_eq_true rfl) ⟨rfl, rfl, Nat.le_of_ble_eq_true rfl, Nat.le_of_ble_eq_true rfl⟩ ⟨Nat.zero_le _, Nat.zero_le _⟩ d_Processor_goOrExchange_131 (fun H locs hX => ?_)
        refine lv_bipush (pc := 134) (v := 18) X.1 X.2.1 d_Processor_goOrExchange_134 (by decide) ?_
        exact ab_ki_ret (pc := 136) X hr hk hX rfl (by rw [f_Processor_goOrExchange, if_neg h1, if_neg h2, if_pos h3]) d_Processor_goOrExchange_136
      ·
        by_cases h4 : x1 = 5
        ·
          refine ab_swIn (pc := 1) (tgt := 137) (off := 136) X.1 X.2.1 d_Processor_goOrExchange_1 h4 (by decide) (by decide) (by decide) (by decide) ?_
          refine lv_aload_n (pc := 137) X.1 X.2.1 d_Processor_goOrExchange_137 rfl (lv_at hl 0 rfl) ?_
          refine ab_gx (pc := 138) (v := .ref (q 6)) X hX 0 4 2 rfl rfl (Nat.le_of_ble_eq_true rfl) in_Processor rfl tw_196 rfl d_Processor_goOrExchange_138 ?_
          refine lv_iconst (pc := 141) (v := 1) X.1 X.2.1 d_Processor_goOrExchange_141 (by decide) ?_
          refine ab_kr_callV (pc := 142) (wr := []) (w := (wC t q)) (u := u) (r := f_Registers_pair u 1) (as := [.int 1]) (rest := []) X hX (c_Registers_pair l D t q u 1) ok_Registers_pair okv_Registers_pair tw_197 6 5 rfl rfl rfl hl.1 rfl (Nat.le_of_ble_eq_true rfl) ⟨rfl, rfl, Nat.le_of_ble_eq_true rfl, Nat.le_of_ble_eq_true rfl⟩ ⟨Nat.zero_le _, Nat.zero_le _⟩ d_Processor_goOrExchange_142 (fun H locs hX => ?_)
          refine lv_istore_n (pc := 145) (lv' := [(3, .int (f_Registers_pair u 1)), (0, .ref (q 0)), (1, .int x1)]) X.1 X.2.1 d_Processor_goOrExchange_145 rfl hl (Nat.le_of_ble_eq_true rfl) rfl (fun ls hl => ?_)
          refine lv_aload_n (pc := 146) X.1 X.2.1 d_Processor_goOrExchange_146 rfl (lv_at hl 1 rfl) ?_
          refine ab_gx (pc := 147) (v := .ref (q 6)) X hX 0 4 2 rfl rfl (Nat.le_of_ble_eq_true rfl) in_Processor rfl tw_196 rfl d_Processor_goOrExchange_147 ?_
          refine lv_iconst (pc := 150) (v := 1) X.1 X.2.1 d_Processor_goOrExchange_150 (by decide) ?_
          refine lv_aload_n (pc := 151) X.1 X.2.1 d_Processor_goOrExchange_151 rfl (lv_at hl 1 rfl) ?_
          refine ab_gx (pc := 152) (v := .ref (q 6)) X hX 0 4 2 rfl rfl (Nat.le_of_ble_eq_true rfl) in_Processor rfl tw_196 rfl d_Processor_goOrExchange_152 ?_
          refine lv_iconst (pc := 155) (v := 2) X.1 X.2.1 d_Processor_goOrExchange_155 (by decide) ?_
          refine ab_kr_callV (pc := 156) (wr := []) (w := (wC t q)) (u := u) (r := f_Registers_pair u 2) (as := [.int 2]) (rest := [.int 1, .ref (q 6)]) X hX (c_Registers_pair l D t q u 2) ok_Registers_pair okv_Registers_pair tw_197 6 5 rfl rfl rfl hl.1 rfl (Nat.le_of_ble_eq_true rfl) ⟨rfl, rfl, Nat.le_of_ble_eq_true rfl, Nat.le_of_ble_eq_true rfl⟩ ⟨Nat.zero_le _, Nat.zero_le _⟩ d_Processor_goOrExchange_156 (fun H locs hX => ?_)
          refine ab_kv_callV (pc := 159) (wr := []) (w := (wC t q)) (u := u) (F := f_Registers_setPair u 1 (f_Registers_pair u 2)) (as := [.int 1, .int (f_Registers_pair u 2)]) (rest := []) X hX (c_Registers_setPair l D t q u 1 (f_Registers_pair u 2)) ok_Registers_setPair okv_Registers_setPair tw_200 6 5 rfl rfl rfl hl.1 rfl (Nat.le_of_ble_eq_true rfl) ⟨rfl, rfl, Nat.le_of_ble_eq_true rfl, Nat.le_of_ble_eq_true rfl⟩ ⟨Nat.zero_le _, Nat.zero_le _⟩ d_Processor_goOrExchange_159 (fun H locs hX => ?_)
          refine lv_aload_n (pc := 162) X.1 X.2.1 d_Processor_goOrExchange_162 rfl (lv_at hl 1 rfl) ?_
          refine ab_gx (pc := 163) (v := .ref (q 6)) X hX 0 4 2 rfl rfl (Nat.le_of_ble_eq_true rfl) in_Processor rfl tw_196 rfl d_Processor_goOrExchange_163 ?_
          refine lv_iconst (pc := 166) (v := 2) X.1 X.2.1 d_Processor_goOrExchange_166 (by decide) ?_
          refine lv_iload_n (pc := 167) X.1 X.2.1 d_Processor_goOrExchange_167 rfl (lv_at hl 0 rfl) ?_
          refine ab_kv_callV (pc := 168) (wr := []) (w := (wC t q)) (u := (f_Registers_setPair u 1 (f_Registers_pair u 2))) (F := f_Registers_setPair (f_Registers_setPair u 1 (f_Registers_pair u 2)) 2 (f_Registers_pair u 1)) (as := [.int 2, .int (f_Registers_pair u 1)]) (rest := []) X hX (c_Registers_setPair l D t q (f_Registers_setPair u 1 (f_Registers_pair u 2)) 2 (f_Registers_pair u 1)) ok_Registers_setPair okv_Registers_setPair tw_200 6 5 rfl rfl rfl hl.1 rfl (Nat.le_of_ble_eq_true rfl) ⟨rfl, rfl, Nat.le_of_ble_eq_true rfl, Nat.le_of_ble_eq_true rfl⟩ ⟨Nat.zero_le _, Nat.zero_le _⟩ d_Processor_goOrExchange_168 (fun H locs hX => ?_)
          refine lv_iconst (pc := 171) (v := 5) X.1 X.2.1 d_Processor_goOrExchange_171 (by decide) ?_
          exact ab_ki_ret (pc := 172) X hr hk hX rfl (by rw [f_Processor_goOrExchange, if_neg h1, if_neg h2, if_neg h3, if_pos h4]) d_Processor_goOrExchange_172
        ·
          by_cases h5 : x1 = 6
          ·
            refine ab_swIn (pc := 1) (tgt := 173) (off := 172) X.1 X.2.1 d_Processor_goOrExchange_1 h5 (by decide) (by decide) (by decide) (by decide) ?_
            refine lv_aload_n (pc := 173) X.1 X.2.1 d_Processor_goOrExchange_173 rfl (lv_at hl 0 rfl) ?_
            refine ab_gx (pc := 174) (v := .ref (q 1)) X hX 0 4 0 rfl rfl (Nat.le_of_ble_eq_true rfl) in_Processor rfl tw_174 rfl d_Processor_goOrExchange_174 ?_
            refine lv_iconst (pc := 177) (v := 0) X.1 X.2.1 d_Processor_goOrExchange_177 (by decide) ?_
            refine ab_px (pc := 178) (ws' := (wC t q (stt u 0 3 0))) X hX 1 7 5 ty_State ty_State_ok nm_State rfl rfl (Nat.le_of_ble_eq_true rfl) in_State rfl tw_181 rfl rfl rfl rfl (Nat.le_of_ble_eq_true rfl) (sf_wC_1_5 t q u 0) d_Processor_goOrExchange_178 (fun H locs hX => ?_)
            refine lv_iconst (pc := 181) (v := 4) X.1 X.2.1 d_Processor_goOrExchange_181 (by decide) ?_
            exact ab_ki_ret (pc := 182) X hr hk hX rfl (by rw [f_Processor_goOrExchange, if_neg h1, if_neg h2, if_neg h3, if_neg h4, if_pos h5]) d_Processor_goOrExchange_182
          ·
            by_cases h6 : x1 = 7
            ·
              refine ab_swIn (pc := 1) (tgt := 183) (off := 182) X.1 X.2.1 d_Processor_goOrExchange_1 h6 (by decide) (by decide) (by decide) (by decide) ?_
              refine lv_aload_n (pc := 183) X.1 X.2.1 d_Processor_goOrExchange_183 rfl (lv_at hl 0 rfl) ?_
              refine ab_gx (pc := 184) (v := .ref (q 1)) X hX 0 4 0 rfl rfl (Nat.le_of_ble_eq_true rfl) in_Processor rfl tw_174 rfl d_Processor_goOrExchange_184 ?_
              refine lv_iconst (pc := 187) (v := 1) X.1 X.2.1 d_Processor_goOrExchange_187 (by decide) ?_
              refine ab_px (pc := 188) (ws' := (wC t q (stt u 0 3 1))) X hX 1 7 5 ty_State ty_State_ok nm_State rfl rfl (Nat.le_of_ble_eq_true rfl) in_State rfl tw_181 rfl rfl rfl rfl (Nat.le_of_ble_eq_true rfl) (sf_wC_1_5 t q u 1) d_Processor_goOrExchange_188 (fun H locs hX => ?_)
              refine lv_iconst (pc := 191) (v := 4) X.1 X.2.1 d_Processor_goOrExchange_191 (by decide) ?_
              exact ab_ki_ret (pc := 192) X hr hk hX rfl (by rw [f_Processor_goOrExchange, if_neg h1, if_neg h2, if_neg h3, if_neg h4, if_neg h5, if_pos h6]) d_Processor_goOrExchange_192
            ·
              have hno : x1.toInt < 2 ∨ 7 < x1.toInt := by
                have n0 := lv_neT h1 (k := 2) (a := 2) (by decide)
                have n1 := lv_neT h2 (k := 3) (a := 3) (by decide)
                have n2 := lv_neT h3 (k := 4) (a := 4) (by decide)
                have n3 := lv_neT h4 (k := 5) (a := 5) (by decide)
                have n4 := lv_neT h5 (k := 6) (a := 6) (by decide)
                have n5 := lv_neT h6 (k := 7) (a := 7) (by decide)
                omega
              refine lv_tableOut (pc := 1) (tgt := 193) X.1 X.2.1 d_Processor_goOrExchange_1 hno (by decide) ?_
              refine lv_aload_n (pc := 193) X.1 X.2.1 d_Processor_goOrExchange_193 rfl (lv_at hl 0 rfl) ?_
              refine ab_gx (pc := 194) (v := .ref (q 1)) X hX 0 4 0 rfl rfl (Nat.le_of_ble_eq_true rfl) in_Processor rfl tw_174 rfl d_Processor_goOrExchange_194 ?_
              refine lv_aload_n (pc := 197) X.1 X.2.1 d_Processor_goOrExchange_197 rfl (lv_at hl 0 rfl) ?_
              refine ab_ki_callV (pc := 198) (wr := []) (w := (wC t q)) (u := u) (F := f_Processor_nextWord u) (as := []) (rest := [.ref (q 1)]) X hX (c_Processor_nextWord l D t q u) ok_Processor_nextWord okv_Processor_nextWord tw_199 0 4 rfl rfl rfl hl.1 rfl (Nat.le_of_ble_eq_true rfl) ⟨rfl, rfl, Nat.le_of_ble_eq_true rfl, Nat.le_of_ble_eq_true rfl⟩ ⟨Nat.zero_le _, Nat.zero_le _⟩ d_Processor_goOrExchange_198 (fun H locs hX => ?_)
              refine ab_px (pc := 201) (ws' := (wC t q (stt ((f_Processor_nextWord u).2) 0 2 ((f_Processor_nextWord u).1)))) X hX 1 7 4 ty_State ty_State_ok nm_State rfl rfl (Nat.le_of_ble_eq_true rfl) in_State rfl tw_175 rfl rfl rfl rfl (Nat.le_of_ble_eq_true rfl) (sf_wC_1_4 t q ((f_Processor_nextWord u).2) ((f_Processor_nextWord u).1)) d_Processor_goOrExchange_201 (fun H locs hX => ?_)
              refine lv_bipush (pc := 204) (v := 10) X.1 X.2.1 d_Processor_goOrExchange_204 (by decide) ?_
              exact ab_ki_ret (pc := 206) X hr hk hX rfl (by rw [f_Processor_goOrExchange, if_neg h1, if_neg h2, if_neg h3, if_neg h4, if_neg h5, if_neg h6]) d_Processor_goOrExchange_206
abbrev b_Processor_goWithReturnIf : ByteArray := prog_6_method_15_code
def y_Processor_goWithReturnIf : MethodName := ⟨"ArcadeBoard$Processor", "goWithReturnIf", "(Z)I"⟩
theorem d_Processor_goWithReturnIf_0 : decode b_Processor_goWithReturnIf 0 = .ok (.aload_n 0, 1) := by decide +kernel
theorem d_Processor_goWithReturnIf_1 : decode b_Processor_goWithReturnIf 1 = .ok (.invokevirtual 121, 3) := by decide +kernel
theorem d_Processor_goWithReturnIf_4 : decode b_Processor_goWithReturnIf 4 = .ok (.istore_n 2, 1) := by decide +kernel
theorem d_Processor_goWithReturnIf_5 : decode b_Processor_goWithReturnIf 5 = .ok (.iload_n 1, 1) := by decide +kernel
theorem d_Processor_goWithReturnIf_6 : decode b_Processor_goWithReturnIf 6 = .ok (.ifCond .ne 6, 3) := by decide +kernel
theorem d_Processor_goWithReturnIf_9 : decode b_Processor_goWithReturnIf 9 = .ok (.bipush 11, 2) := by decide +kernel
theorem d_Processor_goWithReturnIf_11 : decode b_Processor_goWithReturnIf 11 = .ok (.ireturn, 1) := by decide +kernel
theorem d_Processor_goWithReturnIf_12 : decode b_Processor_goWithReturnIf 12 = .ok (.aload_n 0, 1) := by decide +kernel
theorem d_Processor_goWithReturnIf_13 : decode b_Processor_goWithReturnIf 13 = .ok (.getfield 15, 3) := by decide +kernel
theorem d_Processor_goWithReturnIf_16 : decode b_Processor_goWithReturnIf 16 = .ok (.aload_n 0, 1) := by decide +kernel
theorem d_Processor_goWithReturnIf_17 : decode b_Processor_goWithReturnIf 17 = .ok (.getfield 9, 3) := by decide +kernel
theorem d_Processor_goWithReturnIf_20 : decode b_Processor_goWithReturnIf 20 = .ok (.getfield 170, 3) := by decide +kernel
theorem d_Processor_goWithReturnIf_23 : decode b_Processor_goWithReturnIf 23 = .ok (.invokevirtual 182, 3) := by decide +kernel
theorem d_Processor_goWithReturnIf_26 : decode b_Processor_goWithReturnIf 26 = .ok (.aload_n 0, 1) := by decide +kernel
theorem d_Processor_goWithReturnIf_27 : decode b_Processor_goWithReturnIf 27 = .ok (.getfield 9, 3) := by decide +kernel
theorem d_Processor_goWithReturnIf_30 : decode b_Processor_goWithReturnIf 30 = .ok (.iload_n 2, 1) := by decide +kernel
theorem d_Processor_goWithReturnIf_31 : decode b_Processor_goWithReturnIf 31 = .ok (.putfield 170, 3) := by decide +kernel
theorem d_Processor_goWithReturnIf_34 : decode b_Processor_goWithReturnIf 34 = .ok (.bipush 17, 2) := by decide +kernel
theorem d_Processor_goWithReturnIf_36 : decode b_Processor_goWithReturnIf 36 = .ok (.ireturn, 1) := by decide +kernel
theorem tw_248 : Jvm.Cond.code ⟨"ArcadeBoard$Processor", "goWithReturnIf", "(Z)I"⟩ prog_6_method_15_code 3 (Option.some Jvm.ClassFile.FieldType.int) ∈ AL := ab_in (ab_t3 (List.mem_of_getElem? (i := 149) (by decide +kernel))) rfl
theorem tw_249 : Jvm.Cond.instanceMethod ⟨"ArcadeBoard$Processor", "goWithReturnIf", "(Z)I"⟩ ∈ AL := ab_in (ab_t3 (List.mem_of_getElem? (i := 148) (by decide +kernel))) rfl
theorem tw_250 : Cond.selects "ArcadeBoard$Processor" ⟨"ArcadeBoard$Processor", "goWithReturnIf", "(Z)I"⟩ ⟨"ArcadeBoard$Processor", "goWithReturnIf", "(Z)I"⟩ ∈ AL := ab_in (ab_s2 (List.mem_of_getElem? (i := 5) (by decide +kernel))) rfl
theorem ok_Processor_goWithReturnIf : ab_yok y_Processor_goWithReturnIf b_Processor_goWithReturnIf 3 (some .int) 1 := ⟨tw_248, tw_170, by decide, by decide, by decide +kernel⟩
theorem okv_Processor_goWithReturnIf : ab_yok_V y_Processor_goWithReturnIf := ⟨tw_249, tw_250⟩
set_option maxHeartbeats 1000000 in
set_option maxRecDepth 100000 in
theorem c_Processor_goWithReturnIf (l : Launch) (D : va_G) (t : Nat → ClassId) (q : Nat → Nat) (u : SS) (x1 : Int32) : ab_ki l D (tyC t) (wC t q) y_Processor_goWithReturnIf b_Processor_goWithReturnIf 3 .int { frames := 2, cells := 0, slots := 0, locals := 44 } [.ref (q 0), .int x1] u (f_Processor_goWithReturnIf u x1) := by
  refine ab_ki_ofW (by decide) (Nat.le_of_ble_eq_true rfl) (fun p e s m below meth c ls A X hr hk hl hX => ?_)
  have hl : lv_has ls 3 [(0, .ref (q 0)), (1, .int x1)] := hl
  refine lv_aload_n (pc := 0) X.1 X.2.1 d_Processor_goWithReturnIf_0 rfl (lv_at hl 0 rfl) ?_
  refine ab_ki_callV (pc := 1) (wr := []) (w := (wC t q)) (u := u) (F := f_Processor_nextWord u) (as := []) (rest := []) X hX (c_Processor_nextWord l D t q u) ok_Processor_nextWord okv_Processor_nextWord tw_199 0 4 rfl rfl rfl hl.1 rfl (Nat.le_of_ble_eq_true rfl) ⟨rfl, rfl, Nat.le_of_ble_eq_true rfl, Nat.le_of_ble_eq_true rfl⟩ ⟨Nat.zero_le _, Nat.zero_le _⟩ d_Processor_goWithReturnIf_1 (fun H locs hX => ?_)
  refine lv_istore_n (pc := 4) (lv' := [(2, .int ((f_Processor_nextWord u).1)), (0, .ref (q 0)), (1, .int x1)]) X.1 X.2.1 d_Processor_goWithReturnIf_4 rfl hl (Nat.le_of_ble_eq_true rfl) rfl (fun ls hl => ?_)
  refine lv_iload_n (pc := 5) X.1 X.2.1 d_Processor_goWithReturnIf_5 rfl (lv_at hl 2 rfl) ?_
  refine lv_if_ne (pc := 6) (tgt := 12) X.1 X.2.1 d_Processor_goWithReturnIf_6 (by decide) (fun h1 => ?_) (fun h1 => ?_)
  ·
    refine lv_aload_n (pc := 12) X.1 X.2.1 d_Processor_goWithReturnIf_12 rfl (lv_at hl 1 rfl) ?_
    refine ab_gx (pc := 13) (v := .ref (q 4)) X hX 0 4 1 rfl rfl (Nat.le_of_ble_eq_true rfl) in_Processor rfl tw_173 rfl d_Processor_goWithReturnIf_13 ?_
    refine lv_aload_n (pc := 16) X.1 X.2.1 d_Processor_goWithReturnIf_16 rfl (lv_at hl 1 rfl) ?_
    refine ab_gx (pc := 17) (v := .ref (q 1)) X hX 0 4 0 rfl rfl (Nat.le_of_ble_eq_true rfl) in_Processor rfl tw_174 rfl d_Processor_goWithReturnIf_17 ?_
    refine ab_gx (pc := 20) (v := .int (((f_Processor_nextWord u).2) 0 2)) X hX 1 7 4 rfl rfl (Nat.le_of_ble_eq_true rfl) in_State rfl tw_175 rfl d_Processor_goWithReturnIf_20 ?_
    refine ab_kv_callV (pc := 23) (wr := []) (w := (wC t q)) (u := ((f_Processor_nextWord u).2)) (F := f_Memory_push ((f_Processor_nextWord u).2) (((f_Processor_nextWord u).2) 0 2)) (as := [.int (((f_Processor_nextWord u).2) 0 2)]) (rest := []) X hX (c_Memory_push l D t q ((f_Processor_nextWord u).2) (((f_Processor_nextWord u).2) 0 2)) ok_Memory_push okv_Memory_push tw_176 4 2 rfl rfl rfl hl.1 rfl (Nat.le_of_ble_eq_true rfl) ⟨rfl, rfl, Nat.le_of_ble_eq_true rfl, Nat.le_of_ble_eq_true rfl⟩ ⟨Nat.zero_le _, Nat.zero_le _⟩ d_Processor_goWithReturnIf_23 (fun H locs hX => ?_)
    refine lv_aload_n (pc := 26) X.1 X.2.1 d_Processor_goWithReturnIf_26 rfl (lv_at hl 1 rfl) ?_
    refine ab_gx (pc := 27) (v := .ref (q 1)) X hX 0 4 0 rfl rfl (Nat.le_of_ble_eq_true rfl) in_Processor rfl tw_174 rfl d_Processor_goWithReturnIf_27 ?_
    refine lv_iload_n (pc := 30) X.1 X.2.1 d_Processor_goWithReturnIf_30 rfl (lv_at hl 0 rfl) ?_
    refine ab_px (pc := 31) (ws' := (wC t q (stt (f_Memory_push ((f_Processor_nextWord u).2) (((f_Processor_nextWord u).2) 0 2)) 0 2 ((f_Processor_nextWord u).1)))) X hX 1 7 4 ty_State ty_State_ok nm_State rfl rfl (Nat.le_of_ble_eq_true rfl) in_State rfl tw_175 rfl rfl rfl rfl (Nat.le_of_ble_eq_true rfl) (sf_wC_1_4 t q (f_Memory_push ((f_Processor_nextWord u).2) (((f_Processor_nextWord u).2) 0 2)) ((f_Processor_nextWord u).1)) d_Processor_goWithReturnIf_31 (fun H locs hX => ?_)
    refine lv_bipush (pc := 34) (v := 17) X.1 X.2.1 d_Processor_goWithReturnIf_34 (by decide) ?_
    exact ab_ki_ret (pc := 36) X hr hk hX rfl (by rw [f_Processor_goWithReturnIf, if_neg h1]) d_Processor_goWithReturnIf_36
  ·
    refine lv_bipush (pc := 9) (v := 11) X.1 X.2.1 d_Processor_goWithReturnIf_9 (by decide) ?_
    exact ab_ki_ret (pc := 11) X hr hk hX rfl (by rw [f_Processor_goWithReturnIf, if_pos h1]) d_Processor_goWithReturnIf_11
abbrev b_Processor_pushPair : ByteArray := prog_6_method_13_code
def y_Processor_pushPair : MethodName := ⟨"ArcadeBoard$Processor", "pushPair", "(I)I"⟩
theorem d_Processor_pushPair_0 : decode b_Processor_pushPair 0 = .ok (.aload_n 0, 1) := by decide +kernel
theorem d_Processor_pushPair_1 : decode b_Processor_pushPair 1 = .ok (.getfield 15, 3) := by decide +kernel
theorem d_Processor_pushPair_4 : decode b_Processor_pushPair 4 = .ok (.iload_n 1, 1) := by decide +kernel
theorem d_Processor_pushPair_5 : decode b_Processor_pushPair 5 = .ok (.iconst 3, 1) := by decide +kernel
theorem d_Processor_pushPair_6 : decode b_Processor_pushPair 6 = .ok (.if_icmp .ne 27, 3) := by decide +kernel
theorem d_Processor_pushPair_9 : decode b_Processor_pushPair 9 = .ok (.aload_n 0, 1) := by decide +kernel
theorem d_Processor_pushPair_10 : decode b_Processor_pushPair 10 = .ok (.getfield 9, 3) := by decide +kernel
theorem d_Processor_pushPair_13 : decode b_Processor_pushPair 13 = .ok (.getfield 127, 3) := by decide +kernel
theorem d_Processor_pushPair_16 : decode b_Processor_pushPair 16 = .ok (.bipush 7, 2) := by decide +kernel
theorem d_Processor_pushPair_18 : decode b_Processor_pushPair 18 = .ok (.iaload, 1) := by decide +kernel
theorem d_Processor_pushPair_19 : decode b_Processor_pushPair 19 = .ok (.bipush 8, 2) := by decide +kernel
theorem d_Processor_pushPair_21 : decode b_Processor_pushPair 21 = .ok (.ishl, 1) := by decide +kernel
theorem d_Processor_pushPair_22 : decode b_Processor_pushPair 22 = .ok (.aload_n 0, 1) := by decide +kernel
theorem d_Processor_pushPair_23 : decode b_Processor_pushPair 23 = .ok (.getfield 9, 3) := by decide +kernel
theorem d_Processor_pushPair_26 : decode b_Processor_pushPair 26 = .ok (.getfield 179, 3) := by decide +kernel
theorem d_Processor_pushPair_29 : decode b_Processor_pushPair 29 = .ok (.ior, 1) := by decide +kernel
theorem d_Processor_pushPair_30 : decode b_Processor_pushPair 30 = .ok (.goto 11, 3) := by decide +kernel
theorem d_Processor_pushPair_33 : decode b_Processor_pushPair 33 = .ok (.aload_n 0, 1) := by decide +kernel
theorem d_Processor_pushPair_34 : decode b_Processor_pushPair 34 = .ok (.getfield 19, 3) := by decide +kernel
theorem d_Processor_pushPair_37 : decode b_Processor_pushPair 37 = .ok (.iload_n 1, 1) := by decide +kernel
theorem d_Processor_pushPair_38 : decode b_Processor_pushPair 38 = .ok (.invokevirtual 103, 3) := by decide +kernel
theorem d_Processor_pushPair_41 : decode b_Processor_pushPair 41 = .ok (.invokevirtual 182, 3) := by decide +kernel
theorem d_Processor_pushPair_44 : decode b_Processor_pushPair 44 = .ok (.bipush 11, 2) := by decide +kernel
theorem d_Processor_pushPair_46 : decode b_Processor_pushPair 46 = .ok (.ireturn, 1) := by decide +kernel
theorem tw_251 : Jvm.Cond.code ⟨"ArcadeBoard$Processor", "pushPair", "(I)I"⟩ prog_6_method_13_code 2 (Option.some Jvm.ClassFile.FieldType.int) ∈ AL := ab_in (ab_t3 (List.mem_of_getElem? (i := 153) (by decide +kernel))) rfl
theorem tw_252 : Jvm.Cond.instanceMethod ⟨"ArcadeBoard$Processor", "pushPair", "(I)I"⟩ ∈ AL := ab_in (ab_t3 (List.mem_of_getElem? (i := 152) (by decide +kernel))) rfl
theorem tw_253 : Cond.selects "ArcadeBoard$Processor" ⟨"ArcadeBoard$Processor", "pushPair", "(I)I"⟩ ⟨"ArcadeBoard$Processor", "pushPair", "(I)I"⟩ ∈ AL := ab_in (ab_s2 (List.mem_of_getElem? (i := 6) (by decide +kernel))) rfl
theorem ok_Processor_pushPair : ab_yok y_Processor_pushPair b_Processor_pushPair 2 (some .int) 1 := ⟨tw_251, tw_170, by decide, by decide, by decide +kernel⟩
theorem okv_Processor_pushPair : ab_yok_V y_Processor_pushPair := ⟨tw_252, tw_253⟩
set_option maxHeartbeats 1000000 in
set_option maxRecDepth 100000 in
theorem c_Processor_pushPair (l : Launch) (D : va_G) (t : Nat → ClassId) (q : Nat → Nat) (u : SS) (x1 : Int32) : ab_ki l D (tyC t) (wC t q) y_Processor_pushPair b_Processor_pushPair 2 .int { frames := 2, cells := 0, slots := 0, locals := 44 } [.ref (q 0), .int x1] u (f_Processor_pushPair u x1) := by
  refine ab_ki_ofW (by decide) (Nat.le_of_ble_eq_true rfl) (fun p e s m below meth c ls A X hr hk hl hX => ?_)
  have hl : lv_has ls 2 [(0, .ref (q 0)), (1, .int x1)] := hl
  refine lv_aload_n (pc := 0) X.1 X.2.1 d_Processor_pushPair_0 rfl (lv_at hl 0 rfl) ?_
  refine ab_gx (pc := 1) (v := .ref (q 4)) X hX 0 4 1 rfl rfl (Nat.le_of_ble_eq_true rfl) in_Processor rfl tw_173 rfl d_Processor_pushPair_1 ?_
  refine lv_iload_n (pc := 4) X.1 X.2.1 d_Processor_pushPair_4 rfl (lv_at hl 1 rfl) ?_
  refine lv_iconst (pc := 5) (v := 3) X.1 X.2.1 d_Processor_pushPair_5 (by decide) ?_
  refine lv_icmp_ne (pc := 6) (tgt := 33) X.1 X.2.1 d_Processor_pushPair_6 (by decide) (fun h1 => ?_) (fun h1 => ?_)
  ·
    refine lv_aload_n (pc := 33) X.1 X.2.1 d_Processor_pushPair_33 rfl (lv_at hl 0 rfl) ?_
    refine ab_gx (pc := 34) (v := .ref (q 6)) X hX 0 4 2 rfl rfl (Nat.le_of_ble_eq_true rfl) in_Processor rfl tw_196 rfl d_Processor_pushPair_34 ?_
    refine lv_iload_n (pc := 37) X.1 X.2.1 d_Processor_pushPair_37 rfl (lv_at hl 1 rfl) ?_
    refine ab_kr_callV (pc := 38) (wr := []) (w := (wC t q)) (u := u) (r := f_Registers_pair u x1) (as := [.int x1]) (rest := [.ref (q 4)]) X hX (c_Registers_pair l D t q u x1) ok_Registers_pair okv_Registers_pair tw_197 6 5 rfl rfl rfl hl.1 rfl (Nat.le_of_ble_eq_true rfl) ⟨rfl, rfl, Nat.le_of_ble_eq_true rfl, Nat.le_of_ble_eq_true rfl⟩ ⟨Nat.zero_le _, Nat.zero_le _⟩ d_Processor_pushPair_38 (fun H locs hX => ?_)
    refine ab_kv_callV (pc := 41) (wr := []) (w := (wC t q)) (u := u) (F := f_Memory_push u (f_Registers_pair u x1)) (as := [.int (f_Registers_pair u x1)]) (rest := []) X hX (c_Memory_push l D t q u (f_Registers_pair u x1)) ok_Memory_push okv_Memory_push tw_176 4 2 rfl rfl rfl hl.1 rfl (Nat.le_of_ble_eq_true rfl) ⟨rfl, rfl, Nat.le_of_ble_eq_true rfl, Nat.le_of_ble_eq_true rfl⟩ ⟨Nat.zero_le _, Nat.zero_le _⟩ d_Processor_pushPair_41 (fun H locs hX => ?_)
    refine lv_bipush (pc := 44) (v := 11) X.1 X.2.1 d_Processor_pushPair_44 (by decide) ?_
    exact ab_ki_ret (pc := 46) X hr hk hX rfl (by rw [f_Processor_pushPair, if_neg h1]) d_Processor_pushPair_46
  ·
    refine lv_aload_n (pc := 9) X.1 X.2.1 d_Processor_pushPair_9 rfl (lv_at hl 0 rfl) ?_
    refine ab_gx (pc := 10) (v := .ref (q 1)) X hX 0 4 0 rfl rfl (Nat.le_of_ble_eq_true rfl) in_Processor rfl tw_174 rfl d_Processor_pushPair_10 ?_
    refine ab_gx (pc := 13) (v := .ref (q 3)) X hX 1 7 1 rfl rfl (Nat.le_of_ble_eq_true rfl) in_State rfl tw_204 rfl d_Processor_pushPair_13 ?_
    refine lv_bipush (pc := 16) (v := 7) X.1 X.2.1 d_Processor_pushPair_16 (by decide) ?_
    refine ab_ald (pc := 18) (f := u 2) (j := 7) X hX 3 0 rfl rfl (ab_inc (by decide)) rfl d_Processor_pushPair_18 ?_
    refine lv_bipush (pc := 19) (v := 8) X.1 X.2.1 d_Processor_pushPair_19 (by decide) ?_
    refine lv_ishl (pc := 21) X.1 X.2.1 d_Processor_pushPair_21 ?_
    refine lv_aload_n (pc := 22) X.1 X.2.1 d_Processor_pushPair_22 rfl (lv_at hl 0 rfl) ?_
    refine ab_gx (pc := 23) (v := .ref (q 1)) X hX 0 4 0 rfl rfl (Nat.le_of_ble_eq_true rfl) in_Processor rfl tw_174 rfl d_Processor_pushPair_23 ?_
    refine ab_gx (pc := 26) (v := .int (u 0 0)) X hX 1 7 2 rfl rfl (Nat.le_of_ble_eq_true rfl) in_State rfl tw_226 rfl d_Processor_pushPair_26 ?_
    refine lv_ior (pc := 29) X.1 X.2.1 d_Processor_pushPair_29 ?_
    refine lv_goto (pc := 30) (tgt := 41) X.1 X.2.1 d_Processor_pushPair_30 (by decide) ?_
    refine ab_kv_callV (pc := 41) (wr := []) (w := (wC t q)) (u := u) (F := f_Memory_push u (((u 2 7) <<< ((8 : Int32) &&& 31)) ||| (u 0 0))) (as := [.int (((u 2 7) <<< ((8 : Int32) &&& 31)) ||| (u 0 0))]) (rest := []) X hX (c_Memory_push l D t q u (((u 2 7) <<< ((8 : Int32) &&& 31)) ||| (u 0 0))) ok_Memory_push okv_Memory_push tw_176 4 2 rfl rfl rfl hl.1 rfl (Nat.le_of_ble_eq_true rfl) ⟨rfl, rfl, Nat.le_of_ble_eq_true rfl, Nat.le_of_ble_eq_true rfl⟩ ⟨Nat.zero_le _, Nat.zero_le _⟩ d_Processor_pushPair_41 (fun H locs hX => ?_)
    refine lv_bipush (pc := 44) (v := 11) X.1 X.2.1 d_Processor_pushPair_44 (by decide) ?_
    exact ab_ki_ret (pc := 46) X hr hk hX rfl (by rw [f_Processor_pushPair, if_pos h1]) d_Processor_pushPair_46
