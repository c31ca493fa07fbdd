abbrev b_Processor_operateOnFlow : ByteArray := prog_6_method_9_code
def y_Processor_operateOnFlow : MethodName := ⟨"ArcadeBoard$Processor", "operateOnFlow", "(II)I"⟩
theorem d_Processor_operateOnFlow_0 : decode b_Processor_operateOnFlow 0 = .ok (.iload_n 2, 1) := by decide +kernel
theorem d_Processor_operateOnFlow_1 : decode b_Processor_operateOnFlow 1 = .ok (.tableswitch 103 0 5 #[39, 49, 55, 65, 71, 81], 39) := by decide +kernel
theorem d_Processor_operateOnFlow_40 : decode b_Processor_operateOnFlow 40 = .ok (.aload_n 0, 1) := by decide +kernel
theorem d_Processor_operateOnFlow_41 : decode b_Processor_operateOnFlow 41 = .ok (.aload_n 0, 1) := by decide +kernel
theorem d_Processor_operateOnFlow_42 : decode b_Processor_operateOnFlow 42 = .ok (.iload_n 1, 1) := by decide +kernel
theorem d_Processor_operateOnFlow_43 : decode b_Processor_operateOnFlow 43 = .ok (.invokevirtual 144, 3) := by decide +kernel
theorem d_Processor_operateOnFlow_46 : decode b_Processor_operateOnFlow 46 = .ok (.invokevirtual 148, 3) := by decide +kernel
theorem d_Processor_operateOnFlow_49 : decode b_Processor_operateOnFlow 49 = .ok (.ireturn, 1) := by decide +kernel
theorem d_Processor_operateOnFlow_50 : decode b_Processor_operateOnFlow 50 = .ok (.aload_n 0, 1) := by decide +kernel
theorem d_Processor_operateOnFlow_51 : decode b_Processor_operateOnFlow 51 = .ok (.iload_n 1, 1) := by decide +kernel
theorem d_Processor_operateOnFlow_52 : decode b_Processor_operateOnFlow 52 = .ok (.invokevirtual 152, 3) := by decide +kernel
theorem d_Processor_operateOnFlow_55 : decode b_Processor_operateOnFlow 55 = .ok (.ireturn, 1) := by decide +kernel
theorem d_Processor_operateOnFlow_56 : decode b_Processor_operateOnFlow 56 = .ok (.aload_n 0, 1) := by decide +kernel
theorem d_Processor_operateOnFlow_57 : decode b_Processor_operateOnFlow 57 = .ok (.aload_n 0, 1) := by decide +kernel
theorem d_Processor_operateOnFlow_58 : decode b_Processor_operateOnFlow 58 = .ok (.iload_n 1, 1) := by decide +kernel
theorem d_Processor_operateOnFlow_59 : decode b_Processor_operateOnFlow 59 = .ok (.invokevirtual 144, 3) := by decide +kernel
theorem d_Processor_operateOnFlow_62 : decode b_Processor_operateOnFlow 62 = .ok (.invokevirtual 155, 3) := by decide +kernel
theorem d_Processor_operateOnFlow_65 : decode b_Processor_operateOnFlow 65 = .ok (.ireturn, 1) := by decide +kernel
theorem d_Processor_operateOnFlow_66 : decode b_Processor_operateOnFlow 66 = .ok (.aload_n 0, 1) := by decide +kernel
theorem d_Processor_operateOnFlow_67 : decode b_Processor_operateOnFlow 67 = .ok (.iload_n 1, 1) := by decide +kernel
theorem d_Processor_operateOnFlow_68 : decode b_Processor_operateOnFlow 68 = .ok (.invokevirtual 158, 3) := by decide +kernel
theorem d_Processor_operateOnFlow_71 : decode b_Processor_operateOnFlow 71 = .ok (.ireturn, 1) := by decide +kernel
theorem d_Processor_operateOnFlow_72 : decode b_Processor_operateOnFlow 72 = .ok (.aload_n 0, 1) := by decide +kernel
theorem d_Processor_operateOnFlow_73 : decode b_Processor_operateOnFlow 73 = .ok (.aload_n 0, 1) := by decide +kernel
theorem d_Processor_operateOnFlow_74 : decode b_Processor_operateOnFlow 74 = .ok (.iload_n 1, 1) := by decide +kernel
theorem d_Processor_operateOnFlow_75 : decode b_Processor_operateOnFlow 75 = .ok (.invokevirtual 144, 3) := by decide +kernel
theorem d_Processor_operateOnFlow_78 : decode b_Processor_operateOnFlow 78 = .ok (.invokevirtual 161, 3) := by decide +kernel
theorem d_Processor_operateOnFlow_81 : decode b_Processor_operateOnFlow 81 = .ok (.ireturn, 1) := by decide +kernel
theorem d_Processor_operateOnFlow_82 : decode b_Processor_operateOnFlow 82 = .ok (.iload_n 1, 1) := by decide +kernel
theorem d_Processor_operateOnFlow_83 : decode b_Processor_operateOnFlow 83 = .ok (.iconst 2, 1) := by decide +kernel
theorem d_Processor_operateOnFlow_84 : decode b_Processor_operateOnFlow 84 = .ok (.irem, 1) := by decide +kernel
theorem d_Processor_operateOnFlow_85 : decode b_Processor_operateOnFlow 85 = .ok (.ifCond .ne 13, 3) := by decide +kernel
theorem d_Processor_operateOnFlow_88 : decode b_Processor_operateOnFlow 88 = .ok (.aload_n 0, 1) := by decide +kernel
theorem d_Processor_operateOnFlow_89 : decode b_Processor_operateOnFlow 89 = .ok (.iload_n 1, 1) := by decide +kernel
theorem d_Processor_operateOnFlow_90 : decode b_Processor_operateOnFlow 90 = .ok (.iconst 2, 1) := by decide +kernel
theorem d_Processor_operateOnFlow_91 : decode b_Processor_operateOnFlow 91 = .ok (.idiv, 1) := by decide +kernel
theorem d_Processor_operateOnFlow_92 : decode b_Processor_operateOnFlow 92 = .ok (.invokevirtual 164, 3) := by decide +kernel
theorem d_Processor_operateOnFlow_95 : decode b_Processor_operateOnFlow 95 = .ok (.goto 8, 3) := by decide +kernel
theorem d_Processor_operateOnFlow_98 : decode b_Processor_operateOnFlow 98 = .ok (.aload_n 0, 1) := by decide +kernel
theorem d_Processor_operateOnFlow_99 : decode b_Processor_operateOnFlow 99 = .ok (.iconst 1, 1) := by decide +kernel
theorem d_Processor_operateOnFlow_100 : decode b_Processor_operateOnFlow 100 = .ok (.invokevirtual 161, 3) := by decide +kernel
theorem d_Processor_operateOnFlow_103 : decode b_Processor_operateOnFlow 103 = .ok (.ireturn, 1) := by decide +kernel
theorem d_Processor_operateOnFlow_104 : decode b_Processor_operateOnFlow 104 = .ok (.aload_n 0, 1) := by decide +kernel
theorem d_Processor_operateOnFlow_105 : decode b_Processor_operateOnFlow 105 = .ok (.bipush 8, 2) := by decide +kernel
theorem d_Processor_operateOnFlow_107 : decode b_Processor_operateOnFlow 107 = .ok (.iload_n 1, 1) := by decide +kernel
theorem d_Processor_operateOnFlow_108 : decode b_Processor_operateOnFlow 108 = .ok (.imul, 1) := by decide +kernel
theorem d_Processor_operateOnFlow_109 : decode b_Processor_operateOnFlow 109 = .ok (.invokevirtual 73, 3) := by decide +kernel
theorem d_Processor_operateOnFlow_112 : decode b_Processor_operateOnFlow 112 = .ok (.bipush 11, 2) := by decide +kernel
theorem d_Processor_operateOnFlow_114 : decode b_Processor_operateOnFlow 114 = .ok (.ireturn, 1) := by decide +kernel
theorem tw_254 : Jvm.Cond.code ⟨"ArcadeBoard$Processor", "operateOnFlow", "(II)I"⟩ prog_6_method_9_code 3 (Option.some Jvm.ClassFile.FieldType.int) ∈ AL := ab_in (ab_t3 (List.mem_of_getElem? (i := 105) (by decide +kernel))) rfl
theorem tw_255 : Jvm.Cond.instanceMethod ⟨"ArcadeBoard$Processor", "operateOnFlow", "(II)I"⟩ ∈ AL := ab_in (ab_t3 (List.mem_of_getElem? (i := 104) (by decide +kernel))) rfl
theorem tw_256 : Cond.selects "ArcadeBoard$Processor" ⟨"ArcadeBoard$Processor", "operateOnFlow", "(II)I"⟩ ⟨"ArcadeBoard$Processor", "operateOnFlow", "(II)I"⟩ ∈ AL := ab_in (ab_s1 (List.mem_of_getElem? (i := 14) (by decide +kernel))) rfl
theorem tw_257 : Jvm.Cond.methodLink "ArcadeBoard$Processor" 144 ⟨"ArcadeBoard$Processor", "holds", "(I)Z"⟩ ∈ AL := ab_in (ab_t3 (List.mem_of_getElem? (i := 106) (by decide +kernel))) rfl
theorem tw_258 : Jvm.Cond.methodLink "ArcadeBoard$Processor" 148 ⟨"ArcadeBoard$Processor", "returnIf", "(Z)I"⟩ ∈ AL := ab_in (ab_t3 (List.mem_of_getElem? (i := 110) (by decide +kernel))) rfl
theorem tw_259 : Jvm.Cond.methodLink "ArcadeBoard$Processor" 152 ⟨"ArcadeBoard$Processor", "popOrGo", "(I)I"⟩ ∈ AL := ab_in (ab_t3 (List.mem_of_getElem? (i := 118) (by decide +kernel))) rfl
theorem tw_260 : Jvm.Cond.methodLink "ArcadeBoard$Processor" 155 ⟨"ArcadeBoard$Processor", "goIf", "(Z)I"⟩ ∈ AL := ab_in (ab_t3 (List.mem_of_getElem? (i := 126) (by decide +kernel))) rfl
theorem tw_261 : Jvm.Cond.methodLink "ArcadeBoard$Processor" 158 ⟨"ArcadeBoard$Processor", "goOrExchange", "(I)I"⟩ ∈ AL := ab_in (ab_t3 (List.mem_of_getElem? (i := 130) (by decide +kernel))) rfl
theorem tw_262 : Jvm.Cond.methodLink "ArcadeBoard$Processor" 161 ⟨"ArcadeBoard$Processor", "goWithReturnIf", "(Z)I"⟩ ∈ AL := ab_in (ab_t3 (List.mem_of_getElem? (i := 146) (by decide +kernel))) rfl
theorem tw_263 : Jvm.Cond.methodLink "ArcadeBoard$Processor" 164 ⟨"ArcadeBoard$Processor", "pushPair", "(I)I"⟩ ∈ AL := ab_in (ab_t3 (List.mem_of_getElem? (i := 150) (by decide +kernel))) rfl
theorem ok_Processor_operateOnFlow : ab_yok y_Processor_operateOnFlow b_Processor_operateOnFlow 3 (some .int) 2 := ⟨tw_254, tw_170, by decide, by decide, by decide +kernel⟩
theorem okv_Processor_operateOnFlow : ab_yok_V y_Processor_operateOnFlow := ⟨tw_255, tw_256⟩
set_option maxHeartbeats 1000000 in
set_option maxRecDepth 100000 in
theorem c_Processor_operateOnFlow (l : Launch) (D : va_G) (t : Nat → ClassId) (q : Nat → Nat) (u : SS) (x1 : Int32) (x2 : Int32) : ab_ki l D (tyC t) (wC t q) y_Processor_operateOnFlow b_Processor_operateOnFlow 3 .int { frames := 4, cells := 0, slots := 0, locals := 85 } [.ref (q 0), .int x1, .int x2] u (f_Processor_operateOnFlow u x1 x2) := by
  refine ab_ki_ofW (by decide) (Nat.le_of_ble_eq_true rfl) (fun p e s m below meth c ls A X hr hk hl hX => ?_)
  have hl : lv_has ls 3 [(0, .ref (q 0)), (1, .int x1), (2, .int x2)] := hl
  refine lv_iload_n (pc := 0) X.1 X.2.1 d_Processor_operateOnFlow_0 rfl (lv_at hl 2 rfl) ?_
  by_cases h1 : x2 = 0
  ·
    refine ab_swIn (pc := 1) (tgt := 40) (off := 39) X.1 X.2.1 d_Processor_operateOnFlow_1 h1 (by decide) (by decide) (by decide) (by decide) ?_
    refine lv_aload_n (pc := 40) X.1 X.2.1 d_Processor_operateOnFlow_40 rfl (lv_at hl 0 rfl) ?_
    refine lv_aload_n (pc := 41) X.1 X.2.1 d_Processor_operateOnFlow_41 rfl (lv_at hl 0 rfl) ?_
    refine lv_iload_n (pc := 42) X.1 X.2.1 d_Processor_operateOnFlow_42 rfl (lv_at hl 1 rfl) ?_
    refine ab_kr_callV (pc := 43) (wr := []) (w := (wC t q)) (u := u) (r := f_Processor_holds u x1) (as := [.int x1]) (rest := [.ref (q 0)]) X hX (c_Processor_holds l D t q u x1) ok_Processor_holds okv_Processor_holds tw_257 0 4 rfl rfl rfl hl.1 rfl (Nat.le_of_ble_eq_true rfl) ⟨rfl, rfl, Nat.le_of_ble_eq_true rfl, Nat.le_of_ble_eq_true rfl⟩ ⟨Nat.zero_le _, Nat.zero_le _⟩ d_Processor_operateOnFlow_43 (fun H locs hX => ?_)
    refine ab_ki_callV (pc := 46) (wr := []) (w := (wC t q)) (u := u) (F := f_Processor_returnIf u (f_Processor_holds u x1)) (as := [.int (f_Processor_holds u x1)]) (rest := []) X hX (c_Processor_returnIf l D t q u (f_Processor_holds u x1)) ok_Processor_returnIf okv_Processor_returnIf tw_258 0 4 rfl rfl rfl hl.1 rfl (Nat.le_of_ble_eq_true rfl) ⟨rfl, rfl, Nat.le_of_ble_eq_true rfl, Nat.le_of_ble_eq_true rfl⟩ ⟨Nat.zero_le _, Nat.zero_le _⟩ d_Processor_operateOnFlow_46 (fun H locs hX => ?_)
    exact ab_ki_ret (pc := 49) X hr hk hX rfl (by rw [f_Processor_operateOnFlow, if_pos h1]) d_Processor_operateOnFlow_49
  ·
    by_cases h2 : x2 = 1
    ·
      refine ab_swIn (pc := 1) (tgt := 50) (off := 49) X.1 X.2.1 d_Processor_operateOnFlow_1 h2 (by decide) (by decide) (by decide) (by decide) ?_
      refine lv_aload_n (pc := 50) X.1 X.2.1 d_Processor_operateOnFlow_50 rfl (lv_at hl 0 rfl) ?_
      refine lv_iload_n (pc := 51) X.1 X.2.1 d_Processor_operateOnFlow_51 rfl (lv_at hl 1 rfl) ?_
      refine ab_ki_callV (pc := 52) (wr := []) (w := (wC t q)) (u := u) (F := f_Processor_popOrGo u x1) (as := [.int x1]) (rest := []) X hX (c_Processor_popOrGo l D t q u x1) ok_Processor_popOrGo okv_Processor_popOrGo tw_259 0 4 rfl rfl rfl hl.1 rfl (Nat.le_of_ble_eq_true rfl) ⟨rfl, rfl, Nat.le_of_ble_eq_true rfl, Nat.le_of_ble_eq_true rfl⟩ ⟨Nat.zero_le _, Nat.zero_le _⟩ d_Processor_operateOnFlow_52 (fun H locs hX => ?_)
      exact ab_ki_ret (pc := 55) X hr hk hX rfl (by rw [f_Processor_operateOnFlow, if_neg h1, if_pos h2]) d_Processor_operateOnFlow_55
    ·
      by_cases h3 : x2 = 2
      ·
        refine ab_swIn (pc := 1) (tgt := 56) (off := 55) X.1 X.2.1 d_Processor_operateOnFlow_1 h3 (by decide) (by decide) (by decide) (by decide) ?_
        refine lv_aload_n (pc := 56) X.1 X.2.1 d_Processor_operateOnFlow_56 rfl (lv_at hl 0 rfl) ?_
        refine lv_aload_n (pc := 57) X.1 X.2.1 d_Processor_operateOnFlow_57 rfl (lv_at hl 0 rfl) ?_
        refine lv_iload_n (pc := 58) X.1 X.2.1 d_Processor_operateOnFlow_58 rfl (lv_at hl 1 rfl) ?_
        refine ab_kr_callV (pc := 59) (wr := []) (w := (wC t q)) (u := u) (r := f_Processor_holds u x1) (as := [.int x1]) (rest := [.ref (q 0)]) X hX (c_Processor_holds l D t q u x1) ok_Processor_holds okv_Processor_holds tw_257 0 4 rfl rfl rfl hl.1 rfl (Nat.le_of_ble_eq_true rfl) ⟨rfl, rfl, Nat.le_of_ble_eq_true rfl, Nat.le_of_ble_eq_true rfl⟩ ⟨Nat.zero_le _, Nat.zero_le _⟩ d_Processor_operateOnFlow_59 (fun H locs hX => ?_)
        refine ab_ki_callV (pc := 62) (wr := []) (w := (wC t q)) (u := u) (F := f_Processor_goIf u (f_Processor_holds u x1)) (as := [.int (f_Processor_holds u x1)]) (rest := []) X hX (c_Processor_goIf l D t q u (f_Processor_holds u x1)) ok_Processor_goIf okv_Processor_goIf tw_260 0 4 rfl rfl rfl hl.1 rfl (Nat.le_of_ble_eq_true rfl) ⟨rfl, rfl, Nat.le_of_ble_eq_true rfl, Nat.le_of_ble_eq_true rfl⟩ ⟨Nat.zero_le _, Nat.zero_le _⟩ d_Processor_operateOnFlow_62 (fun H locs hX => ?_)
        exact ab_ki_ret (pc := 65) X hr hk hX rfl (by rw [f_Processor_operateOnFlow, if_neg h1, if_neg h2, if_pos h3]) d_Processor_operateOnFlow_65
      ·
        by_cases h4 : x2 = 3
        ·
          refine ab_swIn (pc := 1) (tgt := 66) (off := 65) X.1 X.2.1 d_Processor_operateOnFlow_1 h4 (by decide) (by decide) (by decide) (by decide) ?_
          refine lv_aload_n (pc := 66) X.1 X.2.1 d_Processor_operateOnFlow_66 rfl (lv_at hl 0 rfl) ?_
          refine lv_iload_n (pc := 67) X.1 X.2.1 d_Processor_operateOnFlow_67 rfl (lv_at hl 1 rfl) ?_
          refine ab_ki_callV (pc := 68) (wr := []) (w := (wC t q)) (u := u) (F := f_Processor_goOrExchange u x1) (as := [.int x1]) (rest := []) X hX (c_Processor_goOrExchange l D t q u x1) ok_Processor_goOrExchange okv_Processor_goOrExchange tw_261 0 4 rfl rfl rfl hl.1 rfl (Nat.le_of_ble_eq_true rfl) ⟨rfl, rfl, Nat.le_of_ble_eq_true rfl, Nat.le_of_ble_eq_true rfl⟩ ⟨Nat.zero_le _, Nat.zero_le _⟩ d_Processor_operateOnFlow_68 (fun H locs hX => ?_)
          exact ab_ki_ret (pc := 71) X hr hk hX rfl (by rw [f_Processor_operateOnFlow, if_neg h1, if_neg h2, if_neg h3, if_pos h4]) d_Processor_operateOnFlow_71
        ·
          by_cases h5 : x2 = 4
          ·
            refine ab_swIn (pc := 1) (tgt := 72) (off := 71) X.1 X.2.1 d_Processor_operateOnFlow_1 h5 (by decide) (by decide) (by decide) (by decide) ?_
            refine lv_aload_n (pc := 72) X.1 X.2.1 d_Processor_operateOnFlow_72 rfl (lv_at hl 0 rfl) ?_
            refine lv_aload_n (pc := 73) X.1 X.2.1 d_Processor_operateOnFlow_73 rfl (lv_at hl 0 rfl) ?_
            refine lv_iload_n (pc := 74) X.1 X.2.1 d_Processor_operateOnFlow_74 rfl (lv_at hl 1 rfl) ?_
            refine ab_kr_callV (pc := 75) (wr := []) (w := (wC t q)) (u := u) (r := f_Processor_holds u x1) (as := [.int x1]) (rest := [.ref (q 0)]) X hX (c_Processor_holds l D t q u x1) ok_Processor_holds okv_Processor_holds tw_257 0 4 rfl rfl rfl hl.1 rfl (Nat.le_of_ble_eq_true rfl) ⟨rfl, rfl, Nat.le_of_ble_eq_true rfl, Nat.le_of_ble_eq_true rfl⟩ ⟨Nat.zero_le _, Nat.zero_le _⟩ d_Processor_operateOnFlow_75 (fun H locs hX => ?_)
            refine ab_ki_callV (pc := 78) (wr := []) (w := (wC t q)) (u := u) (F := f_Processor_goWithReturnIf u (f_Processor_holds u x1)) (as := [.int (f_Processor_holds u x1)]) (rest := []) X hX (c_Processor_goWithReturnIf l D t q u (f_Processor_holds u x1)) ok_Processor_goWithReturnIf okv_Processor_goWithReturnIf tw_262 0 4 rfl rfl rfl hl.1 rfl (Nat.le_of_ble_eq_true rfl) ⟨rfl, rfl, Nat.le_of_ble_eq_true rfl, Nat.le_of_ble_eq_true rfl⟩ ⟨Nat.zero_le _, Nat.zero_le _⟩ d_Processor_operateOnFlow_78 (fun H locs hX => ?_)
            exact ab_ki_ret (pc := 81) X hr hk hX rfl (by rw [f_Processor_operateOnFlow, if_neg h1, if_neg h2, if_neg h3, if_neg h4, if_pos h5]) d_Processor_operateOnFlow_81
          ·
            by_cases h6 : x2 = 5
            ·
              refine ab_swIn (pc := 1) (tgt := 82) (off := 81) X.1 X.2.1 d_Processor_operateOnFlow_1 h6 (by decide) (by decide) (by decide) (by decide) ?_
              refine lv_iload_n (pc := 82) X.1 X.2.1 d_Processor_operateOnFlow_82 rfl (lv_at hl 1 rfl) ?_
              refine lv_iconst (pc := 83) (v := 2) X.1 X.2.1 d_Processor_operateOnFlow_83 (by decide) ?_
              refine lv_irem (pc := 84) X.1 X.2.1 d_Processor_operateOnFlow_84 (by decide) ?_
              refine lv_if_ne (pc := 85) (tgt := 98) X.1 X.2.1 d_Processor_operateOnFlow_85 (by decide) (fun h7 => ?_) (fun h7 => ?_)
              ·
                refine lv_aload_n (pc := 98) X.1 X.2.1 d_Processor_operateOnFlow_98 rfl (lv_at hl 0 rfl) ?_
                refine lv_iconst (pc := 99) (v := 1) X.1 X.2.1 d_Processor_operateOnFlow_99 (by decide) ?_
                refine ab_ki_callV (pc := 100) (wr := []) (w := (wC t q)) (u := u) (F := f_Processor_goWithReturnIf u 1) (as := [.int 1]) (rest := []) X hX (c_Processor_goWithReturnIf l D t q u 1) ok_Processor_goWithReturnIf okv_Processor_goWithReturnIf tw_262 0 4 rfl rfl rfl hl.1 rfl (Nat.le_of_ble_eq_true rfl) ⟨rfl, rfl, Nat.le_of_ble_eq_true rfl, Nat.le_of_ble_eq_true rfl⟩ ⟨Nat.zero_le _, Nat.zero_le _⟩ d_Processor_operateOnFlow_100 (fun H locs hX => ?_)
                exact ab_ki_ret (pc := 103) X hr hk hX rfl (by rw [f_Processor_operateOnFlow, if_neg h1, if_neg h2, if_neg h3, if_neg h4, if_neg h5, if_pos h6, if_neg h7]) d_Processor_operateOnFlow_103
              ·
                refine lv_aload_n (pc := 88) X.1 X.2.1 d_Processor_operateOnFlow_88 rfl (lv_at hl 0 rfl) ?_
                refine lv_iload_n (pc := 89) X.1 X.2.1 d_Processor_operateOnFlow_89 rfl (lv_at hl 1 rfl) ?_
                refine lv_iconst (pc := 90) (v := 2) X.1 X.2.1 d_Processor_operateOnFlow_90 (by decide) ?_
                refine lv_idiv (pc := 91) X.1 X.2.1 d_Processor_operateOnFlow_91 (by decide) ?_
                refine ab_ki_callV (pc := 92) (wr := []) (w := (wC t q)) (u := u) (F := f_Processor_pushPair u (x1 / 2)) (as := [.int (x1 / 2)]) (rest := []) X hX (c_Processor_pushPair l D t q u (x1 / 2)) ok_Processor_pushPair okv_Processor_pushPair tw_263 0 4 rfl rfl rfl hl.1 rfl (Nat.le_of_ble_eq_true rfl) ⟨rfl, rfl, Nat.le_of_ble_eq_true rfl, Nat.le_of_ble_eq_true rfl⟩ ⟨Nat.zero_le _, Nat.zero_le _⟩ d_Processor_operateOnFlow_92 (fun H locs hX => ?_)
                refine lv_goto (pc := 95) (tgt := 103) X.1 X.2.1 d_Processor_operateOnFlow_95 (by decide) ?_
                exact ab_ki_ret (pc := 103) X hr hk hX rfl (by rw [f_Processor_operateOnFlow, if_neg h1, if_neg h2, if_neg h3, if_neg h4, if_neg h5, if_pos h6, if_pos h7]) d_Processor_operateOnFlow_103
            ·
              have hno : x2.toInt < 0 ∨ 5 < x2.toInt := by
                have n0 := lv_neT h1 (k := 0) (a := 0) (by decide)
                have n1 := lv_neT h2 (k := 1) (a := 1) (by decide)
                have n2 := lv_neT h3 (k := 2) (a := 2) (by decide)
                have n3 := lv_neT h4 (k := 3) (a := 3) (by decide)
                have n4 := lv_neT h5 (k := 4) (a := 4) (by decide)
                have n5 := lv_neT h6 (k := 5) (a := 5) (by decide)
                omega
              refine lv_tableOut (pc := 1) (tgt := 104) X.1 X.2.1 d_Processor_operateOnFlow_1 hno (by decide) ?_
              refine lv_aload_n (pc := 104) X.1 X.2.1 d_Processor_operateOnFlow_104 rfl (lv_at hl 0 rfl) ?_
              refine lv_bipush (pc := 105) (v := 8) X.1 X.2.1 d_Processor_operateOnFlow_105 (by decide) ?_
              refine lv_iload_n (pc := 107) X.1 X.2.1 d_Processor_operateOnFlow_107 rfl (lv_at hl 1 rfl) ?_
              refine lv_imul (pc := 108) X.1 X.2.1 d_Processor_operateOnFlow_108 ?_
              refine ab_kv_callV (pc := 109) (wr := []) (w := (wC t q)) (u := u) (F := f_Processor_goWithReturn u (8 * x1)) (as := [.int (8 * x1)]) (rest := []) X hX (c_Processor_goWithReturn l D t q u (8 * x1)) ok_Processor_goWithReturn okv_Processor_goWithReturn tw_183 0 4 rfl rfl rfl hl.1 rfl (Nat.le_of_ble_eq_true rfl) ⟨rfl, rfl, Nat.le_of_ble_eq_true rfl, Nat.le_of_ble_eq_true rfl⟩ ⟨Nat.zero_le _, Nat.zero_le _⟩ d_Processor_operateOnFlow_109 (fun H locs hX => ?_)
              refine lv_bipush (pc := 112) (v := 11) X.1 X.2.1 d_Processor_operateOnFlow_112 (by decide) ?_
              exact ab_ki_ret (pc := 114) X hr hk hX rfl (by rw [f_Processor_operateOnFlow, if_neg h1, if_neg h2, if_neg h3, if_neg h4, if_neg h5, if_neg h6]) d_Processor_operateOnFlow_114
abbrev b_Processor_operate : ByteArray := prog_6_method_4_code
def y_Processor_operate : MethodName := ⟨"ArcadeBoard$Processor", "operate", "(I)I"⟩
theorem d_Processor_operate_0 : decode b_Processor_operate 0 = .ok (.iload_n 1, 1) := by decide +kernel
theorem d_Processor_operate_1 : decode b_Processor_operate 1 = .ok (.iconst 3, 1) := by decide +kernel
theorem d_Processor_operate_2 : decode b_Processor_operate 2 = .ok (.ishr, 1) := by decide +kernel
theorem d_Processor_operate_3 : decode b_Processor_operate 3 = .ok (.bipush 7, 2) := by decide +kernel
theorem d_Processor_operate_5 : decode b_Processor_operate 5 = .ok (.iand, 1) := by decide +kernel
theorem d_Processor_operate_6 : decode b_Processor_operate 6 = .ok (.istore_n 2, 1) := by decide +kernel
theorem d_Processor_operate_7 : decode b_Processor_operate 7 = .ok (.iload_n 1, 1) := by decide +kernel
theorem d_Processor_operate_8 : decode b_Processor_operate 8 = .ok (.bipush 7, 2) := by decide +kernel
theorem d_Processor_operate_10 : decode b_Processor_operate 10 = .ok (.iand, 1) := by decide +kernel
theorem d_Processor_operate_11 : decode b_Processor_operate 11 = .ok (.istore_n 3, 1) := by decide +kernel
theorem d_Processor_operate_12 : decode b_Processor_operate 12 = .ok (.iload_n 1, 1) := by decide +kernel
theorem d_Processor_operate_13 : decode b_Processor_operate 13 = .ok (.bipush 6, 2) := by decide +kernel
theorem d_Processor_operate_15 : decode b_Processor_operate 15 = .ok (.ishr, 1) := by decide +kernel
theorem d_Processor_operate_16 : decode b_Processor_operate 16 = .ok (.tableswitch 71 0 2 #[28, 35, 42], 28) := by decide +kernel
theorem d_Processor_operate_44 : decode b_Processor_operate 44 = .ok (.aload_n 0, 1) := by decide +kernel
theorem d_Processor_operate_45 : decode b_Processor_operate 45 = .ok (.iload_n 2, 1) := by decide +kernel
theorem d_Processor_operate_46 : decode b_Processor_operate 46 = .ok (.iload_n 3, 1) := by decide +kernel
theorem d_Processor_operate_47 : decode b_Processor_operate 47 = .ok (.invokevirtual 76, 3) := by decide +kernel
theorem d_Processor_operate_50 : decode b_Processor_operate 50 = .ok (.ireturn, 1) := by decide +kernel
theorem d_Processor_operate_51 : decode b_Processor_operate 51 = .ok (.aload_n 0, 1) := by decide +kernel
theorem d_Processor_operate_52 : decode b_Processor_operate 52 = .ok (.iload_n 2, 1) := by decide +kernel
theorem d_Processor_operate_53 : decode b_Processor_operate 53 = .ok (.iload_n 3, 1) := by decide +kernel
theorem d_Processor_operate_54 : decode b_Processor_operate 54 = .ok (.invokevirtual 80, 3) := by decide +kernel
theorem d_Processor_operate_57 : decode b_Processor_operate 57 = .ok (.ireturn, 1) := by decide +kernel
theorem d_Processor_operate_58 : decode b_Processor_operate 58 = .ok (.aload_n 0, 1) := by decide +kernel
theorem d_Processor_operate_59 : decode b_Processor_operate 59 = .ok (.getfield 28, 3) := by decide +kernel
theorem d_Processor_operate_62 : decode b_Processor_operate 62 = .ok (.iload_n 2, 1) := by decide +kernel
theorem d_Processor_operate_63 : decode b_Processor_operate 63 = .ok (.aload_n 0, 1) := by decide +kernel
theorem d_Processor_operate_64 : decode b_Processor_operate 64 = .ok (.getfield 19, 3) := by decide +kernel
theorem d_Processor_operate_67 : decode b_Processor_operate 67 = .ok (.iload_n 3, 1) := by decide +kernel
theorem d_Processor_operate_68 : decode b_Processor_operate 68 = .ok (.invokevirtual 83, 3) := by decide +kernel
theorem d_Processor_operate_71 : decode b_Processor_operate 71 = .ok (.invokevirtual 88, 3) := by decide +kernel
theorem d_Processor_operate_74 : decode b_Processor_operate 74 = .ok (.iload_n 3, 1) := by decide +kernel
theorem d_Processor_operate_75 : decode b_Processor_operate 75 = .ok (.bipush 6, 2) := by decide +kernel
theorem d_Processor_operate_77 : decode b_Processor_operate 77 = .ok (.if_icmp .ne 8, 3) := by decide +kernel
theorem d_Processor_operate_80 : decode b_Processor_operate 80 = .ok (.bipush 7, 2) := by decide +kernel
theorem d_Processor_operate_82 : decode b_Processor_operate 82 = .ok (.goto 4, 3) := by decide +kernel
theorem d_Processor_operate_85 : decode b_Processor_operate 85 = .ok (.iconst 4, 1) := by decide +kernel
theorem d_Processor_operate_86 : decode b_Processor_operate 86 = .ok (.ireturn, 1) := by decide +kernel
theorem d_Processor_operate_87 : decode b_Processor_operate 87 = .ok (.iload_n 3, 1) := by decide +kernel
theorem d_Processor_operate_88 : decode b_Processor_operate 88 = .ok (.bipush 6, 2) := by decide +kernel
theorem d_Processor_operate_90 : decode b_Processor_operate 90 = .ok (.if_icmp .ne 18, 3) := by decide +kernel
theorem d_Processor_operate_93 : decode b_Processor_operate 93 = .ok (.aload_n 0, 1) := by decide +kernel
theorem d_Processor_operate_94 : decode b_Processor_operate 94 = .ok (.getfield 28, 3) := by decide +kernel
theorem d_Processor_operate_97 : decode b_Processor_operate 97 = .ok (.iload_n 2, 1) := by decide +kernel
theorem d_Processor_operate_98 : decode b_Processor_operate 98 = .ok (.aload_n 0, 1) := by decide +kernel
theorem d_Processor_operate_99 : decode b_Processor_operate 99 = .ok (.invokevirtual 60, 3) := by decide +kernel
theorem d_Processor_operate_102 : decode b_Processor_operate 102 = .ok (.invokevirtual 88, 3) := by decide +kernel
theorem d_Processor_operate_105 : decode b_Processor_operate 105 = .ok (.bipush 7, 2) := by decide +kernel
theorem d_Processor_operate_107 : decode b_Processor_operate 107 = .ok (.ireturn, 1) := by decide +kernel
theorem d_Processor_operate_108 : decode b_Processor_operate 108 = .ok (.aload_n 0, 1) := by decide +kernel
theorem d_Processor_operate_109 : decode b_Processor_operate 109 = .ok (.iload_n 2, 1) := by decide +kernel
theorem d_Processor_operate_110 : decode b_Processor_operate 110 = .ok (.iload_n 3, 1) := by decide +kernel
theorem d_Processor_operate_111 : decode b_Processor_operate 111 = .ok (.invokevirtual 91, 3) := by decide +kernel
theorem d_Processor_operate_114 : decode b_Processor_operate 114 = .ok (.ireturn, 1) := by decide +kernel
theorem tw_264 : Jvm.Cond.code ⟨"ArcadeBoard$Processor", "operate", "(I)I"⟩ prog_6_method_4_code 4 (Option.some Jvm.ClassFile.FieldType.int) ∈ AL := ab_in (ab_t3 (List.mem_of_getElem? (i := 2) (by decide +kernel))) rfl
theorem tw_265 : Jvm.Cond.instanceMethod ⟨"ArcadeBoard$Processor", "operate", "(I)I"⟩ ∈ AL := ab_in (ab_t3 (List.mem_of_getElem? (i := 1) (by decide +kernel))) rfl
theorem tw_266 : Cond.selects "ArcadeBoard$Processor" ⟨"ArcadeBoard$Processor", "operate", "(I)I"⟩ ⟨"ArcadeBoard$Processor", "operate", "(I)I"⟩ ∈ AL := ab_in (ab_s1 (List.mem_of_getElem? (i := 4) (by decide +kernel))) rfl
theorem tw_267 : Jvm.Cond.methodLink "ArcadeBoard$Processor" 76 ⟨"ArcadeBoard$Processor", "operateOnData", "(II)I"⟩ ∈ AL := ab_in (ab_t3 (List.mem_of_getElem? (i := 3) (by decide +kernel))) rfl
theorem tw_268 : Jvm.Cond.methodLink "ArcadeBoard$Processor" 80 ⟨"ArcadeBoard$Processor", "move", "(II)I"⟩ ∈ AL := ab_in (ab_t3 (List.mem_of_getElem? (i := 82) (by decide +kernel))) rfl
theorem tw_269 : Jvm.Cond.methodLink "ArcadeBoard$Processor" 88 ⟨"ArcadeBoard$Arithmetic", "operate", "(II)V"⟩ ∈ AL := ab_in (ab_t3 (List.mem_of_getElem? (i := 86) (by decide +kernel))) rfl
theorem tw_270 : Jvm.Cond.methodLink "ArcadeBoard$Processor" 91 ⟨"ArcadeBoard$Processor", "operateOnFlow", "(II)I"⟩ ∈ AL := ab_in (ab_t3 (List.mem_of_getElem? (i := 102) (by decide +kernel))) rfl
theorem ok_Processor_operate : ab_yok y_Processor_operate b_Processor_operate 4 (some .int) 1 := ⟨tw_264, tw_170, by decide, by decide, by decide +kernel⟩
theorem okv_Processor_operate : ab_yok_V y_Processor_operate := ⟨tw_265, tw_266⟩
set_option maxHeartbeats 1000000 in
set_option maxRecDepth 100000 in
theorem c_Processor_operate (l : Launch) (D : va_G) (t : Nat → ClassId) (q : Nat → Nat) (u : SS) (x1 : Int32) : ab_ki l D (tyC t) (wC t q) y_Processor_operate b_Processor_operate 4 .int { frames := 5, cells := 0, slots := 0, locals := 107 } [.ref (q 0), .int x1] u (f_Processor_operate u x1) := by
  refine ab_ki_ofW (by decide) (Nat.le_of_ble_eq_true rfl) (fun p e s m below meth c ls A X hr hk hl hX => ?_)
  have hl : lv_has ls 4 [(0, .ref (q 0)), (1, .int x1)] := hl
  refine lv_iload_n (pc := 0) X.1 X.2.1 d_Processor_operate_0 rfl (lv_at hl 1 rfl) ?_
  refine lv_iconst (pc := 1) (v := 3) X.1 X.2.1 d_Processor_operate_1 (by decide) ?_
  refine lv_ishr (pc := 2) X.1 X.2.1 d_Processor_operate_2 ?_
  refine lv_bipush (pc := 3) (v := 7) X.1 X.2.1 d_Processor_operate_3 (by decide) ?_
  refine lv_iand (pc := 5) X.1 X.2.1 d_Processor_operate_5 ?_
  refine lv_istore_n (pc := 6) (lv' := [(2, .int ((x1 >>> ((3 : Int32) &&& 31)) &&& 7)), (0, .ref (q 0)), (1, .int x1)]) X.1 X.2.1 d_Processor_operate_6 rfl hl (Nat.le_of_ble_eq_true rfl) rfl (fun ls hl => ?_)
  refine lv_iload_n (pc := 7) X.1 X.2.1 d_Processor_operate_7 rfl (lv_at hl 2 rfl) ?_
  refine lv_bipush (pc := 8) (v := 7) X.1 X.2.1 d_Processor_operate_8 (by decide) ?_
  refine lv_iand (pc := 10) X.1 X.2.1 d_Processor_operate_10 ?_
  refine lv_istore_n (pc := 11) (lv' := [(3, .int (x1 &&& 7)), (2, .int ((x1 >>> ((3 : Int32) &&& 31)) &&& 7)), (0, .ref (q 0)), (1, .int x1)]) X.1 X.2.1 d_Processor_operate_11 rfl hl (Nat.le_of_ble_eq_true rfl) rfl (fun ls hl => ?_)
  refine lv_iload_n (pc := 12) X.1 X.2.1 d_Processor_operate_12 rfl (lv_at hl 3 rfl) ?_
  refine lv_bipush (pc := 13) (v := 6) X.1 X.2.1 d_Processor_operate_13 (by decide) ?_
  refine lv_ishr (pc := 15) X.1 X.2.1 d_Processor_operate_15 ?_
  by_cases h1 : x1 >>> ((6 : Int32) &&& 31) = 0
  ·
    refine ab_swIn (pc := 16) (tgt := 44) (off := 28) X.1 X.2.1 d_Processor_operate_16 h1 (by decide) (by decide) (by decide) (by decide) ?_
    refine lv_aload_n (pc := 44) X.1 X.2.1 d_Processor_operate_44 rfl (lv_at hl 2 rfl) ?_
    refine lv_iload_n (pc := 45) X.1 X.2.1 d_Processor_operate_45 rfl (lv_at hl 1 rfl) ?_
    refine lv_iload_n (pc := 46) X.1 X.2.1 d_Processor_operate_46 rfl (lv_at hl 0 rfl) ?_
    refine ab_ki_callV (pc := 47) (wr := []) (w := (wC t q)) (u := u) (F := f_Processor_operateOnData u ((x1 >>> ((3 : Int32) &&& 31)) &&& 7) (x1 &&& 7)) (as := [.int ((x1 >>> ((3 : Int32) &&& 31)) &&& 7), .int (x1 &&& 7)]) (rest := []) X hX (c_Processor_operateOnData l D t q u ((x1 >>> ((3 : Int32) &&& 31)) &&& 7) (x1 &&& 7)) ok_Processor_operateOnData okv_Processor_operateOnData tw_267 0 4 rfl rfl rfl hl.1 rfl (Nat.le_of_ble_eq_true rfl) ⟨rfl, rfl, Nat.le_of_ble_eq_true rfl, Nat.le_of_ble_eq_true rfl⟩ ⟨Nat.zero_le _, Nat.zero_le _⟩ d_Processor_operate_47 (fun H locs hX => ?_)
    exact ab_ki_ret (pc := 50) X hr hk hX rfl (by rw [f_Processor_operate, if_pos h1]) d_Processor_operate_50
  ·
    by_cases h2 : x1 >>> ((6 : Int32) &&& 31) = 1
    ·
      refine ab_swIn (pc := 16) (tgt := 51) (off := 35) X.1 X.2.1 d_Processor_operate_16 h2 (by decide) (by decide) (by decide) (by decide) ?_
      refine lv_aload_n (pc := 51) X.1 X.2.1 d_Processor_operate_51 rfl (lv_at hl 2 rfl) ?_
      refine lv_iload_n (pc := 52) X.1 X.2.1 d_Processor_operate_52 rfl (lv_at hl 1 rfl) ?_
      refine lv_iload_n (pc := 53) X.1 X.2.1 d_Processor_operate_53 rfl (lv_at hl 0 rfl) ?_
      refine ab_ki_callV (pc := 54) (wr := []) (w := (wC t q)) (u := u) (F := f_Processor_move u ((x1 >>> ((3 : Int32) &&& 31)) &&& 7) (x1 &&& 7)) (as := [.int ((x1 >>> ((3 : Int32) &&& 31)) &&& 7), .int (x1 &&& 7)]) (rest := []) X hX (c_Processor_move l D t q u ((x1 >>> ((3 : Int32) &&& 31)) &&& 7) (x1 &&& 7)) ok_Processor_move okv_Processor_move tw_268 0 4 rfl rfl rfl hl.1 rfl (Nat.le_of_ble_eq_true rfl) ⟨rfl, rfl, Nat.le_of_ble_eq_true rfl, Nat.le_of_ble_eq_true rfl⟩ ⟨Nat.zero_le _, Nat.zero_le _⟩ d_Processor_operate_54 (fun H locs hX => ?_)
      exact ab_ki_ret (pc := 57) X hr hk hX rfl (by rw [f_Processor_operate, if_neg h1, if_pos h2]) d_Processor_operate_57
    ·
      by_cases h3 : x1 >>> ((6 : Int32) &&& 31) = 2
      ·
        refine ab_swIn (pc := 16) (tgt := 58) (off := 42) X.1 X.2.1 d_Processor_operate_16 h3 (by decide) (by decide) (by decide) (by decide) ?_
        refine lv_aload_n (pc := 58) X.1 X.2.1 d_Processor_operate_58 rfl (lv_at hl 2 rfl) ?_
        refine ab_gx (pc := 59) (v := .ref (q 7)) X hX 0 4 3 rfl rfl (Nat.le_of_ble_eq_true rfl) in_Processor rfl tw_195 rfl d_Processor_operate_59 ?_
        refine lv_iload_n (pc := 62) X.1 X.2.1 d_Processor_operate_62 rfl (lv_at hl 1 rfl) ?_
        refine lv_aload_n (pc := 63) X.1 X.2.1 d_Processor_operate_63 rfl (lv_at hl 2 rfl) ?_
        refine ab_gx (pc := 64) (v := .ref (q 6)) X hX 0 4 2 rfl rfl (Nat.le_of_ble_eq_true rfl) in_Processor rfl tw_196 rfl d_Processor_operate_64 ?_
        refine lv_iload_n (pc := 67) X.1 X.2.1 d_Processor_operate_67 rfl (lv_at hl 0 rfl) ?_
        refine ab_kr_callV (pc := 68) (wr := []) (w := (wC t q)) (u := u) (r := f_Registers_value u (x1 &&& 7)) (as := [.int (x1 &&& 7)]) (rest := [.int ((x1 >>> ((3 : Int32) &&& 31)) &&& 7), .ref (q 7)]) X hX (c_Registers_value l D t q u (x1 &&& 7)) ok_Registers_value okv_Registers_value tw_213 6 5 rfl rfl rfl hl.1 rfl (Nat.le_of_ble_eq_true rfl) ⟨rfl, rfl, Nat.le_of_ble_eq_true rfl, Nat.le_of_ble_eq_true rfl⟩ ⟨Nat.zero_le _, Nat.zero_le _⟩ d_Processor_operate_68 (fun H locs hX => ?_)
        refine ab_kv_callV (pc := 71) (wr := []) (w := (wC t q)) (u := u) (F := f_Arithmetic_operate u ((x1 >>> ((3 : Int32) &&& 31)) &&& 7) (f_Registers_value u (x1 &&& 7))) (as := [.int ((x1 >>> ((3 : Int32) &&& 31)) &&& 7), .int (f_Registers_value u (x1 &&& 7))]) (rest := []) X hX (c_Arithmetic_operate l D t q u ((x1 >>> ((3 : Int32) &&& 31)) &&& 7) (f_Registers_value u (x1 &&& 7))) ok_Arithmetic_operate okv_Arithmetic_operate tw_269 7 0 rfl rfl rfl hl.1 rfl (Nat.le_of_ble_eq_true rfl) ⟨rfl, rfl, Nat.le_of_ble_eq_true rfl, Nat.le_of_ble_eq_true rfl⟩ ⟨Nat.zero_le _, Nat.zero_le _⟩ d_Processor_operate_71 (fun H locs hX => ?_)
        refine lv_iload_n (pc := 74) X.1 X.2.1 d_Processor_operate_74 rfl (lv_at hl 0 rfl) ?_
        refine lv_bipush (pc := 75) (v := 6) X.1 X.2.1 d_Processor_operate_75 (by decide) ?_
        refine ab_jn (ls := ls) (rest := []) 86 (if (x1 &&& 7) = 6 then 7 else 4 : Int32) ?_ (fun J => ?_)
        rotate_left
        ·
          refine lv_icmp_ne (pc := 77) (tgt := 85) X.1 X.2.1 d_Processor_operate_77 (by decide) (fun h4 => ?_) (fun h4 => ?_)
          ·
            refine lv_iconst (pc := 85) (v := 4) X.1 X.2.1 d_Processor_operate_85 (by decide) ?_
            exact ab_jt (by rw [if_neg h4]) J
          ·
            refine lv_bipush (pc := 80) (v := 7) X.1 X.2.1 d_Processor_operate_80 (by decide) ?_
            refine lv_goto (pc := 82) (tgt := 86) X.1 X.2.1 d_Processor_operate_82 (by decide) ?_
            exact ab_jt (by rw [if_pos h4]) J
        exact ab_ki_ret (pc := 86) X hr hk hX rfl (by rw [f_Processor_operate, if_neg h1, if_neg h2, if_pos h3]) d_Processor_operate_86
      ·
        have hno : (x1 >>> ((6 : Int32) &&& 31)).toInt < 0 ∨ 2 < (x1 >>> ((6 : Int32) &&& 31)).toInt := by
          have n0 := lv_neT h1 (k := 0) (a := 0) (by decide)
          have n1 := lv_neT h2 (k := 1) (a := 1) (by decide)
          have n2 := lv_neT h3 (k := 2) (a := 2) (by decide)
          omega
        refine lv_tableOut (pc := 16) (tgt := 87) X.1 X.2.1 d_Processor_operate_16 hno (by decide) ?_
        refine lv_iload_n (pc := 87) X.1 X.2.1 d_Processor_operate_87 rfl (lv_at hl 0 rfl) ?_
        refine lv_bipush (pc := 88) (v := 6) X.1 X.2.1 d_Processor_operate_88 (by decide) ?_
        refine lv_icmp_ne (pc := 90) (tgt := 108) X.1 X.2.1 d_Processor_operate_90 (by decide) (fun h5 => ?_) (fun h5 => ?_)
        ·
          refine lv_aload_n (pc := 108) X.1 X.2.1 d_Processor_operate_108 rfl (lv_at hl 2 rfl) ?_
          refine lv_iload_n (pc := 109) X.1 X.2.1 d_Processor_operate_109 rfl (lv_at hl 1 rfl) ?_
          refine lv_iload_n (pc := 110) X.1 X.2.1 d_Processor_operate_110 rfl (lv_at hl 0 rfl) ?_
          refine ab_ki_callV (pc := 111) (wr := []) (w := (wC t q)) (u := u) (F := f_Processor_operateOnFlow u ((x1 >>> ((3 : Int32) &&& 31)) &&& 7) (x1 &&& 7)) (as := [.int ((x1 >>> ((3 : Int32) &&& 31)) &&& 7), .int (x1 &&& 7)]) (rest := []) X hX (c_Processor_operateOnFlow l D t q u ((x1 >>> ((3 : Int32) &&& 31)) &&& 7) (x1 &&& 7)) ok_Processor_operateOnFlow okv_Processor_operateOnFlow tw_270 0 4 rfl rfl rfl hl.1 rfl (Nat.le_of_ble_eq_true rfl) ⟨rfl, rfl, Nat.le_of_ble_eq_true rfl, Nat.le_of_ble_eq_true rfl⟩ ⟨Nat.zero_le _, Nat.zero_le _⟩ d_Processor_operate_111 (fun H locs hX => ?_)
          exact ab_ki_ret (pc := 114) X hr hk hX rfl (by rw [f_Processor_operate, if_neg h1, if_neg h2, if_neg h3, if_neg h5]) d_Processor_operate_114
        ·
          refine lv_aload_n (pc := 93) X.1 X.2.1 d_Processor_operate_93 rfl (lv_at hl 2 rfl) ?_
          refine ab_gx (pc := 94) (v := .ref (q 7)) X hX 0 4 3 rfl rfl (Nat.le_of_ble_eq_true rfl) in_Processor rfl tw_195 rfl d_Processor_operate_94 ?_
          refine lv_iload_n (pc := 97) X.1 X.2.1 d_Processor_operate_97 rfl (lv_at hl 1 rfl) ?_
          refine lv_aload_n (pc := 98) X.1 X.2.1 d_Processor_operate_98 rfl (lv_at hl 2 rfl) ?_
          refine ab_ki_callV (pc := 99) (wr := []) (w := (wC t q)) (u := u) (F := f_Processor_nextByte u) (as := []) (rest := [.int ((x1 >>> ((3 : Int32) &&& 31)) &&& 7), .ref (q 7)]) X hX (c_Processor_nextByte l D t q u) ok_Processor_nextByte okv_Processor_nextByte tw_217 0 4 rfl rfl rfl hl.1 rfl (Nat.le_of_ble_eq_true rfl) ⟨rfl, rfl, Nat.le_of_ble_eq_true rfl, Nat.le_of_ble_eq_true rfl⟩ ⟨Nat.zero_le _, Nat.zero_le _⟩ d_Processor_operate_99 (fun H locs hX => ?_)
          refine ab_kv_callV (pc := 102) (wr := []) (w := (wC t q)) (u := ((f_Processor_nextByte u).2)) (F := f_Arithmetic_operate ((f_Processor_nextByte u).2) ((x1 >>> ((3 : Int32) &&& 31)) &&& 7) ((f_Processor_nextByte u).1)) (as := [.int ((x1 >>> ((3 : Int32) &&& 31)) &&& 7), .int ((f_Processor_nextByte u).1)]) (rest := []) X hX (c_Arithmetic_operate l D t q ((f_Processor_nextByte u).2) ((x1 >>> ((3 : Int32) &&& 31)) &&& 7) ((f_Processor_nextByte u).1)) ok_Arithmetic_operate okv_Arithmetic_operate tw_269 7 0 rfl rfl rfl hl.1 rfl (Nat.le_of_ble_eq_true rfl) ⟨rfl, rfl, Nat.le_of_ble_eq_true rfl, Nat.le_of_ble_eq_true rfl⟩ ⟨Nat.zero_le _, Nat.zero_le _⟩ d_Processor_operate_102 (fun H locs hX => ?_)
          refine lv_bipush (pc := 105) (v := 7) X.1 X.2.1 d_Processor_operate_105 (by decide) ?_
          exact ab_ki_ret (pc := 107) X hr hk hX rfl (by rw [f_Processor_operate, if_neg h1, if_neg h2, if_neg h3, if_pos h5]) d_Processor_operate_107
abbrev b_Processor_step : ByteArray := prog_6_method_2_code
def y_Processor_step : MethodName := ⟨"ArcadeBoard$Processor", "step", "()I"⟩
theorem d_Processor_step_0 : decode b_Processor_step 0 = .ok (.aload_n 0, 1) := by decide +kernel
theorem d_Processor_step_1 : decode b_Processor_step 1 = .ok (.getfield 9, 3) := by decide +kernel
theorem d_Processor_step_4 : decode b_Processor_step 4 = .ok (.getfield 40, 3) := by decide +kernel
theorem d_Processor_step_7 : decode b_Processor_step 7 = .ok (.istore_n 1, 1) := by decide +kernel
theorem d_Processor_step_8 : decode b_Processor_step 8 = .ok (.aload_n 0, 1) := by decide +kernel
theorem d_Processor_step_9 : decode b_Processor_step 9 = .ok (.getfield 9, 3) := by decide +kernel
theorem d_Processor_step_12 : decode b_Processor_step 12 = .ok (.getfield 40, 3) := by decide +kernel
theorem d_Processor_step_15 : decode b_Processor_step 15 = .ok (.ifCond .eq 31, 3) := by decide +kernel
theorem d_Processor_step_18 : decode b_Processor_step 18 = .ok (.aload_n 0, 1) := by decide +kernel
theorem d_Processor_step_19 : decode b_Processor_step 19 = .ok (.getfield 9, 3) := by decide +kernel
theorem d_Processor_step_22 : decode b_Processor_step 22 = .ok (.getfield 46, 3) := by decide +kernel
theorem d_Processor_step_25 : decode b_Processor_step 25 = .ok (.ifCond .ne 21, 3) := by decide +kernel
theorem d_Processor_step_28 : decode b_Processor_step 28 = .ok (.aload_n 0, 1) := by decide +kernel
theorem d_Processor_step_29 : decode b_Processor_step 29 = .ok (.getfield 9, 3) := by decide +kernel
theorem d_Processor_step_32 : decode b_Processor_step 32 = .ok (.getfield 49, 3) := by decide +kernel
theorem d_Processor_step_35 : decode b_Processor_step 35 = .ok (.ifCond .eq 11, 3) := by decide +kernel
theorem d_Processor_step_38 : decode b_Processor_step 38 = .ok (.aload_n 0, 1) := by decide +kernel
theorem d_Processor_step_39 : decode b_Processor_step 39 = .ok (.invokevirtual 53, 3) := by decide +kernel
theorem d_Processor_step_42 : decode b_Processor_step 42 = .ok (.istore_n 2, 1) := by decide +kernel
theorem d_Processor_step_43 : decode b_Processor_step 43 = .ok (.goto 27, 3) := by decide +kernel
theorem d_Processor_step_46 : decode b_Processor_step 46 = .ok (.aload_n 0, 1) := by decide +kernel
theorem d_Processor_step_47 : decode b_Processor_step 47 = .ok (.getfield 9, 3) := by decide +kernel
theorem d_Processor_step_50 : decode b_Processor_step 50 = .ok (.getfield 57, 3) := by decide +kernel
theorem d_Processor_step_53 : decode b_Processor_step 53 = .ok (.ifCond .eq 8, 3) := by decide +kernel
theorem d_Processor_step_56 : decode b_Processor_step 56 = .ok (.iconst 4, 1) := by decide +kernel
theorem d_Processor_step_57 : decode b_Processor_step 57 = .ok (.istore_n 2, 1) := by decide +kernel
theorem d_Processor_step_58 : decode b_Processor_step 58 = .ok (.goto 12, 3) := by decide +kernel
theorem d_Processor_step_61 : decode b_Processor_step 61 = .ok (.aload_n 0, 1) := by decide +kernel
theorem d_Processor_step_62 : decode b_Processor_step 62 = .ok (.aload_n 0, 1) := by decide +kernel
theorem d_Processor_step_63 : decode b_Processor_step 63 = .ok (.invokevirtual 60, 3) := by decide +kernel
theorem d_Processor_step_66 : decode b_Processor_step 66 = .ok (.invokevirtual 63, 3) := by decide +kernel
theorem d_Processor_step_69 : decode b_Processor_step 69 = .ok (.istore_n 2, 1) := by decide +kernel
theorem d_Processor_step_70 : decode b_Processor_step 70 = .ok (.aload_n 0, 1) := by decide +kernel
theorem d_Processor_step_71 : decode b_Processor_step 71 = .ok (.getfield 9, 3) := by decide +kernel
theorem d_Processor_step_74 : decode b_Processor_step 74 = .ok (.aload_n 0, 1) := by decide +kernel
theorem d_Processor_step_75 : decode b_Processor_step 75 = .ok (.getfield 9, 3) := by decide +kernel
theorem d_Processor_step_78 : decode b_Processor_step 78 = .ok (.getfield 40, 3) := by decide +kernel
theorem d_Processor_step_81 : decode b_Processor_step 81 = .ok (.ifCond .eq 11, 3) := by decide +kernel
theorem d_Processor_step_84 : decode b_Processor_step 84 = .ok (.iload_n 1, 1) := by decide +kernel
theorem d_Processor_step_85 : decode b_Processor_step 85 = .ok (.ifCond .ne 7, 3) := by decide +kernel
theorem d_Processor_step_88 : decode b_Processor_step 88 = .ok (.iconst 1, 1) := by decide +kernel
theorem d_Processor_step_89 : decode b_Processor_step 89 = .ok (.goto 4, 3) := by decide +kernel
theorem d_Processor_step_92 : decode b_Processor_step 92 = .ok (.iconst 0, 1) := by decide +kernel
theorem d_Processor_step_93 : decode b_Processor_step 93 = .ok (.putfield 46, 3) := by decide +kernel
theorem d_Processor_step_96 : decode b_Processor_step 96 = .ok (.aload_n 0, 1) := by decide +kernel
theorem d_Processor_step_97 : decode b_Processor_step 97 = .ok (.getfield 36, 3) := by decide +kernel
theorem d_Processor_step_100 : decode b_Processor_step 100 = .ok (.iload_n 2, 1) := by decide +kernel
theorem d_Processor_step_101 : decode b_Processor_step 101 = .ok (.invokevirtual 67, 3) := by decide +kernel
theorem d_Processor_step_104 : decode b_Processor_step 104 = .ok (.iload_n 2, 1) := by decide +kernel
theorem d_Processor_step_105 : decode b_Processor_step 105 = .ok (.ireturn, 1) := by decide +kernel
theorem tw_271 : Jvm.Cond.code ⟨"ArcadeBoard$Processor", "step", "()I"⟩ prog_6_method_2_code 3 (Option.some Jvm.ClassFile.FieldType.int) ∈ AL := ab_in (ab_t2 (List.mem_of_getElem? (i := 216) (by decide +kernel))) rfl
theorem tw_272 : Jvm.Cond.instanceMethod ⟨"ArcadeBoard$Processor", "step", "()I"⟩ ∈ AL := ab_in (ab_t2 (List.mem_of_getElem? (i := 214) (by decide +kernel))) rfl
theorem tw_273 : Jvm.Cond.selects "ArcadeBoard$Processor" ⟨"ArcadeBoard$Processor", "step", "()I"⟩ ⟨"ArcadeBoard$Processor", "step", "()I"⟩ ∈ AL := ab_in (ab_t2 (List.mem_of_getElem? (i := 215) (by decide +kernel))) rfl
theorem tw_274 : Jvm.Cond.methodLink "ArcadeBoard$Processor" 63 ⟨"ArcadeBoard$Processor", "operate", "(I)I"⟩ ∈ AL := ab_in (ab_t2 (List.mem_of_getElem? (i := 239) (by decide +kernel))) rfl
theorem tw_275 : Jvm.Cond.fieldLink "ArcadeBoard$Processor" 46 "ArcadeBoard$State" "switchedOn" "Z" ∈ AL := ab_in (ab_t1 (List.mem_of_getElem? (i := 56) (by decide +kernel))) rfl
theorem tw_276 : Jvm.Cond.methodLink "ArcadeBoard$Processor" 53 ⟨"ArcadeBoard$Processor", "takeCall", "()I"⟩ ∈ AL := ab_in (ab_t2 (List.mem_of_getElem? (i := 217) (by decide +kernel))) rfl
theorem tw_277 : Jvm.Cond.fieldLink "ArcadeBoard$Processor" 36 "ArcadeBoard$Processor" "clock" "LArcadeBoard$Clock;" ∈ AL := ab_in (ab_t1 (List.mem_of_getElem? (i := 216) (by decide +kernel))) rfl
theorem tw_278 : Jvm.Cond.methodLink "ArcadeBoard$Processor" 67 ⟨"ArcadeBoard$Clock", "pass", "(I)V"⟩ ∈ AL := ab_in (ab_t3 (List.mem_of_getElem? (i := 154) (by decide +kernel))) rfl
theorem ok_Processor_step : ab_yok y_Processor_step b_Processor_step 3 (some .int) 0 := ⟨tw_271, tw_170, by decide, by decide, by decide +kernel⟩
theorem okv_Processor_step : ab_yok_V y_Processor_step := ⟨tw_272, tw_273⟩
set_option maxHeartbeats 1000000 in
set_option maxRecDepth 100000 in
theorem k_Processor_step_70 {p : Program} {l : Launch} {e : Env} {s : State} {m : MethodId} {args : Array Value} {below : List Frame} {meth : Method} {c : Code} {A : Nat → Prop} {D : va_G} {t : Nat → ClassId} {q : Nat → Nat} (X : ab_cx p s m args c b_Processor_step 3 y_Processor_step.cls D (tyC t)) (hr : meth.sig.returnType = some .int) (hk : meth.locks = false) (u : SS) (v1 : Int32) (v2 : Int32) {H : Heap} {locs : List Loc} {ls : Array Slot} (hX : ab_hx D (wC t q u) A s.heap H locs) (hl : lv_has ls 3 [(0, .ref (q 0)), (1, .int v1), (2, .int v2)]) :
    W p l e { frames := 6, cells := 0, slots := 0, locals := 130 } s m args below meth c H locs 0 0 (ab_ki_E below args s D (tyC t) (wC t q) A (g_Processor_step_70 u v1 v2)) (F0 m 70 ls []) := by
  refine lv_aload_n (pc := 70) X.1 X.2.1 d_Processor_step_70 rfl (lv_at hl 0 rfl) ?_
  refine ab_gx (pc := 71) (v := .ref (q 1)) X hX 0 4 0 rfl rfl (Nat.le_of_ble_eq_true rfl) in_Processor rfl tw_174 rfl d_Processor_step_71 ?_
  refine lv_aload_n (pc := 74) X.1 X.2.1 d_Processor_step_74 rfl (lv_at hl 0 rfl) ?_
  refine ab_gx (pc := 75) (v := .ref (q 1)) X hX 0 4 0 rfl rfl (Nat.le_of_ble_eq_true rfl) in_Processor rfl tw_174 rfl d_Processor_step_75 ?_
  refine ab_gx (pc := 78) (v := .int (u 0 3)) X hX 1 7 5 rfl rfl (Nat.le_of_ble_eq_true rfl) in_State rfl tw_181 rfl d_Processor_step_78 ?_
  refine ab_jn (ls := ls) (rest := [.ref (q 1)]) 93 (if (u 0 3) = 0 then 0 else (if v1 = 0 then 1 else 0 : Int32) : Int32) ?_ (fun J => ?_)
  rotate_left
  ·
    refine lv_if_eq (pc := 81) (tgt := 92) X.1 X.2.1 d_Processor_step_81 (by decide) (fun h7 => ?_) (fun h7 => ?_)
    ·
      refine lv_iconst (pc := 92) (v := 0) X.1 X.2.1 d_Processor_step_92 (by decide) ?_
      exact ab_jt (by rw [if_pos h7]) J
    ·
      refine lv_iload_n (pc := 84) X.1 X.2.1 d_Processor_step_84 rfl (lv_at hl 1 rfl) ?_
      refine lv_if_ne (pc := 85) (tgt := 92) X.1 X.2.1 d_Processor_step_85 (by decide) (fun h8 => ?_) (fun h8 => ?_)
      ·
        refine lv_iconst (pc := 92) (v := 0) X.1 X.2.1 d_Processor_step_92 (by decide) ?_
        exact ab_jt (by rw [if_neg h7, if_neg h8]) J
      ·
        refine lv_iconst (pc := 88) (v := 1) X.1 X.2.1 d_Processor_step_88 (by decide) ?_
        refine lv_goto (pc := 89) (tgt := 93) X.1 X.2.1 d_Processor_step_89 (by decide) ?_
        exact ab_jt (by rw [if_neg h7, if_pos h8]) J
  refine ab_px (pc := 93) (ws' := (wC t q (stt u 0 4 (if (u 0 3) = 0 then 0 else (if v1 = 0 then 1 else 0 : Int32) : Int32)))) X hX 1 7 6 ty_State ty_State_ok nm_State rfl rfl (Nat.le_of_ble_eq_true rfl) in_State rfl tw_275 rfl rfl (ab_nb (by repeat' (first | exact ab_bo0 | exact ab_bo1 | split))) (ab_fb (by repeat' (first | exact ab_bo0 | exact ab_bo1 | split))) (Nat.le_of_ble_eq_true rfl) (sf_wC_1_6 t q u (if (u 0 3) = 0 then 0 else (if v1 = 0 then 1 else 0 : Int32) : Int32)) d_Processor_step_93 (fun H locs hX => ?_)
  refine lv_aload_n (pc := 96) X.1 X.2.1 d_Processor_step_96 rfl (lv_at hl 0 rfl) ?_
  refine ab_gx (pc := 97) (v := .ref (q 11)) X hX 0 4 5 rfl rfl (Nat.le_of_ble_eq_true rfl) in_Processor rfl tw_277 rfl d_Processor_step_97 ?_
  refine lv_iload_n (pc := 100) X.1 X.2.1 d_Processor_step_100 rfl (lv_at hl 2 rfl) ?_
  refine ab_kv_callV (pc := 101) (wr := []) (w := (wC t q)) (u := (stt u 0 4 (if (u 0 3) = 0 then 0 else (if v1 = 0 then 1 else 0 : Int32) : Int32))) (F := f_Clock_pass (stt u 0 4 (if (u 0 3) = 0 then 0 else (if v1 = 0 then 1 else 0 : Int32) : Int32)) v2) (as := [.int v2]) (rest := []) X hX (c_Clock_pass l D t q (stt u 0 4 (if (u 0 3) = 0 then 0 else (if v1 = 0 then 1 else 0 : Int32) : Int32)) v2) ok_Clock_pass okv_Clock_pass tw_278 11 1 rfl rfl rfl hl.1 rfl (Nat.le_of_ble_eq_true rfl) ⟨rfl, rfl, Nat.le_of_ble_eq_true rfl, Nat.le_of_ble_eq_true rfl⟩ ⟨Nat.zero_le _, Nat.zero_le _⟩ d_Processor_step_101 (fun H locs hX => ?_)
  refine lv_iload_n (pc := 104) X.1 X.2.1 d_Processor_step_104 rfl (lv_at hl 2 rfl) ?_
  exact ab_ki_ret (pc := 105) X hr hk hX rfl (by rw [g_Processor_step_70]) d_Processor_step_105
set_option maxHeartbeats 1000000 in
set_option maxRecDepth 100000 in
theorem c_Processor_step (l : Launch) (D : va_G) (t : Nat → ClassId) (q : Nat → Nat) (u : SS) : ab_ki l D (tyC t) (wC t q) y_Processor_step b_Processor_step 3 .int { frames := 6, cells := 0, slots := 0, locals := 130 } [.ref (q 0)] u (f_Processor_step u) := by
  refine ab_ki_ofW (by decide) (Nat.le_of_ble_eq_true rfl) (fun p e s m below meth c ls A X hr hk hl hX => ?_)
  have hl : lv_has ls 3 [(0, .ref (q 0))] := hl
  refine lv_aload_n (pc := 0) X.1 X.2.1 d_Processor_step_0 rfl (lv_at hl 0 rfl) ?_
  refine ab_gx (pc := 1) (v := .ref (q 1)) X hX 0 4 0 rfl rfl (Nat.le_of_ble_eq_true rfl) in_Processor rfl tw_174 rfl d_Processor_step_1 ?_
  refine ab_gx (pc := 4) (v := .int (u 0 3)) X hX 1 7 5 rfl rfl (Nat.le_of_ble_eq_true rfl) in_State rfl tw_181 rfl d_Processor_step_4 ?_
  refine lv_istore_n (pc := 7) (lv' := [(1, .int (u 0 3)), (0, .ref (q 0))]) X.1 X.2.1 d_Processor_step_7 rfl hl (Nat.le_of_ble_eq_true rfl) rfl (fun ls hl => ?_)
  refine lv_aload_n (pc := 8) X.1 X.2.1 d_Processor_step_8 rfl (lv_at hl 1 rfl) ?_
  refine ab_gx (pc := 9) (v := .ref (q 1)) X hX 0 4 0 rfl rfl (Nat.le_of_ble_eq_true rfl) in_Processor rfl tw_174 rfl d_Processor_step_9 ?_
  refine ab_gx (pc := 12) (v := .int (u 0 3)) X hX 1 7 5 rfl rfl (Nat.le_of_ble_eq_true rfl) in_State rfl tw_181 rfl d_Processor_step_12 ?_
  refine lv_if_eq (pc := 15) (tgt := 46) X.1 X.2.1 d_Processor_step_15 (by decide) (fun h1 => ?_) (fun h1 => ?_)
  ·
    refine lv_aload_n (pc := 46) X.1 X.2.1 d_Processor_step_46 rfl (lv_at hl 1 rfl) ?_
    refine ab_gx (pc := 47) (v := .ref (q 1)) X hX 0 4 0 rfl rfl (Nat.le_of_ble_eq_true rfl) in_Processor rfl tw_174 rfl d_Processor_step_47 ?_
    refine ab_gx (pc := 50) (v := .int (u 0 5)) X hX 1 7 7 rfl rfl (Nat.le_of_ble_eq_true rfl) in_State rfl tw_182 rfl d_Processor_step_50 ?_
    refine lv_if_eq (pc := 53) (tgt := 61) X.1 X.2.1 d_Processor_step_53 (by decide) (fun h2 => ?_) (fun h2 => ?_)
    ·
      refine lv_aload_n (pc := 61) X.1 X.2.1 d_Processor_step_61 rfl (lv_at hl 1 rfl) ?_
      refine lv_aload_n (pc := 62) X.1 X.2.1 d_Processor_step_62 rfl (lv_at hl 1 rfl) ?_
      refine ab_ki_callV (pc := 63) (wr := []) (w := (wC t q)) (u := u) (F := f_Processor_nextByte u) (as := []) (rest := [.ref (q 0)]) X hX (c_Processor_nextByte l D t q u) ok_Processor_nextByte okv_Processor_nextByte tw_217 0 4 rfl rfl rfl hl.1 rfl (Nat.le_of_ble_eq_true rfl) ⟨rfl, rfl, Nat.le_of_ble_eq_true rfl, Nat.le_of_ble_eq_true rfl⟩ ⟨Nat.zero_le _, Nat.zero_le _⟩ d_Processor_step_63 (fun H locs hX => ?_)
      refine ab_ki_callV (pc := 66) (wr := []) (w := (wC t q)) (u := ((f_Processor_nextByte u).2)) (F := f_Processor_operate ((f_Processor_nextByte u).2) ((f_Processor_nextByte u).1)) (as := [.int ((f_Processor_nextByte u).1)]) (rest := []) X hX (c_Processor_operate l D t q ((f_Processor_nextByte u).2) ((f_Processor_nextByte u).1)) ok_Processor_operate okv_Processor_operate tw_274 0 4 rfl rfl rfl hl.1 rfl (Nat.le_of_ble_eq_true rfl) ⟨rfl, rfl, Nat.le_of_ble_eq_true rfl, Nat.le_of_ble_eq_true rfl⟩ ⟨Nat.zero_le _, Nat.zero_le _⟩ d_Processor_step_66 (fun H locs hX => ?_)
      refine lv_istore_n (pc := 69) (lv' := [(2, .int ((f_Processor_operate ((f_Processor_nextByte u).2) ((f_Processor_nextByte u).1)).1)), (1, .int (u 0 3)), (0, .ref (q 0))]) X.1 X.2.1 d_Processor_step_69 rfl hl (Nat.le_of_ble_eq_true rfl) rfl (fun ls hl => ?_)
      rw [show f_Processor_step u = g_Processor_step_70 ((f_Processor_operate ((f_Processor_nextByte u).2) ((f_Processor_nextByte u).1)).2) (u 0 3) ((f_Processor_operate ((f_Processor_nextByte u).2) ((f_Processor_nextByte u).1)).1) from by rw [f_Processor_step, if_pos h1, if_pos h2]]
      exact k_Processor_step_70 X hr hk ((f_Processor_operate ((f_Processor_nextByte u).2) ((f_Processor_nextByte u).1)).2) (u 0 3) ((f_Processor_operate ((f_Processor_nextByte u).2) ((f_Processor_nextByte u).1)).1)  hX (lv_sub hl [2, 1, 0] rfl)
    ·
      refine lv_iconst (pc := 56) (v := 4) X.1 X.2.1 d_Processor_step_56 (by decide) ?_
      refine lv_istore_n (pc := 57) (lv' := [(2, .int 4), (1, .int (u 0 3)), (0, .ref (q 0))]) X.1 X.2.1 d_Processor_step_57 rfl hl (Nat.le_of_ble_eq_true rfl) rfl (fun ls hl => ?_)
      refine lv_goto (pc := 58) (tgt := 70) X.1 X.2.1 d_Processor_step_58 (by decide) ?_
      rw [show f_Processor_step u = g_Processor_step_70 u (u 0 3) 4 from by rw [f_Processor_step, if_pos h1, if_neg h2]]
      exact k_Processor_step_70 X hr hk u (u 0 3) 4  hX (lv_sub hl [2, 1, 0] rfl)
  ·
    refine lv_aload_n (pc := 18) X.1 X.2.1 d_Processor_step_18 rfl (lv_at hl 1 rfl) ?_
    refine ab_gx (pc := 19) (v := .ref (q 1)) X hX 0 4 0 rfl rfl (Nat.le_of_ble_eq_true rfl) in_Processor rfl tw_174 rfl d_Processor_step_19 ?_
    refine ab_gx (pc := 22) (v := .int (u 0 4)) X hX 1 7 6 rfl rfl (Nat.le_of_ble_eq_true rfl) in_State rfl tw_275 rfl d_Processor_step_22 ?_
    refine lv_if_ne (pc := 25) (tgt := 46) X.1 X.2.1 d_Processor_step_25 (by decide) (fun h3 => ?_) (fun h3 => ?_)
    ·
      refine lv_aload_n (pc := 46) X.1 X.2.1 d_Processor_step_46 rfl (lv_at hl 1 rfl) ?_
      refine ab_gx (pc := 47) (v := .ref (q 1)) X hX 0 4 0 rfl rfl (Nat.le_of_ble_eq_true rfl) in_Processor rfl tw_174 rfl d_Processor_step_47 ?_
      refine ab_gx (pc := 50) (v := .int (u 0 5)) X hX 1 7 7 rfl rfl (Nat.le_of_ble_eq_true rfl) in_State rfl tw_182 rfl d_Processor_step_50 ?_
      refine lv_if_eq (pc := 53) (tgt := 61) X.1 X.2.1 d_Processor_step_53 (by decide) (fun h4 => ?_) (fun h4 => ?_)
      ·
        refine lv_aload_n (pc := 61) X.1 X.2.1 d_Processor_step_61 rfl (lv_at hl 1 rfl) ?_
        refine lv_aload_n (pc := 62) X.1 X.2.1 d_Processor_step_62 rfl (lv_at hl 1 rfl) ?_
        refine ab_ki_callV (pc := 63) (wr := []) (w := (wC t q)) (u := u) (F := f_Processor_nextByte u) (as := []) (rest := [.ref (q 0)]) X hX (c_Processor_nextByte l D t q u) ok_Processor_nextByte okv_Processor_nextByte tw_217 0 4 rfl rfl rfl hl.1 rfl (Nat.le_of_ble_eq_true rfl) ⟨rfl, rfl, Nat.le_of_ble_eq_true rfl, Nat.le_of_ble_eq_true rfl⟩ ⟨Nat.zero_le _, Nat.zero_le _⟩ d_Processor_step_63 (fun H locs hX => ?_)
        refine ab_ki_callV (pc := 66) (wr := []) (w := (wC t q)) (u := ((f_Processor_nextByte u).2)) (F := f_Processor_operate ((f_Processor_nextByte u).2) ((f_Processor_nextByte u).1)) (as := [.int ((f_Processor_nextByte u).1)]) (rest := []) X hX (c_Processor_operate l D t q ((f_Processor_nextByte u).2) ((f_Processor_nextByte u).1)) ok_Processor_operate okv_Processor_operate tw_274 0 4 rfl rfl rfl hl.1 rfl (Nat.le_of_ble_eq_true rfl) ⟨rfl, rfl, Nat.le_of_ble_eq_true rfl, Nat.le_of_ble_eq_true rfl⟩ ⟨Nat.zero_le _, Nat.zero_le _⟩ d_Processor_step_66 (fun H locs hX => ?_)
        refine lv_istore_n (pc := 69) (lv' := [(2, .int ((f_Processor_operate ((f_Processor_nextByte u).2) ((f_Processor_nextByte u).1)).1)), (1, .int (u 0 3)), (0, .ref (q 0))]) X.1 X.2.1 d_Processor_step_69 rfl hl (Nat.le_of_ble_eq_true rfl) rfl (fun ls hl => ?_)
        rw [show f_Processor_step u = g_Processor_step_70 ((f_Processor_operate ((f_Processor_nextByte u).2) ((f_Processor_nextByte u).1)).2) (u 0 3) ((f_Processor_operate ((f_Processor_nextByte u).2) ((f_Processor_nextByte u).1)).1) from by rw [f_Processor_step, if_neg h1, if_neg h3, if_pos h4]]
        exact k_Processor_step_70 X hr hk ((f_Processor_operate ((f_Processor_nextByte u).2) ((f_Processor_nextByte u).1)).2) (u 0 3) ((f_Processor_operate ((f_Processor_nextByte u).2) ((f_Processor_nextByte u).1)).1)  hX (lv_sub hl [2, 1, 0] rfl)
      ·
        refine lv_iconst (pc := 56) (v := 4) X.1 X.2.1 d_Processor_step_56 (by decide) ?_
        refine lv_istore_n (pc := 57) (lv' := [(2, .int 4), (1, .int (u 0 3)), (0, .ref (q 0))]) X.1 X.2.1 d_Processor_step_57 rfl hl (Nat.le_of_ble_eq_true rfl) rfl (fun ls hl => ?_)
        refine lv_goto (pc := 58) (tgt := 70) X.1 X.2.1 d_Processor_step_58 (by decide) ?_
        rw [show f_Processor_step u = g_Processor_step_70 u (u 0 3) 4 from by rw [f_Processor_step, if_neg h1, if_neg h3, if_neg h4]]
        exact k_Processor_step_70 X hr hk u (u 0 3) 4  hX (lv_sub hl [2, 1, 0] rfl)
    ·
      refine lv_aload_n (pc := 28) X.1 X.2.1 d_Processor_step_28 rfl (lv_at hl 1 rfl) ?_
      refine ab_gx (pc := 29) (v := .ref (q 1)) X hX 0 4 0 rfl rfl (Nat.le_of_ble_eq_true rfl) in_Processor rfl tw_174 rfl d_Processor_step_29 ?_
      refine ab_gx (pc := 32) (v := .int (u 0 6)) X hX 1 7 8 rfl rfl (Nat.le_of_ble_eq_true rfl) in_State rfl tw_180 rfl d_Processor_step_32 ?_
      refine lv_if_eq (pc := 35) (tgt := 46) X.1 X.2.1 d_Processor_step_35 (by decide) (fun h5 => ?_) (fun h5 => ?_)
      ·
        refine lv_aload_n (pc := 46) X.1 X.2.1 d_Processor_step_46 rfl (lv_at hl 1 rfl) ?_
        refine ab_gx (pc := 47) (v := .ref (q 1)) X hX 0 4 0 rfl rfl (Nat.le_of_ble_eq_true rfl) in_Processor rfl tw_174 rfl d_Processor_step_47 ?_
        refine ab_gx (pc := 50) (v := .int (u 0 5)) X hX 1 7 7 rfl rfl (Nat.le_of_ble_eq_true rfl) in_State rfl tw_182 rfl d_Processor_step_50 ?_
        refine lv_if_eq (pc := 53) (tgt := 61) X.1 X.2.1 d_Processor_step_53 (by decide) (fun h6 => ?_) (fun h6 => ?_)
        ·
          refine lv_aload_n (pc := 61) X.1 X.2.1 d_Processor_step_61 rfl (lv_at hl 1 rfl) ?_
          refine lv_aload_n (pc := 62) X.1 X.2.1 d_Processor_step_62 rfl (lv_at hl 1 rfl) ?_
          refine ab_ki_callV (pc := 63) (wr := []) (w := (wC t q)) (u := u) (F := f_Processor_nextByte u) (as := []) (rest := [.ref (q 0)]) X hX (c_Processor_nextByte l D t q u) ok_Processor_nextByte okv_Processor_nextByte tw_217 0 4 rfl rfl rfl hl.1 rfl (Nat.le_of_ble_eq_true rfl) ⟨rfl, rfl, Nat.le_of_ble_eq_true rfl, Nat.le_of_ble_eq_true rfl⟩ ⟨Nat.zero_le _, Nat.zero_le _⟩ d_Processor_step_63 (fun H locs hX => ?_)
          refine ab_ki_callV (pc := 66) (wr := []) (w := (wC t q)) (u := ((f_Processor_nextByte u).2)) (F := f_Processor_operate ((f_Processor_nextByte u).2) ((f_Processor_nextByte u).1)) (as := [.int ((f_Processor_nextByte u).1)]) (rest := []) X hX (c_Processor_operate l D t q ((f_Processor_nextByte u).2) ((f_Processor_nextByte u).1)) ok_Processor_operate okv_Processor_operate tw_274 0 4 rfl rfl rfl hl.1 rfl (Nat.le_of_ble_eq_true rfl) ⟨rfl, rfl, Nat.le_of_ble_eq_true rfl, Nat.le_of_ble_eq_true rfl⟩ ⟨Nat.zero_le _, Nat.zero_le _⟩ d_Processor_step_66 (fun H locs hX => ?_)
          refine lv_istore_n (pc := 69) (lv' := [(2, .int ((f_Processor_operate ((f_Processor_nextByte u).2) ((f_Processor_nextByte u).1)).1)), (1, .int (u 0 3)), (0, .ref (q 0))]) X.1 X.2.1 d_Processor_step_69 rfl hl (Nat.le_of_ble_eq_true rfl) rfl (fun ls hl => ?_)
          rw [show f_Processor_step u = g_Processor_step_70 ((f_Processor_operate ((f_Processor_nextByte u).2) ((f_Processor_nextByte u).1)).2) (u 0 3) ((f_Processor_operate ((f_Processor_nextByte u).2) ((f_Processor_nextByte u).1)).1) from by rw [f_Processor_step, if_neg h1, if_pos h3, if_pos h5, if_pos h6]]
          exact k_Processor_step_70 X hr hk ((f_Processor_operate ((f_Processor_nextByte u).2) ((f_Processor_nextByte u).1)).2) (u 0 3) ((f_Processor_operate ((f_Processor_nextByte u).2) ((f_Processor_nextByte u).1)).1)  hX (lv_sub hl [2, 1, 0] rfl)
        ·
          refine lv_iconst (pc := 56) (v := 4) X.1 X.2.1 d_Processor_step_56 (by decide) ?_
          refine lv_istore_n (pc := 57) (lv' := [(2, .int 4), (1, .int (u 0 3)), (0, .ref (q 0))]) X.1 X.2.1 d_Processor_step_57 rfl hl (Nat.le_of_ble_eq_true rfl) rfl (fun ls hl => ?_)
          refine lv_goto (pc := 58) (tgt := 70) X.1 X.2.1 d_Processor_step_58 (by decide) ?_
          rw [show f_Processor_step u = g_Processor_step_70 u (u 0 3) 4 from by rw [f_Processor_step, if_neg h1, if_pos h3, if_pos h5, if_neg h6]]
          exact k_Processor_step_70 X hr hk u (u 0 3) 4  hX (lv_sub hl [2, 1, 0] rfl)
      ·
        refine lv_aload_n (pc := 38) X.1 X.2.1 d_Processor_step_38 rfl (lv_at hl 1 rfl) ?_
        refine ab_ki_callV (pc := 39) (wr := []) (w := (wC t q)) (u := u) (F := f_Processor_takeCall u) (as := []) (rest := []) X hX (c_Processor_takeCall l D t q u) ok_Processor_takeCall okv_Processor_takeCall tw_276 0 4 rfl rfl rfl hl.1 rfl (Nat.le_of_ble_eq_true rfl) ⟨rfl, rfl, Nat.le_of_ble_eq_true rfl, Nat.le_of_ble_eq_true rfl⟩ ⟨Nat.zero_le _, Nat.zero_le _⟩ d_Processor_step_39 (fun H locs hX => ?_)
        refine lv_istore_n (pc := 42) (lv' := [(2, .int ((f_Processor_takeCall u).1)), (1, .int (u 0 3)), (0, .ref (q 0))]) X.1 X.2.1 d_Processor_step_42 rfl hl (Nat.le_of_ble_eq_true rfl) rfl (fun ls hl => ?_)
        refine lv_goto (pc := 43) (tgt := 70) X.1 X.2.1 d_Processor_step_43 (by decide) ?_
        rw [show f_Processor_step u = g_Processor_step_70 ((f_Processor_takeCall u).2) (u 0 3) ((f_Processor_takeCall u).1) from by rw [f_Processor_step, if_neg h1, if_pos h3, if_neg h5]]
        exact k_Processor_step_70 X hr hk ((f_Processor_takeCall u).2) (u 0 3) ((f_Processor_takeCall u).1)  hX (lv_sub hl [2, 1, 0] rfl)
