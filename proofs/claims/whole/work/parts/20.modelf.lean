abbrev b_MD_operation : ByteArray := prog_11_method_28_code
def y_MD_operation : MethodName := ⟨"ArcadeBoardModel", "operation", "()V"⟩
theorem d_MD_operation_0 : decode b_MD_operation 0 = .ok (.aload_n 0, 1) := by decide +kernel
theorem d_MD_operation_1 : decode b_MD_operation 1 = .ok (.invokevirtual 38, 3) := by decide +kernel
theorem d_MD_operation_4 : decode b_MD_operation 4 = .ok (.istore_n 1, 1) := by decide +kernel
theorem d_MD_operation_5 : decode b_MD_operation 5 = .ok (.iload_n 1, 1) := by decide +kernel
theorem d_MD_operation_6 : decode b_MD_operation 6 = .ok (.bipush 6, 2) := by decide +kernel
theorem d_MD_operation_8 : decode b_MD_operation 8 = .ok (.ishr, 1) := by decide +kernel
theorem d_MD_operation_9 : decode b_MD_operation 9 = .ok (.istore_n 2, 1) := by decide +kernel
theorem d_MD_operation_10 : decode b_MD_operation 10 = .ok (.iload_n 1, 1) := by decide +kernel
theorem d_MD_operation_11 : decode b_MD_operation 11 = .ok (.iconst 3, 1) := by decide +kernel
theorem d_MD_operation_12 : decode b_MD_operation 12 = .ok (.ishr, 1) := by decide +kernel
theorem d_MD_operation_13 : decode b_MD_operation 13 = .ok (.bipush 7, 2) := by decide +kernel
theorem d_MD_operation_15 : decode b_MD_operation 15 = .ok (.iand, 1) := by decide +kernel
theorem d_MD_operation_16 : decode b_MD_operation 16 = .ok (.istore_n 3, 1) := by decide +kernel
theorem d_MD_operation_17 : decode b_MD_operation 17 = .ok (.iload_n 1, 1) := by decide +kernel
theorem d_MD_operation_18 : decode b_MD_operation 18 = .ok (.bipush 7, 2) := by decide +kernel
theorem d_MD_operation_20 : decode b_MD_operation 20 = .ok (.iand, 1) := by decide +kernel
theorem d_MD_operation_21 : decode b_MD_operation 21 = .ok (.istore 4, 2) := by decide +kernel
theorem d_MD_operation_23 : decode b_MD_operation 23 = .ok (.iload_n 1, 1) := by decide +kernel
theorem d_MD_operation_24 : decode b_MD_operation 24 = .ok (.bipush 118, 2) := by decide +kernel
theorem d_MD_operation_26 : decode b_MD_operation 26 = .ok (.if_icmp .ne 17, 3) := by decide +kernel
theorem d_MD_operation_29 : decode b_MD_operation 29 = .ok (.aload_n 0, 1) := by decide +kernel
theorem d_MD_operation_30 : decode b_MD_operation 30 = .ok (.iconst 1, 1) := by decide +kernel
theorem d_MD_operation_31 : decode b_MD_operation 31 = .ok (.putfield 157, 3) := by decide +kernel
theorem d_MD_operation_34 : decode b_MD_operation 34 = .ok (.aload_n 0, 1) := by decide +kernel
theorem d_MD_operation_35 : decode b_MD_operation 35 = .ok (.bipush 7, 2) := by decide +kernel
theorem d_MD_operation_37 : decode b_MD_operation 37 = .ok (.putfield 71, 3) := by decide +kernel
theorem d_MD_operation_40 : decode b_MD_operation 40 = .ok (.goto 102, 3) := by decide +kernel
theorem d_MD_operation_43 : decode b_MD_operation 43 = .ok (.iload_n 2, 1) := by decide +kernel
theorem d_MD_operation_44 : decode b_MD_operation 44 = .ok (.ifCond .ne 13, 3) := by decide +kernel
theorem d_MD_operation_47 : decode b_MD_operation 47 = .ok (.aload_n 0, 1) := by decide +kernel
theorem d_MD_operation_48 : decode b_MD_operation 48 = .ok (.iload_n 3, 1) := by decide +kernel
theorem d_MD_operation_49 : decode b_MD_operation 49 = .ok (.iload 4, 2) := by decide +kernel
theorem d_MD_operation_51 : decode b_MD_operation 51 = .ok (.invokevirtual 175, 3) := by decide +kernel
theorem d_MD_operation_54 : decode b_MD_operation 54 = .ok (.goto 88, 3) := by decide +kernel
theorem d_MD_operation_57 : decode b_MD_operation 57 = .ok (.iload_n 2, 1) := by decide +kernel
theorem d_MD_operation_58 : decode b_MD_operation 58 = .ok (.iconst 1, 1) := by decide +kernel
theorem d_MD_operation_59 : decode b_MD_operation 59 = .ok (.if_icmp .ne 40, 3) := by decide +kernel
theorem d_MD_operation_62 : decode b_MD_operation 62 = .ok (.aload_n 0, 1) := by decide +kernel
theorem d_MD_operation_63 : decode b_MD_operation 63 = .ok (.iload_n 3, 1) := by decide +kernel
theorem d_MD_operation_64 : decode b_MD_operation 64 = .ok (.bipush 6, 2) := by decide +kernel
theorem d_MD_operation_66 : decode b_MD_operation 66 = .ok (.if_icmp .eq 10, 3) := by decide +kernel
theorem d_MD_operation_69 : decode b_MD_operation 69 = .ok (.iload 4, 2) := by decide +kernel
theorem d_MD_operation_71 : decode b_MD_operation 71 = .ok (.bipush 6, 2) := by decide +kernel
theorem d_MD_operation_73 : decode b_MD_operation 73 = .ok (.if_icmp .ne 8, 3) := by decide +kernel
theorem d_MD_operation_76 : decode b_MD_operation 76 = .ok (.bipush 7, 2) := by decide +kernel
theorem d_MD_operation_78 : decode b_MD_operation 78 = .ok (.goto 4, 3) := by decide +kernel
theorem d_MD_operation_81 : decode b_MD_operation 81 = .ok (.iconst 5, 1) := by decide +kernel
theorem d_MD_operation_82 : decode b_MD_operation 82 = .ok (.putfield 71, 3) := by decide +kernel
theorem d_MD_operation_85 : decode b_MD_operation 85 = .ok (.aload_n 0, 1) := by decide +kernel
theorem d_MD_operation_86 : decode b_MD_operation 86 = .ok (.iload_n 3, 1) := by decide +kernel
theorem d_MD_operation_87 : decode b_MD_operation 87 = .ok (.aload_n 0, 1) := by decide +kernel
theorem d_MD_operation_88 : decode b_MD_operation 88 = .ok (.iload 4, 2) := by decide +kernel
theorem d_MD_operation_90 : decode b_MD_operation 90 = .ok (.invokevirtual 84, 3) := by decide +kernel
theorem d_MD_operation_93 : decode b_MD_operation 93 = .ok (.invokevirtual 87, 3) := by decide +kernel
theorem d_MD_operation_96 : decode b_MD_operation 96 = .ok (.goto 46, 3) := by decide +kernel
theorem d_MD_operation_99 : decode b_MD_operation 99 = .ok (.iload_n 2, 1) := by decide +kernel
theorem d_MD_operation_100 : decode b_MD_operation 100 = .ok (.iconst 2, 1) := by decide +kernel
theorem d_MD_operation_101 : decode b_MD_operation 101 = .ok (.if_icmp .ne 34, 3) := by decide +kernel
theorem d_MD_operation_104 : decode b_MD_operation 104 = .ok (.aload_n 0, 1) := by decide +kernel
theorem d_MD_operation_105 : decode b_MD_operation 105 = .ok (.iload 4, 2) := by decide +kernel
theorem d_MD_operation_107 : decode b_MD_operation 107 = .ok (.bipush 6, 2) := by decide +kernel
theorem d_MD_operation_109 : decode b_MD_operation 109 = .ok (.if_icmp .ne 8, 3) := by decide +kernel
theorem d_MD_operation_112 : decode b_MD_operation 112 = .ok (.bipush 7, 2) := by decide +kernel
theorem d_MD_operation_114 : decode b_MD_operation 114 = .ok (.goto 4, 3) := by decide +kernel
theorem d_MD_operation_117 : decode b_MD_operation 117 = .ok (.iconst 4, 1) := by decide +kernel
theorem d_MD_operation_118 : decode b_MD_operation 118 = .ok (.putfield 71, 3) := by decide +kernel
theorem d_MD_operation_121 : decode b_MD_operation 121 = .ok (.aload_n 0, 1) := by decide +kernel
theorem d_MD_operation_122 : decode b_MD_operation 122 = .ok (.iload_n 3, 1) := by decide +kernel
theorem d_MD_operation_123 : decode b_MD_operation 123 = .ok (.aload_n 0, 1) := by decide +kernel
theorem d_MD_operation_124 : decode b_MD_operation 124 = .ok (.iload 4, 2) := by decide +kernel
theorem d_MD_operation_126 : decode b_MD_operation 126 = .ok (.invokevirtual 84, 3) := by decide +kernel
theorem d_MD_operation_129 : decode b_MD_operation 129 = .ok (.invokevirtual 112, 3) := by decide +kernel
theorem d_MD_operation_132 : decode b_MD_operation 132 = .ok (.goto 10, 3) := by decide +kernel
theorem d_MD_operation_135 : decode b_MD_operation 135 = .ok (.aload_n 0, 1) := by decide +kernel
theorem d_MD_operation_136 : decode b_MD_operation 136 = .ok (.iload_n 3, 1) := by decide +kernel
theorem d_MD_operation_137 : decode b_MD_operation 137 = .ok (.iload 4, 2) := by decide +kernel
theorem d_MD_operation_139 : decode b_MD_operation 139 = .ok (.invokevirtual 178, 3) := by decide +kernel
theorem d_MD_operation_142 : decode b_MD_operation 142 = .ok (.return_, 1) := by decide +kernel
theorem tw_402 : Jvm.Cond.code ⟨"ArcadeBoardModel", "operation", "()V"⟩ prog_11_method_28_code 5 (Option.none : Option Jvm.ClassFile.FieldType) ∈ AL := ab_in (ab_t4 (List.mem_of_getElem? (i := 74) (by decide +kernel))) rfl
theorem tw_403 : Jvm.Cond.instanceMethod ⟨"ArcadeBoardModel", "operation", "()V"⟩ ∈ AL := ab_in (ab_t4 (List.mem_of_getElem? (i := 73) (by decide +kernel))) rfl
theorem tw_404 : Cond.selects "ArcadeBoardModel" ⟨"ArcadeBoardModel", "operation", "()V"⟩ ⟨"ArcadeBoardModel", "operation", "()V"⟩ ∈ AL := ab_in (ab_s2 (List.mem_of_getElem? (i := 12) (by decide +kernel))) rfl
theorem tw_405 : Jvm.Cond.methodLink "ArcadeBoardModel" 178 ⟨"ArcadeBoardModel", "highOperation", "(II)V"⟩ ∈ AL := ab_in (ab_t4 (List.mem_of_getElem? (i := 123) (by decide +kernel))) rfl
theorem tw_406 : Jvm.Cond.methodLink "ArcadeBoardModel" 175 ⟨"ArcadeBoardModel", "lowOperation", "(II)V"⟩ ∈ AL := ab_in (ab_t4 (List.mem_of_getElem? (i := 83) (by decide +kernel))) rfl
theorem ok_MD_operation : ab_yok y_MD_operation b_MD_operation 5 none 0 := ⟨tw_402, tw_280, by decide, by decide, by decide +kernel⟩
theorem okv_MD_operation : ab_yok_V y_MD_operation := ⟨tw_403, tw_404⟩
set_option maxHeartbeats 1000000 in
set_option maxRecDepth 100000 in
theorem c_MD_operation (l : Launch) (D : va_G) (t : Nat → ClassId) (q : Nat → Nat) (u : SS) (ps : ab_snd (u 0 23)) : ab_kv l D (tyC t) (wM t q) y_MD_operation b_MD_operation 5 { frames := 5, cells := 0, slots := 0, locals := 109 } [.ref (q 0)] u (f_MD_operation u) := by
  refine ab_kv_ofW (by decide) (Nat.le_of_ble_eq_true rfl) (fun p e s m below meth c ls A X hr hk hl hX => ?_)
  have hl : lv_has ls 5 [(0, .ref (q 0))] := hl
  refine lv_aload_n (pc := 0) X.1 X.2.1 d_MD_operation_0 rfl (lv_at hl 0 rfl) ?_
  refine ab_ki_callV (pc := 1) (wr := []) (w := (wM t q)) (u := u) (F := f_MD_next u) (as := []) (rest := []) X hX (c_MD_next l D t q u) ok_MD_next okv_MD_next tw_300 0 9 rfl rfl rfl hl.1 rfl (Nat.le_of_ble_eq_true rfl) ⟨rfl, rfl, Nat.le_of_ble_eq_true rfl, Nat.le_of_ble_eq_true rfl⟩ ⟨Nat.zero_le _, Nat.zero_le _⟩ d_MD_operation_1 (fun H locs hX => ?_)
  refine lv_istore_n (pc := 4) (lv' := [(1, .int ((f_MD_next u).1)), (0, .ref (q 0))]) X.1 X.2.1 d_MD_operation_4 rfl hl (Nat.le_of_ble_eq_true rfl) rfl (fun ls hl => ?_)
  refine lv_iload_n (pc := 5) X.1 X.2.1 d_MD_operation_5 rfl (lv_at hl 0 rfl) ?_
  refine lv_bipush (pc := 6) (v := 6) X.1 X.2.1 d_MD_operation_6 (by decide) ?_
  refine lv_ishr (pc := 8) X.1 X.2.1 d_MD_operation_8 ?_
  refine lv_istore_n (pc := 9) (lv' := [(2, .int (((f_MD_next u).1) >>> ((6 : Int32) &&& 31))), (1, .int ((f_MD_next u).1)), (0, .ref (q 0))]) X.1 X.2.1 d_MD_operation_9 rfl hl (Nat.le_of_ble_eq_true rfl) rfl (fun ls hl => ?_)
  refine lv_iload_n (pc := 10) X.1 X.2.1 d_MD_operation_10 rfl (lv_at hl 1 rfl) ?_
  refine lv_iconst (pc := 11) (v := 3) X.1 X.2.1 d_MD_operation_11 (by decide) ?_
  refine lv_ishr (pc := 12) X.1 X.2.1 d_MD_operation_12 ?_
  refine lv_bipush (pc := 13) (v := 7) X.1 X.2.1 d_MD_operation_13 (by decide) ?_
  refine lv_iand (pc := 15) X.1 X.2.1 d_MD_operation_15 ?_
  refine lv_istore_n (pc := 16) (lv' := [(3, .int ((((f_MD_next u).1) >>> ((3 : Int32) &&& 31)) &&& 7)), (2, .int (((f_MD_next u).1) >>> ((6 : Int32) &&& 31))), (1, .int ((f_MD_next u).1)), (0, .ref (q 0))]) X.1 X.2.1 d_MD_operation_16 rfl hl (Nat.le_of_ble_eq_true rfl) rfl (fun ls hl => ?_)
  refine lv_iload_n (pc := 17) X.1 X.2.1 d_MD_operation_17 rfl (lv_at hl 2 rfl) ?_
  refine lv_bipush (pc := 18) (v := 7) X.1 X.2.1 d_MD_operation_18 (by decide) ?_
  refine lv_iand (pc := 20) X.1 X.2.1 d_MD_operation_20 ?_
  refine lv_istore (pc := 21) (lv' := [(4, .int (((f_MD_next u).1) &&& 7)), (3, .int ((((f_MD_next u).1) >>> ((3 : Int32) &&& 31)) &&& 7)), (2, .int (((f_MD_next u).1) >>> ((6 : Int32) &&& 31))), (1, .int ((f_MD_next u).1)), (0, .ref (q 0))]) X.1 X.2.1 d_MD_operation_21 hl (Nat.le_of_ble_eq_true rfl) rfl (fun ls hl => ?_)
  refine lv_iload_n (pc := 23) X.1 X.2.1 d_MD_operation_23 rfl (lv_at hl 3 rfl) ?_
  refine lv_bipush (pc := 24) (v := 118) X.1 X.2.1 d_MD_operation_24 (by decide) ?_
  refine lv_icmp_ne (pc := 26) (tgt := 43) X.1 X.2.1 d_MD_operation_26 (by decide) (fun h1 => ?_) (fun h1 => ?_)
  ·
    refine lv_iload_n (pc := 43) X.1 X.2.1 d_MD_operation_43 rfl (lv_at hl 2 rfl) ?_
    refine lv_if_ne (pc := 44) (tgt := 57) X.1 X.2.1 d_MD_operation_44 (by decide) (fun h2 => ?_) (fun h2 => ?_)
    ·
      refine lv_iload_n (pc := 57) X.1 X.2.1 d_MD_operation_57 rfl (lv_at hl 2 rfl) ?_
      refine lv_iconst (pc := 58) (v := 1) X.1 X.2.1 d_MD_operation_58 (by decide) ?_
      refine lv_icmp_ne (pc := 59) (tgt := 99) X.1 X.2.1 d_MD_operation_59 (by decide) (fun h3 => ?_) (fun h3 => ?_)
      ·
        refine lv_iload_n (pc := 99) X.1 X.2.1 d_MD_operation_99 rfl (lv_at hl 2 rfl) ?_
        refine lv_iconst (pc := 100) (v := 2) X.1 X.2.1 d_MD_operation_100 (by decide) ?_
        refine lv_icmp_ne (pc := 101) (tgt := 135) X.1 X.2.1 d_MD_operation_101 (by decide) (fun h4 => ?_) (fun h4 => ?_)
        ·
          refine lv_aload_n (pc := 135) X.1 X.2.1 d_MD_operation_135 rfl (lv_at hl 4 rfl) ?_
          refine lv_iload_n (pc := 136) X.1 X.2.1 d_MD_operation_136 rfl (lv_at hl 1 rfl) ?_
          refine lv_iload (pc := 137) X.1 X.2.1 d_MD_operation_137 (lv_at hl 0 rfl) ?_
          refine ab_kv_callV (pc := 139) (wr := []) (w := (wM t q)) (u := ((f_MD_next u).2)) (F := f_MD_highOperation ((f_MD_next u).2) ((((f_MD_next u).1) >>> ((3 : Int32) &&& 31)) &&& 7) (((f_MD_next u).1) &&& 7)) (as := [.int ((((f_MD_next u).1) >>> ((3 : Int32) &&& 31)) &&& 7), .int (((f_MD_next u).1) &&& 7)]) (rest := []) X hX (c_MD_highOperation l D t q ((f_MD_next u).2) ((((f_MD_next u).1) >>> ((3 : Int32) &&& 31)) &&& 7) (((f_MD_next u).1) &&& 7) (ab_and7 _) ps) ok_MD_highOperation okv_MD_highOperation tw_405 0 9 rfl rfl rfl hl.1 rfl (Nat.le_of_ble_eq_true rfl) ⟨rfl, rfl, Nat.le_of_ble_eq_true rfl, Nat.le_of_ble_eq_true rfl⟩ ⟨Nat.zero_le _, Nat.zero_le _⟩ d_MD_operation_139 (fun H locs hX => ?_)
          exact ab_kv_ret (pc := 142) X hr hk hX (by rw [f_MD_operation, if_neg h1, if_neg h2, if_neg h3, if_neg h4]) d_MD_operation_142
        ·
          refine lv_aload_n (pc := 104) X.1 X.2.1 d_MD_operation_104 rfl (lv_at hl 4 rfl) ?_
          refine lv_iload (pc := 105) X.1 X.2.1 d_MD_operation_105 (lv_at hl 0 rfl) ?_
          refine lv_bipush (pc := 107) (v := 6) X.1 X.2.1 d_MD_operation_107 (by decide) ?_
          refine ab_jn (ls := ls) (rest := [.ref (q 0)]) 118 (if (((f_MD_next u).1) &&& 7) = 6 then 7 else 4 : Int32) ?_ (fun J => ?_)
          rotate_left
          ·
            refine lv_icmp_ne (pc := 109) (tgt := 117) X.1 X.2.1 d_MD_operation_109 (by decide) (fun h5 => ?_) (fun h5 => ?_)
            ·
              refine lv_iconst (pc := 117) (v := 4) X.1 X.2.1 d_MD_operation_117 (by decide) ?_
              exact ab_jt (by rw [if_neg h5]) J
            ·
              refine lv_bipush (pc := 112) (v := 7) X.1 X.2.1 d_MD_operation_112 (by decide) ?_
              refine lv_goto (pc := 114) (tgt := 118) X.1 X.2.1 d_MD_operation_114 (by decide) ?_
              exact ab_jt (by rw [if_pos h5]) J
          refine ab_px (pc := 118) (ws' := (wM t q (stt ((f_MD_next u).2) 0 24 (if (((f_MD_next u).1) &&& 7) = 6 then 7 else 4 : Int32)))) X hX 0 9 29 ty_MD ty_MD_ok nm_MD rfl rfl (Nat.le_of_ble_eq_true rfl) in_MD rfl tw_351 rfl rfl rfl rfl (Nat.le_of_ble_eq_true rfl) (sf_wM_0_29 t q ((f_MD_next u).2) (if (((f_MD_next u).1) &&& 7) = 6 then 7 else 4 : Int32)) d_MD_operation_118 (fun H locs hX => ?_)
          refine lv_aload_n (pc := 121) X.1 X.2.1 d_MD_operation_121 rfl (lv_at hl 4 rfl) ?_
          refine lv_iload_n (pc := 122) X.1 X.2.1 d_MD_operation_122 rfl (lv_at hl 1 rfl) ?_
          refine lv_aload_n (pc := 123) X.1 X.2.1 d_MD_operation_123 rfl (lv_at hl 4 rfl) ?_
          refine lv_iload (pc := 124) X.1 X.2.1 d_MD_operation_124 (lv_at hl 0 rfl) ?_
          refine ab_kr_callV (pc := 126) (wr := []) (w := (wM t q)) (u := (stt ((f_MD_next u).2) 0 24 (if (((f_MD_next u).1) &&& 7) = 6 then 7 else 4 : Int32))) (r := f_MD_get (stt ((f_MD_next u).2) 0 24 (if (((f_MD_next u).1) &&& 7) = 6 then 7 else 4 : Int32)) (((f_MD_next u).1) &&& 7)) (as := [.int (((f_MD_next u).1) &&& 7)]) (rest := [.int ((((f_MD_next u).1) >>> ((3 : Int32) &&& 31)) &&& 7), .ref (q 0)]) X hX (c_MD_get l D t q (stt ((f_MD_next u).2) 0 24 (if (((f_MD_next u).1) &&& 7) = 6 then 7 else 4 : Int32)) (((f_MD_next u).1) &&& 7) (ab_and7 _)) ok_MD_get okv_MD_get tw_357 0 9 rfl rfl rfl hl.1 rfl (Nat.le_of_ble_eq_true rfl) ⟨rfl, rfl, Nat.le_of_ble_eq_true rfl, Nat.le_of_ble_eq_true rfl⟩ ⟨Nat.zero_le _, Nat.zero_le _⟩ d_MD_operation_126 (fun H locs hX => ?_)
          refine ab_kv_callV (pc := 129) (wr := []) (w := (wM t q)) (u := (stt ((f_MD_next u).2) 0 24 (if (((f_MD_next u).1) &&& 7) = 6 then 7 else 4 : Int32))) (F := f_MD_operate (stt ((f_MD_next u).2) 0 24 (if (((f_MD_next u).1) &&& 7) = 6 then 7 else 4 : Int32)) ((((f_MD_next u).1) >>> ((3 : Int32) &&& 31)) &&& 7) (f_MD_get (stt ((f_MD_next u).2) 0 24 (if (((f_MD_next u).1) &&& 7) = 6 then 7 else 4 : Int32)) (((f_MD_next u).1) &&& 7))) (as := [.int ((((f_MD_next u).1) >>> ((3 : Int32) &&& 31)) &&& 7), .int (f_MD_get (stt ((f_MD_next u).2) 0 24 (if (((f_MD_next u).1) &&& 7) = 6 then 7 else 4 : Int32)) (((f_MD_next u).1) &&& 7))]) (rest := []) X hX (c_MD_operate l D t q (stt ((f_MD_next u).2) 0 24 (if (((f_MD_next u).1) &&& 7) = 6 then 7 else 4 : Int32)) ((((f_MD_next u).1) >>> ((3 : Int32) &&& 31)) &&& 7) (f_MD_get (stt ((f_MD_next u).2) 0 24 (if (((f_MD_next u).1) &&& 7) = 6 then 7 else 4 : Int32)) (((f_MD_next u).1) &&& 7))) ok_MD_operate okv_MD_operate tw_392 0 9 rfl rfl rfl hl.1 rfl (Nat.le_of_ble_eq_true rfl) ⟨rfl, rfl, Nat.le_of_ble_eq_true rfl, Nat.le_of_ble_eq_true rfl⟩ ⟨Nat.zero_le _, Nat.zero_le _⟩ d_MD_operation_129 (fun H locs hX => ?_)
          refine lv_goto (pc := 132) (tgt := 142) X.1 X.2.1 d_MD_operation_132 (by decide) ?_
          exact ab_kv_ret (pc := 142) X hr hk hX (by rw [f_MD_operation, if_neg h1, if_neg h2, if_neg h3, if_pos h4]) d_MD_operation_142
      ·
        refine lv_aload_n (pc := 62) X.1 X.2.1 d_MD_operation_62 rfl (lv_at hl 4 rfl) ?_
        refine lv_iload_n (pc := 63) X.1 X.2.1 d_MD_operation_63 rfl (lv_at hl 1 rfl) ?_
        refine lv_bipush (pc := 64) (v := 6) X.1 X.2.1 d_MD_operation_64 (by decide) ?_
        refine ab_jn (ls := ls) (rest := [.ref (q 0)]) 82 (if ((((f_MD_next u).1) >>> ((3 : Int32) &&& 31)) &&& 7) = 6 then 7 else (if (((f_MD_next u).1) &&& 7) = 6 then 7 else 5 : Int32) : Int32) ?_ (fun J => ?_)
        rotate_left
        ·
          refine lv_icmp_eq (pc := 66) (tgt := 76) X.1 X.2.1 d_MD_operation_66 (by decide) (fun h6 => ?_) (fun h6 => ?_)
          ·
            refine lv_bipush (pc := 76) (v := 7) X.1 X.2.1 d_MD_operation_76 (by decide) ?_
            refine lv_goto (pc := 78) (tgt := 82) X.1 X.2.1 d_MD_operation_78 (by decide) ?_
            exact ab_jt (by rw [if_pos h6]) J
          ·
            refine lv_iload (pc := 69) X.1 X.2.1 d_MD_operation_69 (lv_at hl 0 rfl) ?_
            refine lv_bipush (pc := 71) (v := 6) X.1 X.2.1 d_MD_operation_71 (by decide) ?_
            refine lv_icmp_ne (pc := 73) (tgt := 81) X.1 X.2.1 d_MD_operation_73 (by decide) (fun h7 => ?_) (fun h7 => ?_)
            ·
              refine lv_iconst (pc := 81) (v := 5) X.1 X.2.1 d_MD_operation_81 (by decide) ?_
              exact ab_jt (by rw [if_neg h6, if_neg h7]) J
            ·
              refine lv_bipush (pc := 76) (v := 7) X.1 X.2.1 d_MD_operation_76 (by decide) ?_
              refine lv_goto (pc := 78) (tgt := 82) X.1 X.2.1 d_MD_operation_78 (by decide) ?_
              exact ab_jt (by rw [if_neg h6, if_pos h7]) J
        refine ab_px (pc := 82) (ws' := (wM t q (stt ((f_MD_next u).2) 0 24 (if ((((f_MD_next u).1) >>> ((3 : Int32) &&& 31)) &&& 7) = 6 then 7 else (if (((f_MD_next u).1) &&& 7) = 6 then 7 else 5 : Int32) : Int32)))) X hX 0 9 29 ty_MD ty_MD_ok nm_MD rfl rfl (Nat.le_of_ble_eq_true rfl) in_MD rfl tw_351 rfl rfl rfl rfl (Nat.le_of_ble_eq_true rfl) (sf_wM_0_29 t q ((f_MD_next u).2) (if ((((f_MD_next u).1) >>> ((3 : Int32) &&& 31)) &&& 7) = 6 then 7 else (if (((f_MD_next u).1) &&& 7) = 6 then 7 else 5 : Int32) : Int32)) d_MD_operation_82 (fun H locs hX => ?_)
        refine lv_aload_n (pc := 85) X.1 X.2.1 d_MD_operation_85 rfl (lv_at hl 4 rfl) ?_
        refine lv_iload_n (pc := 86) X.1 X.2.1 d_MD_operation_86 rfl (lv_at hl 1 rfl) ?_
        refine lv_aload_n (pc := 87) X.1 X.2.1 d_MD_operation_87 rfl (lv_at hl 4 rfl) ?_
        refine lv_iload (pc := 88) X.1 X.2.1 d_MD_operation_88 (lv_at hl 0 rfl) ?_
        refine ab_kr_callV (pc := 90) (wr := []) (w := (wM t q)) (u := (stt ((f_MD_next u).2) 0 24 (if ((((f_MD_next u).1) >>> ((3 : Int32) &&& 31)) &&& 7) = 6 then 7 else (if (((f_MD_next u).1) &&& 7) = 6 then 7 else 5 : Int32) : Int32))) (r := f_MD_get (stt ((f_MD_next u).2) 0 24 (if ((((f_MD_next u).1) >>> ((3 : Int32) &&& 31)) &&& 7) = 6 then 7 else (if (((f_MD_next u).1) &&& 7) = 6 then 7 else 5 : Int32) : Int32)) (((f_MD_next u).1) &&& 7)) (as := [.int (((f_MD_next u).1) &&& 7)]) (rest := [.int ((((f_MD_next u).1) >>> ((3 : Int32) &&& 31)) &&& 7), .ref (q 0)]) X hX (c_MD_get l D t q (stt ((f_MD_next u).2) 0 24 (if ((((f_MD_next u).1) >>> ((3 : Int32) &&& 31)) &&& 7) = 6 then 7 else (if (((f_MD_next u).1) &&& 7) = 6 then 7 else 5 : Int32) : Int32)) (((f_MD_next u).1) &&& 7) (ab_and7 _)) ok_MD_get okv_MD_get tw_357 0 9 rfl rfl rfl hl.1 rfl (Nat.le_of_ble_eq_true rfl) ⟨rfl, rfl, Nat.le_of_ble_eq_true rfl, Nat.le_of_ble_eq_true rfl⟩ ⟨Nat.zero_le _, Nat.zero_le _⟩ d_MD_operation_90 (fun H locs hX => ?_)
        refine ab_kv_callV (pc := 93) (wr := []) (w := (wM t q)) (u := (stt ((f_MD_next u).2) 0 24 (if ((((f_MD_next u).1) >>> ((3 : Int32) &&& 31)) &&& 7) = 6 then 7 else (if (((f_MD_next u).1) &&& 7) = 6 then 7 else 5 : Int32) : Int32))) (F := f_MD_set (stt ((f_MD_next u).2) 0 24 (if ((((f_MD_next u).1) >>> ((3 : Int32) &&& 31)) &&& 7) = 6 then 7 else (if (((f_MD_next u).1) &&& 7) = 6 then 7 else 5 : Int32) : Int32)) ((((f_MD_next u).1) >>> ((3 : Int32) &&& 31)) &&& 7) (f_MD_get (stt ((f_MD_next u).2) 0 24 (if ((((f_MD_next u).1) >>> ((3 : Int32) &&& 31)) &&& 7) = 6 then 7 else (if (((f_MD_next u).1) &&& 7) = 6 then 7 else 5 : Int32) : Int32)) (((f_MD_next u).1) &&& 7))) (as := [.int ((((f_MD_next u).1) >>> ((3 : Int32) &&& 31)) &&& 7), .int (f_MD_get (stt ((f_MD_next u).2) 0 24 (if ((((f_MD_next u).1) >>> ((3 : Int32) &&& 31)) &&& 7) = 6 then 7 else (if (((f_MD_next u).1) &&& 7) = 6 then 7 else 5 : Int32) : Int32)) (((f_MD_next u).1) &&& 7))]) (rest := []) X hX (c_MD_set l D t q (stt ((f_MD_next u).2) 0 24 (if ((((f_MD_next u).1) >>> ((3 : Int32) &&& 31)) &&& 7) = 6 then 7 else (if (((f_MD_next u).1) &&& 7) = 6 then 7 else 5 : Int32) : Int32)) ((((f_MD_next u).1) >>> ((3 : Int32) &&& 31)) &&& 7) (f_MD_get (stt ((f_MD_next u).2) 0 24 (if ((((f_MD_next u).1) >>> ((3 : Int32) &&& 31)) &&& 7) = 6 then 7 else (if (((f_MD_next u).1) &&& 7) = 6 then 7 else 5 : Int32) : Int32)) (((f_MD_next u).1) &&& 7)) (ab_and7 _)) ok_MD_set okv_MD_set tw_356 0 9 rfl rfl rfl hl.1 rfl (Nat.le_of_ble_eq_true rfl) ⟨rfl, rfl, Nat.le_of_ble_eq_true rfl, Nat.le_of_ble_eq_true rfl⟩ ⟨Nat.zero_le _, Nat.zero_le _⟩ d_MD_operation_93 (fun H locs hX => ?_)
        refine lv_goto (pc := 96) (tgt := 142) X.1 X.2.1 d_MD_operation_96 (by decide) ?_
        exact ab_kv_ret (pc := 142) X hr hk hX (by rw [f_MD_operation, if_neg h1, if_neg h2, if_pos h3]) d_MD_operation_142
    ·
      refine lv_aload_n (pc := 47) X.1 X.2.1 d_MD_operation_47 rfl (lv_at hl 4 rfl) ?_
      refine lv_iload_n (pc := 48) X.1 X.2.1 d_MD_operation_48 rfl (lv_at hl 1 rfl) ?_
      refine lv_iload (pc := 49) X.1 X.2.1 d_MD_operation_49 (lv_at hl 0 rfl) ?_
      refine ab_kv_callV (pc := 51) (wr := []) (w := (wM t q)) (u := ((f_MD_next u).2)) (F := f_MD_lowOperation ((f_MD_next u).2) ((((f_MD_next u).1) >>> ((3 : Int32) &&& 31)) &&& 7) (((f_MD_next u).1) &&& 7)) (as := [.int ((((f_MD_next u).1) >>> ((3 : Int32) &&& 31)) &&& 7), .int (((f_MD_next u).1) &&& 7)]) (rest := []) X hX (c_MD_lowOperation l D t q ((f_MD_next u).2) ((((f_MD_next u).1) >>> ((3 : Int32) &&& 31)) &&& 7) (((f_MD_next u).1) &&& 7) (ab_and7 _)) ok_MD_lowOperation okv_MD_lowOperation tw_406 0 9 rfl rfl rfl hl.1 rfl (Nat.le_of_ble_eq_true rfl) ⟨rfl, rfl, Nat.le_of_ble_eq_true rfl, Nat.le_of_ble_eq_true rfl⟩ ⟨Nat.zero_le _, Nat.zero_le _⟩ d_MD_operation_51 (fun H locs hX => ?_)
      refine lv_goto (pc := 54) (tgt := 142) X.1 X.2.1 d_MD_operation_54 (by decide) ?_
      exact ab_kv_ret (pc := 142) X hr hk hX (by rw [f_MD_operation, if_neg h1, if_pos h2]) d_MD_operation_142
  ·
    refine lv_aload_n (pc := 29) X.1 X.2.1 d_MD_operation_29 rfl (lv_at hl 4 rfl) ?_
    refine lv_iconst (pc := 30) (v := 1) X.1 X.2.1 d_MD_operation_30 (by decide) ?_
    refine ab_px (pc := 31) (ws' := (wM t q (stt ((f_MD_next u).2) 0 13 1))) X hX 0 9 15 ty_MD ty_MD_ok nm_MD rfl rfl (Nat.le_of_ble_eq_true rfl) in_MD rfl tw_400 rfl rfl rfl rfl (Nat.le_of_ble_eq_true rfl) (sf_wM_0_15 t q ((f_MD_next u).2) 1) d_MD_operation_31 (fun H locs hX => ?_)
    refine lv_aload_n (pc := 34) X.1 X.2.1 d_MD_operation_34 rfl (lv_at hl 4 rfl) ?_
    refine lv_bipush (pc := 35) (v := 7) X.1 X.2.1 d_MD_operation_35 (by decide) ?_
    refine ab_px (pc := 37) (ws' := (wM t q (stt (stt ((f_MD_next u).2) 0 13 1) 0 24 7))) X hX 0 9 29 ty_MD ty_MD_ok nm_MD rfl rfl (Nat.le_of_ble_eq_true rfl) in_MD rfl tw_351 rfl rfl rfl rfl (Nat.le_of_ble_eq_true rfl) (sf_wM_0_29 t q (stt ((f_MD_next u).2) 0 13 1) 7) d_MD_operation_37 (fun H locs hX => ?_)
    refine lv_goto (pc := 40) (tgt := 142) X.1 X.2.1 d_MD_operation_40 (by decide) ?_
    exact ab_kv_ret (pc := 142) X hr hk hX (by rw [f_MD_operation, if_pos h1]) d_MD_operation_142
abbrev b_MD_step : ByteArray := prog_11_method_27_code
def y_MD_step : MethodName := ⟨"ArcadeBoardModel", "step", "()V"⟩
theorem d_MD_step_0 : decode b_MD_step 0 = .ok (.aload_n 0, 1) := by decide +kernel
theorem d_MD_step_1 : decode b_MD_step 1 = .ok (.getfield 127, 3) := by decide +kernel
theorem d_MD_step_4 : decode b_MD_step 4 = .ok (.istore_n 1, 1) := by decide +kernel
theorem d_MD_step_5 : decode b_MD_step 5 = .ok (.aload_n 0, 1) := by decide +kernel
theorem d_MD_step_6 : decode b_MD_step 6 = .ok (.iconst 0, 1) := by decide +kernel
theorem d_MD_step_7 : decode b_MD_step 7 = .ok (.putfield 127, 3) := by decide +kernel
theorem d_MD_step_10 : decode b_MD_step 10 = .ok (.aload_n 0, 1) := by decide +kernel
theorem d_MD_step_11 : decode b_MD_step 11 = .ok (.getfield 124, 3) := by decide +kernel
theorem d_MD_step_14 : decode b_MD_step 14 = .ok (.ifCond .eq 57, 3) := by decide +kernel
theorem d_MD_step_17 : decode b_MD_step 17 = .ok (.iload_n 1, 1) := by decide +kernel
theorem d_MD_step_18 : decode b_MD_step 18 = .ok (.ifCond .ne 53, 3) := by decide +kernel
theorem d_MD_step_21 : decode b_MD_step 21 = .ok (.aload_n 0, 1) := by decide +kernel
theorem d_MD_step_22 : decode b_MD_step 22 = .ok (.getfield 160, 3) := by decide +kernel
theorem d_MD_step_25 : decode b_MD_step 25 = .ok (.ifCond .le 46, 3) := by decide +kernel
theorem d_MD_step_28 : decode b_MD_step 28 = .ok (.aload_n 0, 1) := by decide +kernel
theorem d_MD_step_29 : decode b_MD_step 29 = .ok (.iconst 0, 1) := by decide +kernel
theorem d_MD_step_30 : decode b_MD_step 30 = .ok (.putfield 124, 3) := by decide +kernel
theorem d_MD_step_33 : decode b_MD_step 33 = .ok (.aload_n 0, 1) := by decide +kernel
theorem d_MD_step_34 : decode b_MD_step 34 = .ok (.iconst 0, 1) := by decide +kernel
theorem d_MD_step_35 : decode b_MD_step 35 = .ok (.putfield 157, 3) := by decide +kernel
theorem d_MD_step_38 : decode b_MD_step 38 = .ok (.aload_n 0, 1) := by decide +kernel
theorem d_MD_step_39 : decode b_MD_step 39 = .ok (.aload_n 0, 1) := by decide +kernel
theorem d_MD_step_40 : decode b_MD_step 40 = .ok (.getfield 30, 3) := by decide +kernel
theorem d_MD_step_43 : decode b_MD_step 43 = .ok (.invokevirtual 106, 3) := by decide +kernel
theorem d_MD_step_46 : decode b_MD_step 46 = .ok (.aload_n 0, 1) := by decide +kernel
theorem d_MD_step_47 : decode b_MD_step 47 = .ok (.bipush 8, 2) := by decide +kernel
theorem d_MD_step_49 : decode b_MD_step 49 = .ok (.aload_n 0, 1) := by decide +kernel
theorem d_MD_step_50 : decode b_MD_step 50 = .ok (.getfield 160, 3) := by decide +kernel
theorem d_MD_step_53 : decode b_MD_step 53 = .ok (.imul, 1) := by decide +kernel
theorem d_MD_step_54 : decode b_MD_step 54 = .ok (.putfield 30, 3) := by decide +kernel
theorem d_MD_step_57 : decode b_MD_step 57 = .ok (.aload_n 0, 1) := by decide +kernel
theorem d_MD_step_58 : decode b_MD_step 58 = .ok (.iconst 0, 1) := by decide +kernel
theorem d_MD_step_59 : decode b_MD_step 59 = .ok (.putfield 160, 3) := by decide +kernel
theorem d_MD_step_62 : decode b_MD_step 62 = .ok (.aload_n 0, 1) := by decide +kernel
theorem d_MD_step_63 : decode b_MD_step 63 = .ok (.bipush 11, 2) := by decide +kernel
theorem d_MD_step_65 : decode b_MD_step 65 = .ok (.putfield 71, 3) := by decide +kernel
theorem d_MD_step_68 : decode b_MD_step 68 = .ok (.goto 22, 3) := by decide +kernel
theorem d_MD_step_71 : decode b_MD_step 71 = .ok (.aload_n 0, 1) := by decide +kernel
theorem d_MD_step_72 : decode b_MD_step 72 = .ok (.getfield 157, 3) := by decide +kernel
theorem d_MD_step_75 : decode b_MD_step 75 = .ok (.ifCond .eq 11, 3) := by decide +kernel
theorem d_MD_step_78 : decode b_MD_step 78 = .ok (.aload_n 0, 1) := by decide +kernel
theorem d_MD_step_79 : decode b_MD_step 79 = .ok (.iconst 4, 1) := by decide +kernel
theorem d_MD_step_80 : decode b_MD_step 80 = .ok (.putfield 71, 3) := by decide +kernel
theorem d_MD_step_83 : decode b_MD_step 83 = .ok (.goto 7, 3) := by decide +kernel
theorem d_MD_step_86 : decode b_MD_step 86 = .ok (.aload_n 0, 1) := by decide +kernel
theorem d_MD_step_87 : decode b_MD_step 87 = .ok (.invokevirtual 163, 3) := by decide +kernel
theorem d_MD_step_90 : decode b_MD_step 90 = .ok (.aload_n 0, 1) := by decide +kernel
theorem d_MD_step_91 : decode b_MD_step 91 = .ok (.getfield 166, 3) := by decide +kernel
theorem d_MD_step_94 : decode b_MD_step 94 = .ok (.istore_n 2, 1) := by decide +kernel
theorem d_MD_step_95 : decode b_MD_step 95 = .ok (.aload_n 0, 1) := by decide +kernel
theorem d_MD_step_96 : decode b_MD_step 96 = .ok (.dup, 1) := by decide +kernel
theorem d_MD_step_97 : decode b_MD_step 97 = .ok (.getfield 166, 3) := by decide +kernel
theorem d_MD_step_100 : decode b_MD_step 100 = .ok (.aload_n 0, 1) := by decide +kernel
theorem d_MD_step_101 : decode b_MD_step 101 = .ok (.getfield 71, 3) := by decide +kernel
theorem d_MD_step_104 : decode b_MD_step 104 = .ok (.iadd, 1) := by decide +kernel
theorem d_MD_step_105 : decode b_MD_step 105 = .ok (.putfield 166, 3) := by decide +kernel
theorem d_MD_step_108 : decode b_MD_step 108 = .ok (.aload_n 0, 1) := by decide +kernel
theorem d_MD_step_109 : decode b_MD_step 109 = .ok (.iload_n 2, 1) := by decide +kernel
theorem d_MD_step_110 : decode b_MD_step 110 = .ok (.sipush 1024, 3) := by decide +kernel
theorem d_MD_step_113 : decode b_MD_step 113 = .ok (.if_icmp .ge 17, 3) := by decide +kernel
theorem d_MD_step_116 : decode b_MD_step 116 = .ok (.aload_n 0, 1) := by decide +kernel
theorem d_MD_step_117 : decode b_MD_step 117 = .ok (.getfield 166, 3) := by decide +kernel
theorem d_MD_step_120 : decode b_MD_step 120 = .ok (.sipush 1024, 3) := by decide +kernel
theorem d_MD_step_123 : decode b_MD_step 123 = .ok (.if_icmp .lt 7, 3) := by decide +kernel
theorem d_MD_step_126 : decode b_MD_step 126 = .ok (.iconst 1, 1) := by decide +kernel
theorem d_MD_step_127 : decode b_MD_step 127 = .ok (.goto 28, 3) := by decide +kernel
theorem d_MD_step_130 : decode b_MD_step 130 = .ok (.iload_n 2, 1) := by decide +kernel
theorem d_MD_step_131 : decode b_MD_step 131 = .ok (.sipush 2048, 3) := by decide +kernel
theorem d_MD_step_134 : decode b_MD_step 134 = .ok (.if_icmp .ge 17, 3) := by decide +kernel
theorem d_MD_step_137 : decode b_MD_step 137 = .ok (.aload_n 0, 1) := by decide +kernel
theorem d_MD_step_138 : decode b_MD_step 138 = .ok (.getfield 166, 3) := by decide +kernel
theorem d_MD_step_141 : decode b_MD_step 141 = .ok (.sipush 2048, 3) := by decide +kernel
theorem d_MD_step_144 : decode b_MD_step 144 = .ok (.if_icmp .lt 7, 3) := by decide +kernel
theorem d_MD_step_147 : decode b_MD_step 147 = .ok (.iconst 2, 1) := by decide +kernel
theorem d_MD_step_148 : decode b_MD_step 148 = .ok (.goto 7, 3) := by decide +kernel
theorem d_MD_step_151 : decode b_MD_step 151 = .ok (.aload_n 0, 1) := by decide +kernel
theorem d_MD_step_152 : decode b_MD_step 152 = .ok (.getfield 160, 3) := by decide +kernel
theorem d_MD_step_155 : decode b_MD_step 155 = .ok (.putfield 160, 3) := by decide +kernel
theorem d_MD_step_158 : decode b_MD_step 158 = .ok (.aload_n 0, 1) := by decide +kernel
theorem d_MD_step_159 : decode b_MD_step 159 = .ok (.getfield 166, 3) := by decide +kernel
theorem d_MD_step_162 : decode b_MD_step 162 = .ok (.sipush 2560, 3) := by decide +kernel
theorem d_MD_step_165 : decode b_MD_step 165 = .ok (.if_icmp .lt 68, 3) := by decide +kernel
theorem d_MD_step_168 : decode b_MD_step 168 = .ok (.aload_n 0, 1) := by decide +kernel
theorem d_MD_step_169 : decode b_MD_step 169 = .ok (.dup, 1) := by decide +kernel
theorem d_MD_step_170 : decode b_MD_step 170 = .ok (.getfield 166, 3) := by decide +kernel
theorem d_MD_step_173 : decode b_MD_step 173 = .ok (.sipush 2560, 3) := by decide +kernel
theorem d_MD_step_176 : decode b_MD_step 176 = .ok (.isub, 1) := by decide +kernel
theorem d_MD_step_177 : decode b_MD_step 177 = .ok (.putfield 166, 3) := by decide +kernel
theorem d_MD_step_180 : decode b_MD_step 180 = .ok (.aload_n 0, 1) := by decide +kernel
theorem d_MD_step_181 : decode b_MD_step 181 = .ok (.dup, 1) := by decide +kernel
theorem d_MD_step_182 : decode b_MD_step 182 = .ok (.getfield 169, 3) := by decide +kernel
theorem d_MD_step_185 : decode b_MD_step 185 = .ok (.iconst 1, 1) := by decide +kernel
theorem d_MD_step_186 : decode b_MD_step 186 = .ok (.iadd, 1) := by decide +kernel
theorem d_MD_step_187 : decode b_MD_step 187 = .ok (.putfield 169, 3) := by decide +kernel
theorem d_MD_step_190 : decode b_MD_step 190 = .ok (.aload_n 0, 1) := by decide +kernel
theorem d_MD_step_191 : decode b_MD_step 191 = .ok (.aload_n 0, 1) := by decide +kernel
theorem d_MD_step_192 : decode b_MD_step 192 = .ok (.getfield 136, 3) := by decide +kernel
theorem d_MD_step_195 : decode b_MD_step 195 = .ok (.ifCond .le 12, 3) := by decide +kernel
theorem d_MD_step_198 : decode b_MD_step 198 = .ok (.aload_n 0, 1) := by decide +kernel
theorem d_MD_step_199 : decode b_MD_step 199 = .ok (.getfield 136, 3) := by decide +kernel
theorem d_MD_step_202 : decode b_MD_step 202 = .ok (.iconst 1, 1) := by decide +kernel
theorem d_MD_step_203 : decode b_MD_step 203 = .ok (.isub, 1) := by decide +kernel
theorem d_MD_step_204 : decode b_MD_step 204 = .ok (.goto 4, 3) := by decide +kernel
theorem d_MD_step_207 : decode b_MD_step 207 = .ok (.iconst 0, 1) := by decide +kernel
theorem d_MD_step_208 : decode b_MD_step 208 = .ok (.putfield 136, 3) := by decide +kernel
theorem d_MD_step_211 : decode b_MD_step 211 = .ok (.aload_n 0, 1) := by decide +kernel
theorem d_MD_step_212 : decode b_MD_step 212 = .ok (.dup, 1) := by decide +kernel
theorem d_MD_step_213 : decode b_MD_step 213 = .ok (.getfield 145, 3) := by decide +kernel
theorem d_MD_step_216 : decode b_MD_step 216 = .ok (.iconst 1, 1) := by decide +kernel
theorem d_MD_step_217 : decode b_MD_step 217 = .ok (.iadd, 1) := by decide +kernel
theorem d_MD_step_218 : decode b_MD_step 218 = .ok (.putfield 145, 3) := by decide +kernel
theorem d_MD_step_221 : decode b_MD_step 221 = .ok (.aload_n 0, 1) := by decide +kernel
theorem d_MD_step_222 : decode b_MD_step 222 = .ok (.getfield 145, 3) := by decide +kernel
theorem d_MD_step_225 : decode b_MD_step 225 = .ok (.iconst 4, 1) := by decide +kernel
theorem d_MD_step_226 : decode b_MD_step 226 = .ok (.if_icmp .ne 7, 3) := by decide +kernel
theorem d_MD_step_229 : decode b_MD_step 229 = .ok (.aload_n 0, 1) := by decide +kernel
theorem d_MD_step_230 : decode b_MD_step 230 = .ok (.invokevirtual 172, 3) := by decide +kernel
theorem d_MD_step_233 : decode b_MD_step 233 = .ok (.return_, 1) := by decide +kernel
theorem tw_407 : Jvm.Cond.code ⟨"ArcadeBoardModel", "step", "()V"⟩ prog_11_method_27_code 3 (Option.none : Option Jvm.ClassFile.FieldType) ∈ AL := ab_in (ab_t4 (List.mem_of_getElem? (i := 62) (by decide +kernel))) rfl
theorem tw_408 : Jvm.Cond.instanceMethod ⟨"ArcadeBoardModel", "step", "()V"⟩ ∈ AL := ab_in (ab_t4 (List.mem_of_getElem? (i := 61) (by decide +kernel))) rfl
theorem tw_409 : Cond.selects "ArcadeBoardModel" ⟨"ArcadeBoardModel", "step", "()V"⟩ ⟨"ArcadeBoardModel", "step", "()V"⟩ ∈ AL := ab_in (ab_s2 (List.mem_of_getElem? (i := 9) (by decide +kernel))) rfl
theorem tw_410 : Jvm.Cond.methodLink "ArcadeBoardModel" 163 ⟨"ArcadeBoardModel", "operation", "()V"⟩ ∈ AL := ab_in (ab_t4 (List.mem_of_getElem? (i := 71) (by decide +kernel))) rfl
theorem tw_411 : Jvm.Cond.fieldLink "ArcadeBoardModel" 166 "ArcadeBoardModel" "time" "I" ∈ AL := ab_in (ab_t3 (List.mem_of_getElem? (i := 198) (by decide +kernel))) rfl
theorem tw_412 : Jvm.Cond.fieldLink "ArcadeBoardModel" 169 "ArcadeBoardModel" "frames" "I" ∈ AL := ab_in (ab_t3 (List.mem_of_getElem? (i := 199) (by decide +kernel))) rfl
theorem tw_413 : Jvm.Cond.methodLink "ArcadeBoardModel" 172 ⟨"ArcadeBoardModel", "reset", "()V"⟩ ∈ AL := ab_in (ab_t4 (List.mem_of_getElem? (i := 47) (by decide +kernel))) rfl
theorem ok_MD_step : ab_yok y_MD_step b_MD_step 3 none 0 := ⟨tw_407, tw_280, by decide, by decide, by decide +kernel⟩
theorem okv_MD_step : ab_yok_V y_MD_step := ⟨tw_408, tw_409⟩
set_option maxHeartbeats 1000000 in
set_option maxRecDepth 100000 in
theorem k_MD_step_90 {p : Program} {l : Launch} {e : Env} {s : State} {m : MethodId} {args : Array Value} {below : List Frame} {meth : Method} {c : Code} {A : Nat → Prop} {D : va_G} {t : Nat → ClassId} {q : Nat → Nat} (X : ab_cx p s m args c b_MD_step 3 y_MD_step.cls D (tyC t)) (hr : meth.sig.returnType = none) (hk : meth.locks = false) (u : SS) {H : Heap} {locs : List Loc} {ls : Array Slot} (hX : ab_hx D (wM t q u) A s.heap H locs) (hl : lv_has ls 3 [(0, .ref (q 0))]) :
    W p l e { frames := 6, cells := 0, slots := 0, locals := 133 } s m args below meth c H locs 0 0 (ab_kv_E below args s D (tyC t) (wM t q) A (g_MD_step_90 u)) (F0 m 90 ls []) := by
  refine lv_aload_n (pc := 90) X.1 X.2.1 d_MD_step_90 rfl (lv_at hl 0 rfl) ?_
  refine ab_gx (pc := 91) (v := .int (u 0 18)) X hX 0 9 20 rfl rfl (Nat.le_of_ble_eq_true rfl) in_MD rfl tw_411 rfl d_MD_step_91 ?_
  refine lv_istore_n (pc := 94) (lv' := [(2, .int (u 0 18)), (0, .ref (q 0))]) X.1 X.2.1 d_MD_step_94 rfl hl (Nat.le_of_ble_eq_true rfl) rfl (fun ls hl => ?_)
  refine lv_aload_n (pc := 95) X.1 X.2.1 d_MD_step_95 rfl (lv_at hl 1 rfl) ?_
  refine lv_dup (pc := 96) X.1 X.2.1 d_MD_step_96 rfl ?_
  refine ab_gx (pc := 97) (v := .int (u 0 18)) X hX 0 9 20 rfl rfl (Nat.le_of_ble_eq_true rfl) in_MD rfl tw_411 rfl d_MD_step_97 ?_
  refine lv_aload_n (pc := 100) X.1 X.2.1 d_MD_step_100 rfl (lv_at hl 1 rfl) ?_
  refine ab_gx (pc := 101) (v := .int (u 0 24)) X hX 0 9 29 rfl rfl (Nat.le_of_ble_eq_true rfl) in_MD rfl tw_351 rfl d_MD_step_101 ?_
  refine lv_iadd (pc := 104) X.1 X.2.1 d_MD_step_104 ?_
  refine ab_px (pc := 105) (ws' := (wM t q (stt u 0 18 ((u 0 18) + (u 0 24))))) X hX 0 9 20 ty_MD ty_MD_ok nm_MD rfl rfl (Nat.le_of_ble_eq_true rfl) in_MD rfl tw_411 rfl rfl rfl rfl (Nat.le_of_ble_eq_true rfl) (sf_wM_0_20 t q u ((u 0 18) + (u 0 24))) d_MD_step_105 (fun H locs hX => ?_)
  refine lv_aload_n (pc := 108) X.1 X.2.1 d_MD_step_108 rfl (lv_at hl 1 rfl) ?_
  refine lv_iload_n (pc := 109) X.1 X.2.1 d_MD_step_109 rfl (lv_at hl 0 rfl) ?_
  refine lv_sipush (pc := 110) (v := 1024) X.1 X.2.1 d_MD_step_110 (by decide) ?_
  refine ab_jn (ls := ls) (rest := [.ref (q 0)]) 155 (if 1024 ≤ (u 0 18) then (if 2048 ≤ (u 0 18) then (u 0 14) else (if ((u 0 18) + (u 0 24)) < 2048 then (u 0 14) else 2 : Int32) : Int32) else (if ((u 0 18) + (u 0 24)) < 1024 then (if 2048 ≤ (u 0 18) then (u 0 14) else (if ((u 0 18) + (u 0 24)) < 2048 then (u 0 14) else 2 : Int32) : Int32) else 1 : Int32) : Int32) ?_ (fun J => ?_)
  rotate_left
  ·
    refine lv_icmp_ge (pc := 113) (tgt := 130) X.1 X.2.1 d_MD_step_113 (by decide) (fun h7 => ?_) (fun h7 => ?_)
    ·
      refine lv_iload_n (pc := 130) X.1 X.2.1 d_MD_step_130 rfl (lv_at hl 0 rfl) ?_
      refine lv_sipush (pc := 131) (v := 2048) X.1 X.2.1 d_MD_step_131 (by decide) ?_
      refine lv_icmp_ge (pc := 134) (tgt := 151) X.1 X.2.1 d_MD_step_134 (by decide) (fun h8 => ?_) (fun h8 => ?_)
      ·
        refine lv_aload_n (pc := 151) X.1 X.2.1 d_MD_step_151 rfl (lv_at hl 1 rfl) ?_
        refine ab_gx (pc := 152) (v := .int (u 0 14)) X hX 0 9 16 rfl rfl (Nat.le_of_ble_eq_true rfl) in_MD rfl tw_401 rfl d_MD_step_152 ?_
        exact ab_jt (by rw [if_pos h7, if_pos h8]) J
      ·
        refine lv_aload_n (pc := 137) X.1 X.2.1 d_MD_step_137 rfl (lv_at hl 1 rfl) ?_
        refine ab_gx (pc := 138) (v := .int ((u 0 18) + (u 0 24))) X hX 0 9 20 rfl rfl (Nat.le_of_ble_eq_true rfl) in_MD rfl tw_411 rfl d_MD_step_138 ?_
        refine lv_sipush (pc := 141) (v := 2048) X.1 X.2.1 d_MD_step_141 (by decide) ?_
        refine lv_icmp_lt (pc := 144) (tgt := 151) X.1 X.2.1 d_MD_step_144 (by decide) (fun h9 => ?_) (fun h9 => ?_)
        ·
          refine lv_aload_n (pc := 151) X.1 X.2.1 d_MD_step_151 rfl (lv_at hl 1 rfl) ?_
          refine ab_gx (pc := 152) (v := .int (u 0 14)) X hX 0 9 16 rfl rfl (Nat.le_of_ble_eq_true rfl) in_MD rfl tw_401 rfl d_MD_step_152 ?_
          exact ab_jt (by rw [if_pos h7, if_neg h8, if_pos h9]) J
        ·
          refine lv_iconst (pc := 147) (v := 2) X.1 X.2.1 d_MD_step_147 (by decide) ?_
          refine lv_goto (pc := 148) (tgt := 155) X.1 X.2.1 d_MD_step_148 (by decide) ?_
          exact ab_jt (by rw [if_pos h7, if_neg h8, if_neg h9]) J
    ·
      refine lv_aload_n (pc := 116) X.1 X.2.1 d_MD_step_116 rfl (lv_at hl 1 rfl) ?_
      refine ab_gx (pc := 117) (v := .int ((u 0 18) + (u 0 24))) X hX 0 9 20 rfl rfl (Nat.le_of_ble_eq_true rfl) in_MD rfl tw_411 rfl d_MD_step_117 ?_
      refine lv_sipush (pc := 120) (v := 1024) X.1 X.2.1 d_MD_step_120 (by decide) ?_
      refine lv_icmp_lt (pc := 123) (tgt := 130) X.1 X.2.1 d_MD_step_123 (by decide) (fun h10 => ?_) (fun h10 => ?_)
      ·
        refine lv_iload_n (pc := 130) X.1 X.2.1 d_MD_step_130 rfl (lv_at hl 0 rfl) ?_
        refine lv_sipush (pc := 131) (v := 2048) X.1 X.2.1 d_MD_step_131 (by decide) ?_
        refine lv_icmp_ge (pc := 134) (tgt := 151) X.1 X.2.1 d_MD_step_134 (by decide) (fun h11 => ?_) (fun h11 => ?_)
        ·
          refine lv_aload_n (pc := 151) X.1 X.2.1 d_MD_step_151 rfl (lv_at hl 1 rfl) ?_
          refine ab_gx (pc := 152) (v := .int (u 0 14)) X hX 0 9 16 rfl rfl (Nat.le_of_ble_eq_true rfl) in_MD rfl tw_401 rfl d_MD_step_152 ?_
          exact ab_jt (by rw [if_neg h7, if_pos h10, if_pos h11]) J
        ·
          refine lv_aload_n (pc := 137) X.1 X.2.1 d_MD_step_137 rfl (lv_at hl 1 rfl) ?_
          refine ab_gx (pc := 138) (v := .int ((u 0 18) + (u 0 24))) X hX 0 9 20 rfl rfl (Nat.le_of_ble_eq_true rfl) in_MD rfl tw_411 rfl d_MD_step_138 ?_
          refine lv_sipush (pc := 141) (v := 2048) X.1 X.2.1 d_MD_step_141 (by decide) ?_
          refine lv_icmp_lt (pc := 144) (tgt := 151) X.1 X.2.1 d_MD_step_144 (by decide) (fun h12 => ?_) (fun h12 => ?_)
          ·
            refine lv_aload_n (pc := 151) X.1 X.2.1 d_MD_step_151 rfl (lv_at hl 1 rfl) ?_
            refine ab_gx (pc := 152) (v := .int (u 0 14)) X hX 0 9 16 rfl rfl (Nat.le_of_ble_eq_true rfl) in_MD rfl tw_401 rfl d_MD_step_152 ?_
            exact ab_jt (by rw [if_neg h7, if_pos h10, if_neg h11, if_pos h12]) J
          ·
            refine lv_iconst (pc := 147) (v := 2) X.1 X.2.1 d_MD_step_147 (by decide) ?_
            refine lv_goto (pc := 148) (tgt := 155) X.1 X.2.1 d_MD_step_148 (by decide) ?_
            exact ab_jt (by rw [if_neg h7, if_pos h10, if_neg h11, if_neg h12]) J
      ·
        refine lv_iconst (pc := 126) (v := 1) X.1 X.2.1 d_MD_step_126 (by decide) ?_
        refine lv_goto (pc := 127) (tgt := 155) X.1 X.2.1 d_MD_step_127 (by decide) ?_
        exact ab_jt (by rw [if_neg h7, if_neg h10]) J
  refine ab_px (pc := 155) (ws' := (wM t q (stt (stt u 0 18 ((u 0 18) + (u 0 24))) 0 14 (if 1024 ≤ (u 0 18) then (if 2048 ≤ (u 0 18) then (u 0 14) else (if ((u 0 18) + (u 0 24)) < 2048 then (u 0 14) else 2 : Int32) : Int32) else (if ((u 0 18) + (u 0 24)) < 1024 then (if 2048 ≤ (u 0 18) then (u 0 14) else (if ((u 0 18) + (u 0 24)) < 2048 then (u 0 14) else 2 : Int32) : Int32) else 1 : Int32) : Int32)))) X hX 0 9 16 ty_MD ty_MD_ok nm_MD rfl rfl (Nat.le_of_ble_eq_true rfl) in_MD rfl tw_401 rfl rfl rfl rfl (Nat.le_of_ble_eq_true rfl) (sf_wM_0_16 t q (stt u 0 18 ((u 0 18) + (u 0 24))) (if 1024 ≤ (u 0 18) then (if 2048 ≤ (u 0 18) then (u 0 14) else (if ((u 0 18) + (u 0 24)) < 2048 then (u 0 14) else 2 : Int32) : Int32) else (if ((u 0 18) + (u 0 24)) < 1024 then (if 2048 ≤ (u 0 18) then (u 0 14) else (if ((u 0 18) + (u 0 24)) < 2048 then (u 0 14) else 2 : Int32) : Int32) else 1 : Int32) : Int32)) d_MD_step_155 (fun H locs hX => ?_)
  refine lv_aload_n (pc := 158) X.1 X.2.1 d_MD_step_158 rfl (lv_at hl 1 rfl) ?_
  refine ab_gx (pc := 159) (v := .int ((u 0 18) + (u 0 24))) X hX 0 9 20 rfl rfl (Nat.le_of_ble_eq_true rfl) in_MD rfl tw_411 rfl d_MD_step_159 ?_
  refine lv_sipush (pc := 162) (v := 2560) X.1 X.2.1 d_MD_step_162 (by decide) ?_
  refine lv_icmp_lt (pc := 165) (tgt := 233) X.1 X.2.1 d_MD_step_165 (by decide) (fun h13 => ?_) (fun h13 => ?_)
  ·
    exact ab_kv_ret (pc := 233) X hr hk hX (by rw [g_MD_step_90, if_pos h13]) d_MD_step_233
  ·
    refine lv_aload_n (pc := 168) X.1 X.2.1 d_MD_step_168 rfl (lv_at hl 1 rfl) ?_
    refine lv_dup (pc := 169) X.1 X.2.1 d_MD_step_169 rfl ?_
    refine ab_gx (pc := 170) (v := .int ((u 0 18) + (u 0 24))) X hX 0 9 20 rfl rfl (Nat.le_of_ble_eq_true rfl) in_MD rfl tw_411 rfl d_MD_step_170 ?_
    refine lv_sipush (pc := 173) (v := 2560) X.1 X.2.1 d_MD_step_173 (by decide) ?_
    refine lv_isub (pc := 176) X.1 X.2.1 d_MD_step_176 ?_
    refine ab_px (pc := 177) (ws' := (wM t q (stt (stt (stt u 0 18 ((u 0 18) + (u 0 24))) 0 14 (if 1024 ≤ (u 0 18) then (if 2048 ≤ (u 0 18) then (u 0 14) else (if ((u 0 18) + (u 0 24)) < 2048 then (u 0 14) else 2 : Int32) : Int32) else (if ((u 0 18) + (u 0 24)) < 1024 then (if 2048 ≤ (u 0 18) then (u 0 14) else (if ((u 0 18) + (u 0 24)) < 2048 then (u 0 14) else 2 : Int32) : Int32) else 1 : Int32) : Int32)) 0 18 (((u 0 18) + (u 0 24)) - 2560)))) X hX 0 9 20 ty_MD ty_MD_ok nm_MD rfl rfl (Nat.le_of_ble_eq_true rfl) in_MD rfl tw_411 rfl rfl rfl rfl (Nat.le_of_ble_eq_true rfl) (sf_wM_0_20 t q (stt (stt u 0 18 ((u 0 18) + (u 0 24))) 0 14 (if 1024 ≤ (u 0 18) then (if 2048 ≤ (u 0 18) then (u 0 14) else (if ((u 0 18) + (u 0 24)) < 2048 then (u 0 14) else 2 : Int32) : Int32) else (if ((u 0 18) + (u 0 24)) < 1024 then (if 2048 ≤ (u 0 18) then (u 0 14) else (if ((u 0 18) + (u 0 24)) < 2048 then (u 0 14) else 2 : Int32) : Int32) else 1 : Int32) : Int32)) (((u 0 18) + (u 0 24)) - 2560)) d_MD_step_177 (fun H locs hX => ?_)
    refine lv_aload_n (pc := 180) X.1 X.2.1 d_MD_step_180 rfl (lv_at hl 1 rfl) ?_
    refine lv_dup (pc := 181) X.1 X.2.1 d_MD_step_181 rfl ?_
    refine ab_gx (pc := 182) (v := .int (u 0 19)) X hX 0 9 21 rfl rfl (Nat.le_of_ble_eq_true rfl) in_MD rfl tw_412 rfl d_MD_step_182 ?_
    refine lv_iconst (pc := 185) (v := 1) X.1 X.2.1 d_MD_step_185 (by decide) ?_
    refine lv_iadd (pc := 186) X.1 X.2.1 d_MD_step_186 ?_
    refine ab_px (pc := 187) (ws' := (wM t q (stt (stt (stt (stt u 0 18 ((u 0 18) + (u 0 24))) 0 14 (if 1024 ≤ (u 0 18) then (if 2048 ≤ (u 0 18) then (u 0 14) else (if ((u 0 18) + (u 0 24)) < 2048 then (u 0 14) else 2 : Int32) : Int32) else (if ((u 0 18) + (u 0 24)) < 1024 then (if 2048 ≤ (u 0 18) then (u 0 14) else (if ((u 0 18) + (u 0 24)) < 2048 then (u 0 14) else 2 : Int32) : Int32) else 1 : Int32) : Int32)) 0 18 (((u 0 18) + (u 0 24)) - 2560)) 0 19 ((u 0 19) + 1)))) X hX 0 9 21 ty_MD ty_MD_ok nm_MD rfl rfl (Nat.le_of_ble_eq_true rfl) in_MD rfl tw_412 rfl rfl rfl rfl (Nat.le_of_ble_eq_true rfl) (sf_wM_0_21 t q (stt (stt (stt u 0 18 ((u 0 18) + (u 0 24))) 0 14 (if 1024 ≤ (u 0 18) then (if 2048 ≤ (u 0 18) then (u 0 14) else (if ((u 0 18) + (u 0 24)) < 2048 then (u 0 14) else 2 : Int32) : Int32) else (if ((u 0 18) + (u 0 24)) < 1024 then (if 2048 ≤ (u 0 18) then (u 0 14) else (if ((u 0 18) + (u 0 24)) < 2048 then (u 0 14) else 2 : Int32) : Int32) else 1 : Int32) : Int32)) 0 18 (((u 0 18) + (u 0 24)) - 2560)) ((u 0 19) + 1)) d_MD_step_187 (fun H locs hX => ?_)
    refine lv_aload_n (pc := 190) X.1 X.2.1 d_MD_step_190 rfl (lv_at hl 1 rfl) ?_
    refine lv_aload_n (pc := 191) X.1 X.2.1 d_MD_step_191 rfl (lv_at hl 1 rfl) ?_
    refine ab_gx (pc := 192) (v := .int (u 0 20)) X hX 0 9 22 rfl rfl (Nat.le_of_ble_eq_true rfl) in_MD rfl tw_379 rfl d_MD_step_192 ?_
    refine ab_jn (ls := ls) (rest := [.ref (q 0)]) 208 (if (u 0 20) ≤ 0 then 0 else ((u 0 20) - 1) : Int32) ?_ (fun J => ?_)
    rotate_left
    ·
      refine lv_if_le (pc := 195) (tgt := 207) X.1 X.2.1 d_MD_step_195 (by decide) (fun h14 => ?_) (fun h14 => ?_)
      ·
        refine lv_iconst (pc := 207) (v := 0) X.1 X.2.1 d_MD_step_207 (by decide) ?_
        exact ab_jt (by rw [if_pos h14]) J
      ·
        refine lv_aload_n (pc := 198) X.1 X.2.1 d_MD_step_198 rfl (lv_at hl 1 rfl) ?_
        refine ab_gx (pc := 199) (v := .int (u 0 20)) X hX 0 9 22 rfl rfl (Nat.le_of_ble_eq_true rfl) in_MD rfl tw_379 rfl d_MD_step_199 ?_
        refine lv_iconst (pc := 202) (v := 1) X.1 X.2.1 d_MD_step_202 (by decide) ?_
        refine lv_isub (pc := 203) X.1 X.2.1 d_MD_step_203 ?_
        refine lv_goto (pc := 204) (tgt := 208) X.1 X.2.1 d_MD_step_204 (by decide) ?_
        exact ab_jt (by rw [if_neg h14]) J
    refine ab_px (pc := 208) (ws' := (wM t q (stt (stt (stt (stt (stt u 0 18 ((u 0 18) + (u 0 24))) 0 14 (if 1024 ≤ (u 0 18) then (if 2048 ≤ (u 0 18) then (u 0 14) else (if ((u 0 18) + (u 0 24)) < 2048 then (u 0 14) else 2 : Int32) : Int32) else (if ((u 0 18) + (u 0 24)) < 1024 then (if 2048 ≤ (u 0 18) then (u 0 14) else (if ((u 0 18) + (u 0 24)) < 2048 then (u 0 14) else 2 : Int32) : Int32) else 1 : Int32) : Int32)) 0 18 (((u 0 18) + (u 0 24)) - 2560)) 0 19 ((u 0 19) + 1)) 0 20 (if (u 0 20) ≤ 0 then 0 else ((u 0 20) - 1) : Int32)))) X hX 0 9 22 ty_MD ty_MD_ok nm_MD rfl rfl (Nat.le_of_ble_eq_true rfl) in_MD rfl tw_379 rfl rfl rfl rfl (Nat.le_of_ble_eq_true rfl) (sf_wM_0_22 t q (stt (stt (stt (stt u 0 18 ((u 0 18) + (u 0 24))) 0 14 (if 1024 ≤ (u 0 18) then (if 2048 ≤ (u 0 18) then (u 0 14) else (if ((u 0 18) + (u 0 24)) < 2048 then (u 0 14) else 2 : Int32) : Int32) else (if ((u 0 18) + (u 0 24)) < 1024 then (if 2048 ≤ (u 0 18) then (u 0 14) else (if ((u 0 18) + (u 0 24)) < 2048 then (u 0 14) else 2 : Int32) : Int32) else 1 : Int32) : Int32)) 0 18 (((u 0 18) + (u 0 24)) - 2560)) 0 19 ((u 0 19) + 1)) (if (u 0 20) ≤ 0 then 0 else ((u 0 20) - 1) : Int32)) d_MD_step_208 (fun H locs hX => ?_)
    refine lv_aload_n (pc := 211) X.1 X.2.1 d_MD_step_211 rfl (lv_at hl 1 rfl) ?_
    refine lv_dup (pc := 212) X.1 X.2.1 d_MD_step_212 rfl ?_
    refine ab_gx (pc := 213) (v := .int (u 0 17)) X hX 0 9 19 rfl rfl (Nat.le_of_ble_eq_true rfl) in_MD rfl tw_370 rfl d_MD_step_213 ?_
    refine lv_iconst (pc := 216) (v := 1) X.1 X.2.1 d_MD_step_216 (by decide) ?_
    refine lv_iadd (pc := 217) X.1 X.2.1 d_MD_step_217 ?_
    refine ab_px (pc := 218) (ws' := (wM t q (stt (stt (stt (stt (stt (stt u 0 18 ((u 0 18) + (u 0 24))) 0 14 (if 1024 ≤ (u 0 18) then (if 2048 ≤ (u 0 18) then (u 0 14) else (if ((u 0 18) + (u 0 24)) < 2048 then (u 0 14) else 2 : Int32) : Int32) else (if ((u 0 18) + (u 0 24)) < 1024 then (if 2048 ≤ (u 0 18) then (u 0 14) else (if ((u 0 18) + (u 0 24)) < 2048 then (u 0 14) else 2 : Int32) : Int32) else 1 : Int32) : Int32)) 0 18 (((u 0 18) + (u 0 24)) - 2560)) 0 19 ((u 0 19) + 1)) 0 20 (if (u 0 20) ≤ 0 then 0 else ((u 0 20) - 1) : Int32)) 0 17 ((u 0 17) + 1)))) X hX 0 9 19 ty_MD ty_MD_ok nm_MD rfl rfl (Nat.le_of_ble_eq_true rfl) in_MD rfl tw_370 rfl rfl rfl rfl (Nat.le_of_ble_eq_true rfl) (sf_wM_0_19 t q (stt (stt (stt (stt (stt u 0 18 ((u 0 18) + (u 0 24))) 0 14 (if 1024 ≤ (u 0 18) then (if 2048 ≤ (u 0 18) then (u 0 14) else (if ((u 0 18) + (u 0 24)) < 2048 then (u 0 14) else 2 : Int32) : Int32) else (if ((u 0 18) + (u 0 24)) < 1024 then (if 2048 ≤ (u 0 18) then (u 0 14) else (if ((u 0 18) + (u 0 24)) < 2048 then (u 0 14) else 2 : Int32) : Int32) else 1 : Int32) : Int32)) 0 18 (((u 0 18) + (u 0 24)) - 2560)) 0 19 ((u 0 19) + 1)) 0 20 (if (u 0 20) ≤ 0 then 0 else ((u 0 20) - 1) : Int32)) ((u 0 17) + 1)) d_MD_step_218 (fun H locs hX => ?_)
    refine lv_aload_n (pc := 221) X.1 X.2.1 d_MD_step_221 rfl (lv_at hl 1 rfl) ?_
    refine ab_gx (pc := 222) (v := .int ((u 0 17) + 1)) X hX 0 9 19 rfl rfl (Nat.le_of_ble_eq_true rfl) in_MD rfl tw_370 rfl d_MD_step_222 ?_
    refine lv_iconst (pc := 225) (v := 4) X.1 X.2.1 d_MD_step_225 (by decide) ?_
    refine lv_icmp_ne (pc := 226) (tgt := 233) X.1 X.2.1 d_MD_step_226 (by decide) (fun h15 => ?_) (fun h15 => ?_)
    ·
      exact ab_kv_ret (pc := 233) X hr hk hX (by rw [g_MD_step_90, if_neg h13, if_neg h15]) d_MD_step_233
    ·
      refine lv_aload_n (pc := 229) X.1 X.2.1 d_MD_step_229 rfl (lv_at hl 1 rfl) ?_
      refine ab_kv_callV (pc := 230) (wr := []) (w := (wM t q)) (u := (stt (stt (stt (stt (stt (stt u 0 18 ((u 0 18) + (u 0 24))) 0 14 (if 1024 ≤ (u 0 18) then (if 2048 ≤ (u 0 18) then (u 0 14) else (if ((u 0 18) + (u 0 24)) < 2048 then (u 0 14) else 2 : Int32) : Int32) else (if ((u 0 18) + (u 0 24)) < 1024 then (if 2048 ≤ (u 0 18) then (u 0 14) else (if ((u 0 18) + (u 0 24)) < 2048 then (u 0 14) else 2 : Int32) : Int32) else 1 : Int32) : Int32)) 0 18 (((u 0 18) + (u 0 24)) - 2560)) 0 19 ((u 0 19) + 1)) 0 20 (if (u 0 20) ≤ 0 then 0 else ((u 0 20) - 1) : Int32)) 0 17 ((u 0 17) + 1))) (F := f_MD_reset (stt (stt (stt (stt (stt (stt u 0 18 ((u 0 18) + (u 0 24))) 0 14 (if 1024 ≤ (u 0 18) then (if 2048 ≤ (u 0 18) then (u 0 14) else (if ((u 0 18) + (u 0 24)) < 2048 then (u 0 14) else 2 : Int32) : Int32) else (if ((u 0 18) + (u 0 24)) < 1024 then (if 2048 ≤ (u 0 18) then (u 0 14) else (if ((u 0 18) + (u 0 24)) < 2048 then (u 0 14) else 2 : Int32) : Int32) else 1 : Int32) : Int32)) 0 18 (((u 0 18) + (u 0 24)) - 2560)) 0 19 ((u 0 19) + 1)) 0 20 (if (u 0 20) ≤ 0 then 0 else ((u 0 20) - 1) : Int32)) 0 17 ((u 0 17) + 1))) (as := []) (rest := []) X hX (c_MD_reset l D t q (stt (stt (stt (stt (stt (stt u 0 18 ((u 0 18) + (u 0 24))) 0 14 (if 1024 ≤ (u 0 18) then (if 2048 ≤ (u 0 18) then (u 0 14) else (if ((u 0 18) + (u 0 24)) < 2048 then (u 0 14) else 2 : Int32) : Int32) else (if ((u 0 18) + (u 0 24)) < 1024 then (if 2048 ≤ (u 0 18) then (u 0 14) else (if ((u 0 18) + (u 0 24)) < 2048 then (u 0 14) else 2 : Int32) : Int32) else 1 : Int32) : Int32)) 0 18 (((u 0 18) + (u 0 24)) - 2560)) 0 19 ((u 0 19) + 1)) 0 20 (if (u 0 20) ≤ 0 then 0 else ((u 0 20) - 1) : Int32)) 0 17 ((u 0 17) + 1))) ok_MD_reset okv_MD_reset tw_413 0 9 rfl rfl rfl hl.1 rfl (Nat.le_of_ble_eq_true rfl) ⟨rfl, rfl, Nat.le_of_ble_eq_true rfl, Nat.le_of_ble_eq_true rfl⟩ ⟨Nat.zero_le _, Nat.zero_le _⟩ d_MD_step_230 (fun H locs hX => ?_)
      exact ab_kv_ret (pc := 233) X hr hk hX (by rw [g_MD_step_90, if_neg h13, if_pos h15]) d_MD_step_233
set_option maxHeartbeats 1000000 in
set_option maxRecDepth 100000 in
theorem c_MD_step (l : Launch) (D : va_G) (t : Nat → ClassId) (q : Nat → Nat) (u : SS) (ps : ab_snd (u 0 23)) : ab_kv l D (tyC t) (wM t q) y_MD_step b_MD_step 3 { frames := 6, cells := 0, slots := 0, locals := 133 } [.ref (q 0)] u (f_MD_step u) := by
  refine ab_kv_ofW (by decide) (Nat.le_of_ble_eq_true rfl) (fun p e s m below meth c ls A X hr hk hl hX => ?_)
  have hl : lv_has ls 3 [(0, .ref (q 0))] := hl
  refine lv_aload_n (pc := 0) X.1 X.2.1 d_MD_step_0 rfl (lv_at hl 0 rfl) ?_
  refine ab_gx (pc := 1) (v := .int (u 0 12)) X hX 0 9 14 rfl rfl (Nat.le_of_ble_eq_true rfl) in_MD rfl tw_385 rfl d_MD_step_1 ?_
  refine lv_istore_n (pc := 4) (lv' := [(1, .int (u 0 12)), (0, .ref (q 0))]) X.1 X.2.1 d_MD_step_4 rfl hl (Nat.le_of_ble_eq_true rfl) rfl (fun ls hl => ?_)
  refine lv_aload_n (pc := 5) X.1 X.2.1 d_MD_step_5 rfl (lv_at hl 1 rfl) ?_
  refine lv_iconst (pc := 6) (v := 0) X.1 X.2.1 d_MD_step_6 (by decide) ?_
  refine ab_px (pc := 7) (ws' := (wM t q (stt u 0 12 0))) X hX 0 9 14 ty_MD ty_MD_ok nm_MD rfl rfl (Nat.le_of_ble_eq_true rfl) in_MD rfl tw_385 rfl rfl rfl rfl (Nat.le_of_ble_eq_true rfl) (sf_wM_0_14 t q u 0) d_MD_step_7 (fun H locs hX => ?_)
  refine lv_aload_n (pc := 10) X.1 X.2.1 d_MD_step_10 rfl (lv_at hl 1 rfl) ?_
  refine ab_gx (pc := 11) (v := .int (u 0 11)) X hX 0 9 13 rfl rfl (Nat.le_of_ble_eq_true rfl) in_MD rfl tw_384 rfl d_MD_step_11 ?_
  refine lv_if_eq (pc := 14) (tgt := 71) X.1 X.2.1 d_MD_step_14 (by decide) (fun h1 => ?_) (fun h1 => ?_)
  ·
    refine lv_aload_n (pc := 71) X.1 X.2.1 d_MD_step_71 rfl (lv_at hl 1 rfl) ?_
    refine ab_gx (pc := 72) (v := .int (u 0 13)) X hX 0 9 15 rfl rfl (Nat.le_of_ble_eq_true rfl) in_MD rfl tw_400 rfl d_MD_step_72 ?_
    refine lv_if_eq (pc := 75) (tgt := 86) X.1 X.2.1 d_MD_step_75 (by decide) (fun h2 => ?_) (fun h2 => ?_)
    ·
      refine lv_aload_n (pc := 86) X.1 X.2.1 d_MD_step_86 rfl (lv_at hl 1 rfl) ?_
      refine ab_kv_callV (pc := 87) (wr := []) (w := (wM t q)) (u := (stt u 0 12 0)) (F := f_MD_operation (stt u 0 12 0)) (as := []) (rest := []) X hX (c_MD_operation l D t q (stt u 0 12 0) ps) ok_MD_operation okv_MD_operation tw_410 0 9 rfl rfl rfl hl.1 rfl (Nat.le_of_ble_eq_true rfl) ⟨rfl, rfl, Nat.le_of_ble_eq_true rfl, Nat.le_of_ble_eq_true rfl⟩ ⟨Nat.zero_le _, Nat.zero_le _⟩ d_MD_step_87 (fun H locs hX => ?_)
      rw [show f_MD_step u = g_MD_step_90 (f_MD_operation (stt u 0 12 0)) from by rw [f_MD_step, if_pos h1, if_pos h2]]
      exact k_MD_step_90 X hr hk (f_MD_operation (stt u 0 12 0))  hX (lv_sub hl [1] rfl)
    ·
      refine lv_aload_n (pc := 78) X.1 X.2.1 d_MD_step_78 rfl (lv_at hl 1 rfl) ?_
      refine lv_iconst (pc := 79) (v := 4) X.1 X.2.1 d_MD_step_79 (by decide) ?_
      refine ab_px (pc := 80) (ws' := (wM t q (stt (stt u 0 12 0) 0 24 4))) X hX 0 9 29 ty_MD ty_MD_ok nm_MD rfl rfl (Nat.le_of_ble_eq_true rfl) in_MD rfl tw_351 rfl rfl rfl rfl (Nat.le_of_ble_eq_true rfl) (sf_wM_0_29 t q (stt u 0 12 0) 4) d_MD_step_80 (fun H locs hX => ?_)
      refine lv_goto (pc := 83) (tgt := 90) X.1 X.2.1 d_MD_step_83 (by decide) ?_
      rw [show f_MD_step u = g_MD_step_90 (stt (stt u 0 12 0) 0 24 4) from by rw [f_MD_step, if_pos h1, if_neg h2]]
      exact k_MD_step_90 X hr hk (stt (stt u 0 12 0) 0 24 4)  hX (lv_sub hl [1] rfl)
  ·
    refine lv_iload_n (pc := 17) X.1 X.2.1 d_MD_step_17 rfl (lv_at hl 0 rfl) ?_
    refine lv_if_ne (pc := 18) (tgt := 71) X.1 X.2.1 d_MD_step_18 (by decide) (fun h3 => ?_) (fun h3 => ?_)
    ·
      refine lv_aload_n (pc := 71) X.1 X.2.1 d_MD_step_71 rfl (lv_at hl 1 rfl) ?_
      refine ab_gx (pc := 72) (v := .int (u 0 13)) X hX 0 9 15 rfl rfl (Nat.le_of_ble_eq_true rfl) in_MD rfl tw_400 rfl d_MD_step_72 ?_
      refine lv_if_eq (pc := 75) (tgt := 86) X.1 X.2.1 d_MD_step_75 (by decide) (fun h4 => ?_) (fun h4 => ?_)
      ·
        refine lv_aload_n (pc := 86) X.1 X.2.1 d_MD_step_86 rfl (lv_at hl 1 rfl) ?_
        refine ab_kv_callV (pc := 87) (wr := []) (w := (wM t q)) (u := (stt u 0 12 0)) (F := f_MD_operation (stt u 0 12 0)) (as := []) (rest := []) X hX (c_MD_operation l D t q (stt u 0 12 0) ps) ok_MD_operation okv_MD_operation tw_410 0 9 rfl rfl rfl hl.1 rfl (Nat.le_of_ble_eq_true rfl) ⟨rfl, rfl, Nat.le_of_ble_eq_true rfl, Nat.le_of_ble_eq_true rfl⟩ ⟨Nat.zero_le _, Nat.zero_le _⟩ d_MD_step_87 (fun H locs hX => ?_)
        rw [show f_MD_step u = g_MD_step_90 (f_MD_operation (stt u 0 12 0)) from by rw [f_MD_step, if_neg h1, if_neg h3, if_pos h4]]
        exact k_MD_step_90 X hr hk (f_MD_operation (stt u 0 12 0))  hX (lv_sub hl [1] rfl)
      ·
        refine lv_aload_n (pc := 78) X.1 X.2.1 d_MD_step_78 rfl (lv_at hl 1 rfl) ?_
        refine lv_iconst (pc := 79) (v := 4) X.1 X.2.1 d_MD_step_79 (by decide) ?_
        refine ab_px (pc := 80) (ws' := (wM t q (stt (stt u 0 12 0) 0 24 4))) X hX 0 9 29 ty_MD ty_MD_ok nm_MD rfl rfl (Nat.le_of_ble_eq_true rfl) in_MD rfl tw_351 rfl rfl rfl rfl (Nat.le_of_ble_eq_true rfl) (sf_wM_0_29 t q (stt u 0 12 0) 4) d_MD_step_80 (fun H locs hX => ?_)
        refine lv_goto (pc := 83) (tgt := 90) X.1 X.2.1 d_MD_step_83 (by decide) ?_
        rw [show f_MD_step u = g_MD_step_90 (stt (stt u 0 12 0) 0 24 4) from by rw [f_MD_step, if_neg h1, if_neg h3, if_neg h4]]
        exact k_MD_step_90 X hr hk (stt (stt u 0 12 0) 0 24 4)  hX (lv_sub hl [1] rfl)
    ·
      refine lv_aload_n (pc := 21) X.1 X.2.1 d_MD_step_21 rfl (lv_at hl 1 rfl) ?_
      refine ab_gx (pc := 22) (v := .int (u 0 14)) X hX 0 9 16 rfl rfl (Nat.le_of_ble_eq_true rfl) in_MD rfl tw_401 rfl d_MD_step_22 ?_
      refine lv_if_le (pc := 25) (tgt := 71) X.1 X.2.1 d_MD_step_25 (by decide) (fun h5 => ?_) (fun h5 => ?_)
      ·
        refine lv_aload_n (pc := 71) X.1 X.2.1 d_MD_step_71 rfl (lv_at hl 1 rfl) ?_
        refine ab_gx (pc := 72) (v := .int (u 0 13)) X hX 0 9 15 rfl rfl (Nat.le_of_ble_eq_true rfl) in_MD rfl tw_400 rfl d_MD_step_72 ?_
        refine lv_if_eq (pc := 75) (tgt := 86) X.1 X.2.1 d_MD_step_75 (by decide) (fun h6 => ?_) (fun h6 => ?_)
        ·
          refine lv_aload_n (pc := 86) X.1 X.2.1 d_MD_step_86 rfl (lv_at hl 1 rfl) ?_
          refine ab_kv_callV (pc := 87) (wr := []) (w := (wM t q)) (u := (stt u 0 12 0)) (F := f_MD_operation (stt u 0 12 0)) (as := []) (rest := []) X hX (c_MD_operation l D t q (stt u 0 12 0) ps) ok_MD_operation okv_MD_operation tw_410 0 9 rfl rfl rfl hl.1 rfl (Nat.le_of_ble_eq_true rfl) ⟨rfl, rfl, Nat.le_of_ble_eq_true rfl, Nat.le_of_ble_eq_true rfl⟩ ⟨Nat.zero_le _, Nat.zero_le _⟩ d_MD_step_87 (fun H locs hX => ?_)
          rw [show f_MD_step u = g_MD_step_90 (f_MD_operation (stt u 0 12 0)) from by rw [f_MD_step, if_neg h1, if_pos h3, if_pos h5, if_pos h6]]
          exact k_MD_step_90 X hr hk (f_MD_operation (stt u 0 12 0))  hX (lv_sub hl [1] rfl)
        ·
          refine lv_aload_n (pc := 78) X.1 X.2.1 d_MD_step_78 rfl (lv_at hl 1 rfl) ?_
          refine lv_iconst (pc := 79) (v := 4) X.1 X.2.1 d_MD_step_79 (by decide) ?_
          refine ab_px (pc := 80) (ws' := (wM t q (stt (stt u 0 12 0) 0 24 4))) X hX 0 9 29 ty_MD ty_MD_ok nm_MD rfl rfl (Nat.le_of_ble_eq_true rfl) in_MD rfl tw_351 rfl rfl rfl rfl (Nat.le_of_ble_eq_true rfl) (sf_wM_0_29 t q (stt u 0 12 0) 4) d_MD_step_80 (fun H locs hX => ?_)
          refine lv_goto (pc := 83) (tgt := 90) X.1 X.2.1 d_MD_step_83 (by decide) ?_
          rw [show f_MD_step u = g_MD_step_90 (stt (stt u 0 12 0) 0 24 4) from by rw [f_MD_step, if_neg h1, if_pos h3, if_pos h5, if_neg h6]]
          exact k_MD_step_90 X hr hk (stt (stt u 0 12 0) 0 24 4)  hX (lv_sub hl [1] rfl)
      ·
        refine lv_aload_n (pc := 28) X.1 X.2.1 d_MD_step_28 rfl (lv_at hl 1 rfl) ?_
        refine lv_iconst (pc := 29) (v := 0) X.1 X.2.1 d_MD_step_29 (by decide) ?_
        refine ab_px (pc := 30) (ws' := (wM t q (stt (stt u 0 12 0) 0 11 0))) X hX 0 9 13 ty_MD ty_MD_ok nm_MD rfl rfl (Nat.le_of_ble_eq_true rfl) in_MD rfl tw_384 rfl rfl rfl rfl (Nat.le_of_ble_eq_true rfl) (sf_wM_0_13 t q (stt u 0 12 0) 0) d_MD_step_30 (fun H locs hX => ?_)
        refine lv_aload_n (pc := 33) X.1 X.2.1 d_MD_step_33 rfl (lv_at hl 1 rfl) ?_
        refine lv_iconst (pc := 34) (v := 0) X.1 X.2.1 d_MD_step_34 (by decide) ?_
        refine ab_px (pc := 35) (ws' := (wM t q (stt (stt (stt u 0 12 0) 0 11 0) 0 13 0))) X hX 0 9 15 ty_MD ty_MD_ok nm_MD rfl rfl (Nat.le_of_ble_eq_true rfl) in_MD rfl tw_400 rfl rfl rfl rfl (Nat.le_of_ble_eq_true rfl) (sf_wM_0_15 t q (stt (stt u 0 12 0) 0 11 0) 0) d_MD_step_35 (fun H locs hX => ?_)
        refine lv_aload_n (pc := 38) X.1 X.2.1 d_MD_step_38 rfl (lv_at hl 1 rfl) ?_
        refine lv_aload_n (pc := 39) X.1 X.2.1 d_MD_step_39 rfl (lv_at hl 1 rfl) ?_
        refine ab_gx (pc := 40) (v := .int (u 0 10)) X hX 0 9 12 rfl rfl (Nat.le_of_ble_eq_true rfl) in_MD rfl tw_294 rfl d_MD_step_40 ?_
        refine ab_kv_callV (pc := 43) (wr := []) (w := (wM t q)) (u := (stt (stt (stt u 0 12 0) 0 11 0) 0 13 0)) (F := f_MD_push (stt (stt (stt u 0 12 0) 0 11 0) 0 13 0) (u 0 10)) (as := [.int (u 0 10)]) (rest := []) X hX (c_MD_push l D t q (stt (stt (stt u 0 12 0) 0 11 0) 0 13 0) (u 0 10)) ok_MD_push okv_MD_push tw_391 0 9 rfl rfl rfl hl.1 rfl (Nat.le_of_ble_eq_true rfl) ⟨rfl, rfl, Nat.le_of_ble_eq_true rfl, Nat.le_of_ble_eq_true rfl⟩ ⟨Nat.zero_le _, Nat.zero_le _⟩ d_MD_step_43 (fun H locs hX => ?_)
        refine lv_aload_n (pc := 46) X.1 X.2.1 d_MD_step_46 rfl (lv_at hl 1 rfl) ?_
        refine lv_bipush (pc := 47) (v := 8) X.1 X.2.1 d_MD_step_47 (by decide) ?_
        refine lv_aload_n (pc := 49) X.1 X.2.1 d_MD_step_49 rfl (lv_at hl 1 rfl) ?_
        refine ab_gx (pc := 50) (v := .int ((f_MD_push (stt (stt (stt u 0 12 0) 0 11 0) 0 13 0) (u 0 10)) 0 14)) X hX 0 9 16 rfl rfl (Nat.le_of_ble_eq_true rfl) in_MD rfl tw_401 rfl d_MD_step_50 ?_
        refine lv_imul (pc := 53) X.1 X.2.1 d_MD_step_53 ?_
        refine ab_px (pc := 54) (ws' := (wM t q (stt (f_MD_push (stt (stt (stt u 0 12 0) 0 11 0) 0 13 0) (u 0 10)) 0 10 (8 * ((f_MD_push (stt (stt (stt u 0 12 0) 0 11 0) 0 13 0) (u 0 10)) 0 14))))) X hX 0 9 12 ty_MD ty_MD_ok nm_MD rfl rfl (Nat.le_of_ble_eq_true rfl) in_MD rfl tw_294 rfl rfl rfl rfl (Nat.le_of_ble_eq_true rfl) (sf_wM_0_12 t q (f_MD_push (stt (stt (stt u 0 12 0) 0 11 0) 0 13 0) (u 0 10)) (8 * ((f_MD_push (stt (stt (stt u 0 12 0) 0 11 0) 0 13 0) (u 0 10)) 0 14))) d_MD_step_54 (fun H locs hX => ?_)
        refine lv_aload_n (pc := 57) X.1 X.2.1 d_MD_step_57 rfl (lv_at hl 1 rfl) ?_
        refine lv_iconst (pc := 58) (v := 0) X.1 X.2.1 d_MD_step_58 (by decide) ?_
        refine ab_px (pc := 59) (ws' := (wM t q (stt (stt (f_MD_push (stt (stt (stt u 0 12 0) 0 11 0) 0 13 0) (u 0 10)) 0 10 (8 * ((f_MD_push (stt (stt (stt u 0 12 0) 0 11 0) 0 13 0) (u 0 10)) 0 14))) 0 14 0))) X hX 0 9 16 ty_MD ty_MD_ok nm_MD rfl rfl (Nat.le_of_ble_eq_true rfl) in_MD rfl tw_401 rfl rfl rfl rfl (Nat.le_of_ble_eq_true rfl) (sf_wM_0_16 t q (stt (f_MD_push (stt (stt (stt u 0 12 0) 0 11 0) 0 13 0) (u 0 10)) 0 10 (8 * ((f_MD_push (stt (stt (stt u 0 12 0) 0 11 0) 0 13 0) (u 0 10)) 0 14))) 0) d_MD_step_59 (fun H locs hX => ?_)
        refine lv_aload_n (pc := 62) X.1 X.2.1 d_MD_step_62 rfl (lv_at hl 1 rfl) ?_
        refine lv_bipush (pc := 63) (v := 11) X.1 X.2.1 d_MD_step_63 (by decide) ?_
        refine ab_px (pc := 65) (ws' := (wM t q (stt (stt (stt (f_MD_push (stt (stt (stt u 0 12 0) 0 11 0) 0 13 0) (u 0 10)) 0 10 (8 * ((f_MD_push (stt (stt (stt u 0 12 0) 0 11 0) 0 13 0) (u 0 10)) 0 14))) 0 14 0) 0 24 11))) X hX 0 9 29 ty_MD ty_MD_ok nm_MD rfl rfl (Nat.le_of_ble_eq_true rfl) in_MD rfl tw_351 rfl rfl rfl rfl (Nat.le_of_ble_eq_true rfl) (sf_wM_0_29 t q (stt (stt (f_MD_push (stt (stt (stt u 0 12 0) 0 11 0) 0 13 0) (u 0 10)) 0 10 (8 * ((f_MD_push (stt (stt (stt u 0 12 0) 0 11 0) 0 13 0) (u 0 10)) 0 14))) 0 14 0) 11) d_MD_step_65 (fun H locs hX => ?_)
        refine lv_goto (pc := 68) (tgt := 90) X.1 X.2.1 d_MD_step_68 (by decide) ?_
        rw [show f_MD_step u = g_MD_step_90 (stt (stt (stt (f_MD_push (stt (stt (stt u 0 12 0) 0 11 0) 0 13 0) (u 0 10)) 0 10 (8 * ((f_MD_push (stt (stt (stt u 0 12 0) 0 11 0) 0 13 0) (u 0 10)) 0 14))) 0 14 0) 0 24 11) from by rw [f_MD_step, if_neg h1, if_pos h3, if_neg h5]]
        exact k_MD_step_90 X hr hk (stt (stt (stt (f_MD_push (stt (stt (stt u 0 12 0) 0 11 0) 0 13 0) (u 0 10)) 0 10 (8 * ((f_MD_push (stt (stt (stt u 0 12 0) 0 11 0) 0 13 0) (u 0 10)) 0 14))) 0 14 0) 0 24 11)  hX (lv_sub hl [1] rfl)
abbrev b_MD_load : ByteArray := prog_11_method_29_code
def y_MD_load : MethodName := ⟨"ArcadeBoardModel", "load", "(III)Z"⟩
theorem d_MD_load_0 : decode b_MD_load 0 = .ok (.aload_n 0, 1) := by decide +kernel
theorem d_MD_load_1 : decode b_MD_load 1 = .ok (.iconst 0, 1) := by decide +kernel
theorem d_MD_load_2 : decode b_MD_load 2 = .ok (.putfield 26, 3) := by decide +kernel
theorem d_MD_load_5 : decode b_MD_load 5 = .ok (.aload_n 0, 1) := by decide +kernel
theorem d_MD_load_6 : decode b_MD_load 6 = .ok (.getfield 181, 3) := by decide +kernel
theorem d_MD_load_9 : decode b_MD_load 9 = .ok (.ifCond .ne 26, 3) := by decide +kernel
theorem d_MD_load_12 : decode b_MD_load 12 = .ok (.iload_n 3, 1) := by decide +kernel
theorem d_MD_load_13 : decode b_MD_load 13 = .ok (.iconst 1, 1) := by decide +kernel
theorem d_MD_load_14 : decode b_MD_load 14 = .ok (.if_icmp .lt 21, 3) := by decide +kernel
theorem d_MD_load_17 : decode b_MD_load 17 = .ok (.iload_n 3, 1) := by decide +kernel
theorem d_MD_load_18 : decode b_MD_load 18 = .ok (.iconst 4, 1) := by decide +kernel
theorem d_MD_load_19 : decode b_MD_load 19 = .ok (.if_icmp .gt 16, 3) := by decide +kernel
theorem d_MD_load_22 : decode b_MD_load 22 = .ok (.iload_n 1, 1) := by decide +kernel
theorem d_MD_load_23 : decode b_MD_load 23 = .ok (.ifCond .lt 12, 3) := by decide +kernel
theorem d_MD_load_26 : decode b_MD_load 26 = .ok (.iload_n 1, 1) := by decide +kernel
theorem d_MD_load_27 : decode b_MD_load 27 = .ok (.sipush 512, 3) := by decide +kernel
theorem d_MD_load_30 : decode b_MD_load 30 = .ok (.iload_n 3, 1) := by decide +kernel
theorem d_MD_load_31 : decode b_MD_load 31 = .ok (.isub, 1) := by decide +kernel
theorem d_MD_load_32 : decode b_MD_load 32 = .ok (.if_icmp .le 5, 3) := by decide +kernel
theorem d_MD_load_35 : decode b_MD_load 35 = .ok (.iconst 0, 1) := by decide +kernel
theorem d_MD_load_36 : decode b_MD_load 36 = .ok (.ireturn, 1) := by decide +kernel
theorem d_MD_load_37 : decode b_MD_load 37 = .ok (.iconst 0, 1) := by decide +kernel
theorem d_MD_load_38 : decode b_MD_load 38 = .ok (.istore 4, 2) := by decide +kernel
theorem d_MD_load_40 : decode b_MD_load 40 = .ok (.iload 4, 2) := by decide +kernel
theorem d_MD_load_42 : decode b_MD_load 42 = .ok (.iload_n 3, 1) := by decide +kernel
theorem d_MD_load_43 : decode b_MD_load 43 = .ok (.if_icmp .ge 29, 3) := by decide +kernel
theorem d_MD_load_46 : decode b_MD_load 46 = .ok (.aload_n 0, 1) := by decide +kernel
theorem d_MD_load_47 : decode b_MD_load 47 = .ok (.getfield 7, 3) := by decide +kernel
theorem d_MD_load_50 : decode b_MD_load 50 = .ok (.iload_n 1, 1) := by decide +kernel
theorem d_MD_load_51 : decode b_MD_load 51 = .ok (.iload 4, 2) := by decide +kernel
theorem d_MD_load_53 : decode b_MD_load 53 = .ok (.iadd, 1) := by decide +kernel
theorem d_MD_load_54 : decode b_MD_load 54 = .ok (.iload_n 2, 1) := by decide +kernel
theorem d_MD_load_55 : decode b_MD_load 55 = .ok (.bipush 8, 2) := by decide +kernel
theorem d_MD_load_57 : decode b_MD_load 57 = .ok (.iload 4, 2) := by decide +kernel
theorem d_MD_load_59 : decode b_MD_load 59 = .ok (.imul, 1) := by decide +kernel
theorem d_MD_load_60 : decode b_MD_load 60 = .ok (.ishr, 1) := by decide +kernel
theorem d_MD_load_61 : decode b_MD_load 61 = .ok (.sipush 255, 3) := by decide +kernel
theorem d_MD_load_64 : decode b_MD_load 64 = .ok (.iand, 1) := by decide +kernel
theorem d_MD_load_65 : decode b_MD_load 65 = .ok (.iastore, 1) := by decide +kernel
theorem d_MD_load_66 : decode b_MD_load 66 = .ok (.iinc 4 1, 3) := by decide +kernel
theorem d_MD_load_69 : decode b_MD_load 69 = .ok (.goto (-29), 3) := by decide +kernel
theorem d_MD_load_72 : decode b_MD_load 72 = .ok (.iconst 1, 1) := by decide +kernel
theorem d_MD_load_73 : decode b_MD_load 73 = .ok (.ireturn, 1) := by decide +kernel
theorem tw_414 : Jvm.Cond.code ⟨"ArcadeBoardModel", "load", "(III)Z"⟩ prog_11_method_29_code 5 (Option.some Jvm.ClassFile.FieldType.boolean) ∈ AL := ab_in (ab_t4 (List.mem_of_getElem? (i := 36) (by decide +kernel))) rfl
theorem tw_415 : Jvm.Cond.instanceMethod ⟨"ArcadeBoardModel", "load", "(III)Z"⟩ ∈ AL := ab_in (ab_t4 (List.mem_of_getElem? (i := 34) (by decide +kernel))) rfl
theorem tw_416 : Jvm.Cond.selects "ArcadeBoardModel" ⟨"ArcadeBoardModel", "load", "(III)Z"⟩ ⟨"ArcadeBoardModel", "load", "(III)Z"⟩ ∈ AL := ab_in (ab_t4 (List.mem_of_getElem? (i := 35) (by decide +kernel))) rfl
theorem tw_417 : Jvm.Cond.fieldLink "ArcadeBoardModel" 181 "ArcadeBoardModel" "on" "Z" ∈ AL := ab_in (ab_t3 (List.mem_of_getElem? (i := 180) (by decide +kernel))) rfl
theorem ok_MD_load : ab_yok y_MD_load b_MD_load 5 (some .boolean) 3 := ⟨tw_414, tw_280, by decide, by decide, by decide +kernel⟩
theorem okv_MD_load : ab_yok_V y_MD_load := ⟨tw_415, tw_416⟩
set_option maxHeartbeats 1000000 in
set_option maxRecDepth 100000 in
theorem k_MD_load_40 {p : Program} {l : Launch} {e : Env} {s : State} {m : MethodId} {args : Array Value} {below : List Frame} {meth : Method} {c : Code} {A : Nat → Prop} {D : va_G} {t : Nat → ClassId} {q : Nat → Nat} (X : ab_cx p s m args c b_MD_load 5 y_MD_load.cls D (tyC t)) (hr : meth.sig.returnType = some .boolean) (hk : meth.locks = false) (k : Nat) (u : SS) (v1 : Int32) (v2 : Int32) (v3 : Int32) (v4 : Int32) (hq : ab_ldI k v1 v3 v4) {H : Heap} {locs : List Loc} {ls : Array Slot} (hX : ab_hx D (wM t q u) A s.heap H locs) (hl : lv_has ls 5 [(0, .ref (q 0)), (1, .int v1), (2, .int v2), (3, .int v3), (4, .int v4)]) :
    W p l e { frames := 0, cells := 0, slots := 0, locals := 0 } s m args below meth c H locs 0 0 (ab_ki_E below args s D (tyC t) (wM t q) A (g_MD_load_40 k u v1 v2 v3 v4)) (F0 m 40 ls []) := by
  induction k generalizing u v1 v2 v3 v4 H locs ls with
  | zero => exact absurd hq ab_ldI_0
  | succ k ih =>
    refine lv_iload (pc := 40) X.1 X.2.1 d_MD_load_40 (lv_at hl 4 rfl) ?_
    refine lv_iload_n (pc := 42) X.1 X.2.1 d_MD_load_42 rfl (lv_at hl 3 rfl) ?_
    refine lv_icmp_ge (pc := 43) (tgt := 72) X.1 X.2.1 d_MD_load_43 (by decide) (fun h6 => ?_) (fun h6 => ?_)
    ·
      refine lv_iconst (pc := 72) (v := 1) X.1 X.2.1 d_MD_load_72 (by decide) ?_
      exact ab_ki_ret (pc := 73) X hr hk hX rfl (by rw [g_MD_load_40, if_pos h6]) d_MD_load_73
    ·
      refine lv_aload_n (pc := 46) X.1 X.2.1 d_MD_load_46 rfl (lv_at hl 0 rfl) ?_
      refine ab_gx (pc := 47) (v := .ref (q 1)) X hX 0 9 1 rfl rfl (Nat.le_of_ble_eq_true rfl) in_MD rfl tw_287 rfl d_MD_load_47 ?_
      refine lv_iload_n (pc := 50) X.1 X.2.1 d_MD_load_50 rfl (lv_at hl 1 rfl) ?_
      refine lv_iload (pc := 51) X.1 X.2.1 d_MD_load_51 (lv_at hl 4 rfl) ?_
      refine lv_iadd (pc := 53) X.1 X.2.1 d_MD_load_53 ?_
      refine lv_iload_n (pc := 54) X.1 X.2.1 d_MD_load_54 rfl (lv_at hl 2 rfl) ?_
      refine lv_bipush (pc := 55) (v := 8) X.1 X.2.1 d_MD_load_55 (by decide) ?_
      refine lv_iload (pc := 57) X.1 X.2.1 d_MD_load_57 (lv_at hl 4 rfl) ?_
      refine lv_imul (pc := 59) X.1 X.2.1 d_MD_load_59 ?_
      refine lv_ishr (pc := 60) X.1 X.2.1 d_MD_load_60 ?_
      refine lv_sipush (pc := 61) (v := 255) X.1 X.2.1 d_MD_load_61 (by decide) ?_
      refine lv_iand (pc := 64) X.1 X.2.1 d_MD_load_64 ?_
      refine ab_ast (pc := 65) (f := u 1) (j := (v1 + v4).toNatClampNeg) (ws' := (wM t q (stt u 1 ((v1 + v4).toNatClampNeg) ((v2 >>> ((8 * v4) &&& 31)) &&& 255)))) X hX 1 0 rfl rfl (ab_mono (ab_ldI_in hq h6) (by decide)) rfl (sa_wM_1 t q u ((v1 + v4).toNatClampNeg) ((v2 >>> ((8 * v4) &&& 31)) &&& 255)) d_MD_load_65 (fun H locs hX => ?_)
      refine lv_iinc (pc := 66) (k := 4) (v := v4 + 1) (lv' := [(4, .int (v4 + 1)), (0, .ref (q 0)), (1, .int v1), (2, .int v2), (3, .int v3)]) X.1 X.2.1 d_MD_load_66 hl rfl rfl (Nat.le_of_ble_eq_true rfl) rfl (fun ls hl => ?_)
      refine lv_goto (pc := 69) (tgt := 40) X.1 X.2.1 d_MD_load_69 (by decide) ?_
      rw [show g_MD_load_40 (k + 1) u v1 v2 v3 v4 = g_MD_load_40 k (stt u 1 ((v1 + v4).toNatClampNeg) ((v2 >>> ((8 * v4) &&& 31)) &&& 255)) v1 v2 v3 (v4 + 1) from by rw [g_MD_load_40, if_neg h6]]
      exact ih (stt u 1 ((v1 + v4).toNatClampNeg) ((v2 >>> ((8 * v4) &&& 31)) &&& 255)) v1 v2 v3 (v4 + 1) (ab_ldI_s hq h6) hX (lv_sub hl [1, 2, 3, 4, 0] rfl)
set_option maxHeartbeats 1000000 in
set_option maxRecDepth 100000 in
theorem c_MD_load (l : Launch) (D : va_G) (t : Nat → ClassId) (q : Nat → Nat) (u : SS) (x1 : Int32) (x2 : Int32) (x3 : Int32) : ab_ki l D (tyC t) (wM t q) y_MD_load b_MD_load 5 .boolean { frames := 0, cells := 0, slots := 0, locals := 0 } [.ref (q 0), .int x1, .int x2, .int x3] u (f_MD_load u x1 x2 x3) := by
  refine ab_ki_ofW (by decide) (Nat.le_of_ble_eq_true rfl) (fun p e s m below meth c ls A X hr hk hl hX => ?_)
  have hl : lv_has ls 5 [(0, .ref (q 0)), (1, .int x1), (2, .int x2), (3, .int x3)] := hl
  refine lv_aload_n (pc := 0) X.1 X.2.1 d_MD_load_0 rfl (lv_at hl 0 rfl) ?_
  refine lv_iconst (pc := 1) (v := 0) X.1 X.2.1 d_MD_load_1 (by decide) ?_
  refine ab_px (pc := 2) (ws' := (wM t q (stt u 0 0 0))) X hX 0 9 0 ty_MD ty_MD_ok nm_MD rfl rfl (Nat.le_of_ble_eq_true rfl) in_MD rfl tw_283 rfl rfl rfl rfl (Nat.le_of_ble_eq_true rfl) (sf_wM_0_0 t q u 0) d_MD_load_2 (fun H locs hX => ?_)
  refine lv_aload_n (pc := 5) X.1 X.2.1 d_MD_load_5 rfl (lv_at hl 0 rfl) ?_
  refine ab_gx (pc := 6) (v := .int (u 0 1)) X hX 0 9 2 rfl rfl (Nat.le_of_ble_eq_true rfl) in_MD rfl tw_417 rfl d_MD_load_6 ?_
  refine lv_if_ne (pc := 9) (tgt := 35) X.1 X.2.1 d_MD_load_9 (by decide) (fun h1 => ?_) (fun h1 => ?_)
  ·
    refine lv_iconst (pc := 35) (v := 0) X.1 X.2.1 d_MD_load_35 (by decide) ?_
    exact ab_ki_ret (pc := 36) X hr hk hX rfl (by rw [f_MD_load, if_neg h1]) d_MD_load_36
  ·
    refine lv_iload_n (pc := 12) X.1 X.2.1 d_MD_load_12 rfl (lv_at hl 3 rfl) ?_
    refine lv_iconst (pc := 13) (v := 1) X.1 X.2.1 d_MD_load_13 (by decide) ?_
    refine lv_icmp_lt (pc := 14) (tgt := 35) X.1 X.2.1 d_MD_load_14 (by decide) (fun h2 => ?_) (fun h2 => ?_)
    ·
      refine lv_iconst (pc := 35) (v := 0) X.1 X.2.1 d_MD_load_35 (by decide) ?_
      exact ab_ki_ret (pc := 36) X hr hk hX rfl (by rw [f_MD_load, if_pos h1, if_pos h2]) d_MD_load_36
    ·
      refine lv_iload_n (pc := 17) X.1 X.2.1 d_MD_load_17 rfl (lv_at hl 3 rfl) ?_
      refine lv_iconst (pc := 18) (v := 4) X.1 X.2.1 d_MD_load_18 (by decide) ?_
      refine lv_icmp_gt (pc := 19) (tgt := 35) X.1 X.2.1 d_MD_load_19 (by decide) (fun h3 => ?_) (fun h3 => ?_)
      ·
        refine lv_iconst (pc := 35) (v := 0) X.1 X.2.1 d_MD_load_35 (by decide) ?_
        exact ab_ki_ret (pc := 36) X hr hk hX rfl (by rw [f_MD_load, if_pos h1, if_neg h2, if_pos h3]) d_MD_load_36
      ·
        refine lv_iload_n (pc := 22) X.1 X.2.1 d_MD_load_22 rfl (lv_at hl 1 rfl) ?_
        refine lv_if_lt (pc := 23) (tgt := 35) X.1 X.2.1 d_MD_load_23 (by decide) (fun h4 => ?_) (fun h4 => ?_)
        ·
          refine lv_iconst (pc := 35) (v := 0) X.1 X.2.1 d_MD_load_35 (by decide) ?_
          exact ab_ki_ret (pc := 36) X hr hk hX rfl (by rw [f_MD_load, if_pos h1, if_neg h2, if_neg h3, if_pos h4]) d_MD_load_36
        ·
          refine lv_iload_n (pc := 26) X.1 X.2.1 d_MD_load_26 rfl (lv_at hl 1 rfl) ?_
          refine lv_sipush (pc := 27) (v := 512) X.1 X.2.1 d_MD_load_27 (by decide) ?_
          refine lv_iload_n (pc := 30) X.1 X.2.1 d_MD_load_30 rfl (lv_at hl 3 rfl) ?_
          refine lv_isub (pc := 31) X.1 X.2.1 d_MD_load_31 ?_
          refine lv_icmp_le (pc := 32) (tgt := 37) X.1 X.2.1 d_MD_load_32 (by decide) (fun h5 => ?_) (fun h5 => ?_)
          ·
            refine lv_iconst (pc := 37) (v := 0) X.1 X.2.1 d_MD_load_37 (by decide) ?_
            refine lv_istore (pc := 38) (lv' := [(4, .int 0), (0, .ref (q 0)), (1, .int x1), (2, .int x2), (3, .int x3)]) X.1 X.2.1 d_MD_load_38 hl (Nat.le_of_ble_eq_true rfl) rfl (fun ls hl => ?_)
            rw [show f_MD_load u x1 x2 x3 = g_MD_load_40 5 (stt u 0 0 0) x1 x2 x3 0 from by rw [f_MD_load, if_pos h1, if_neg h2, if_neg h3, if_neg h4, if_pos h5]]
            exact k_MD_load_40 X hr hk 5 (stt u 0 0 0) x1 x2 x3 0 (ab_ldI_i h2 h3 h4 h5) hX (lv_sub hl [1, 2, 3, 4, 0] rfl)
          ·
            refine lv_iconst (pc := 35) (v := 0) X.1 X.2.1 d_MD_load_35 (by decide) ?_
            exact ab_ki_ret (pc := 36) X hr hk hX rfl (by rw [f_MD_load, if_pos h1, if_neg h2, if_neg h3, if_neg h4, if_neg h5]) d_MD_load_36
abbrev b_MD_check : ByteArray := prog_11_method_30_code
def y_MD_check : MethodName := ⟨"ArcadeBoardModel", "check", "()I"⟩
theorem d_MD_check_0 : decode b_MD_check 0 = .ok (.aload_n 0, 1) := by decide +kernel
theorem d_MD_check_1 : decode b_MD_check 1 = .ok (.iconst 0, 1) := by decide +kernel
theorem d_MD_check_2 : decode b_MD_check 2 = .ok (.putfield 26, 3) := by decide +kernel
theorem d_MD_check_5 : decode b_MD_check 5 = .ok (.ldc 37, 2) := by decide +kernel
theorem d_MD_check_7 : decode b_MD_check 7 = .ok (.istore_n 1, 1) := by decide +kernel
theorem d_MD_check_8 : decode b_MD_check 8 = .ok (.iconst 0, 1) := by decide +kernel
theorem d_MD_check_9 : decode b_MD_check 9 = .ok (.istore_n 2, 1) := by decide +kernel
theorem d_MD_check_10 : decode b_MD_check 10 = .ok (.iload_n 2, 1) := by decide +kernel
theorem d_MD_check_11 : decode b_MD_check 11 = .ok (.sipush 512, 3) := by decide +kernel
theorem d_MD_check_14 : decode b_MD_check 14 = .ok (.if_icmp .ge 72, 3) := by decide +kernel
theorem d_MD_check_17 : decode b_MD_check 17 = .ok (.iload_n 1, 1) := by decide +kernel
theorem d_MD_check_18 : decode b_MD_check 18 = .ok (.aload_n 0, 1) := by decide +kernel
theorem d_MD_check_19 : decode b_MD_check 19 = .ok (.getfield 7, 3) := by decide +kernel
theorem d_MD_check_22 : decode b_MD_check 22 = .ok (.iload_n 2, 1) := by decide +kernel
theorem d_MD_check_23 : decode b_MD_check 23 = .ok (.iaload, 1) := by decide +kernel
theorem d_MD_check_24 : decode b_MD_check 24 = .ok (.sipush 256, 3) := by decide +kernel
theorem d_MD_check_27 : decode b_MD_check 27 = .ok (.imul, 1) := by decide +kernel
theorem d_MD_check_28 : decode b_MD_check 28 = .ok (.ixor, 1) := by decide +kernel
theorem d_MD_check_29 : decode b_MD_check 29 = .ok (.istore_n 1, 1) := by decide +kernel
theorem d_MD_check_30 : decode b_MD_check 30 = .ok (.iconst 0, 1) := by decide +kernel
theorem d_MD_check_31 : decode b_MD_check 31 = .ok (.istore_n 3, 1) := by decide +kernel
theorem d_MD_check_32 : decode b_MD_check 32 = .ok (.iload_n 3, 1) := by decide +kernel
theorem d_MD_check_33 : decode b_MD_check 33 = .ok (.bipush 8, 2) := by decide +kernel
theorem d_MD_check_35 : decode b_MD_check 35 = .ok (.if_icmp .ge 45, 3) := by decide +kernel
theorem d_MD_check_38 : decode b_MD_check 38 = .ok (.iload_n 1, 1) := by decide +kernel
theorem d_MD_check_39 : decode b_MD_check 39 = .ok (.sipush 32767, 3) := by decide +kernel
theorem d_MD_check_42 : decode b_MD_check 42 = .ok (.if_icmp .le 7, 3) := by decide +kernel
theorem d_MD_check_45 : decode b_MD_check 45 = .ok (.iconst 1, 1) := by decide +kernel
theorem d_MD_check_46 : decode b_MD_check 46 = .ok (.goto 4, 3) := by decide +kernel
theorem d_MD_check_49 : decode b_MD_check 49 = .ok (.iconst 0, 1) := by decide +kernel
theorem d_MD_check_50 : decode b_MD_check 50 = .ok (.istore 4, 2) := by decide +kernel
theorem d_MD_check_52 : decode b_MD_check 52 = .ok (.iconst 2, 1) := by decide +kernel
theorem d_MD_check_53 : decode b_MD_check 53 = .ok (.iload_n 1, 1) := by decide +kernel
theorem d_MD_check_54 : decode b_MD_check 54 = .ok (.imul, 1) := by decide +kernel
theorem d_MD_check_55 : decode b_MD_check 55 = .ok (.ldc 37, 2) := by decide +kernel
theorem d_MD_check_57 : decode b_MD_check 57 = .ok (.iand, 1) := by decide +kernel
theorem d_MD_check_58 : decode b_MD_check 58 = .ok (.istore_n 1, 1) := by decide +kernel
theorem d_MD_check_59 : decode b_MD_check 59 = .ok (.iload 4, 2) := by decide +kernel
theorem d_MD_check_61 : decode b_MD_check 61 = .ok (.ifCond .eq 11, 3) := by decide +kernel
theorem d_MD_check_64 : decode b_MD_check 64 = .ok (.iload_n 1, 1) := by decide +kernel
theorem d_MD_check_65 : decode b_MD_check 65 = .ok (.sipush 4129, 3) := by decide +kernel
theorem d_MD_check_68 : decode b_MD_check 68 = .ok (.ixor, 1) := by decide +kernel
theorem d_MD_check_69 : decode b_MD_check 69 = .ok (.goto 4, 3) := by decide +kernel
theorem d_MD_check_72 : decode b_MD_check 72 = .ok (.iload_n 1, 1) := by decide +kernel
theorem d_MD_check_73 : decode b_MD_check 73 = .ok (.istore_n 1, 1) := by decide +kernel
theorem d_MD_check_74 : decode b_MD_check 74 = .ok (.iinc 3 1, 3) := by decide +kernel
theorem d_MD_check_77 : decode b_MD_check 77 = .ok (.goto (-45), 3) := by decide +kernel
theorem d_MD_check_80 : decode b_MD_check 80 = .ok (.iinc 2 1, 3) := by decide +kernel
theorem d_MD_check_83 : decode b_MD_check 83 = .ok (.goto (-73), 3) := by decide +kernel
theorem d_MD_check_86 : decode b_MD_check 86 = .ok (.iload_n 1, 1) := by decide +kernel
theorem d_MD_check_87 : decode b_MD_check 87 = .ok (.ireturn, 1) := by decide +kernel
theorem tw_418 : Jvm.Cond.code ⟨"ArcadeBoardModel", "check", "()I"⟩ prog_11_method_30_code 5 (Option.some Jvm.ClassFile.FieldType.int) ∈ AL := ab_in (ab_t4 (List.mem_of_getElem? (i := 40) (by decide +kernel))) rfl
theorem tw_419 : Jvm.Cond.instanceMethod ⟨"ArcadeBoardModel", "check", "()I"⟩ ∈ AL := ab_in (ab_t4 (List.mem_of_getElem? (i := 38) (by decide +kernel))) rfl
theorem tw_420 : Jvm.Cond.selects "ArcadeBoardModel" ⟨"ArcadeBoardModel", "check", "()I"⟩ ⟨"ArcadeBoardModel", "check", "()I"⟩ ∈ AL := ab_in (ab_t4 (List.mem_of_getElem? (i := 39) (by decide +kernel))) rfl
theorem ok_MD_check : ab_yok y_MD_check b_MD_check 5 (some .int) 0 := ⟨tw_418, tw_280, by decide, by decide, by decide +kernel⟩
theorem okv_MD_check : ab_yok_V y_MD_check := ⟨tw_419, tw_420⟩
set_option maxHeartbeats 1000000 in
set_option maxRecDepth 100000 in
theorem k_MD_check_32 {p : Program} {l : Launch} {e : Env} {R : Room} {s : State} {m : MethodId} {args : Array Value} {below : List Frame} {meth : Method} {c : Code} {H : Heap} {locs : List Loc} {cells slots : Nat} {Q : State → Prop} {D : va_G} {t : Nat → ClassId} {q : Nat → Nat} (X : ab_cx p s m args c b_MD_check 5 y_MD_check.cls D (tyC t)) (k : Nat) (v1 : Int32) (v2 : Int32) (v3 : Int32) (j : Nat) (hi : v3 = nI j) (hj : j ≤ 8) (hf : 8 < j + k) {ls : Array Slot} (hl : lv_has ls 5 [(0, .ref (q 0)), (1, .int v1), (2, .int v2), (3, .int v3)])
    (hK : ∀ ls : Array Slot, lv_has ls 5 [(1, .int (g_MD_check_32 k v1 v2 v3)), (0, .ref (q 0)), (2, .int v2)] → W p l e R s m args below meth c H locs cells slots Q (F0 m 80 ls [])) : W p l e R s m args below meth c H locs cells slots Q (F0 m 32 ls []) := by
  induction k generalizing v1 v2 v3 j ls with
  | zero => exact absurd hf (by omega)
  | succ k ih =>
    refine lv_iload_n (pc := 32) X.1 X.2.1 d_MD_check_32 rfl (lv_at hl 3 rfl) ?_
    refine lv_bipush (pc := 33) (v := 8) X.1 X.2.1 d_MD_check_33 (by decide) ?_
    refine lv_icmp_ge (pc := 35) (tgt := 80) X.1 X.2.1 d_MD_check_35 (by decide) (fun h2 => ?_) (fun h2 => ?_)
    ·
      exact hK ls (by rw [g_MD_check_32, if_pos h2]; exact lv_sub hl [1, 0, 2] rfl)
    ·
      refine lv_iload_n (pc := 38) X.1 X.2.1 d_MD_check_38 rfl (lv_at hl 1 rfl) ?_
      refine lv_sipush (pc := 39) (v := 32767) X.1 X.2.1 d_MD_check_39 (by decide) ?_
      refine ab_jn (ls := ls) (rest := []) 50 (if v1 ≤ 32767 then 0 else 1 : Int32) ?_ (fun J => ?_)
      rotate_left
      ·
        refine lv_icmp_le (pc := 42) (tgt := 49) X.1 X.2.1 d_MD_check_42 (by decide) (fun h3 => ?_) (fun h3 => ?_)
        ·
          refine lv_iconst (pc := 49) (v := 0) X.1 X.2.1 d_MD_check_49 (by decide) ?_
          exact ab_jt (by rw [if_pos h3]) J
        ·
          refine lv_iconst (pc := 45) (v := 1) X.1 X.2.1 d_MD_check_45 (by decide) ?_
          refine lv_goto (pc := 46) (tgt := 50) X.1 X.2.1 d_MD_check_46 (by decide) ?_
          exact ab_jt (by rw [if_neg h3]) J
      refine lv_istore (pc := 50) (lv' := [(4, .int (if v1 ≤ 32767 then 0 else 1 : Int32)), (0, .ref (q 0)), (1, .int v1), (2, .int v2), (3, .int v3)]) X.1 X.2.1 d_MD_check_50 hl (Nat.le_of_ble_eq_true rfl) rfl (fun ls hl => ?_)
      refine lv_iconst (pc := 52) (v := 2) X.1 X.2.1 d_MD_check_52 (by decide) ?_
      refine lv_iload_n (pc := 53) X.1 X.2.1 d_MD_check_53 rfl (lv_at hl 2 rfl) ?_
      refine lv_imul (pc := 54) X.1 X.2.1 d_MD_check_54 ?_
      refine lv_ldc (pc := 55) (v := 65535) X.1 X.2.1 X.2.2.2.1 (X.2.2.2.2.1 _ tw_296) d_MD_check_55 ?_
      refine lv_iand (pc := 57) X.1 X.2.1 d_MD_check_57 ?_
      refine lv_istore_n (pc := 58) (lv' := [(1, .int ((2 * v1) &&& 65535)), (4, .int (if v1 ≤ 32767 then 0 else 1 : Int32)), (0, .ref (q 0)), (2, .int v2), (3, .int v3)]) X.1 X.2.1 d_MD_check_58 rfl hl (Nat.le_of_ble_eq_true rfl) rfl (fun ls hl => ?_)
      refine lv_iload (pc := 59) X.1 X.2.1 d_MD_check_59 (lv_at hl 1 rfl) ?_
      refine ab_jn (ls := ls) (rest := []) 73 (if (if v1 ≤ 32767 then 0 else 1 : Int32) = 0 then ((2 * v1) &&& 65535) else (((2 * v1) &&& 65535) ^^^ 4129) : Int32) ?_ (fun J => ?_)
      rotate_left
      ·
        refine lv_if_eq (pc := 61) (tgt := 72) X.1 X.2.1 d_MD_check_61 (by decide) (fun h4 => ?_) (fun h4 => ?_)
        ·
          refine lv_iload_n (pc := 72) X.1 X.2.1 d_MD_check_72 rfl (lv_at hl 0 rfl) ?_
          exact ab_jt (by rw [if_pos h4]) J
        ·
          refine lv_iload_n (pc := 64) X.1 X.2.1 d_MD_check_64 rfl (lv_at hl 0 rfl) ?_
          refine lv_sipush (pc := 65) (v := 4129) X.1 X.2.1 d_MD_check_65 (by decide) ?_
          refine lv_ixor (pc := 68) X.1 X.2.1 d_MD_check_68 ?_
          refine lv_goto (pc := 69) (tgt := 73) X.1 X.2.1 d_MD_check_69 (by decide) ?_
          exact ab_jt (by rw [if_neg h4]) J
      refine lv_istore_n (pc := 73) (lv' := [(1, .int (if (if v1 ≤ 32767 then 0 else 1 : Int32) = 0 then ((2 * v1) &&& 65535) else (((2 * v1) &&& 65535) ^^^ 4129) : Int32)), (4, .int (if v1 ≤ 32767 then 0 else 1 : Int32)), (0, .ref (q 0)), (2, .int v2), (3, .int v3)]) X.1 X.2.1 d_MD_check_73 rfl hl (Nat.le_of_ble_eq_true rfl) rfl (fun ls hl => ?_)
      refine lv_iinc (pc := 74) (k := 4) (v := v3 + 1) (lv' := [(3, .int (v3 + 1)), (1, .int (if (if v1 ≤ 32767 then 0 else 1 : Int32) = 0 then ((2 * v1) &&& 65535) else (((2 * v1) &&& 65535) ^^^ 4129) : Int32)), (4, .int (if v1 ≤ 32767 then 0 else 1 : Int32)), (0, .ref (q 0)), (2, .int v2)]) X.1 X.2.1 d_MD_check_74 hl rfl rfl (Nat.le_of_ble_eq_true rfl) rfl (fun ls hl => ?_)
      refine lv_goto (pc := 77) (tgt := 32) X.1 X.2.1 d_MD_check_77 (by decide) ?_
      rw [g_MD_check_32, if_neg h2] at hK
      exact ih (if (if v1 ≤ 32767 then 0 else 1 : Int32) = 0 then ((2 * v1) &&& 65535) else (((2 * v1) &&& 65535) ^^^ 4129) : Int32) v2 (v3 + 1) (j + 1) (by rw [hi]; exact nI_1 j) (ab_ltN h2 hi hj rfl (by decide)) (by have := ab_ltN h2 hi hj (N := 8) rfl (by decide); omega) (lv_sub hl [3, 1, 4, 0] rfl) hK
set_option maxHeartbeats 1000000 in
set_option maxRecDepth 100000 in
theorem k_MD_check_10 {p : Program} {l : Launch} {e : Env} {s : State} {m : MethodId} {args : Array Value} {below : List Frame} {meth : Method} {c : Code} {A : Nat → Prop} {D : va_G} {t : Nat → ClassId} {q : Nat → Nat} (X : ab_cx p s m args c b_MD_check 5 y_MD_check.cls D (tyC t)) (hr : meth.sig.returnType = some .int) (hk : meth.locks = false) (k : Nat) (u : SS) (v1 : Int32) (v2 : Int32) (j : Nat) (hi : v2 = nI j) (hj : j ≤ 512) (hf : 512 < j + k) {H : Heap} {locs : List Loc} {ls : Array Slot} (hX : ab_hx D (wM t q u) A s.heap H locs) (hl : lv_has ls 5 [(0, .ref (q 0)), (1, .int v1), (2, .int v2)]) :
    W p l e { frames := 0, cells := 0, slots := 0, locals := 0 } s m args below meth c H locs 0 0 (ab_ki_E below args s D (tyC t) (wM t q) A (g_MD_check_10 k u v1 v2)) (F0 m 10 ls []) := by
  induction k generalizing u v1 v2 j H locs ls with
  | zero => exact absurd hf (by omega)
  | succ k ih =>
    refine lv_iload_n (pc := 10) X.1 X.2.1 d_MD_check_10 rfl (lv_at hl 2 rfl) ?_
    refine lv_sipush (pc := 11) (v := 512) X.1 X.2.1 d_MD_check_11 (by decide) ?_
    refine lv_icmp_ge (pc := 14) (tgt := 86) X.1 X.2.1 d_MD_check_14 (by decide) (fun h1 => ?_) (fun h1 => ?_)
    ·
      refine lv_iload_n (pc := 86) X.1 X.2.1 d_MD_check_86 rfl (lv_at hl 1 rfl) ?_
      exact ab_ki_ret (pc := 87) X hr hk hX rfl (by rw [g_MD_check_10, if_pos h1]) d_MD_check_87
    ·
      refine lv_iload_n (pc := 17) X.1 X.2.1 d_MD_check_17 rfl (lv_at hl 1 rfl) ?_
      refine lv_aload_n (pc := 18) X.1 X.2.1 d_MD_check_18 rfl (lv_at hl 0 rfl) ?_
      refine ab_gx (pc := 19) (v := .ref (q 1)) X hX 0 9 1 rfl rfl (Nat.le_of_ble_eq_true rfl) in_MD rfl tw_287 rfl d_MD_check_19 ?_
      refine lv_iload_n (pc := 22) X.1 X.2.1 d_MD_check_22 rfl (lv_at hl 2 rfl) ?_
      refine ab_ald (pc := 23) (f := u 1) (j := (v2).toNatClampNeg) X hX 1 0 rfl rfl (ab_mono (ab_inN h1 hi hj rfl (by decide)) (by decide)) rfl d_MD_check_23 ?_
      refine lv_sipush (pc := 24) (v := 256) X.1 X.2.1 d_MD_check_24 (by decide) ?_
      refine lv_imul (pc := 27) X.1 X.2.1 d_MD_check_27 ?_
      refine lv_ixor (pc := 28) X.1 X.2.1 d_MD_check_28 ?_
      refine lv_istore_n (pc := 29) (lv' := [(1, .int (v1 ^^^ ((u 1 ((v2).toNatClampNeg)) * 256))), (0, .ref (q 0)), (2, .int v2)]) X.1 X.2.1 d_MD_check_29 rfl hl (Nat.le_of_ble_eq_true rfl) rfl (fun ls hl => ?_)
      refine lv_iconst (pc := 30) (v := 0) X.1 X.2.1 d_MD_check_30 (by decide) ?_
      refine lv_istore_n (pc := 31) (lv' := [(3, .int 0), (1, .int (v1 ^^^ ((u 1 ((v2).toNatClampNeg)) * 256))), (0, .ref (q 0)), (2, .int v2)]) X.1 X.2.1 d_MD_check_31 rfl hl (Nat.le_of_ble_eq_true rfl) rfl (fun ls hl => ?_)
      refine k_MD_check_32 X 9 (v1 ^^^ ((u 1 ((v2).toNatClampNeg)) * 256)) v2 0 0 rfl (Nat.zero_le _) (by decide) (lv_sub hl [2, 1, 3, 0] rfl) (fun ls hl => ?_)
      refine lv_iinc (pc := 80) (k := 2) (v := v2 + 1) (lv' := [(2, .int (v2 + 1)), (1, .int (g_MD_check_32 9 (v1 ^^^ ((u 1 ((v2).toNatClampNeg)) * 256)) v2 0)), (0, .ref (q 0))]) X.1 X.2.1 d_MD_check_80 hl rfl rfl (Nat.le_of_ble_eq_true rfl) rfl (fun ls hl => ?_)
      refine lv_goto (pc := 83) (tgt := 10) X.1 X.2.1 d_MD_check_83 (by decide) ?_
      rw [show g_MD_check_10 (k + 1) u v1 v2 = g_MD_check_10 k u (g_MD_check_32 9 (v1 ^^^ ((u 1 ((v2).toNatClampNeg)) * 256)) v2 0) (v2 + 1) from by rw [g_MD_check_10, if_neg h1]]
      exact ih u (g_MD_check_32 9 (v1 ^^^ ((u 1 ((v2).toNatClampNeg)) * 256)) v2 0) (v2 + 1) (j + 1) (by rw [hi]; exact nI_1 j) (ab_ltN h1 hi hj rfl (by decide)) (by have := ab_ltN h1 hi hj (N := 512) rfl (by decide); omega) hX (lv_sub hl [2, 1, 0] rfl)
set_option maxHeartbeats 1000000 in
set_option maxRecDepth 100000 in
theorem c_MD_check (l : Launch) (D : va_G) (t : Nat → ClassId) (q : Nat → Nat) (u : SS) : ab_ki l D (tyC t) (wM t q) y_MD_check b_MD_check 5 .int { frames := 0, cells := 0, slots := 0, locals := 0 } [.ref (q 0)] u (f_MD_check u) := by
  refine ab_ki_ofW (by decide) (Nat.le_of_ble_eq_true rfl) (fun p e s m below meth c ls A X hr hk hl hX => ?_)
  have hl : lv_has ls 5 [(0, .ref (q 0))] := hl
  refine lv_aload_n (pc := 0) X.1 X.2.1 d_MD_check_0 rfl (lv_at hl 0 rfl) ?_
  refine lv_iconst (pc := 1) (v := 0) X.1 X.2.1 d_MD_check_1 (by decide) ?_
  refine ab_px (pc := 2) (ws' := (wM t q (stt u 0 0 0))) X hX 0 9 0 ty_MD ty_MD_ok nm_MD rfl rfl (Nat.le_of_ble_eq_true rfl) in_MD rfl tw_283 rfl rfl rfl rfl (Nat.le_of_ble_eq_true rfl) (sf_wM_0_0 t q u 0) d_MD_check_2 (fun H locs hX => ?_)
  refine lv_ldc (pc := 5) (v := 65535) X.1 X.2.1 X.2.2.2.1 (X.2.2.2.2.1 _ tw_296) d_MD_check_5 ?_
  refine lv_istore_n (pc := 7) (lv' := [(1, .int 65535), (0, .ref (q 0))]) X.1 X.2.1 d_MD_check_7 rfl hl (Nat.le_of_ble_eq_true rfl) rfl (fun ls hl => ?_)
  refine lv_iconst (pc := 8) (v := 0) X.1 X.2.1 d_MD_check_8 (by decide) ?_
  refine lv_istore_n (pc := 9) (lv' := [(2, .int 0), (1, .int 65535), (0, .ref (q 0))]) X.1 X.2.1 d_MD_check_9 rfl hl (Nat.le_of_ble_eq_true rfl) rfl (fun ls hl => ?_)
  rw [show f_MD_check u = g_MD_check_10 513 (stt u 0 0 0) 65535 0 from by rw [f_MD_check]]
  exact k_MD_check_10 X hr hk 513 (stt u 0 0 0) 65535 0 0 rfl (Nat.zero_le _) (by decide) hX (lv_sub hl [2, 1, 0] rfl)
abbrev b_MD_power : ByteArray := prog_11_method_31_code
def y_MD_power : MethodName := ⟨"ArcadeBoardModel", "power", "(I)Z"⟩
theorem d_MD_power_0 : decode b_MD_power 0 = .ok (.aload_n 0, 1) := by decide +kernel
theorem d_MD_power_1 : decode b_MD_power 1 = .ok (.invokevirtual 184, 3) := by decide +kernel
theorem d_MD_power_4 : decode b_MD_power 4 = .ok (.iload_n 1, 1) := by decide +kernel
theorem d_MD_power_5 : decode b_MD_power 5 = .ok (.if_icmp .ne 7, 3) := by decide +kernel
theorem d_MD_power_8 : decode b_MD_power 8 = .ok (.iconst 1, 1) := by decide +kernel
theorem d_MD_power_9 : decode b_MD_power 9 = .ok (.goto 4, 3) := by decide +kernel
theorem d_MD_power_12 : decode b_MD_power 12 = .ok (.iconst 0, 1) := by decide +kernel
theorem d_MD_power_13 : decode b_MD_power 13 = .ok (.istore_n 2, 1) := by decide +kernel
theorem d_MD_power_14 : decode b_MD_power 14 = .ok (.aload_n 0, 1) := by decide +kernel
theorem d_MD_power_15 : decode b_MD_power 15 = .ok (.iload_n 2, 1) := by decide +kernel
theorem d_MD_power_16 : decode b_MD_power 16 = .ok (.ifCond .ne 7, 3) := by decide +kernel
theorem d_MD_power_19 : decode b_MD_power 19 = .ok (.iconst 1, 1) := by decide +kernel
theorem d_MD_power_20 : decode b_MD_power 20 = .ok (.goto 15, 3) := by decide +kernel
theorem d_MD_power_23 : decode b_MD_power 23 = .ok (.aload_n 0, 1) := by decide +kernel
theorem d_MD_power_24 : decode b_MD_power 24 = .ok (.getfield 181, 3) := by decide +kernel
theorem d_MD_power_27 : decode b_MD_power 27 = .ok (.ifCond .eq 7, 3) := by decide +kernel
theorem d_MD_power_30 : decode b_MD_power 30 = .ok (.iconst 2, 1) := by decide +kernel
theorem d_MD_power_31 : decode b_MD_power 31 = .ok (.goto 4, 3) := by decide +kernel
theorem d_MD_power_34 : decode b_MD_power 34 = .ok (.iconst 0, 1) := by decide +kernel
theorem d_MD_power_35 : decode b_MD_power 35 = .ok (.putfield 26, 3) := by decide +kernel
theorem d_MD_power_38 : decode b_MD_power 38 = .ok (.aload_n 0, 1) := by decide +kernel
theorem d_MD_power_39 : decode b_MD_power 39 = .ok (.getfield 26, 3) := by decide +kernel
theorem d_MD_power_42 : decode b_MD_power 42 = .ok (.ifCond .le 5, 3) := by decide +kernel
theorem d_MD_power_45 : decode b_MD_power 45 = .ok (.iconst 0, 1) := by decide +kernel
theorem d_MD_power_46 : decode b_MD_power 46 = .ok (.ireturn, 1) := by decide +kernel
theorem d_MD_power_47 : decode b_MD_power 47 = .ok (.aload_n 0, 1) := by decide +kernel
theorem d_MD_power_48 : decode b_MD_power 48 = .ok (.iconst 1, 1) := by decide +kernel
theorem d_MD_power_49 : decode b_MD_power 49 = .ok (.putfield 181, 3) := by decide +kernel
theorem d_MD_power_52 : decode b_MD_power 52 = .ok (.aload_n 0, 1) := by decide +kernel
theorem d_MD_power_53 : decode b_MD_power 53 = .ok (.invokevirtual 172, 3) := by decide +kernel
theorem d_MD_power_56 : decode b_MD_power 56 = .ok (.iconst 1, 1) := by decide +kernel
theorem d_MD_power_57 : decode b_MD_power 57 = .ok (.ireturn, 1) := by decide +kernel
theorem tw_421 : Jvm.Cond.code ⟨"ArcadeBoardModel", "power", "(I)Z"⟩ prog_11_method_31_code 3 (Option.some Jvm.ClassFile.FieldType.boolean) ∈ AL := ab_in (ab_t4 (List.mem_of_getElem? (i := 45) (by decide +kernel))) rfl
theorem tw_422 : Jvm.Cond.instanceMethod ⟨"ArcadeBoardModel", "power", "(I)Z"⟩ ∈ AL := ab_in (ab_t4 (List.mem_of_getElem? (i := 43) (by decide +kernel))) rfl
theorem tw_423 : Jvm.Cond.selects "ArcadeBoardModel" ⟨"ArcadeBoardModel", "power", "(I)Z"⟩ ⟨"ArcadeBoardModel", "power", "(I)Z"⟩ ∈ AL := ab_in (ab_t4 (List.mem_of_getElem? (i := 44) (by decide +kernel))) rfl
theorem tw_424 : Jvm.Cond.methodLink "ArcadeBoardModel" 184 ⟨"ArcadeBoardModel", "check", "()I"⟩ ∈ AL := ab_in (ab_t4 (List.mem_of_getElem? (i := 46) (by decide +kernel))) rfl
theorem ok_MD_power : ab_yok y_MD_power b_MD_power 3 (some .boolean) 1 := ⟨tw_421, tw_280, by decide, by decide, by decide +kernel⟩
theorem okv_MD_power : ab_yok_V y_MD_power := ⟨tw_422, tw_423⟩
set_option maxHeartbeats 1000000 in
set_option maxRecDepth 100000 in
theorem c_MD_power (l : Launch) (D : va_G) (t : Nat → ClassId) (q : Nat → Nat) (u : SS) (x1 : Int32) : ab_ki l D (tyC t) (wM t q) y_MD_power b_MD_power 3 .boolean { frames := 1, cells := 0, slots := 0, locals := 24 } [.ref (q 0), .int x1] u (f_MD_power u x1) := by
  refine ab_ki_ofW (by decide) (Nat.le_of_ble_eq_true rfl) (fun p e s m below meth c ls A X hr hk hl hX => ?_)
  have hl : lv_has ls 3 [(0, .ref (q 0)), (1, .int x1)] := hl
  refine lv_aload_n (pc := 0) X.1 X.2.1 d_MD_power_0 rfl (lv_at hl 0 rfl) ?_
  refine ab_ki_callV (pc := 1) (wr := []) (w := (wM t q)) (u := u) (F := f_MD_check u) (as := []) (rest := []) X hX (c_MD_check l D t q u) ok_MD_check okv_MD_check tw_424 0 9 rfl rfl rfl hl.1 rfl (Nat.le_of_ble_eq_true rfl) ⟨rfl, rfl, Nat.le_of_ble_eq_true rfl, Nat.le_of_ble_eq_true rfl⟩ ⟨Nat.zero_le _, Nat.zero_le _⟩ d_MD_power_1 (fun H locs hX => ?_)
  obtain ⟨F1, hF1⟩ : ∃ F1, F1 = f_MD_check u := ⟨_, rfl⟩
  rw [← hF1] at hX ⊢
  refine lv_iload_n (pc := 4) X.1 X.2.1 d_MD_power_4 rfl (lv_at hl 1 rfl) ?_
  refine ab_jn (ls := ls) (rest := []) 13 (if ((F1).1) = x1 then 1 else 0 : Int32) ?_ (fun J => ?_)
  rotate_left
  ·
    refine lv_icmp_ne (pc := 5) (tgt := 12) X.1 X.2.1 d_MD_power_5 (by decide) (fun h1 => ?_) (fun h1 => ?_)
    ·
      refine lv_iconst (pc := 12) (v := 0) X.1 X.2.1 d_MD_power_12 (by decide) ?_
      exact ab_jt (by rw [if_neg h1]) J
    ·
      refine lv_iconst (pc := 8) (v := 1) X.1 X.2.1 d_MD_power_8 (by decide) ?_
      refine lv_goto (pc := 9) (tgt := 13) X.1 X.2.1 d_MD_power_9 (by decide) ?_
      exact ab_jt (by rw [if_pos h1]) J
  refine lv_istore_n (pc := 13) (lv' := [(2, .int (if ((F1).1) = x1 then 1 else 0 : Int32)), (0, .ref (q 0)), (1, .int x1)]) X.1 X.2.1 d_MD_power_13 rfl hl (Nat.le_of_ble_eq_true rfl) rfl (fun ls hl => ?_)
  refine lv_aload_n (pc := 14) X.1 X.2.1 d_MD_power_14 rfl (lv_at hl 1 rfl) ?_
  refine lv_iload_n (pc := 15) X.1 X.2.1 d_MD_power_15 rfl (lv_at hl 0 rfl) ?_
  refine ab_jn (ls := ls) (rest := [.ref (q 0)]) 35 (if (if ((F1).1) = x1 then 1 else 0 : Int32) = 0 then 1 else (if (((F1).2) 0 1) = 0 then 0 else 2 : Int32) : Int32) ?_ (fun J => ?_)
  rotate_left
  ·
    refine lv_if_ne (pc := 16) (tgt := 23) X.1 X.2.1 d_MD_power_16 (by decide) (fun h2 => ?_) (fun h2 => ?_)
    ·
      refine lv_aload_n (pc := 23) X.1 X.2.1 d_MD_power_23 rfl (lv_at hl 1 rfl) ?_
      refine ab_gx (pc := 24) (v := .int (((F1).2) 0 1)) X hX 0 9 2 rfl rfl (Nat.le_of_ble_eq_true rfl) in_MD rfl tw_417 rfl d_MD_power_24 ?_
      refine lv_if_eq (pc := 27) (tgt := 34) X.1 X.2.1 d_MD_power_27 (by decide) (fun h3 => ?_) (fun h3 => ?_)
      ·
        refine lv_iconst (pc := 34) (v := 0) X.1 X.2.1 d_MD_power_34 (by decide) ?_
        exact ab_jt (by rw [if_neg h2, if_pos h3]) J
      ·
        refine lv_iconst (pc := 30) (v := 2) X.1 X.2.1 d_MD_power_30 (by decide) ?_
        refine lv_goto (pc := 31) (tgt := 35) X.1 X.2.1 d_MD_power_31 (by decide) ?_
        exact ab_jt (by rw [if_neg h2, if_neg h3]) J
    ·
      refine lv_iconst (pc := 19) (v := 1) X.1 X.2.1 d_MD_power_19 (by decide) ?_
      refine lv_goto (pc := 20) (tgt := 35) X.1 X.2.1 d_MD_power_20 (by decide) ?_
      exact ab_jt (by rw [if_pos h2]) J
  refine ab_px (pc := 35) (ws' := (wM t q (stt ((F1).2) 0 0 (if (if ((F1).1) = x1 then 1 else 0 : Int32) = 0 then 1 else (if (((F1).2) 0 1) = 0 then 0 else 2 : Int32) : Int32)))) X hX 0 9 0 ty_MD ty_MD_ok nm_MD rfl rfl (Nat.le_of_ble_eq_true rfl) in_MD rfl tw_283 rfl rfl rfl rfl (Nat.le_of_ble_eq_true rfl) (sf_wM_0_0 t q ((F1).2) (if (if ((F1).1) = x1 then 1 else 0 : Int32) = 0 then 1 else (if (((F1).2) 0 1) = 0 then 0 else 2 : Int32) : Int32)) d_MD_power_35 (fun H locs hX => ?_)
  refine lv_aload_n (pc := 38) X.1 X.2.1 d_MD_power_38 rfl (lv_at hl 1 rfl) ?_
  refine ab_gx (pc := 39) (v := .int (if (if ((F1).1) = x1 then 1 else 0 : Int32) = 0 then 1 else (if (((F1).2) 0 1) = 0 then 0 else 2 : Int32) : Int32)) X hX 0 9 0 rfl rfl (Nat.le_of_ble_eq_true rfl) in_MD rfl tw_283 rfl d_MD_power_39 ?_
  refine lv_if_le (pc := 42) (tgt := 47) X.1 X.2.1 d_MD_power_42 (by decide) (fun h4 => ?_) (fun h4 => ?_)
  ·
    refine lv_aload_n (pc := 47) X.1 X.2.1 d_MD_power_47 rfl (lv_at hl 1 rfl) ?_
    refine lv_iconst (pc := 48) (v := 1) X.1 X.2.1 d_MD_power_48 (by decide) ?_
    refine ab_px (pc := 49) (ws' := (wM t q (stt (stt ((F1).2) 0 0 (if (if ((F1).1) = x1 then 1 else 0 : Int32) = 0 then 1 else (if (((F1).2) 0 1) = 0 then 0 else 2 : Int32) : Int32)) 0 1 1))) X hX 0 9 2 ty_MD ty_MD_ok nm_MD rfl rfl (Nat.le_of_ble_eq_true rfl) in_MD rfl tw_417 rfl rfl rfl rfl (Nat.le_of_ble_eq_true rfl) (sf_wM_0_2 t q (stt ((F1).2) 0 0 (if (if ((F1).1) = x1 then 1 else 0 : Int32) = 0 then 1 else (if (((F1).2) 0 1) = 0 then 0 else 2 : Int32) : Int32)) 1) d_MD_power_49 (fun H locs hX => ?_)
    refine lv_aload_n (pc := 52) X.1 X.2.1 d_MD_power_52 rfl (lv_at hl 1 rfl) ?_
    refine ab_kv_callV (pc := 53) (wr := []) (w := (wM t q)) (u := (stt (stt ((F1).2) 0 0 (if (if ((F1).1) = x1 then 1 else 0 : Int32) = 0 then 1 else (if (((F1).2) 0 1) = 0 then 0 else 2 : Int32) : Int32)) 0 1 1)) (F := f_MD_reset (stt (stt ((F1).2) 0 0 (if (if ((F1).1) = x1 then 1 else 0 : Int32) = 0 then 1 else (if (((F1).2) 0 1) = 0 then 0 else 2 : Int32) : Int32)) 0 1 1)) (as := []) (rest := []) X hX (c_MD_reset l D t q (stt (stt ((F1).2) 0 0 (if (if ((F1).1) = x1 then 1 else 0 : Int32) = 0 then 1 else (if (((F1).2) 0 1) = 0 then 0 else 2 : Int32) : Int32)) 0 1 1)) ok_MD_reset okv_MD_reset tw_413 0 9 rfl rfl rfl hl.1 rfl (Nat.le_of_ble_eq_true rfl) ⟨rfl, rfl, Nat.le_of_ble_eq_true rfl, Nat.le_of_ble_eq_true rfl⟩ ⟨Nat.zero_le _, Nat.zero_le _⟩ d_MD_power_53 (fun H locs hX => ?_)
    refine lv_iconst (pc := 56) (v := 1) X.1 X.2.1 d_MD_power_56 (by decide) ?_
    exact ab_ki_ret (pc := 57) X hr hk hX rfl (by rw [f_MD_power, ← hF1, if_pos h4]) d_MD_power_57
  ·
    refine lv_iconst (pc := 45) (v := 0) X.1 X.2.1 d_MD_power_45 (by decide) ?_
    exact ab_ki_ret (pc := 46) X hr hk hX rfl (by rw [f_MD_power, ← hF1, if_neg h4]) d_MD_power_46
abbrev b_MD_off : ByteArray := prog_11_method_32_code
def y_MD_off : MethodName := ⟨"ArcadeBoardModel", "off", "()Z"⟩
theorem d_MD_off_0 : decode b_MD_off 0 = .ok (.aload_n 0, 1) := by decide +kernel
theorem d_MD_off_1 : decode b_MD_off 1 = .ok (.iconst 0, 1) := by decide +kernel
theorem d_MD_off_2 : decode b_MD_off 2 = .ok (.putfield 26, 3) := by decide +kernel
theorem d_MD_off_5 : decode b_MD_off 5 = .ok (.aload_n 0, 1) := by decide +kernel
theorem d_MD_off_6 : decode b_MD_off 6 = .ok (.getfield 181, 3) := by decide +kernel
theorem d_MD_off_9 : decode b_MD_off 9 = .ok (.istore_n 1, 1) := by decide +kernel
theorem d_MD_off_10 : decode b_MD_off 10 = .ok (.aload_n 0, 1) := by decide +kernel
theorem d_MD_off_11 : decode b_MD_off 11 = .ok (.iconst 0, 1) := by decide +kernel
theorem d_MD_off_12 : decode b_MD_off 12 = .ok (.putfield 181, 3) := by decide +kernel
theorem d_MD_off_15 : decode b_MD_off 15 = .ok (.iload_n 1, 1) := by decide +kernel
theorem d_MD_off_16 : decode b_MD_off 16 = .ok (.ireturn, 1) := by decide +kernel
theorem tw_425 : Jvm.Cond.code ⟨"ArcadeBoardModel", "off", "()Z"⟩ prog_11_method_32_code 2 (Option.some Jvm.ClassFile.FieldType.boolean) ∈ AL := ab_in (ab_t4 (List.mem_of_getElem? (i := 54) (by decide +kernel))) rfl
theorem tw_426 : Jvm.Cond.instanceMethod ⟨"ArcadeBoardModel", "off", "()Z"⟩ ∈ AL := ab_in (ab_t4 (List.mem_of_getElem? (i := 52) (by decide +kernel))) rfl
theorem tw_427 : Jvm.Cond.selects "ArcadeBoardModel" ⟨"ArcadeBoardModel", "off", "()Z"⟩ ⟨"ArcadeBoardModel", "off", "()Z"⟩ ∈ AL := ab_in (ab_t4 (List.mem_of_getElem? (i := 53) (by decide +kernel))) rfl
theorem ok_MD_off : ab_yok y_MD_off b_MD_off 2 (some .boolean) 0 := ⟨tw_425, tw_280, by decide, by decide, by decide +kernel⟩
theorem okv_MD_off : ab_yok_V y_MD_off := ⟨tw_426, tw_427⟩
set_option maxHeartbeats 1000000 in
set_option maxRecDepth 100000 in
theorem c_MD_off (l : Launch) (D : va_G) (t : Nat → ClassId) (q : Nat → Nat) (u : SS) (pb : ab_bo (u 0 1)) : ab_ki l D (tyC t) (wM t q) y_MD_off b_MD_off 2 .boolean { frames := 0, cells := 0, slots := 0, locals := 0 } [.ref (q 0)] u (f_MD_off u) := by
  refine ab_ki_ofW (by decide) (Nat.le_of_ble_eq_true rfl) (fun p e s m below meth c ls A X hr hk hl hX => ?_)
  have hl : lv_has ls 2 [(0, .ref (q 0))] := hl
  refine lv_aload_n (pc := 0) X.1 X.2.1 d_MD_off_0 rfl (lv_at hl 0 rfl) ?_
  refine lv_iconst (pc := 1) (v := 0) X.1 X.2.1 d_MD_off_1 (by decide) ?_
  refine ab_px (pc := 2) (ws' := (wM t q (stt u 0 0 0))) X hX 0 9 0 ty_MD ty_MD_ok nm_MD rfl rfl (Nat.le_of_ble_eq_true rfl) in_MD rfl tw_283 rfl rfl rfl rfl (Nat.le_of_ble_eq_true rfl) (sf_wM_0_0 t q u 0) d_MD_off_2 (fun H locs hX => ?_)
  refine lv_aload_n (pc := 5) X.1 X.2.1 d_MD_off_5 rfl (lv_at hl 0 rfl) ?_
  refine ab_gx (pc := 6) (v := .int (u 0 1)) X hX 0 9 2 rfl rfl (Nat.le_of_ble_eq_true rfl) in_MD rfl tw_417 rfl d_MD_off_6 ?_
  refine lv_istore_n (pc := 9) (lv' := [(1, .int (u 0 1)), (0, .ref (q 0))]) X.1 X.2.1 d_MD_off_9 rfl hl (Nat.le_of_ble_eq_true rfl) rfl (fun ls hl => ?_)
  refine lv_aload_n (pc := 10) X.1 X.2.1 d_MD_off_10 rfl (lv_at hl 1 rfl) ?_
  refine lv_iconst (pc := 11) (v := 0) X.1 X.2.1 d_MD_off_11 (by decide) ?_
  refine ab_px (pc := 12) (ws' := (wM t q (stt (stt u 0 0 0) 0 1 0))) X hX 0 9 2 ty_MD ty_MD_ok nm_MD rfl rfl (Nat.le_of_ble_eq_true rfl) in_MD rfl tw_417 rfl rfl rfl rfl (Nat.le_of_ble_eq_true rfl) (sf_wM_0_2 t q (stt u 0 0 0) 0) d_MD_off_12 (fun H locs hX => ?_)
  refine lv_iload_n (pc := 15) X.1 X.2.1 d_MD_off_15 rfl (lv_at hl 0 rfl) ?_
  exact ab_ki_ret (pc := 16) X hr hk hX (ab_nb pb) (by rw [f_MD_off]) d_MD_off_16
abbrev b_MD_run : ByteArray := prog_11_method_33_code
def y_MD_run : MethodName := ⟨"ArcadeBoardModel", "run", "(I)I"⟩
theorem d_MD_run_0 : decode b_MD_run 0 = .ok (.aload_n 0, 1) := by decide +kernel
theorem d_MD_run_1 : decode b_MD_run 1 = .ok (.iload_n 1, 1) := by decide +kernel
theorem d_MD_run_2 : decode b_MD_run 2 = .ok (.ifCond .lt 9, 3) := by decide +kernel
theorem d_MD_run_5 : decode b_MD_run 5 = .ok (.iload_n 1, 1) := by decide +kernel
theorem d_MD_run_6 : decode b_MD_run 6 = .ok (.bipush 60, 2) := by decide +kernel
theorem d_MD_run_8 : decode b_MD_run 8 = .ok (.if_icmp .le 7, 3) := by decide +kernel
theorem d_MD_run_11 : decode b_MD_run 11 = .ok (.iconst 1, 1) := by decide +kernel
theorem d_MD_run_12 : decode b_MD_run 12 = .ok (.goto 15, 3) := by decide +kernel
theorem d_MD_run_15 : decode b_MD_run 15 = .ok (.aload_n 0, 1) := by decide +kernel
theorem d_MD_run_16 : decode b_MD_run 16 = .ok (.getfield 181, 3) := by decide +kernel
theorem d_MD_run_19 : decode b_MD_run 19 = .ok (.ifCond .ne 7, 3) := by decide +kernel
theorem d_MD_run_22 : decode b_MD_run 22 = .ok (.iconst 2, 1) := by decide +kernel
theorem d_MD_run_23 : decode b_MD_run 23 = .ok (.goto 4, 3) := by decide +kernel
theorem d_MD_run_26 : decode b_MD_run 26 = .ok (.iconst 0, 1) := by decide +kernel
theorem d_MD_run_27 : decode b_MD_run 27 = .ok (.putfield 26, 3) := by decide +kernel
theorem d_MD_run_30 : decode b_MD_run 30 = .ok (.iconst 0, 1) := by decide +kernel
theorem d_MD_run_31 : decode b_MD_run 31 = .ok (.istore_n 2, 1) := by decide +kernel
theorem d_MD_run_32 : decode b_MD_run 32 = .ok (.iconst 0, 1) := by decide +kernel
theorem d_MD_run_33 : decode b_MD_run 33 = .ok (.istore_n 3, 1) := by decide +kernel
theorem d_MD_run_34 : decode b_MD_run 34 = .ok (.iload_n 3, 1) := by decide +kernel
theorem d_MD_run_35 : decode b_MD_run 35 = .ok (.iload_n 1, 1) := by decide +kernel
theorem d_MD_run_36 : decode b_MD_run 36 = .ok (.if_icmp .ge 27, 3) := by decide +kernel
theorem d_MD_run_39 : decode b_MD_run 39 = .ok (.aload_n 0, 1) := by decide +kernel
theorem d_MD_run_40 : decode b_MD_run 40 = .ok (.getfield 26, 3) := by decide +kernel
theorem d_MD_run_43 : decode b_MD_run 43 = .ok (.ifCond .ne 20, 3) := by decide +kernel
theorem d_MD_run_46 : decode b_MD_run 46 = .ok (.aload_n 0, 1) := by decide +kernel
theorem d_MD_run_47 : decode b_MD_run 47 = .ok (.invokevirtual 187, 3) := by decide +kernel
theorem d_MD_run_50 : decode b_MD_run 50 = .ok (.iload_n 2, 1) := by decide +kernel
theorem d_MD_run_51 : decode b_MD_run 51 = .ok (.aload_n 0, 1) := by decide +kernel
theorem d_MD_run_52 : decode b_MD_run 52 = .ok (.getfield 71, 3) := by decide +kernel
theorem d_MD_run_55 : decode b_MD_run 55 = .ok (.iadd, 1) := by decide +kernel
theorem d_MD_run_56 : decode b_MD_run 56 = .ok (.istore_n 2, 1) := by decide +kernel
theorem d_MD_run_57 : decode b_MD_run 57 = .ok (.iinc 3 1, 3) := by decide +kernel
theorem d_MD_run_60 : decode b_MD_run 60 = .ok (.goto (-26), 3) := by decide +kernel
theorem d_MD_run_63 : decode b_MD_run 63 = .ok (.iload_n 2, 1) := by decide +kernel
theorem d_MD_run_64 : decode b_MD_run 64 = .ok (.ireturn, 1) := by decide +kernel
theorem tw_428 : Jvm.Cond.code ⟨"ArcadeBoardModel", "run", "(I)I"⟩ prog_11_method_33_code 4 (Option.some Jvm.ClassFile.FieldType.int) ∈ AL := ab_in (ab_t4 (List.mem_of_getElem? (i := 58) (by decide +kernel))) rfl
theorem tw_429 : Jvm.Cond.instanceMethod ⟨"ArcadeBoardModel", "run", "(I)I"⟩ ∈ AL := ab_in (ab_t4 (List.mem_of_getElem? (i := 56) (by decide +kernel))) rfl
theorem tw_430 : Jvm.Cond.selects "ArcadeBoardModel" ⟨"ArcadeBoardModel", "run", "(I)I"⟩ ⟨"ArcadeBoardModel", "run", "(I)I"⟩ ∈ AL := ab_in (ab_t4 (List.mem_of_getElem? (i := 57) (by decide +kernel))) rfl
theorem tw_431 : Jvm.Cond.methodLink "ArcadeBoardModel" 187 ⟨"ArcadeBoardModel", "step", "()V"⟩ ∈ AL := ab_in (ab_t4 (List.mem_of_getElem? (i := 59) (by decide +kernel))) rfl
theorem ok_MD_run : ab_yok y_MD_run b_MD_run 4 (some .int) 1 := ⟨tw_428, tw_280, by decide, by decide, by decide +kernel⟩
theorem okv_MD_run : ab_yok_V y_MD_run := ⟨tw_429, tw_430⟩
set_option maxHeartbeats 1000000 in
set_option maxRecDepth 100000 in
theorem k_MD_run_34 {p : Program} {l : Launch} {e : Env} {s : State} {m : MethodId} {args : Array Value} {below : List Frame} {meth : Method} {c : Code} {A : Nat → Prop} {D : va_G} {t : Nat → ClassId} {q : Nat → Nat} (X : ab_cx p s m args c b_MD_run 4 y_MD_run.cls D (tyC t)) (hr : meth.sig.returnType = some .int) (hk : meth.locks = false) {P : Nat → SS → Prop} (hP : ∀ k v, P (k + 1) v → ab_snd (v 0 23)) (hS : ∀ k v, P (k + 1) v → P k (f_MD_step v)) (k : Nat) (u : SS) (v1 : Int32) (v2 : Int32) (v3 : Int32) (hq : (u 0 0 ≠ 0 ∧ 0 < k) ∨ (ab_rnI k v1 v3 ∧ P k u)) {H : Heap} {locs : List Loc} {ls : Array Slot} (hX : ab_hx D (wM t q u) A s.heap H locs) (hl : lv_has ls 4 [(0, .ref (q 0)), (1, .int v1), (2, .int v2), (3, .int v3)]) :
    W p l e { frames := 7, cells := 0, slots := 0, locals := 155 } s m args below meth c H locs 0 0 (ab_ki_E below args s D (tyC t) (wM t q) A (g_MD_run_34 k u v1 v2 v3)) (F0 m 34 ls []) := by
  induction k generalizing u v1 v2 v3 H locs ls with
  | zero => exact absurd hq ab_skip
  | succ k ih =>
    refine lv_iload_n (pc := 34) X.1 X.2.1 d_MD_run_34 rfl (lv_at hl 3 rfl) ?_
    refine lv_iload_n (pc := 35) X.1 X.2.1 d_MD_run_35 rfl (lv_at hl 1 rfl) ?_
    refine lv_icmp_ge (pc := 36) (tgt := 63) X.1 X.2.1 d_MD_run_36 (by decide) (fun h4 => ?_) (fun h4 => ?_)
    ·
      refine lv_iload_n (pc := 63) X.1 X.2.1 d_MD_run_63 rfl (lv_at hl 2 rfl) ?_
      exact ab_ki_ret (pc := 64) X hr hk hX rfl (by rw [g_MD_run_34, if_pos h4]) d_MD_run_64
    ·
      refine lv_aload_n (pc := 39) X.1 X.2.1 d_MD_run_39 rfl (lv_at hl 0 rfl) ?_
      refine ab_gx (pc := 40) (v := .int (u 0 0)) X hX 0 9 0 rfl rfl (Nat.le_of_ble_eq_true rfl) in_MD rfl tw_283 rfl d_MD_run_40 ?_
      refine lv_if_ne (pc := 43) (tgt := 63) X.1 X.2.1 d_MD_run_43 (by decide) (fun h5 => ?_) (fun h5 => ?_)
      ·
        refine lv_iload_n (pc := 63) X.1 X.2.1 d_MD_run_63 rfl (lv_at hl 2 rfl) ?_
        exact ab_ki_ret (pc := 64) X hr hk hX rfl (by rw [g_MD_run_34, if_neg h4, if_neg h5]) d_MD_run_64
      ·
        refine lv_aload_n (pc := 46) X.1 X.2.1 d_MD_run_46 rfl (lv_at hl 0 rfl) ?_
        refine ab_kv_callV (pc := 47) (wr := []) (w := (wM t q)) (u := u) (F := f_MD_step u) (as := []) (rest := []) X hX (c_MD_step l D t q u (hP _ _ (ab_rn hq h5).2)) ok_MD_step okv_MD_step tw_431 0 9 rfl rfl rfl hl.1 rfl (Nat.le_of_ble_eq_true rfl) ⟨rfl, rfl, Nat.le_of_ble_eq_true rfl, Nat.le_of_ble_eq_true rfl⟩ ⟨Nat.zero_le _, Nat.zero_le _⟩ d_MD_run_47 (fun H locs hX => ?_)
        refine lv_iload_n (pc := 50) X.1 X.2.1 d_MD_run_50 rfl (lv_at hl 2 rfl) ?_
        refine lv_aload_n (pc := 51) X.1 X.2.1 d_MD_run_51 rfl (lv_at hl 0 rfl) ?_
        refine ab_gx (pc := 52) (v := .int ((f_MD_step u) 0 24)) X hX 0 9 29 rfl rfl (Nat.le_of_ble_eq_true rfl) in_MD rfl tw_351 rfl d_MD_run_52 ?_
        refine lv_iadd (pc := 55) X.1 X.2.1 d_MD_run_55 ?_
        refine lv_istore_n (pc := 56) (lv' := [(2, .int (v2 + ((f_MD_step u) 0 24))), (0, .ref (q 0)), (1, .int v1), (3, .int v3)]) X.1 X.2.1 d_MD_run_56 rfl hl (Nat.le_of_ble_eq_true rfl) rfl (fun ls hl => ?_)
        refine lv_iinc (pc := 57) (k := 3) (v := v3 + 1) (lv' := [(3, .int (v3 + 1)), (2, .int (v2 + ((f_MD_step u) 0 24))), (0, .ref (q 0)), (1, .int v1)]) X.1 X.2.1 d_MD_run_57 hl rfl rfl (Nat.le_of_ble_eq_true rfl) rfl (fun ls hl => ?_)
        refine lv_goto (pc := 60) (tgt := 34) X.1 X.2.1 d_MD_run_60 (by decide) ?_
        rw [show g_MD_run_34 (k + 1) u v1 v2 v3 = g_MD_run_34 k (f_MD_step u) v1 (v2 + ((f_MD_step u) 0 24)) (v3 + 1) from by rw [g_MD_run_34, if_neg h4, if_pos h5]]
        exact ih (f_MD_step u) v1 (v2 + ((f_MD_step u) 0 24)) (v3 + 1) (Or.inr ⟨ab_rnI_s (ab_rn hq h5).1 h4, hS _ _ (ab_rn hq h5).2⟩) hX (lv_sub hl [2, 3, 1, 0] rfl)
set_option maxHeartbeats 1000000 in
set_option maxRecDepth 100000 in
theorem c_MD_run (l : Launch) (D : va_G) (t : Nat → ClassId) (q : Nat → Nat) (u : SS) (x1 : Int32) {P : Nat → SS → Prop} (hP : ∀ k v, P (k + 1) v → ab_snd (v 0 23)) (hS : ∀ k v, P (k + 1) v → P k (f_MD_step v)) (p9 : ∀ c, P 61 (stt u 0 0 c)) : ab_ki l D (tyC t) (wM t q) y_MD_run b_MD_run 4 .int { frames := 7, cells := 0, slots := 0, locals := 155 } [.ref (q 0), .int x1] u (f_MD_run u x1) := by
  refine ab_ki_ofW (by decide) (Nat.le_of_ble_eq_true rfl) (fun p e s m below meth c ls A X hr hk hl hX => ?_)
  have hl : lv_has ls 4 [(0, .ref (q 0)), (1, .int x1)] := hl
  refine lv_aload_n (pc := 0) X.1 X.2.1 d_MD_run_0 rfl (lv_at hl 0 rfl) ?_
  refine lv_iload_n (pc := 1) X.1 X.2.1 d_MD_run_1 rfl (lv_at hl 1 rfl) ?_
  refine ab_jn (ls := ls) (rest := [.ref (q 0)]) 27 (if x1 < 0 then 1 else (if x1 ≤ 60 then (if (u 0 1) = 0 then 2 else 0 : Int32) else 1 : Int32) : Int32) ?_ (fun J => ?_)
  rotate_left
  ·
    refine lv_if_lt (pc := 2) (tgt := 11) X.1 X.2.1 d_MD_run_2 (by decide) (fun h1 => ?_) (fun h1 => ?_)
    ·
      refine lv_iconst (pc := 11) (v := 1) X.1 X.2.1 d_MD_run_11 (by decide) ?_
      refine lv_goto (pc := 12) (tgt := 27) X.1 X.2.1 d_MD_run_12 (by decide) ?_
      exact ab_jt (by rw [if_pos h1]) J
    ·
      refine lv_iload_n (pc := 5) X.1 X.2.1 d_MD_run_5 rfl (lv_at hl 1 rfl) ?_
      refine lv_bipush (pc := 6) (v := 60) X.1 X.2.1 d_MD_run_6 (by decide) ?_
      refine lv_icmp_le (pc := 8) (tgt := 15) X.1 X.2.1 d_MD_run_8 (by decide) (fun h2 => ?_) (fun h2 => ?_)
      ·
        refine lv_aload_n (pc := 15) X.1 X.2.1 d_MD_run_15 rfl (lv_at hl 0 rfl) ?_
        refine ab_gx (pc := 16) (v := .int (u 0 1)) X hX 0 9 2 rfl rfl (Nat.le_of_ble_eq_true rfl) in_MD rfl tw_417 rfl d_MD_run_16 ?_
        refine lv_if_ne (pc := 19) (tgt := 26) X.1 X.2.1 d_MD_run_19 (by decide) (fun h3 => ?_) (fun h3 => ?_)
        ·
          refine lv_iconst (pc := 26) (v := 0) X.1 X.2.1 d_MD_run_26 (by decide) ?_
          exact ab_jt (by rw [if_neg h1, if_pos h2, if_neg h3]) J
        ·
          refine lv_iconst (pc := 22) (v := 2) X.1 X.2.1 d_MD_run_22 (by decide) ?_
          refine lv_goto (pc := 23) (tgt := 27) X.1 X.2.1 d_MD_run_23 (by decide) ?_
          exact ab_jt (by rw [if_neg h1, if_pos h2, if_pos h3]) J
      ·
        refine lv_iconst (pc := 11) (v := 1) X.1 X.2.1 d_MD_run_11 (by decide) ?_
        refine lv_goto (pc := 12) (tgt := 27) X.1 X.2.1 d_MD_run_12 (by decide) ?_
        exact ab_jt (by rw [if_neg h1, if_neg h2]) J
  refine ab_px (pc := 27) (ws' := (wM t q (stt u 0 0 (if x1 < 0 then 1 else (if x1 ≤ 60 then (if (u 0 1) = 0 then 2 else 0 : Int32) else 1 : Int32) : Int32)))) X hX 0 9 0 ty_MD ty_MD_ok nm_MD rfl rfl (Nat.le_of_ble_eq_true rfl) in_MD rfl tw_283 rfl rfl rfl rfl (Nat.le_of_ble_eq_true rfl) (sf_wM_0_0 t q u (if x1 < 0 then 1 else (if x1 ≤ 60 then (if (u 0 1) = 0 then 2 else 0 : Int32) else 1 : Int32) : Int32)) d_MD_run_27 (fun H locs hX => ?_)
  refine lv_iconst (pc := 30) (v := 0) X.1 X.2.1 d_MD_run_30 (by decide) ?_
  refine lv_istore_n (pc := 31) (lv' := [(2, .int 0), (0, .ref (q 0)), (1, .int x1)]) X.1 X.2.1 d_MD_run_31 rfl hl (Nat.le_of_ble_eq_true rfl) rfl (fun ls hl => ?_)
  refine lv_iconst (pc := 32) (v := 0) X.1 X.2.1 d_MD_run_32 (by decide) ?_
  refine lv_istore_n (pc := 33) (lv' := [(3, .int 0), (2, .int 0), (0, .ref (q 0)), (1, .int x1)]) X.1 X.2.1 d_MD_run_33 rfl hl (Nat.le_of_ble_eq_true rfl) rfl (fun ls hl => ?_)
  rw [show f_MD_run u x1 = g_MD_run_34 61 (stt u 0 0 (if x1 < 0 then 1 else (if x1 ≤ 60 then (if (u 0 1) = 0 then 2 else 0 : Int32) else 1 : Int32) : Int32)) x1 0 0 from by rw [f_MD_run]]
  exact k_MD_run_34 X hr hk hP hS 61 (stt u 0 0 (if x1 < 0 then 1 else (if x1 ≤ 60 then (if (u 0 1) = 0 then 2 else 0 : Int32) else 1 : Int32) : Int32)) x1 0 0 (ab_rnI_i p9 _ rfl) hX (lv_sub hl [2, 3, 1, 0] rfl)
