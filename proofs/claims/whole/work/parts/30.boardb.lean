abbrev b_AB_switches : ByteArray := prog_1_method_7_code
def y_AB_switches : MethodName := ⟨"ArcadeBoard", "switches", "(II)Z"⟩
theorem d_AB_switches_0 : decode b_AB_switches 0 = .ok (.aload_n 0, 1) := by decide +kernel
theorem d_AB_switches_1 : decode b_AB_switches 1 = .ok (.getfield 46, 3) := by decide +kernel
theorem d_AB_switches_4 : decode b_AB_switches 4 = .ok (.iload_n 1, 1) := by decide +kernel
theorem d_AB_switches_5 : decode b_AB_switches 5 = .ok (.iload_n 2, 1) := by decide +kernel
theorem d_AB_switches_6 : decode b_AB_switches 6 = .ok (.invokevirtual 108, 3) := by decide +kernel
theorem d_AB_switches_9 : decode b_AB_switches 9 = .ok (.ireturn, 1) := by decide +kernel
theorem tw_519 : Jvm.Cond.code ⟨"ArcadeBoard", "switches", "(II)Z"⟩ prog_1_method_7_code 3 (Option.some Jvm.ClassFile.FieldType.boolean) ∈ AL := ab_in (ab_t2 (List.mem_of_getElem? (i := 51) (by decide +kernel))) rfl
theorem tw_520 : Jvm.Cond.instanceMethod ⟨"ArcadeBoard", "switches", "(II)Z"⟩ ∈ AL := ab_in (ab_t2 (List.mem_of_getElem? (i := 49) (by decide +kernel))) rfl
theorem tw_521 : Jvm.Cond.selects "ArcadeBoard" ⟨"ArcadeBoard", "switches", "(II)Z"⟩ ⟨"ArcadeBoard", "switches", "(II)Z"⟩ ∈ AL := ab_in (ab_t2 (List.mem_of_getElem? (i := 50) (by decide +kernel))) rfl
theorem tw_522 : Jvm.Cond.fieldLink "ArcadeBoard" 46 "ArcadeBoard" "ports" "LArcadeBoard$Ports;" ∈ AL := ab_in (ab_t1 (List.mem_of_getElem? (i := 235) (by decide +kernel))) rfl
theorem tw_523 : Jvm.Cond.methodLink "ArcadeBoard" 108 ⟨"ArcadeBoard$Ports", "setSwitches", "(II)Z"⟩ ∈ AL := ab_in (ab_t2 (List.mem_of_getElem? (i := 52) (by decide +kernel))) rfl
theorem ok_AB_switches : ab_yok y_AB_switches b_AB_switches 3 (some .boolean) 2 := ⟨tw_519, tw_492, by decide, by decide, by decide +kernel⟩
theorem okv_AB_switches : ab_yok_V y_AB_switches := ⟨tw_520, tw_521⟩
set_option maxHeartbeats 1000000 in
set_option maxRecDepth 100000 in
theorem c_AB_switches (l : Launch) (D : va_G) (t : Nat → ClassId) (q : Nat → Nat) (z u : SS) (x1 : Int32) (x2 : Int32) : ab_ki l D (tyC t) (wT t q) y_AB_switches b_AB_switches 3 .boolean { frames := 1, cells := 0, slots := 0, locals := 22 } [.ref (q 12), .int x1, .int x2] (z, u) (f_AB_switches z u x1 x2) := by
  refine ab_ki_ofW (by decide) (Nat.le_of_ble_eq_true rfl) (fun p e s m below meth c ls A X hr hk hl hX => ?_)
  have hl : lv_has ls 3 [(0, .ref (q 12)), (1, .int x1), (2, .int x2)] := hl
  refine lv_aload_n (pc := 0) X.1 X.2.1 d_AB_switches_0 rfl (lv_at hl 0 rfl) ?_
  refine ab_gx (pc := 1) (v := .ref (q 8)) X hX 0 8 4 rfl rfl (Nat.le_of_ble_eq_true rfl) in_AB rfl tw_522 rfl d_AB_switches_1 ?_
  refine lv_iload_n (pc := 4) X.1 X.2.1 d_AB_switches_4 rfl (lv_at hl 1 rfl) ?_
  refine lv_iload_n (pc := 5) X.1 X.2.1 d_AB_switches_5 rfl (lv_at hl 2 rfl) ?_
  refine ab_ki_callV (pc := 6) (wr := (wA t q z)) (w := (wC t q)) (u := u) (F := f_Ports_setSwitches u x1 x2) (as := [.int x1, .int x2]) (rest := []) X hX (c_Ports_setSwitches l D t q u x1 x2) ok_Ports_setSwitches okv_Ports_setSwitches tw_523 17 3 rfl rfl rfl hl.1 rfl (Nat.le_of_ble_eq_true rfl) ⟨rfl, rfl, Nat.le_of_ble_eq_true rfl, Nat.le_of_ble_eq_true rfl⟩ ⟨Nat.zero_le _, Nat.zero_le _⟩ d_AB_switches_6 (fun H locs hX => ?_)
  have hX : ab_hx D (wT t q (z, ((f_Ports_setSwitches u x1 x2).2))) A s.heap H locs := hX
  exact ab_ki_ret (pc := 9) X hr hk hX (ab_nb (ab_sw01 _ _ _)) (by rw [f_AB_switches]) d_AB_switches_9
abbrev b_AB_coin : ByteArray := prog_1_method_8_code
def y_AB_coin : MethodName := ⟨"ArcadeBoard", "coin", "()Z"⟩
theorem d_AB_coin_0 : decode b_AB_coin 0 = .ok (.aload_n 0, 1) := by decide +kernel
theorem d_AB_coin_1 : decode b_AB_coin 1 = .ok (.getfield 10, 3) := by decide +kernel
theorem d_AB_coin_4 : decode b_AB_coin 4 = .ok (.getfield 112, 3) := by decide +kernel
theorem d_AB_coin_7 : decode b_AB_coin 7 = .ok (.ifCond .le 5, 3) := by decide +kernel
theorem d_AB_coin_10 : decode b_AB_coin 10 = .ok (.iconst 0, 1) := by decide +kernel
theorem d_AB_coin_11 : decode b_AB_coin 11 = .ok (.ireturn, 1) := by decide +kernel
theorem d_AB_coin_12 : decode b_AB_coin 12 = .ok (.aload_n 0, 1) := by decide +kernel
theorem d_AB_coin_13 : decode b_AB_coin 13 = .ok (.getfield 10, 3) := by decide +kernel
theorem d_AB_coin_16 : decode b_AB_coin 16 = .ok (.iconst 3, 1) := by decide +kernel
theorem d_AB_coin_17 : decode b_AB_coin 17 = .ok (.putfield 112, 3) := by decide +kernel
theorem d_AB_coin_20 : decode b_AB_coin 20 = .ok (.iconst 1, 1) := by decide +kernel
theorem d_AB_coin_21 : decode b_AB_coin 21 = .ok (.ireturn, 1) := by decide +kernel
theorem tw_524 : Jvm.Cond.code ⟨"ArcadeBoard", "coin", "()Z"⟩ prog_1_method_8_code 1 (Option.some Jvm.ClassFile.FieldType.boolean) ∈ AL := ab_in (ab_t2 (List.mem_of_getElem? (i := 59) (by decide +kernel))) rfl
theorem tw_525 : Jvm.Cond.instanceMethod ⟨"ArcadeBoard", "coin", "()Z"⟩ ∈ AL := ab_in (ab_t2 (List.mem_of_getElem? (i := 57) (by decide +kernel))) rfl
theorem tw_526 : Jvm.Cond.selects "ArcadeBoard" ⟨"ArcadeBoard", "coin", "()Z"⟩ ⟨"ArcadeBoard", "coin", "()Z"⟩ ∈ AL := ab_in (ab_t2 (List.mem_of_getElem? (i := 58) (by decide +kernel))) rfl
theorem tw_527 : Jvm.Cond.fieldLink "ArcadeBoard" 10 "ArcadeBoard" "state" "LArcadeBoard$State;" ∈ AL := ab_in (ab_t1 (List.mem_of_getElem? (i := 231) (by decide +kernel))) rfl
theorem tw_528 : Jvm.Cond.fieldLink "ArcadeBoard" 112 "ArcadeBoard$State" "coinCount" "I" ∈ AL := ab_in (ab_t1 (List.mem_of_getElem? (i := 86) (by decide +kernel))) rfl
theorem ok_AB_coin : ab_yok y_AB_coin b_AB_coin 1 (some .boolean) 0 := ⟨tw_524, tw_492, by decide, by decide, by decide +kernel⟩
theorem okv_AB_coin : ab_yok_V y_AB_coin := ⟨tw_525, tw_526⟩
set_option maxHeartbeats 1000000 in
set_option maxRecDepth 100000 in
theorem c_AB_coin (l : Launch) (D : va_G) (t : Nat → ClassId) (q : Nat → Nat) (z u : SS) : ab_ki l D (tyC t) (wT t q) y_AB_coin b_AB_coin 1 .boolean { frames := 0, cells := 0, slots := 0, locals := 0 } [.ref (q 12)] (z, u) (f_AB_coin z u) := by
  refine ab_ki_ofW (by decide) (Nat.le_of_ble_eq_true rfl) (fun p e s m below meth c ls A X hr hk hl hX => ?_)
  have hl : lv_has ls 1 [(0, .ref (q 12))] := hl
  refine lv_aload_n (pc := 0) X.1 X.2.1 d_AB_coin_0 rfl (lv_at hl 0 rfl) ?_
  refine ab_gx (pc := 1) (v := .ref (q 1)) X hX 0 8 0 rfl rfl (Nat.le_of_ble_eq_true rfl) in_AB rfl tw_527 rfl d_AB_coin_1 ?_
  refine ab_gx (pc := 4) (v := .int (u 0 12)) X hX 10 7 14 rfl rfl (Nat.le_of_ble_eq_true rfl) in_State rfl tw_528 rfl d_AB_coin_4 ?_
  refine lv_if_le (pc := 7) (tgt := 12) X.1 X.2.1 d_AB_coin_7 (by decide) (fun h1 => ?_) (fun h1 => ?_)
  ·
    refine lv_aload_n (pc := 12) X.1 X.2.1 d_AB_coin_12 rfl (lv_at hl 0 rfl) ?_
    refine ab_gx (pc := 13) (v := .ref (q 1)) X hX 0 8 0 rfl rfl (Nat.le_of_ble_eq_true rfl) in_AB rfl tw_527 rfl d_AB_coin_13 ?_
    refine lv_iconst (pc := 16) (v := 3) X.1 X.2.1 d_AB_coin_16 (by decide) ?_
    refine ab_px (pc := 17) (ws' := (wT t q (z, (stt u 0 12 3)))) X hX 10 7 14 ty_State ty_State_ok nm_State rfl rfl (Nat.le_of_ble_eq_true rfl) in_State rfl tw_528 rfl rfl rfl rfl (Nat.le_of_ble_eq_true rfl) (sf_wT_10_14 t q z u 3) d_AB_coin_17 (fun H locs hX => ?_)
    refine lv_iconst (pc := 20) (v := 1) X.1 X.2.1 d_AB_coin_20 (by decide) ?_
    exact ab_ki_ret (pc := 21) X hr hk hX rfl (by rw [f_AB_coin, if_pos h1]) d_AB_coin_21
  ·
    refine lv_iconst (pc := 10) (v := 0) X.1 X.2.1 d_AB_coin_10 (by decide) ?_
    exact ab_ki_ret (pc := 11) X hr hk hX rfl (by rw [f_AB_coin, if_neg h1]) d_AB_coin_11
abbrev b_AB_look : ByteArray := prog_1_method_9_code
def y_AB_look : MethodName := ⟨"ArcadeBoard", "look", "(I)I"⟩
theorem d_AB_look_0 : decode b_AB_look 0 = .ok (.iload_n 1, 1) := by decide +kernel
theorem d_AB_look_1 : decode b_AB_look 1 = .ok (.ifCond .lt 18, 3) := by decide +kernel
theorem d_AB_look_4 : decode b_AB_look 4 = .ok (.iload_n 1, 1) := by decide +kernel
theorem d_AB_look_5 : decode b_AB_look 5 = .ok (.bipush 7, 2) := by decide +kernel
theorem d_AB_look_7 : decode b_AB_look 7 = .ok (.if_icmp .gt 12, 3) := by decide +kernel
theorem d_AB_look_10 : decode b_AB_look 10 = .ok (.aload_n 0, 1) := by decide +kernel
theorem d_AB_look_11 : decode b_AB_look 11 = .ok (.getfield 30, 3) := by decide +kernel
theorem d_AB_look_14 : decode b_AB_look 14 = .ok (.iload_n 1, 1) := by decide +kernel
theorem d_AB_look_15 : decode b_AB_look 15 = .ok (.invokevirtual 116, 3) := by decide +kernel
theorem d_AB_look_18 : decode b_AB_look 18 = .ok (.ireturn, 1) := by decide +kernel
theorem d_AB_look_19 : decode b_AB_look 19 = .ok (.iload_n 1, 1) := by decide +kernel
theorem d_AB_look_20 : decode b_AB_look 20 = .ok (.tableswitch 176 8 19 #[64, 72, 80, 88, 104, 120, 128, 136, 144, 152, 160, 168], 64) := by decide +kernel
theorem d_AB_look_84 : decode b_AB_look 84 = .ok (.aload_n 0, 1) := by decide +kernel
theorem d_AB_look_85 : decode b_AB_look 85 = .ok (.getfield 10, 3) := by decide +kernel
theorem d_AB_look_88 : decode b_AB_look 88 = .ok (.getfield 120, 3) := by decide +kernel
theorem d_AB_look_91 : decode b_AB_look 91 = .ok (.ireturn, 1) := by decide +kernel
theorem d_AB_look_92 : decode b_AB_look 92 = .ok (.aload_n 0, 1) := by decide +kernel
theorem d_AB_look_93 : decode b_AB_look 93 = .ok (.getfield 10, 3) := by decide +kernel
theorem d_AB_look_96 : decode b_AB_look 96 = .ok (.getfield 123, 3) := by decide +kernel
theorem d_AB_look_99 : decode b_AB_look 99 = .ok (.ireturn, 1) := by decide +kernel
theorem d_AB_look_100 : decode b_AB_look 100 = .ok (.aload_n 0, 1) := by decide +kernel
theorem d_AB_look_101 : decode b_AB_look 101 = .ok (.getfield 10, 3) := by decide +kernel
theorem d_AB_look_104 : decode b_AB_look 104 = .ok (.getfield 126, 3) := by decide +kernel
theorem d_AB_look_107 : decode b_AB_look 107 = .ok (.ireturn, 1) := by decide +kernel
theorem d_AB_look_108 : decode b_AB_look 108 = .ok (.aload_n 0, 1) := by decide +kernel
theorem d_AB_look_109 : decode b_AB_look 109 = .ok (.getfield 10, 3) := by decide +kernel
theorem d_AB_look_112 : decode b_AB_look 112 = .ok (.getfield 129, 3) := by decide +kernel
theorem d_AB_look_115 : decode b_AB_look 115 = .ok (.ifCond .eq 7, 3) := by decide +kernel
theorem d_AB_look_118 : decode b_AB_look 118 = .ok (.iconst 1, 1) := by decide +kernel
theorem d_AB_look_119 : decode b_AB_look 119 = .ok (.goto 4, 3) := by decide +kernel
theorem d_AB_look_122 : decode b_AB_look 122 = .ok (.iconst 0, 1) := by decide +kernel
theorem d_AB_look_123 : decode b_AB_look 123 = .ok (.ireturn, 1) := by decide +kernel
theorem d_AB_look_124 : decode b_AB_look 124 = .ok (.aload_n 0, 1) := by decide +kernel
theorem d_AB_look_125 : decode b_AB_look 125 = .ok (.getfield 10, 3) := by decide +kernel
theorem d_AB_look_128 : decode b_AB_look 128 = .ok (.getfield 132, 3) := by decide +kernel
theorem d_AB_look_131 : decode b_AB_look 131 = .ok (.ifCond .eq 7, 3) := by decide +kernel
theorem d_AB_look_134 : decode b_AB_look 134 = .ok (.iconst 1, 1) := by decide +kernel
theorem d_AB_look_135 : decode b_AB_look 135 = .ok (.goto 4, 3) := by decide +kernel
theorem d_AB_look_138 : decode b_AB_look 138 = .ok (.iconst 0, 1) := by decide +kernel
theorem d_AB_look_139 : decode b_AB_look 139 = .ok (.ireturn, 1) := by decide +kernel
theorem d_AB_look_140 : decode b_AB_look 140 = .ok (.aload_n 0, 1) := by decide +kernel
theorem d_AB_look_141 : decode b_AB_look 141 = .ok (.getfield 10, 3) := by decide +kernel
theorem d_AB_look_144 : decode b_AB_look 144 = .ok (.getfield 135, 3) := by decide +kernel
theorem d_AB_look_147 : decode b_AB_look 147 = .ok (.ireturn, 1) := by decide +kernel
theorem d_AB_look_148 : decode b_AB_look 148 = .ok (.aload_n 0, 1) := by decide +kernel
theorem d_AB_look_149 : decode b_AB_look 149 = .ok (.getfield 10, 3) := by decide +kernel
theorem d_AB_look_152 : decode b_AB_look 152 = .ok (.getfield 138, 3) := by decide +kernel
theorem d_AB_look_155 : decode b_AB_look 155 = .ok (.ireturn, 1) := by decide +kernel
theorem d_AB_look_156 : decode b_AB_look 156 = .ok (.aload_n 0, 1) := by decide +kernel
theorem d_AB_look_157 : decode b_AB_look 157 = .ok (.getfield 10, 3) := by decide +kernel
theorem d_AB_look_160 : decode b_AB_look 160 = .ok (.getfield 141, 3) := by decide +kernel
theorem d_AB_look_163 : decode b_AB_look 163 = .ok (.ireturn, 1) := by decide +kernel
theorem d_AB_look_164 : decode b_AB_look 164 = .ok (.aload_n 0, 1) := by decide +kernel
theorem d_AB_look_165 : decode b_AB_look 165 = .ok (.getfield 10, 3) := by decide +kernel
theorem d_AB_look_168 : decode b_AB_look 168 = .ok (.getfield 144, 3) := by decide +kernel
theorem d_AB_look_171 : decode b_AB_look 171 = .ok (.ireturn, 1) := by decide +kernel
theorem d_AB_look_172 : decode b_AB_look 172 = .ok (.aload_n 0, 1) := by decide +kernel
theorem d_AB_look_173 : decode b_AB_look 173 = .ok (.getfield 10, 3) := by decide +kernel
theorem d_AB_look_176 : decode b_AB_look 176 = .ok (.getfield 147, 3) := by decide +kernel
theorem d_AB_look_179 : decode b_AB_look 179 = .ok (.ireturn, 1) := by decide +kernel
theorem d_AB_look_180 : decode b_AB_look 180 = .ok (.aload_n 0, 1) := by decide +kernel
theorem d_AB_look_181 : decode b_AB_look 181 = .ok (.getfield 10, 3) := by decide +kernel
theorem d_AB_look_184 : decode b_AB_look 184 = .ok (.getfield 150, 3) := by decide +kernel
theorem d_AB_look_187 : decode b_AB_look 187 = .ok (.ireturn, 1) := by decide +kernel
theorem d_AB_look_188 : decode b_AB_look 188 = .ok (.aload_n 0, 1) := by decide +kernel
theorem d_AB_look_189 : decode b_AB_look 189 = .ok (.getfield 10, 3) := by decide +kernel
theorem d_AB_look_192 : decode b_AB_look 192 = .ok (.getfield 112, 3) := by decide +kernel
theorem d_AB_look_195 : decode b_AB_look 195 = .ok (.ireturn, 1) := by decide +kernel
theorem d_AB_look_196 : decode b_AB_look 196 = .ok (.iconst (-1), 1) := by decide +kernel
theorem d_AB_look_197 : decode b_AB_look 197 = .ok (.ireturn, 1) := by decide +kernel
theorem tw_529 : Jvm.Cond.code ⟨"ArcadeBoard", "look", "(I)I"⟩ prog_1_method_9_code 2 (Option.some Jvm.ClassFile.FieldType.int) ∈ AL := ab_in (ab_t2 (List.mem_of_getElem? (i := 63) (by decide +kernel))) rfl
theorem tw_530 : Jvm.Cond.instanceMethod ⟨"ArcadeBoard", "look", "(I)I"⟩ ∈ AL := ab_in (ab_t2 (List.mem_of_getElem? (i := 61) (by decide +kernel))) rfl
theorem tw_531 : Jvm.Cond.selects "ArcadeBoard" ⟨"ArcadeBoard", "look", "(I)I"⟩ ⟨"ArcadeBoard", "look", "(I)I"⟩ ∈ AL := ab_in (ab_t2 (List.mem_of_getElem? (i := 62) (by decide +kernel))) rfl
theorem tw_532 : Jvm.Cond.fieldLink "ArcadeBoard" 120 "ArcadeBoard$State" "flags" "I" ∈ AL := ab_in (ab_t1 (List.mem_of_getElem? (i := 40) (by decide +kernel))) rfl
theorem tw_533 : Jvm.Cond.fieldLink "ArcadeBoard" 123 "ArcadeBoard$State" "sp" "I" ∈ AL := ab_in (ab_t1 (List.mem_of_getElem? (i := 45) (by decide +kernel))) rfl
theorem tw_534 : Jvm.Cond.fieldLink "ArcadeBoard" 126 "ArcadeBoard$State" "pc" "I" ∈ AL := ab_in (ab_t1 (List.mem_of_getElem? (i := 49) (by decide +kernel))) rfl
theorem tw_535 : Jvm.Cond.fieldLink "ArcadeBoard" 129 "ArcadeBoard$State" "interrupts" "Z" ∈ AL := ab_in (ab_t1 (List.mem_of_getElem? (i := 54) (by decide +kernel))) rfl
theorem tw_536 : Jvm.Cond.fieldLink "ArcadeBoard" 132 "ArcadeBoard$State" "halted" "Z" ∈ AL := ab_in (ab_t1 (List.mem_of_getElem? (i := 60) (by decide +kernel))) rfl
theorem tw_537 : Jvm.Cond.fieldLink "ArcadeBoard" 135 "ArcadeBoard$State" "call" "I" ∈ AL := ab_in (ab_t1 (List.mem_of_getElem? (i := 64) (by decide +kernel))) rfl
theorem tw_538 : Jvm.Cond.fieldLink "ArcadeBoard" 138 "ArcadeBoard$State" "shift" "I" ∈ AL := ab_in (ab_t1 (List.mem_of_getElem? (i := 68) (by decide +kernel))) rfl
theorem tw_539 : Jvm.Cond.fieldLink "ArcadeBoard" 141 "ArcadeBoard$State" "offset" "I" ∈ AL := ab_in (ab_t1 (List.mem_of_getElem? (i := 72) (by decide +kernel))) rfl
theorem tw_540 : Jvm.Cond.fieldLink "ArcadeBoard" 144 "ArcadeBoard$State" "watch" "I" ∈ AL := ab_in (ab_t1 (List.mem_of_getElem? (i := 76) (by decide +kernel))) rfl
theorem tw_541 : Jvm.Cond.fieldLink "ArcadeBoard" 147 "ArcadeBoard$State" "time" "I" ∈ AL := ab_in (ab_t1 (List.mem_of_getElem? (i := 79) (by decide +kernel))) rfl
theorem tw_542 : Jvm.Cond.fieldLink "ArcadeBoard" 150 "ArcadeBoard$State" "frames" "I" ∈ AL := ab_in (ab_t1 (List.mem_of_getElem? (i := 82) (by decide +kernel))) rfl
theorem tw_543 : Jvm.Cond.fieldLink "ArcadeBoard" 30 "ArcadeBoard" "registers" "LArcadeBoard$Registers;" ∈ AL := ab_in (ab_t1 (List.mem_of_getElem? (i := 233) (by decide +kernel))) rfl
theorem tw_544 : Jvm.Cond.methodLink "ArcadeBoard" 116 ⟨"ArcadeBoard$Registers", "value", "(I)I"⟩ ∈ AL := ab_in (ab_t2 (List.mem_of_getElem? (i := 64) (by decide +kernel))) rfl
theorem ok_AB_look : ab_yok y_AB_look b_AB_look 2 (some .int) 1 := ⟨tw_529, tw_492, by decide, by decide, by decide +kernel⟩
theorem okv_AB_look : ab_yok_V y_AB_look := ⟨tw_530, tw_531⟩
set_option maxHeartbeats 1000000 in
set_option maxRecDepth 100000 in
theorem c_AB_look (l : Launch) (D : va_G) (t : Nat → ClassId) (q : Nat → Nat) (z u : SS) (x1 : Int32) : ab_ki l D (tyC t) (wT t q) y_AB_look b_AB_look 2 .int { frames := 2, cells := 0, slots := 0, locals := 43 } [.ref (q 12), .int x1] (z, u) ((f_AB_look z u x1, (z, u))) := by
  refine ab_ki_ofW (by decide) (Nat.le_of_ble_eq_true rfl) (fun p e s m below meth c ls A X hr hk hl hX => ?_)
  have hl : lv_has ls 2 [(0, .ref (q 12)), (1, .int x1)] := hl
  refine lv_iload_n (pc := 0) X.1 X.2.1 d_AB_look_0 rfl (lv_at hl 1 rfl) ?_
  refine lv_if_lt (pc := 1) (tgt := 19) X.1 X.2.1 d_AB_look_1 (by decide) (fun h1 => ?_) (fun h1 => ?_)
  ·
    refine lv_iload_n (pc := 19) X.1 X.2.1 d_AB_look_19 rfl (lv_at hl 1 rfl) ?_
    by_cases h2 : x1 = 8
    ·
      refine ab_swIn (pc := 20) (tgt := 84) (off := 64) X.1 X.2.1 d_AB_look_20 h2 (by decide) (by decide) (by decide) (by decide) ?_
      refine lv_aload_n (pc := 84) X.1 X.2.1 d_AB_look_84 rfl (lv_at hl 0 rfl) ?_
      refine ab_gx (pc := 85) (v := .ref (q 1)) X hX 0 8 0 rfl rfl (Nat.le_of_ble_eq_true rfl) in_AB rfl tw_527 rfl d_AB_look_85 ?_
      refine ab_gx (pc := 88) (v := .int (u 0 0)) X hX 10 7 2 rfl rfl (Nat.le_of_ble_eq_true rfl) in_State rfl tw_532 rfl d_AB_look_88 ?_
      exact ab_ki_ret (pc := 91) X hr hk hX rfl (by rw [f_AB_look, if_pos h1, if_pos h2]) d_AB_look_91
    ·
      by_cases h3 : x1 = 9
      ·
        refine ab_swIn (pc := 20) (tgt := 92) (off := 72) X.1 X.2.1 d_AB_look_20 h3 (by decide) (by decide) (by decide) (by decide) ?_
        refine lv_aload_n (pc := 92) X.1 X.2.1 d_AB_look_92 rfl (lv_at hl 0 rfl) ?_
        refine ab_gx (pc := 93) (v := .ref (q 1)) X hX 0 8 0 rfl rfl (Nat.le_of_ble_eq_true rfl) in_AB rfl tw_527 rfl d_AB_look_93 ?_
        refine ab_gx (pc := 96) (v := .int (u 0 1)) X hX 10 7 3 rfl rfl (Nat.le_of_ble_eq_true rfl) in_State rfl tw_533 rfl d_AB_look_96 ?_
        exact ab_ki_ret (pc := 99) X hr hk hX rfl (by rw [f_AB_look, if_pos h1, if_neg h2, if_pos h3]) d_AB_look_99
      ·
        by_cases h4 : x1 = 10
        ·
          refine ab_swIn (pc := 20) (tgt := 100) (off := 80) X.1 X.2.1 d_AB_look_20 h4 (by decide) (by decide) (by decide) (by decide) ?_
          refine lv_aload_n (pc := 100) X.1 X.2.1 d_AB_look_100 rfl (lv_at hl 0 rfl) ?_
          refine ab_gx (pc := 101) (v := .ref (q 1)) X hX 0 8 0 rfl rfl (Nat.le_of_ble_eq_true rfl) in_AB rfl tw_527 rfl d_AB_look_101 ?_
          refine ab_gx (pc := 104) (v := .int (u 0 2)) X hX 10 7 4 rfl rfl (Nat.le_of_ble_eq_true rfl) in_State rfl tw_534 rfl d_AB_look_104 ?_
          exact ab_ki_ret (pc := 107) X hr hk hX rfl (by rw [f_AB_look, if_pos h1, if_neg h2, if_neg h3, if_pos h4]) d_AB_look_107
        ·
          by_cases h5 : x1 = 11
          ·
            refine ab_swIn (pc := 20) (tgt := 108) (off := 88) X.1 X.2.1 d_AB_look_20 h5 (by decide) (by decide) (by decide) (by decide) ?_
            refine lv_aload_n (pc := 108) X.1 X.2.1 d_AB_look_108 rfl (lv_at hl 0 rfl) ?_
            refine ab_gx (pc := 109) (v := .ref (q 1)) X hX 0 8 0 rfl rfl (Nat.le_of_ble_eq_true rfl) in_AB rfl tw_527 rfl d_AB_look_109 ?_
            refine ab_gx (pc := 112) (v := .int (u 0 3)) X hX 10 7 5 rfl rfl (Nat.le_of_ble_eq_true rfl) in_State rfl tw_535 rfl d_AB_look_112 ?_
            refine ab_jn (ls := ls) (rest := []) 123 (if (u 0 3) = 0 then 0 else 1 : Int32) ?_ (fun J => ?_)
            rotate_left
            ·
              refine lv_if_eq (pc := 115) (tgt := 122) X.1 X.2.1 d_AB_look_115 (by decide) (fun h6 => ?_) (fun h6 => ?_)
              ·
                refine lv_iconst (pc := 122) (v := 0) X.1 X.2.1 d_AB_look_122 (by decide) ?_
                exact ab_jt (by rw [if_pos h6]) J
              ·
                refine lv_iconst (pc := 118) (v := 1) X.1 X.2.1 d_AB_look_118 (by decide) ?_
                refine lv_goto (pc := 119) (tgt := 123) X.1 X.2.1 d_AB_look_119 (by decide) ?_
                exact ab_jt (by rw [if_neg h6]) J
            exact ab_ki_ret (pc := 123) X hr hk hX rfl (by rw [f_AB_look, if_pos h1, if_neg h2, if_neg h3, if_neg h4, if_pos h5]) d_AB_look_123
          ·
            by_cases h7 : x1 = 12
            ·
              refine ab_swIn (pc := 20) (tgt := 124) (off := 104) X.1 X.2.1 d_AB_look_20 h7 (by decide) (by decide) (by decide) (by decide) ?_
              refine lv_aload_n (pc := 124) X.1 X.2.1 d_AB_look_124 rfl (lv_at hl 0 rfl) ?_
              refine ab_gx (pc := 125) (v := .ref (q 1)) X hX 0 8 0 rfl rfl (Nat.le_of_ble_eq_true rfl) in_AB rfl tw_527 rfl d_AB_look_125 ?_
              refine ab_gx (pc := 128) (v := .int (u 0 5)) X hX 10 7 7 rfl rfl (Nat.le_of_ble_eq_true rfl) in_State rfl tw_536 rfl d_AB_look_128 ?_
              refine ab_jn (ls := ls) (rest := []) 139 (if (u 0 5) = 0 then 0 else 1 : Int32) ?_ (fun J => ?_)
              rotate_left
              ·
                refine lv_if_eq (pc := 131) (tgt := 138) X.1 X.2.1 d_AB_look_131 (by decide) (fun h8 => ?_) (fun h8 => ?_)
                ·
                  refine lv_iconst (pc := 138) (v := 0) X.1 X.2.1 d_AB_look_138 (by decide) ?_
                  exact ab_jt (by rw [if_pos h8]) J
                ·
                  refine lv_iconst (pc := 134) (v := 1) X.1 X.2.1 d_AB_look_134 (by decide) ?_
                  refine lv_goto (pc := 135) (tgt := 139) X.1 X.2.1 d_AB_look_135 (by decide) ?_
                  exact ab_jt (by rw [if_neg h8]) J
              exact ab_ki_ret (pc := 139) X hr hk hX rfl (by rw [f_AB_look, if_pos h1, if_neg h2, if_neg h3, if_neg h4, if_neg h5, if_pos h7]) d_AB_look_139
            ·
              by_cases h9 : x1 = 13
              ·
                refine ab_swIn (pc := 20) (tgt := 140) (off := 120) X.1 X.2.1 d_AB_look_20 h9 (by decide) (by decide) (by decide) (by decide) ?_
                refine lv_aload_n (pc := 140) X.1 X.2.1 d_AB_look_140 rfl (lv_at hl 0 rfl) ?_
                refine ab_gx (pc := 141) (v := .ref (q 1)) X hX 0 8 0 rfl rfl (Nat.le_of_ble_eq_true rfl) in_AB rfl tw_527 rfl d_AB_look_141 ?_
                refine ab_gx (pc := 144) (v := .int (u 0 6)) X hX 10 7 8 rfl rfl (Nat.le_of_ble_eq_true rfl) in_State rfl tw_537 rfl d_AB_look_144 ?_
                exact ab_ki_ret (pc := 147) X hr hk hX rfl (by rw [f_AB_look, if_pos h1, if_neg h2, if_neg h3, if_neg h4, if_neg h5, if_neg h7, if_pos h9]) d_AB_look_147
              ·
                by_cases h10 : x1 = 14
                ·
                  refine ab_swIn (pc := 20) (tgt := 148) (off := 128) X.1 X.2.1 d_AB_look_20 h10 (by decide) (by decide) (by decide) (by decide) ?_
                  refine lv_aload_n (pc := 148) X.1 X.2.1 d_AB_look_148 rfl (lv_at hl 0 rfl) ?_
                  refine ab_gx (pc := 149) (v := .ref (q 1)) X hX 0 8 0 rfl rfl (Nat.le_of_ble_eq_true rfl) in_AB rfl tw_527 rfl d_AB_look_149 ?_
                  refine ab_gx (pc := 152) (v := .int (u 0 7)) X hX 10 7 9 rfl rfl (Nat.le_of_ble_eq_true rfl) in_State rfl tw_538 rfl d_AB_look_152 ?_
                  exact ab_ki_ret (pc := 155) X hr hk hX rfl (by rw [f_AB_look, if_pos h1, if_neg h2, if_neg h3, if_neg h4, if_neg h5, if_neg h7, if_neg h9, if_pos h10]) d_AB_look_155
                ·
                  by_cases h11 : x1 = 15
                  ·
                    refine ab_swIn (pc := 20) (tgt := 156) (off := 136) X.1 X.2.1 d_AB_look_20 h11 (by decide) (by decide) (by decide) (by decide) ?_
                    refine lv_aload_n (pc := 156) X.1 X.2.1 d_AB_look_156 rfl (lv_at hl 0 rfl) ?_
                    refine ab_gx (pc := 157) (v := .ref (q 1)) X hX 0 8 0 rfl rfl (Nat.le_of_ble_eq_true rfl) in_AB rfl tw_527 rfl d_AB_look_157 ?_
                    refine ab_gx (pc := 160) (v := .int (u 0 8)) X hX 10 7 10 rfl rfl (Nat.le_of_ble_eq_true rfl) in_State rfl tw_539 rfl d_AB_look_160 ?_
                    exact ab_ki_ret (pc := 163) X hr hk hX rfl (by rw [f_AB_look, if_pos h1, if_neg h2, if_neg h3, if_neg h4, if_neg h5, if_neg h7, if_neg h9, if_neg h10, if_pos h11]) d_AB_look_163
                  ·
                    by_cases h12 : x1 = 16
                    ·
                      refine ab_swIn (pc := 20) (tgt := 164) (off := 144) X.1 X.2.1 d_AB_look_20 h12 (by decide) (by decide) (by decide) (by decide) ?_
                      refine lv_aload_n (pc := 164) X.1 X.2.1 d_AB_look_164 rfl (lv_at hl 0 rfl) ?_
                      refine ab_gx (pc := 165) (v := .ref (q 1)) X hX 0 8 0 rfl rfl (Nat.le_of_ble_eq_true rfl) in_AB rfl tw_527 rfl d_AB_look_165 ?_
                      refine ab_gx (pc := 168) (v := .int (u 0 9)) X hX 10 7 11 rfl rfl (Nat.le_of_ble_eq_true rfl) in_State rfl tw_540 rfl d_AB_look_168 ?_
                      exact ab_ki_ret (pc := 171) X hr hk hX rfl (by rw [f_AB_look, if_pos h1, if_neg h2, if_neg h3, if_neg h4, if_neg h5, if_neg h7, if_neg h9, if_neg h10, if_neg h11, if_pos h12]) d_AB_look_171
                    ·
                      by_cases h13 : x1 = 17
                      ·
                        refine ab_swIn (pc := 20) (tgt := 172) (off := 152) X.1 X.2.1 d_AB_look_20 h13 (by decide) (by decide) (by decide) (by decide) ?_
                        refine lv_aload_n (pc := 172) X.1 X.2.1 d_AB_look_172 rfl (lv_at hl 0 rfl) ?_
                        refine ab_gx (pc := 173) (v := .ref (q 1)) X hX 0 8 0 rfl rfl (Nat.le_of_ble_eq_true rfl) in_AB rfl tw_527 rfl d_AB_look_173 ?_
                        refine ab_gx (pc := 176) (v := .int (u 0 10)) X hX 10 7 12 rfl rfl (Nat.le_of_ble_eq_true rfl) in_State rfl tw_541 rfl d_AB_look_176 ?_
                        exact ab_ki_ret (pc := 179) X hr hk hX rfl (by rw [f_AB_look, if_pos h1, if_neg h2, if_neg h3, if_neg h4, if_neg h5, if_neg h7, if_neg h9, if_neg h10, if_neg h11, if_neg h12, if_pos h13]) d_AB_look_179
                      ·
                        by_cases h14 : x1 = 18
                        ·
                          refine ab_swIn (pc := 20) (tgt := 180) (off := 160) X.1 X.2.1 d_AB_look_20 h14 (by decide) (by decide) (by decide) (by decide) ?_
                          refine lv_aload_n (pc := 180) X.1 X.2.1 d_AB_look_180 rfl (lv_at hl 0 rfl) ?_
                          refine ab_gx (pc := 181) (v := .ref (q 1)) X hX 0 8 0 rfl rfl (Nat.le_of_ble_eq_true rfl) in_AB rfl tw_527 rfl d_AB_look_181 ?_
                          refine ab_gx (pc := 184) (v := .int (u 0 11)) X hX 10 7 13 rfl rfl (Nat.le_of_ble_eq_true rfl) in_State rfl tw_542 rfl d_AB_look_184 ?_
                          exact ab_ki_ret (pc := 187) X hr hk hX rfl (by rw [f_AB_look, if_pos h1, if_neg h2, if_neg h3, if_neg h4, if_neg h5, if_neg h7, if_neg h9, if_neg h10, if_neg h11, if_neg h12, if_neg h13, if_pos h14]) d_AB_look_187
                        ·
                          by_cases h15 : x1 = 19
                          ·
                            refine ab_swIn (pc := 20) (tgt := 188) (off := 168) X.1 X.2.1 d_AB_look_20 h15 (by decide) (by decide) (by decide) (by decide) ?_
                            refine lv_aload_n (pc := 188) X.1 X.2.1 d_AB_look_188 rfl (lv_at hl 0 rfl) ?_
                            refine ab_gx (pc := 189) (v := .ref (q 1)) X hX 0 8 0 rfl rfl (Nat.le_of_ble_eq_true rfl) in_AB rfl tw_527 rfl d_AB_look_189 ?_
                            refine ab_gx (pc := 192) (v := .int (u 0 12)) X hX 10 7 14 rfl rfl (Nat.le_of_ble_eq_true rfl) in_State rfl tw_528 rfl d_AB_look_192 ?_
                            exact ab_ki_ret (pc := 195) X hr hk hX rfl (by rw [f_AB_look, if_pos h1, if_neg h2, if_neg h3, if_neg h4, if_neg h5, if_neg h7, if_neg h9, if_neg h10, if_neg h11, if_neg h12, if_neg h13, if_neg h14, if_pos h15]) d_AB_look_195
                          ·
                            have hno : x1.toInt < 8 ∨ 19 < x1.toInt := by
                              have n0 := lv_neT h2 (k := 8) (a := 8) (by decide)
                              have n1 := lv_neT h3 (k := 9) (a := 9) (by decide)
                              have n2 := lv_neT h4 (k := 10) (a := 10) (by decide)
                              have n3 := lv_neT h5 (k := 11) (a := 11) (by decide)
                              have n4 := lv_neT h7 (k := 12) (a := 12) (by decide)
                              have n5 := lv_neT h9 (k := 13) (a := 13) (by decide)
                              have n6 := lv_neT h10 (k := 14) (a := 14) (by decide)
                              have n7 := lv_neT h11 (k := 15) (a := 15) (by decide)
                              have n8 := lv_neT h12 (k := 16) (a := 16) (by decide)
                              have n9 := lv_neT h13 (k := 17) (a := 17) (by decide)
                              have n10 := lv_neT h14 (k := 18) (a := 18) (by decide)
                              have n11 := lv_neT h15 (k := 19) (a := 19) (by decide)
                              omega
                            refine lv_tableOut (pc := 20) (tgt := 196) X.1 X.2.1 d_AB_look_20 hno (by decide) ?_
                            refine lv_iconst (pc := 196) (v := (-1)) X.1 X.2.1 d_AB_look_196 (by decide) ?_
                            exact ab_ki_ret (pc := 197) X hr hk hX rfl (by rw [f_AB_look, if_pos h1, if_neg h2, if_neg h3, if_neg h4, if_neg h5, if_neg h7, if_neg h9, if_neg h10, if_neg h11, if_neg h12, if_neg h13, if_neg h14, if_neg h15]) d_AB_look_197
  ·
    refine lv_iload_n (pc := 4) X.1 X.2.1 d_AB_look_4 rfl (lv_at hl 1 rfl) ?_
    refine lv_bipush (pc := 5) (v := 7) X.1 X.2.1 d_AB_look_5 (by decide) ?_
    refine lv_icmp_gt (pc := 7) (tgt := 19) X.1 X.2.1 d_AB_look_7 (by decide) (fun h16 => ?_) (fun h16 => ?_)
    ·
      refine lv_iload_n (pc := 19) X.1 X.2.1 d_AB_look_19 rfl (lv_at hl 1 rfl) ?_
      by_cases h17 : x1 = 8
      ·
        refine ab_swIn (pc := 20) (tgt := 84) (off := 64) X.1 X.2.1 d_AB_look_20 h17 (by decide) (by decide) (by decide) (by decide) ?_
        refine lv_aload_n (pc := 84) X.1 X.2.1 d_AB_look_84 rfl (lv_at hl 0 rfl) ?_
        refine ab_gx (pc := 85) (v := .ref (q 1)) X hX 0 8 0 rfl rfl (Nat.le_of_ble_eq_true rfl) in_AB rfl tw_527 rfl d_AB_look_85 ?_
        refine ab_gx (pc := 88) (v := .int (u 0 0)) X hX 10 7 2 rfl rfl (Nat.le_of_ble_eq_true rfl) in_State rfl tw_532 rfl d_AB_look_88 ?_
        exact ab_ki_ret (pc := 91) X hr hk hX rfl (by rw [f_AB_look, if_neg h1, if_pos h16, if_pos h17]) d_AB_look_91
      ·
        by_cases h18 : x1 = 9
        ·
          refine ab_swIn (pc := 20) (tgt := 92) (off := 72) X.1 X.2.1 d_AB_look_20 h18 (by decide) (by decide) (by decide) (by decide) ?_
          refine lv_aload_n (pc := 92) X.1 X.2.1 d_AB_look_92 rfl (lv_at hl 0 rfl) ?_
          refine ab_gx (pc := 93) (v := .ref (q 1)) X hX 0 8 0 rfl rfl (Nat.le_of_ble_eq_true rfl) in_AB rfl tw_527 rfl d_AB_look_93 ?_
          refine ab_gx (pc := 96) (v := .int (u 0 1)) X hX 10 7 3 rfl rfl (Nat.le_of_ble_eq_true rfl) in_State rfl tw_533 rfl d_AB_look_96 ?_
          exact ab_ki_ret (pc := 99) X hr hk hX rfl (by rw [f_AB_look, if_neg h1, if_pos h16, if_neg h17, if_pos h18]) d_AB_look_99
        ·
          by_cases h19 : x1 = 10
          ·
            refine ab_swIn (pc := 20) (tgt := 100) (off := 80) X.1 X.2.1 d_AB_look_20 h19 (by decide) (by decide) (by decide) (by decide) ?_
            refine lv_aload_n (pc := 100) X.1 X.2.1 d_AB_look_100 rfl (lv_at hl 0 rfl) ?_
            refine ab_gx (pc := 101) (v := .ref (q 1)) X hX 0 8 0 rfl rfl (Nat.le_of_ble_eq_true rfl) in_AB rfl tw_527 rfl d_AB_look_101 ?_
            refine ab_gx (pc := 104) (v := .int (u 0 2)) X hX 10 7 4 rfl rfl (Nat.le_of_ble_eq_true rfl) in_State rfl tw_534 rfl d_AB_look_104 ?_
            exact ab_ki_ret (pc := 107) X hr hk hX rfl (by rw [f_AB_look, if_neg h1, if_pos h16, if_neg h17, if_neg h18, if_pos h19]) d_AB_look_107
          ·
            by_cases h20 : x1 = 11
            ·
              refine ab_swIn (pc := 20) (tgt := 108) (off := 88) X.1 X.2.1 d_AB_look_20 h20 (by decide) (by decide) (by decide) (by decide) ?_
              refine lv_aload_n (pc := 108) X.1 X.2.1 d_AB_look_108 rfl (lv_at hl 0 rfl) ?_
              refine ab_gx (pc := 109) (v := .ref (q 1)) X hX 0 8 0 rfl rfl (Nat.le_of_ble_eq_true rfl) in_AB rfl tw_527 rfl d_AB_look_109 ?_
              refine ab_gx (pc := 112) (v := .int (u 0 3)) X hX 10 7 5 rfl rfl (Nat.le_of_ble_eq_true rfl) in_State rfl tw_535 rfl d_AB_look_112 ?_
              refine ab_jn (ls := ls) (rest := []) 123 (if (u 0 3) = 0 then 0 else 1 : Int32) ?_ (fun J => ?_)
              rotate_left
              ·
                refine lv_if_eq (pc := 115) (tgt := 122) X.1 X.2.1 d_AB_look_115 (by decide) (fun h21 => ?_) (fun h21 => ?_)
                ·
                  refine lv_iconst (pc := 122) (v := 0) X.1 X.2.1 d_AB_look_122 (by decide) ?_
                  exact ab_jt (by rw [if_pos h21]) J
                ·
                  refine lv_iconst (pc := 118) (v := 1) X.1 X.2.1 d_AB_look_118 (by decide) ?_
                  refine lv_goto (pc := 119) (tgt := 123) X.1 X.2.1 d_AB_look_119 (by decide) ?_
                  exact ab_jt (by rw [if_neg h21]) J
              exact ab_ki_ret (pc := 123) X hr hk hX rfl (by rw [f_AB_look, if_neg h1, if_pos h16, if_neg h17, if_neg h18, if_neg h19, if_pos h20]) d_AB_look_123
            ·
              by_cases h22 : x1 = 12
              ·
                refine ab_swIn (pc := 20) (tgt := 124) (off := 104) X.1 X.2.1 d_AB_look_20 h22 (by decide) (by decide) (by decide) (by decide) ?_
                refine lv_aload_n (pc := 124) X.1 X.2.1 d_AB_look_124 rfl (lv_at hl 0 rfl) ?_
                refine ab_gx (pc := 125) (v := .ref (q 1)) X hX 0 8 0 rfl rfl (Nat.le_of_ble_eq_true rfl) in_AB rfl tw_527 rfl d_AB_look_125 ?_
                refine ab_gx (pc := 128) (v := .int (u 0 5)) X hX 10 7 7 rfl rfl (Nat.le_of_ble_eq_true rfl) in_State rfl tw_536 rfl d_AB_look_128 ?_
                refine ab_jn (ls := ls) (rest := []) 139 (if (u 0 5) = 0 then 0 else 1 : Int32) ?_ (fun J => ?_)
                rotate_left
                ·
                  refine lv_if_eq (pc := 131) (tgt := 138) X.1 X.2.1 d_AB_look_131 (by decide) (fun h23 => ?_) (fun h23 => ?_)
                  ·
                    refine lv_iconst (pc := 138) (v := 0) X.1 X.2.1 d_AB_look_138 (by decide) ?_
                    exact ab_jt (by rw [if_pos h23]) J
                  ·
                    refine lv_iconst (pc := 134) (v := 1) X.1 X.2.1 d_AB_look_134 (by decide) ?_
                    refine lv_goto (pc := 135) (tgt := 139) X.1 X.2.1 d_AB_look_135 (by decide) ?_
                    exact ab_jt (by rw [if_neg h23]) J
                exact ab_ki_ret (pc := 139) X hr hk hX rfl (by rw [f_AB_look, if_neg h1, if_pos h16, if_neg h17, if_neg h18, if_neg h19, if_neg h20, if_pos h22]) d_AB_look_139
              ·
                by_cases h24 : x1 = 13
                ·
                  refine ab_swIn (pc := 20) (tgt := 140) (off := 120) X.1 X.2.1 d_AB_look_20 h24 (by decide) (by decide) (by decide) (by decide) ?_
                  refine lv_aload_n (pc := 140) X.1 X.2.1 d_AB_look_140 rfl (lv_at hl 0 rfl) ?_
                  refine ab_gx (pc := 141) (v := .ref (q 1)) X hX 0 8 0 rfl rfl (Nat.le_of_ble_eq_true rfl) in_AB rfl tw_527 rfl d_AB_look_141 ?_
                  refine ab_gx (pc := 144) (v := .int (u 0 6)) X hX 10 7 8 rfl rfl (Nat.le_of_ble_eq_true rfl) in_State rfl tw_537 rfl d_AB_look_144 ?_
                  exact ab_ki_ret (pc := 147) X hr hk hX rfl (by rw [f_AB_look, if_neg h1, if_pos h16, if_neg h17, if_neg h18, if_neg h19, if_neg h20, if_neg h22, if_pos h24]) d_AB_look_147
                ·
                  by_cases h25 : x1 = 14
                  ·
                    refine ab_swIn (pc := 20) (tgt := 148) (off := 128) X.1 X.2.1 d_AB_look_20 h25 (by decide) (by decide) (by decide) (by decide) ?_
                    refine lv_aload_n (pc := 148) X.1 X.2.1 d_AB_look_148 rfl (lv_at hl 0 rfl) ?_
                    refine ab_gx (pc := 149) (v := .ref (q 1)) X hX 0 8 0 rfl rfl (Nat.le_of_ble_eq_true rfl) in_AB rfl tw_527 rfl d_AB_look_149 ?_
                    refine ab_gx (pc := 152) (v := .int (u 0 7)) X hX 10 7 9 rfl rfl (Nat.le_of_ble_eq_true rfl) in_State rfl tw_538 rfl d_AB_look_152 ?_
                    exact ab_ki_ret (pc := 155) X hr hk hX rfl (by rw [f_AB_look, if_neg h1, if_pos h16, if_neg h17, if_neg h18, if_neg h19, if_neg h20, if_neg h22, if_neg h24, if_pos h25]) d_AB_look_155
                  ·
                    by_cases h26 : x1 = 15
                    ·
                      refine ab_swIn (pc := 20) (tgt := 156) (off := 136) X.1 X.2.1 d_AB_look_20 h26 (by decide) (by decide) (by decide) (by decide) ?_
                      refine lv_aload_n (pc := 156) X.1 X.2.1 d_AB_look_156 rfl (lv_at hl 0 rfl) ?_
                      refine ab_gx (pc := 157) (v := .ref (q 1)) X hX 0 8 0 rfl rfl (Nat.le_of_ble_eq_true rfl) in_AB rfl tw_527 rfl d_AB_look_157 ?_
                      refine ab_gx (pc := 160) (v := .int (u 0 8)) X hX 10 7 10 rfl rfl (Nat.le_of_ble_eq_true rfl) in_State rfl tw_539 rfl d_AB_look_160 ?_
                      exact ab_ki_ret (pc := 163) X hr hk hX rfl (by rw [f_AB_look, if_neg h1, if_pos h16, if_neg h17, if_neg h18, if_neg h19, if_neg h20, if_neg h22, if_neg h24, if_neg h25, if_pos h26]) d_AB_look_163
                    ·
                      by_cases h27 : x1 = 16
                      ·
                        refine ab_swIn (pc := 20) (tgt := 164) (off := 144) X.1 X.2.1 d_AB_look_20 h27 (by decide) (by decide) (by decide) (by decide) ?_
                        refine lv_aload_n (pc := 164) X.1 X.2.1 d_AB_look_164 rfl (lv_at hl 0 rfl) ?_
                        refine ab_gx (pc := 165) (v := .ref (q 1)) X hX 0 8 0 rfl rfl (Nat.le_of_ble_eq_true rfl) in_AB rfl tw_527 rfl d_AB_look_165 ?_
                        refine ab_gx (pc := 168) (v := .int (u 0 9)) X hX 10 7 11 rfl rfl (Nat.le_of_ble_eq_true rfl) in_State rfl tw_540 rfl d_AB_look_168 ?_
                        exact ab_ki_ret (pc := 171) X hr hk hX rfl (by rw [f_AB_look, if_neg h1, if_pos h16, if_neg h17, if_neg h18, if_neg h19, if_neg h20, if_neg h22, if_neg h24, if_neg h25, if_neg h26, if_pos h27]) d_AB_look_171
                      ·
                        by_cases h28 : x1 = 17
                        ·
                          refine ab_swIn (pc := 20) (tgt := 172) (off := 152) X.1 X.2.1 d_AB_look_20 h28 (by decide) (by decide) (by decide) (by decide) ?_
                          refine lv_aload_n (pc := 172) X.1 X.2.1 d_AB_look_172 rfl (lv_at hl 0 rfl) ?_
                          refine ab_gx (pc := 173) (v := .ref (q 1)) X hX 0 8 0 rfl rfl (Nat.le_of_ble_eq_true rfl) in_AB rfl tw_527 rfl d_AB_look_173 ?_
                          refine ab_gx (pc := 176) (v := .int (u 0 10)) X hX 10 7 12 rfl rfl (Nat.le_of_ble_eq_true rfl) in_State rfl tw_541 rfl d_AB_look_176 ?_
                          exact ab_ki_ret (pc := 179) X hr hk hX rfl (by rw [f_AB_look, if_neg h1, if_pos h16, if_neg h17, if_neg h18, if_neg h19, if_neg h20, if_neg h22, if_neg h24, if_neg h25, if_neg h26, if_neg h27, if_pos h28]) d_AB_look_179
                        ·
                          by_cases h29 : x1 = 18
                          ·
                            refine ab_swIn (pc := 20) (tgt := 180) (off := 160) X.1 X.2.1 d_AB_look_20 h29 (by decide) (by decide) (by decide) (by decide) ?_
                            refine lv_aload_n (pc := 180) X.1 X.2.1 d_AB_look_180 rfl (lv_at hl 0 rfl) ?_
                            refine ab_gx (pc := 181) (v := .ref (q 1)) X hX 0 8 0 rfl rfl (Nat.le_of_ble_eq_true rfl) in_AB rfl tw_527 rfl d_AB_look_181 ?_
                            refine ab_gx (pc := 184) (v := .int (u 0 11)) X hX 10 7 13 rfl rfl (Nat.le_of_ble_eq_true rfl) in_State rfl tw_542 rfl d_AB_look_184 ?_
                            exact ab_ki_ret (pc := 187) X hr hk hX rfl (by rw [f_AB_look, if_neg h1, if_pos h16, if_neg h17, if_neg h18, if_neg h19, if_neg h20, if_neg h22, if_neg h24, if_neg h25, if_neg h26, if_neg h27, if_neg h28, if_pos h29]) d_AB_look_187
                          ·
                            by_cases h30 : x1 = 19
                            ·
                              refine ab_swIn (pc := 20) (tgt := 188) (off := 168) X.1 X.2.1 d_AB_look_20 h30 (by decide) (by decide) (by decide) (by decide) ?_
                              refine lv_aload_n (pc := 188) X.1 X.2.1 d_AB_look_188 rfl (lv_at hl 0 rfl) ?_
                              refine ab_gx (pc := 189) (v := .ref (q 1)) X hX 0 8 0 rfl rfl (Nat.le_of_ble_eq_true rfl) in_AB rfl tw_527 rfl d_AB_look_189 ?_
                              refine ab_gx (pc := 192) (v := .int (u 0 12)) X hX 10 7 14 rfl rfl (Nat.le_of_ble_eq_true rfl) in_State rfl tw_528 rfl d_AB_look_192 ?_
                              exact ab_ki_ret (pc := 195) X hr hk hX rfl (by rw [f_AB_look, if_neg h1, if_pos h16, if_neg h17, if_neg h18, if_neg h19, if_neg h20, if_neg h22, if_neg h24, if_neg h25, if_neg h26, if_neg h27, if_neg h28, if_neg h29, if_pos h30]) d_AB_look_195
                            ·
                              have hno : x1.toInt < 8 ∨ 19 < x1.toInt := by
                                have n0 := lv_neT h17 (k := 8) (a := 8) (by decide)
                                have n1 := lv_neT h18 (k := 9) (a := 9) (by decide)
                                have n2 := lv_neT h19 (k := 10) (a := 10) (by decide)
                                have n3 := lv_neT h20 (k := 11) (a := 11) (by decide)
                                have n4 := lv_neT h22 (k := 12) (a := 12) (by decide)
                                have n5 := lv_neT h24 (k := 13) (a := 13) (by decide)
                                have n6 := lv_neT h25 (k := 14) (a := 14) (by decide)
                                have n7 := lv_neT h26 (k := 15) (a := 15) (by decide)
                                have n8 := lv_neT h27 (k := 16) (a := 16) (by decide)
                                have n9 := lv_neT h28 (k := 17) (a := 17) (by decide)
                                have n10 := lv_neT h29 (k := 18) (a := 18) (by decide)
                                have n11 := lv_neT h30 (k := 19) (a := 19) (by decide)
                                omega
                              refine lv_tableOut (pc := 20) (tgt := 196) X.1 X.2.1 d_AB_look_20 hno (by decide) ?_
                              refine lv_iconst (pc := 196) (v := (-1)) X.1 X.2.1 d_AB_look_196 (by decide) ?_
                              exact ab_ki_ret (pc := 197) X hr hk hX rfl (by rw [f_AB_look, if_neg h1, if_pos h16, if_neg h17, if_neg h18, if_neg h19, if_neg h20, if_neg h22, if_neg h24, if_neg h25, if_neg h26, if_neg h27, if_neg h28, if_neg h29, if_neg h30]) d_AB_look_197
    ·
      refine lv_aload_n (pc := 10) X.1 X.2.1 d_AB_look_10 rfl (lv_at hl 0 rfl) ?_
      refine ab_gx (pc := 11) (v := .ref (q 6)) X hX 0 8 2 rfl rfl (Nat.le_of_ble_eq_true rfl) in_AB rfl tw_543 rfl d_AB_look_11 ?_
      refine lv_iload_n (pc := 14) X.1 X.2.1 d_AB_look_14 rfl (lv_at hl 1 rfl) ?_
      refine ab_kr_callV (pc := 15) (wr := (wA t q z)) (w := (wC t q)) (u := u) (r := f_Registers_value u x1) (as := [.int x1]) (rest := []) X hX (c_Registers_value l D t q u x1) ok_Registers_value okv_Registers_value tw_544 15 5 rfl rfl rfl hl.1 rfl (Nat.le_of_ble_eq_true rfl) ⟨rfl, rfl, Nat.le_of_ble_eq_true rfl, Nat.le_of_ble_eq_true rfl⟩ ⟨Nat.zero_le _, Nat.zero_le _⟩ d_AB_look_15 (fun H locs hX => ?_)
      have hX : ab_hx D (wT t q (z, u)) A s.heap H locs := hX
      exact ab_ki_ret (pc := 18) X hr hk hX rfl (by rw [f_AB_look, if_neg h1, if_neg h16]) d_AB_look_18
abbrev b_AB_peek : ByteArray := prog_1_method_10_code
def y_AB_peek : MethodName := ⟨"ArcadeBoard", "peek", "(I)I"⟩
theorem d_AB_peek_0 : decode b_AB_peek 0 = .ok (.iload_n 1, 1) := by decide +kernel
theorem d_AB_peek_1 : decode b_AB_peek 1 = .ok (.ifCond .lt 10, 3) := by decide +kernel
theorem d_AB_peek_4 : decode b_AB_peek 4 = .ok (.iload_n 1, 1) := by decide +kernel
theorem d_AB_peek_5 : decode b_AB_peek 5 = .ok (.sipush 1024, 3) := by decide +kernel
theorem d_AB_peek_8 : decode b_AB_peek 8 = .ok (.if_icmp .lt 5, 3) := by decide +kernel
theorem d_AB_peek_11 : decode b_AB_peek 11 = .ok (.iconst (-1), 1) := by decide +kernel
theorem d_AB_peek_12 : decode b_AB_peek 12 = .ok (.ireturn, 1) := by decide +kernel
theorem d_AB_peek_13 : decode b_AB_peek 13 = .ok (.aload_n 0, 1) := by decide +kernel
theorem d_AB_peek_14 : decode b_AB_peek 14 = .ok (.getfield 21, 3) := by decide +kernel
theorem d_AB_peek_17 : decode b_AB_peek 17 = .ok (.iload_n 1, 1) := by decide +kernel
theorem d_AB_peek_18 : decode b_AB_peek 18 = .ok (.invokevirtual 153, 3) := by decide +kernel
theorem d_AB_peek_21 : decode b_AB_peek 21 = .ok (.ireturn, 1) := by decide +kernel
theorem tw_545 : Jvm.Cond.code ⟨"ArcadeBoard", "peek", "(I)I"⟩ prog_1_method_10_code 2 (Option.some Jvm.ClassFile.FieldType.int) ∈ AL := ab_in (ab_t2 (List.mem_of_getElem? (i := 79) (by decide +kernel))) rfl
theorem tw_546 : Jvm.Cond.instanceMethod ⟨"ArcadeBoard", "peek", "(I)I"⟩ ∈ AL := ab_in (ab_t2 (List.mem_of_getElem? (i := 77) (by decide +kernel))) rfl
theorem tw_547 : Jvm.Cond.selects "ArcadeBoard" ⟨"ArcadeBoard", "peek", "(I)I"⟩ ⟨"ArcadeBoard", "peek", "(I)I"⟩ ∈ AL := ab_in (ab_t2 (List.mem_of_getElem? (i := 78) (by decide +kernel))) rfl
theorem tw_548 : Jvm.Cond.methodLink "ArcadeBoard" 153 ⟨"ArcadeBoard$Memory", "at", "(I)I"⟩ ∈ AL := ab_in (ab_t2 (List.mem_of_getElem? (i := 80) (by decide +kernel))) rfl
theorem ok_AB_peek : ab_yok y_AB_peek b_AB_peek 2 (some .int) 1 := ⟨tw_545, tw_492, by decide, by decide, by decide +kernel⟩
theorem okv_AB_peek : ab_yok_V y_AB_peek := ⟨tw_546, tw_547⟩
set_option maxHeartbeats 1000000 in
set_option maxRecDepth 100000 in
theorem c_AB_peek (l : Launch) (D : va_G) (t : Nat → ClassId) (q : Nat → Nat) (z u : SS) (x1 : Int32) : ab_ki l D (tyC t) (wT t q) y_AB_peek b_AB_peek 2 .int { frames := 1, cells := 0, slots := 0, locals := 22 } [.ref (q 12), .int x1] (z, u) ((f_AB_peek z u x1, (z, u))) := by
  refine ab_ki_ofW (by decide) (Nat.le_of_ble_eq_true rfl) (fun p e s m below meth c ls A X hr hk hl hX => ?_)
  have hl : lv_has ls 2 [(0, .ref (q 12)), (1, .int x1)] := hl
  refine lv_iload_n (pc := 0) X.1 X.2.1 d_AB_peek_0 rfl (lv_at hl 1 rfl) ?_
  refine lv_if_lt (pc := 1) (tgt := 11) X.1 X.2.1 d_AB_peek_1 (by decide) (fun h1 => ?_) (fun h1 => ?_)
  ·
    refine lv_iconst (pc := 11) (v := (-1)) X.1 X.2.1 d_AB_peek_11 (by decide) ?_
    exact ab_ki_ret (pc := 12) X hr hk hX rfl (by rw [f_AB_peek, if_pos h1]) d_AB_peek_12
  ·
    refine lv_iload_n (pc := 4) X.1 X.2.1 d_AB_peek_4 rfl (lv_at hl 1 rfl) ?_
    refine lv_sipush (pc := 5) (v := 1024) X.1 X.2.1 d_AB_peek_5 (by decide) ?_
    refine lv_icmp_lt (pc := 8) (tgt := 13) X.1 X.2.1 d_AB_peek_8 (by decide) (fun h2 => ?_) (fun h2 => ?_)
    ·
      refine lv_aload_n (pc := 13) X.1 X.2.1 d_AB_peek_13 rfl (lv_at hl 0 rfl) ?_
      refine ab_gx (pc := 14) (v := .ref (q 4)) X hX 0 8 1 rfl rfl (Nat.le_of_ble_eq_true rfl) in_AB rfl tw_496 rfl d_AB_peek_14 ?_
      refine lv_iload_n (pc := 17) X.1 X.2.1 d_AB_peek_17 rfl (lv_at hl 1 rfl) ?_
      refine ab_kr_callV (pc := 18) (wr := (wA t q z)) (w := (wC t q)) (u := u) (r := f_Memory_at u x1) (as := [.int x1]) (rest := []) X hX (c_Memory_at l D t q u x1) ok_Memory_at okv_Memory_at tw_548 13 2 rfl rfl rfl hl.1 rfl (Nat.le_of_ble_eq_true rfl) ⟨rfl, rfl, Nat.le_of_ble_eq_true rfl, Nat.le_of_ble_eq_true rfl⟩ ⟨Nat.zero_le _, Nat.zero_le _⟩ d_AB_peek_18 (fun H locs hX => ?_)
      have hX : ab_hx D (wT t q (z, u)) A s.heap H locs := hX
      exact ab_ki_ret (pc := 21) X hr hk hX rfl (by rw [f_AB_peek, if_neg h1, if_pos h2]) d_AB_peek_21
    ·
      refine lv_iconst (pc := 11) (v := (-1)) X.1 X.2.1 d_AB_peek_11 (by decide) ?_
      exact ab_ki_ret (pc := 12) X hr hk hX rfl (by rw [f_AB_peek, if_neg h1, if_neg h2]) d_AB_peek_12
abbrev b_AB_dot : ByteArray := prog_1_method_11_code
def y_AB_dot : MethodName := ⟨"ArcadeBoard", "dot", "(II)Z"⟩
theorem d_AB_dot_0 : decode b_AB_dot 0 = .ok (.iload_n 1, 1) := by decide +kernel
theorem d_AB_dot_1 : decode b_AB_dot 1 = .ok (.ifCond .lt 19, 3) := by decide +kernel
theorem d_AB_dot_4 : decode b_AB_dot 4 = .ok (.iload_n 1, 1) := by decide +kernel
theorem d_AB_dot_5 : decode b_AB_dot 5 = .ok (.bipush 64, 2) := by decide +kernel
theorem d_AB_dot_7 : decode b_AB_dot 7 = .ok (.if_icmp .ge 13, 3) := by decide +kernel
theorem d_AB_dot_10 : decode b_AB_dot 10 = .ok (.iload_n 2, 1) := by decide +kernel
theorem d_AB_dot_11 : decode b_AB_dot 11 = .ok (.ifCond .lt 9, 3) := by decide +kernel
theorem d_AB_dot_14 : decode b_AB_dot 14 = .ok (.iload_n 2, 1) := by decide +kernel
theorem d_AB_dot_15 : decode b_AB_dot 15 = .ok (.bipush 32, 2) := by decide +kernel
theorem d_AB_dot_17 : decode b_AB_dot 17 = .ok (.if_icmp .lt 5, 3) := by decide +kernel
theorem d_AB_dot_20 : decode b_AB_dot 20 = .ok (.iconst 0, 1) := by decide +kernel
theorem d_AB_dot_21 : decode b_AB_dot 21 = .ok (.ireturn, 1) := by decide +kernel
theorem d_AB_dot_22 : decode b_AB_dot 22 = .ok (.aload_n 0, 1) := by decide +kernel
theorem d_AB_dot_23 : decode b_AB_dot 23 = .ok (.getfield 21, 3) := by decide +kernel
theorem d_AB_dot_26 : decode b_AB_dot 26 = .ok (.sipush 768, 3) := by decide +kernel
theorem d_AB_dot_29 : decode b_AB_dot 29 = .ok (.bipush 8, 2) := by decide +kernel
theorem d_AB_dot_31 : decode b_AB_dot 31 = .ok (.iload_n 2, 1) := by decide +kernel
theorem d_AB_dot_32 : decode b_AB_dot 32 = .ok (.imul, 1) := by decide +kernel
theorem d_AB_dot_33 : decode b_AB_dot 33 = .ok (.iadd, 1) := by decide +kernel
theorem d_AB_dot_34 : decode b_AB_dot 34 = .ok (.iload_n 1, 1) := by decide +kernel
theorem d_AB_dot_35 : decode b_AB_dot 35 = .ok (.bipush 8, 2) := by decide +kernel
theorem d_AB_dot_37 : decode b_AB_dot 37 = .ok (.idiv, 1) := by decide +kernel
theorem d_AB_dot_38 : decode b_AB_dot 38 = .ok (.iadd, 1) := by decide +kernel
theorem d_AB_dot_39 : decode b_AB_dot 39 = .ok (.invokevirtual 153, 3) := by decide +kernel
theorem d_AB_dot_42 : decode b_AB_dot 42 = .ok (.istore_n 3, 1) := by decide +kernel
theorem d_AB_dot_43 : decode b_AB_dot 43 = .ok (.iload_n 3, 1) := by decide +kernel
theorem d_AB_dot_44 : decode b_AB_dot 44 = .ok (.iload_n 1, 1) := by decide +kernel
theorem d_AB_dot_45 : decode b_AB_dot 45 = .ok (.bipush 8, 2) := by decide +kernel
theorem d_AB_dot_47 : decode b_AB_dot 47 = .ok (.irem, 1) := by decide +kernel
theorem d_AB_dot_48 : decode b_AB_dot 48 = .ok (.ishr, 1) := by decide +kernel
theorem d_AB_dot_49 : decode b_AB_dot 49 = .ok (.iconst 1, 1) := by decide +kernel
theorem d_AB_dot_50 : decode b_AB_dot 50 = .ok (.iand, 1) := by decide +kernel
theorem d_AB_dot_51 : decode b_AB_dot 51 = .ok (.iconst 1, 1) := by decide +kernel
theorem d_AB_dot_52 : decode b_AB_dot 52 = .ok (.if_icmp .ne 7, 3) := by decide +kernel
theorem d_AB_dot_55 : decode b_AB_dot 55 = .ok (.iconst 1, 1) := by decide +kernel
theorem d_AB_dot_56 : decode b_AB_dot 56 = .ok (.goto 4, 3) := by decide +kernel
theorem d_AB_dot_59 : decode b_AB_dot 59 = .ok (.iconst 0, 1) := by decide +kernel
theorem d_AB_dot_60 : decode b_AB_dot 60 = .ok (.ireturn, 1) := by decide +kernel
theorem tw_549 : Jvm.Cond.code ⟨"ArcadeBoard", "dot", "(II)Z"⟩ prog_1_method_11_code 4 (Option.some Jvm.ClassFile.FieldType.boolean) ∈ AL := ab_in (ab_t2 (List.mem_of_getElem? (i := 84) (by decide +kernel))) rfl
theorem tw_550 : Jvm.Cond.instanceMethod ⟨"ArcadeBoard", "dot", "(II)Z"⟩ ∈ AL := ab_in (ab_t2 (List.mem_of_getElem? (i := 82) (by decide +kernel))) rfl
theorem tw_551 : Jvm.Cond.selects "ArcadeBoard" ⟨"ArcadeBoard", "dot", "(II)Z"⟩ ⟨"ArcadeBoard", "dot", "(II)Z"⟩ ∈ AL := ab_in (ab_t2 (List.mem_of_getElem? (i := 83) (by decide +kernel))) rfl
theorem ok_AB_dot : ab_yok y_AB_dot b_AB_dot 4 (some .boolean) 2 := ⟨tw_549, tw_492, by decide, by decide, by decide +kernel⟩
theorem okv_AB_dot : ab_yok_V y_AB_dot := ⟨tw_550, tw_551⟩
set_option maxHeartbeats 1000000 in
set_option maxRecDepth 100000 in
theorem c_AB_dot (l : Launch) (D : va_G) (t : Nat → ClassId) (q : Nat → Nat) (z u : SS) (x1 : Int32) (x2 : Int32) : ab_ki l D (tyC t) (wT t q) y_AB_dot b_AB_dot 4 .boolean { frames := 1, cells := 0, slots := 0, locals := 22 } [.ref (q 12), .int x1, .int x2] (z, u) ((f_AB_dot z u x1 x2, (z, u))) := by
  refine ab_ki_ofW (by decide) (Nat.le_of_ble_eq_true rfl) (fun p e s m below meth c ls A X hr hk hl hX => ?_)
  have hl : lv_has ls 4 [(0, .ref (q 12)), (1, .int x1), (2, .int x2)] := hl
  refine lv_iload_n (pc := 0) X.1 X.2.1 d_AB_dot_0 rfl (lv_at hl 1 rfl) ?_
  refine lv_if_lt (pc := 1) (tgt := 20) X.1 X.2.1 d_AB_dot_1 (by decide) (fun h1 => ?_) (fun h1 => ?_)
  ·
    refine lv_iconst (pc := 20) (v := 0) X.1 X.2.1 d_AB_dot_20 (by decide) ?_
    exact ab_ki_ret (pc := 21) X hr hk hX rfl (by rw [f_AB_dot, if_pos h1]) d_AB_dot_21
  ·
    refine lv_iload_n (pc := 4) X.1 X.2.1 d_AB_dot_4 rfl (lv_at hl 1 rfl) ?_
    refine lv_bipush (pc := 5) (v := 64) X.1 X.2.1 d_AB_dot_5 (by decide) ?_
    refine lv_icmp_ge (pc := 7) (tgt := 20) X.1 X.2.1 d_AB_dot_7 (by decide) (fun h2 => ?_) (fun h2 => ?_)
    ·
      refine lv_iconst (pc := 20) (v := 0) X.1 X.2.1 d_AB_dot_20 (by decide) ?_
      exact ab_ki_ret (pc := 21) X hr hk hX rfl (by rw [f_AB_dot, if_neg h1, if_pos h2]) d_AB_dot_21
    ·
      refine lv_iload_n (pc := 10) X.1 X.2.1 d_AB_dot_10 rfl (lv_at hl 2 rfl) ?_
      refine lv_if_lt (pc := 11) (tgt := 20) X.1 X.2.1 d_AB_dot_11 (by decide) (fun h3 => ?_) (fun h3 => ?_)
      ·
        refine lv_iconst (pc := 20) (v := 0) X.1 X.2.1 d_AB_dot_20 (by decide) ?_
        exact ab_ki_ret (pc := 21) X hr hk hX rfl (by rw [f_AB_dot, if_neg h1, if_neg h2, if_pos h3]) d_AB_dot_21
      ·
        refine lv_iload_n (pc := 14) X.1 X.2.1 d_AB_dot_14 rfl (lv_at hl 2 rfl) ?_
        refine lv_bipush (pc := 15) (v := 32) X.1 X.2.1 d_AB_dot_15 (by decide) ?_
        refine lv_icmp_lt (pc := 17) (tgt := 22) X.1 X.2.1 d_AB_dot_17 (by decide) (fun h4 => ?_) (fun h4 => ?_)
        ·
          refine lv_aload_n (pc := 22) X.1 X.2.1 d_AB_dot_22 rfl (lv_at hl 0 rfl) ?_
          refine ab_gx (pc := 23) (v := .ref (q 4)) X hX 0 8 1 rfl rfl (Nat.le_of_ble_eq_true rfl) in_AB rfl tw_496 rfl d_AB_dot_23 ?_
          refine lv_sipush (pc := 26) (v := 768) X.1 X.2.1 d_AB_dot_26 (by decide) ?_
          refine lv_bipush (pc := 29) (v := 8) X.1 X.2.1 d_AB_dot_29 (by decide) ?_
          refine lv_iload_n (pc := 31) X.1 X.2.1 d_AB_dot_31 rfl (lv_at hl 2 rfl) ?_
          refine lv_imul (pc := 32) X.1 X.2.1 d_AB_dot_32 ?_
          refine lv_iadd (pc := 33) X.1 X.2.1 d_AB_dot_33 ?_
          refine lv_iload_n (pc := 34) X.1 X.2.1 d_AB_dot_34 rfl (lv_at hl 1 rfl) ?_
          refine lv_bipush (pc := 35) (v := 8) X.1 X.2.1 d_AB_dot_35 (by decide) ?_
          refine lv_idiv (pc := 37) X.1 X.2.1 d_AB_dot_37 (by decide) ?_
          refine lv_iadd (pc := 38) X.1 X.2.1 d_AB_dot_38 ?_
          refine ab_kr_callV (pc := 39) (wr := (wA t q z)) (w := (wC t q)) (u := u) (r := f_Memory_at u ((768 + (8 * x2)) + (x1 / 8))) (as := [.int ((768 + (8 * x2)) + (x1 / 8))]) (rest := []) X hX (c_Memory_at l D t q u ((768 + (8 * x2)) + (x1 / 8))) ok_Memory_at okv_Memory_at tw_548 13 2 rfl rfl rfl hl.1 rfl (Nat.le_of_ble_eq_true rfl) ⟨rfl, rfl, Nat.le_of_ble_eq_true rfl, Nat.le_of_ble_eq_true rfl⟩ ⟨Nat.zero_le _, Nat.zero_le _⟩ d_AB_dot_39 (fun H locs hX => ?_)
          have hX : ab_hx D (wT t q (z, u)) A s.heap H locs := hX
          refine lv_istore_n (pc := 42) (lv' := [(3, .int (f_Memory_at u ((768 + (8 * x2)) + (x1 / 8)))), (0, .ref (q 12)), (1, .int x1), (2, .int x2)]) X.1 X.2.1 d_AB_dot_42 rfl hl (Nat.le_of_ble_eq_true rfl) rfl (fun ls hl => ?_)
          refine lv_iload_n (pc := 43) X.1 X.2.1 d_AB_dot_43 rfl (lv_at hl 0 rfl) ?_
          refine lv_iload_n (pc := 44) X.1 X.2.1 d_AB_dot_44 rfl (lv_at hl 2 rfl) ?_
          refine lv_bipush (pc := 45) (v := 8) X.1 X.2.1 d_AB_dot_45 (by decide) ?_
          refine lv_irem (pc := 47) X.1 X.2.1 d_AB_dot_47 (by decide) ?_
          refine lv_ishr (pc := 48) X.1 X.2.1 d_AB_dot_48 ?_
          refine lv_iconst (pc := 49) (v := 1) X.1 X.2.1 d_AB_dot_49 (by decide) ?_
          refine lv_iand (pc := 50) X.1 X.2.1 d_AB_dot_50 ?_
          refine lv_iconst (pc := 51) (v := 1) X.1 X.2.1 d_AB_dot_51 (by decide) ?_
          refine ab_jn (ls := ls) (rest := []) 60 (if (((f_Memory_at u ((768 + (8 * x2)) + (x1 / 8))) >>> ((x1 - x1 / 8 * 8) &&& 31)) &&& 1) = 1 then 1 else 0 : Int32) ?_ (fun J => ?_)
          rotate_left
          ·
            refine lv_icmp_ne (pc := 52) (tgt := 59) X.1 X.2.1 d_AB_dot_52 (by decide) (fun h5 => ?_) (fun h5 => ?_)
            ·
              refine lv_iconst (pc := 59) (v := 0) X.1 X.2.1 d_AB_dot_59 (by decide) ?_
              exact ab_jt (by rw [if_neg h5]) J
            ·
              refine lv_iconst (pc := 55) (v := 1) X.1 X.2.1 d_AB_dot_55 (by decide) ?_
              refine lv_goto (pc := 56) (tgt := 60) X.1 X.2.1 d_AB_dot_56 (by decide) ?_
              exact ab_jt (by rw [if_pos h5]) J
          exact ab_ki_ret (pc := 60) X hr hk hX (ab_nb (ab_bi ab_bo1 ab_bo0)) (by rw [f_AB_dot, if_neg h1, if_neg h2, if_neg h3, if_pos h4]) d_AB_dot_60
        ·
          refine lv_iconst (pc := 20) (v := 0) X.1 X.2.1 d_AB_dot_20 (by decide) ?_
          exact ab_ki_ret (pc := 21) X hr hk hX rfl (by rw [f_AB_dot, if_neg h1, if_neg h2, if_neg h3, if_neg h4]) d_AB_dot_21
abbrev b_AB_sound : ByteArray := prog_1_method_12_code
def y_AB_sound : MethodName := ⟨"ArcadeBoard", "sound", "(I)I"⟩
theorem d_AB_sound_0 : decode b_AB_sound 0 = .ok (.iload_n 1, 1) := by decide +kernel
theorem d_AB_sound_1 : decode b_AB_sound 1 = .ok (.iconst (-1), 1) := by decide +kernel
theorem d_AB_sound_2 : decode b_AB_sound 2 = .ok (.if_icmp .ne 13, 3) := by decide +kernel
theorem d_AB_sound_5 : decode b_AB_sound 5 = .ok (.aload_n 0, 1) := by decide +kernel
theorem d_AB_sound_6 : decode b_AB_sound 6 = .ok (.getfield 37, 3) := by decide +kernel
theorem d_AB_sound_9 : decode b_AB_sound 9 = .ok (.invokevirtual 156, 3) := by decide +kernel
theorem d_AB_sound_12 : decode b_AB_sound 12 = .ok (.goto 11, 3) := by decide +kernel
theorem d_AB_sound_15 : decode b_AB_sound 15 = .ok (.aload_n 0, 1) := by decide +kernel
theorem d_AB_sound_16 : decode b_AB_sound 16 = .ok (.getfield 37, 3) := by decide +kernel
theorem d_AB_sound_19 : decode b_AB_sound 19 = .ok (.iload_n 1, 1) := by decide +kernel
theorem d_AB_sound_20 : decode b_AB_sound 20 = .ok (.invokevirtual 159, 3) := by decide +kernel
theorem d_AB_sound_23 : decode b_AB_sound 23 = .ok (.ireturn, 1) := by decide +kernel
theorem tw_552 : Jvm.Cond.code ⟨"ArcadeBoard", "sound", "(I)I"⟩ prog_1_method_12_code 2 (Option.some Jvm.ClassFile.FieldType.int) ∈ AL := ab_in (ab_t2 (List.mem_of_getElem? (i := 88) (by decide +kernel))) rfl
theorem tw_553 : Jvm.Cond.instanceMethod ⟨"ArcadeBoard", "sound", "(I)I"⟩ ∈ AL := ab_in (ab_t2 (List.mem_of_getElem? (i := 86) (by decide +kernel))) rfl
theorem tw_554 : Jvm.Cond.selects "ArcadeBoard" ⟨"ArcadeBoard", "sound", "(I)I"⟩ ⟨"ArcadeBoard", "sound", "(I)I"⟩ ∈ AL := ab_in (ab_t2 (List.mem_of_getElem? (i := 87) (by decide +kernel))) rfl
theorem tw_555 : Jvm.Cond.fieldLink "ArcadeBoard" 37 "ArcadeBoard" "sounds" "LArcadeBoard$Sounds;" ∈ AL := ab_in (ab_t1 (List.mem_of_getElem? (i := 234) (by decide +kernel))) rfl
theorem tw_556 : Jvm.Cond.methodLink "ArcadeBoard" 159 ⟨"ArcadeBoard$Sounds", "latestBut", "(I)I"⟩ ∈ AL := ab_in (ab_t2 (List.mem_of_getElem? (i := 93) (by decide +kernel))) rfl
theorem tw_557 : Jvm.Cond.methodLink "ArcadeBoard" 156 ⟨"ArcadeBoard$Sounds", "count", "()I"⟩ ∈ AL := ab_in (ab_t2 (List.mem_of_getElem? (i := 89) (by decide +kernel))) rfl
theorem ok_AB_sound : ab_yok y_AB_sound b_AB_sound 2 (some .int) 1 := ⟨tw_552, tw_492, by decide, by decide, by decide +kernel⟩
theorem okv_AB_sound : ab_yok_V y_AB_sound := ⟨tw_553, tw_554⟩
set_option maxHeartbeats 1000000 in
set_option maxRecDepth 100000 in
theorem c_AB_sound (l : Launch) (D : va_G) (t : Nat → ClassId) (q : Nat → Nat) (z u : SS) (x1 : Int32) : ab_ki l D (tyC t) (wT t q) y_AB_sound b_AB_sound 2 .int { frames := 1, cells := 0, slots := 0, locals := 21 } [.ref (q 12), .int x1] (z, u) ((f_AB_sound z u x1, (z, u))) := by
  refine ab_ki_ofW (by decide) (Nat.le_of_ble_eq_true rfl) (fun p e s m below meth c ls A X hr hk hl hX => ?_)
  have hl : lv_has ls 2 [(0, .ref (q 12)), (1, .int x1)] := hl
  refine lv_iload_n (pc := 0) X.1 X.2.1 d_AB_sound_0 rfl (lv_at hl 1 rfl) ?_
  refine lv_iconst (pc := 1) (v := (-1)) X.1 X.2.1 d_AB_sound_1 (by decide) ?_
  refine lv_icmp_ne (pc := 2) (tgt := 15) X.1 X.2.1 d_AB_sound_2 (by decide) (fun h1 => ?_) (fun h1 => ?_)
  ·
    refine lv_aload_n (pc := 15) X.1 X.2.1 d_AB_sound_15 rfl (lv_at hl 0 rfl) ?_
    refine ab_gx (pc := 16) (v := .ref (q 9)) X hX 0 8 3 rfl rfl (Nat.le_of_ble_eq_true rfl) in_AB rfl tw_555 rfl d_AB_sound_16 ?_
    refine lv_iload_n (pc := 19) X.1 X.2.1 d_AB_sound_19 rfl (lv_at hl 1 rfl) ?_
    refine ab_kr_callV (pc := 20) (wr := (wA t q z)) (w := (wC t q)) (u := u) (r := f_Sounds_latestBut u x1) (as := [.int x1]) (rest := []) X hX (c_Sounds_latestBut l D t q u x1) ok_Sounds_latestBut okv_Sounds_latestBut tw_556 18 6 rfl rfl rfl hl.1 rfl (Nat.le_of_ble_eq_true rfl) ⟨rfl, rfl, Nat.le_of_ble_eq_true rfl, Nat.le_of_ble_eq_true rfl⟩ ⟨Nat.zero_le _, Nat.zero_le _⟩ d_AB_sound_20 (fun H locs hX => ?_)
    have hX : ab_hx D (wT t q (z, u)) A s.heap H locs := hX
    exact ab_ki_ret (pc := 23) X hr hk hX rfl (by rw [f_AB_sound, if_neg h1]) d_AB_sound_23
  ·
    refine lv_aload_n (pc := 5) X.1 X.2.1 d_AB_sound_5 rfl (lv_at hl 0 rfl) ?_
    refine ab_gx (pc := 6) (v := .ref (q 9)) X hX 0 8 3 rfl rfl (Nat.le_of_ble_eq_true rfl) in_AB rfl tw_555 rfl d_AB_sound_6 ?_
    refine ab_kr_callV (pc := 9) (wr := (wA t q z)) (w := (wC t q)) (u := u) (r := f_Sounds_count u) (as := []) (rest := []) X hX (c_Sounds_count l D t q u) ok_Sounds_count okv_Sounds_count tw_557 18 6 rfl rfl rfl hl.1 rfl (Nat.le_of_ble_eq_true rfl) ⟨rfl, rfl, Nat.le_of_ble_eq_true rfl, Nat.le_of_ble_eq_true rfl⟩ ⟨Nat.zero_le _, Nat.zero_le _⟩ d_AB_sound_9 (fun H locs hX => ?_)
    have hX : ab_hx D (wT t q (z, u)) A s.heap H locs := hX
    refine lv_goto (pc := 12) (tgt := 23) X.1 X.2.1 d_AB_sound_12 (by decide) ?_
    exact ab_ki_ret (pc := 23) X hr hk hX rfl (by rw [f_AB_sound, if_pos h1]) d_AB_sound_23
abbrev b_AB_save : ByteArray := prog_1_method_13_code
def y_AB_save : MethodName := ⟨"ArcadeBoard", "save", "(I)Z"⟩
theorem d_AB_save_0 : decode b_AB_save 0 = .ok (.iload_n 1, 1) := by decide +kernel
theorem d_AB_save_1 : decode b_AB_save 1 = .ok (.ifCond .lt 8, 3) := by decide +kernel
theorem d_AB_save_4 : decode b_AB_save 4 = .ok (.iload_n 1, 1) := by decide +kernel
theorem d_AB_save_5 : decode b_AB_save 5 = .ok (.iconst 2, 1) := by decide +kernel
theorem d_AB_save_6 : decode b_AB_save 6 = .ok (.if_icmp .lt 5, 3) := by decide +kernel
theorem d_AB_save_9 : decode b_AB_save 9 = .ok (.iconst 0, 1) := by decide +kernel
theorem d_AB_save_10 : decode b_AB_save 10 = .ok (.ireturn, 1) := by decide +kernel
theorem d_AB_save_11 : decode b_AB_save 11 = .ok (.aload_n 0, 1) := by decide +kernel
theorem d_AB_save_12 : decode b_AB_save 12 = .ok (.getfield 66, 3) := by decide +kernel
theorem d_AB_save_15 : decode b_AB_save 15 = .ok (.iload_n 1, 1) := by decide +kernel
theorem d_AB_save_16 : decode b_AB_save 16 = .ok (.aaload, 1) := by decide +kernel
theorem d_AB_save_17 : decode b_AB_save 17 = .ok (.aload_n 0, 1) := by decide +kernel
theorem d_AB_save_18 : decode b_AB_save 18 = .ok (.getfield 10, 3) := by decide +kernel
theorem d_AB_save_21 : decode b_AB_save 21 = .ok (.invokevirtual 162, 3) := by decide +kernel
theorem d_AB_save_24 : decode b_AB_save 24 = .ok (.aload_n 0, 1) := by decide +kernel
theorem d_AB_save_25 : decode b_AB_save 25 = .ok (.getfield 70, 3) := by decide +kernel
theorem d_AB_save_28 : decode b_AB_save 28 = .ok (.iload_n 1, 1) := by decide +kernel
theorem d_AB_save_29 : decode b_AB_save 29 = .ok (.iconst 1, 1) := by decide +kernel
theorem d_AB_save_30 : decode b_AB_save 30 = .ok (.bastore, 1) := by decide +kernel
theorem d_AB_save_31 : decode b_AB_save 31 = .ok (.iconst 1, 1) := by decide +kernel
theorem d_AB_save_32 : decode b_AB_save 32 = .ok (.ireturn, 1) := by decide +kernel
theorem tw_558 : Jvm.Cond.code ⟨"ArcadeBoard", "save", "(I)Z"⟩ prog_1_method_13_code 2 (Option.some Jvm.ClassFile.FieldType.boolean) ∈ AL := ab_in (ab_t2 (List.mem_of_getElem? (i := 100) (by decide +kernel))) rfl
theorem tw_559 : Jvm.Cond.instanceMethod ⟨"ArcadeBoard", "save", "(I)Z"⟩ ∈ AL := ab_in (ab_t2 (List.mem_of_getElem? (i := 98) (by decide +kernel))) rfl
theorem tw_560 : Jvm.Cond.selects "ArcadeBoard" ⟨"ArcadeBoard", "save", "(I)Z"⟩ ⟨"ArcadeBoard", "save", "(I)Z"⟩ ∈ AL := ab_in (ab_t2 (List.mem_of_getElem? (i := 99) (by decide +kernel))) rfl
theorem tw_561 : Jvm.Cond.fieldLink "ArcadeBoard" 66 "ArcadeBoard" "slots" "[LArcadeBoard$State;" ∈ AL := ab_in (ab_t1 (List.mem_of_getElem? (i := 238) (by decide +kernel))) rfl
theorem tw_562 : Jvm.Cond.methodLink "ArcadeBoard" 162 ⟨"ArcadeBoard$State", "become", "(LArcadeBoard$State;)V"⟩ ∈ AL := ab_in (ab_t2 (List.mem_of_getElem? (i := 101) (by decide +kernel))) rfl
theorem tw_563 : Jvm.Cond.fieldLink "ArcadeBoard" 70 "ArcadeBoard" "filled" "[Z" ∈ AL := ab_in (ab_t1 (List.mem_of_getElem? (i := 239) (by decide +kernel))) rfl
theorem ok_AB_save : ab_yok y_AB_save b_AB_save 2 (some .boolean) 1 := ⟨tw_558, tw_492, by decide, by decide, by decide +kernel⟩
theorem okv_AB_save : ab_yok_V y_AB_save := ⟨tw_559, tw_560⟩
set_option maxHeartbeats 1000000 in
set_option maxRecDepth 100000 in
theorem c_AB_save (l : Launch) (D : va_G) (t : Nat → ClassId) (q : Nat → Nat) (z u : SS) (x1 : Int32) (b3 : ab_bo (u 0 3)) (b4 : ab_bo (u 0 4)) (b5 : ab_bo (u 0 5)) : ab_ki l D (tyC t) (wT t q) y_AB_save b_AB_save 2 .boolean { frames := 2, cells := 0, slots := 0, locals := 81 } [.ref (q 12), .int x1] (z, u) (f_AB_save z u x1) := by
  refine ab_ki_ofW (by decide) (Nat.le_of_ble_eq_true rfl) (fun p e s m below meth c ls A X hr hk hl hX => ?_)
  have hl : lv_has ls 2 [(0, .ref (q 12)), (1, .int x1)] := hl
  refine lv_iload_n (pc := 0) X.1 X.2.1 d_AB_save_0 rfl (lv_at hl 1 rfl) ?_
  refine lv_if_lt (pc := 1) (tgt := 9) X.1 X.2.1 d_AB_save_1 (by decide) (fun h1 => ?_) (fun h1 => ?_)
  ·
    refine lv_iconst (pc := 9) (v := 0) X.1 X.2.1 d_AB_save_9 (by decide) ?_
    exact ab_ki_ret (pc := 10) X hr hk hX rfl (by rw [f_AB_save, if_pos h1]) d_AB_save_10
  ·
    refine lv_iload_n (pc := 4) X.1 X.2.1 d_AB_save_4 rfl (lv_at hl 1 rfl) ?_
    refine lv_iconst (pc := 5) (v := 2) X.1 X.2.1 d_AB_save_5 (by decide) ?_
    refine lv_icmp_lt (pc := 6) (tgt := 11) X.1 X.2.1 d_AB_save_6 (by decide) (fun h2 => ?_) (fun h2 => ?_)
    ·
      rcases ab_01 h1 h2 with rfl | rfl
      ·
        refine lv_aload_n (pc := 11) X.1 X.2.1 d_AB_save_11 rfl (lv_at hl 0 rfl) ?_
        refine ab_gx (pc := 12) (v := .ref (q 13)) X hX 0 8 7 rfl rfl (Nat.le_of_ble_eq_true rfl) in_AB rfl tw_561 rfl d_AB_save_12 ?_
        refine lv_iload_n (pc := 15) X.1 X.2.1 d_AB_save_15 rfl (lv_at hl 1 rfl) ?_
        refine ab_aldr (pc := 16) (v := .ref (q 15)) X hX 1 2 rfl rfl (ab_inc (by decide)) rfl d_AB_save_16 ?_
        refine lv_aload_n (pc := 17) X.1 X.2.1 d_AB_save_17 rfl (lv_at hl 0 rfl) ?_
        refine ab_gx (pc := 18) (v := .ref (q 1)) X hX 0 8 0 rfl rfl (Nat.le_of_ble_eq_true rfl) in_AB rfl tw_527 rfl d_AB_save_18 ?_
        refine ab_kv_callV (pc := 21) (wr := []) (w := (wT t q)) (u := (z, u)) (F := f_State_become_3_10 z u) (as := [.ref (q 1)]) (rest := []) X hX (c_State_become_3_10 l D t q z u b3 b4 b5) ok_State_become okv_State_become tw_562 3 7 rfl rfl rfl hl.1 rfl (Nat.le_of_ble_eq_true rfl) ⟨rfl, rfl, Nat.le_of_ble_eq_true rfl, Nat.le_of_ble_eq_true rfl⟩ ⟨Nat.zero_le _, Nat.zero_le _⟩ d_AB_save_21 (fun H locs hX => ?_)
        have hX : ab_hx D (wT t q (((f_State_become_3_10 z u).1), ((f_State_become_3_10 z u).2))) A s.heap H locs := hX
        refine lv_aload_n (pc := 24) X.1 X.2.1 d_AB_save_24 rfl (lv_at hl 0 rfl) ?_
        refine ab_gx (pc := 25) (v := .ref (q 14)) X hX 0 8 8 rfl rfl (Nat.le_of_ble_eq_true rfl) in_AB rfl tw_563 rfl d_AB_save_25 ?_
        refine lv_iload_n (pc := 28) X.1 X.2.1 d_AB_save_28 rfl (lv_at hl 1 rfl) ?_
        refine lv_iconst (pc := 29) (v := 1) X.1 X.2.1 d_AB_save_29 (by decide) ?_
        refine ab_astz (pc := 30) (f := ((f_State_become_3_10 z u).1) 7) (j := 0) (ws' := (wT t q ((stt ((f_State_become_3_10 z u).1) 7 0 1), ((f_State_become_3_10 z u).2)))) X hX 2 1 rfl rfl (ab_inc (by decide)) rfl rfl (sa_wT_2 t q ((f_State_become_3_10 z u).1) ((f_State_become_3_10 z u).2) 0 1) d_AB_save_30 (fun H locs hX => ?_)
        refine lv_iconst (pc := 31) (v := 1) X.1 X.2.1 d_AB_save_31 (by decide) ?_
        exact ab_ki_ret (pc := 32) X hr hk hX rfl (by rw [f_AB_save, if_neg h1, if_pos h2, if_pos (show (0 : Int32) = 0 from rfl)]) d_AB_save_32
      ·
        refine lv_aload_n (pc := 11) X.1 X.2.1 d_AB_save_11 rfl (lv_at hl 0 rfl) ?_
        refine ab_gx (pc := 12) (v := .ref (q 13)) X hX 0 8 7 rfl rfl (Nat.le_of_ble_eq_true rfl) in_AB rfl tw_561 rfl d_AB_save_12 ?_
        refine lv_iload_n (pc := 15) X.1 X.2.1 d_AB_save_15 rfl (lv_at hl 1 rfl) ?_
        refine ab_aldr (pc := 16) (v := .ref (q 18)) X hX 1 2 rfl rfl (ab_inc (by decide)) rfl d_AB_save_16 ?_
        refine lv_aload_n (pc := 17) X.1 X.2.1 d_AB_save_17 rfl (lv_at hl 0 rfl) ?_
        refine ab_gx (pc := 18) (v := .ref (q 1)) X hX 0 8 0 rfl rfl (Nat.le_of_ble_eq_true rfl) in_AB rfl tw_527 rfl d_AB_save_18 ?_
        refine ab_kv_callV (pc := 21) (wr := []) (w := (wT t q)) (u := (z, u)) (F := f_State_become_6_10 z u) (as := [.ref (q 1)]) (rest := []) X hX (c_State_become_6_10 l D t q z u b3 b4 b5) ok_State_become okv_State_become tw_562 6 7 rfl rfl rfl hl.1 rfl (Nat.le_of_ble_eq_true rfl) ⟨rfl, rfl, Nat.le_of_ble_eq_true rfl, Nat.le_of_ble_eq_true rfl⟩ ⟨Nat.zero_le _, Nat.zero_le _⟩ d_AB_save_21 (fun H locs hX => ?_)
        have hX : ab_hx D (wT t q (((f_State_become_6_10 z u).1), ((f_State_become_6_10 z u).2))) A s.heap H locs := hX
        refine lv_aload_n (pc := 24) X.1 X.2.1 d_AB_save_24 rfl (lv_at hl 0 rfl) ?_
        refine ab_gx (pc := 25) (v := .ref (q 14)) X hX 0 8 8 rfl rfl (Nat.le_of_ble_eq_true rfl) in_AB rfl tw_563 rfl d_AB_save_25 ?_
        refine lv_iload_n (pc := 28) X.1 X.2.1 d_AB_save_28 rfl (lv_at hl 1 rfl) ?_
        refine lv_iconst (pc := 29) (v := 1) X.1 X.2.1 d_AB_save_29 (by decide) ?_
        refine ab_astz (pc := 30) (f := ((f_State_become_6_10 z u).1) 7) (j := 1) (ws' := (wT t q ((stt ((f_State_become_6_10 z u).1) 7 1 1), ((f_State_become_6_10 z u).2)))) X hX 2 1 rfl rfl (ab_inc (by decide)) rfl rfl (sa_wT_2 t q ((f_State_become_6_10 z u).1) ((f_State_become_6_10 z u).2) 1 1) d_AB_save_30 (fun H locs hX => ?_)
        refine lv_iconst (pc := 31) (v := 1) X.1 X.2.1 d_AB_save_31 (by decide) ?_
        exact ab_ki_ret (pc := 32) X hr hk hX rfl (by rw [f_AB_save, if_neg h1, if_pos h2, if_neg (show ¬ (1 : Int32) = 0 by decide)]) d_AB_save_32
    ·
      refine lv_iconst (pc := 9) (v := 0) X.1 X.2.1 d_AB_save_9 (by decide) ?_
      exact ab_ki_ret (pc := 10) X hr hk hX rfl (by rw [f_AB_save, if_neg h1, if_neg h2]) d_AB_save_10
abbrev b_AB_restore : ByteArray := prog_1_method_14_code
def y_AB_restore : MethodName := ⟨"ArcadeBoard", "restore", "(I)Z"⟩
theorem d_AB_restore_0 : decode b_AB_restore 0 = .ok (.iload_n 1, 1) := by decide +kernel
theorem d_AB_restore_1 : decode b_AB_restore 1 = .ok (.ifCond .lt 8, 3) := by decide +kernel
theorem d_AB_restore_4 : decode b_AB_restore 4 = .ok (.iload_n 1, 1) := by decide +kernel
theorem d_AB_restore_5 : decode b_AB_restore 5 = .ok (.iconst 2, 1) := by decide +kernel
theorem d_AB_restore_6 : decode b_AB_restore 6 = .ok (.if_icmp .lt 13, 3) := by decide +kernel
theorem d_AB_restore_9 : decode b_AB_restore 9 = .ok (.new 86, 3) := by decide +kernel
theorem d_AB_restore_12 : decode b_AB_restore 12 = .ok (.dup, 1) := by decide +kernel
theorem d_AB_restore_13 : decode b_AB_restore 13 = .ok (.ldc 165, 2) := by decide +kernel
theorem d_AB_restore_15 : decode b_AB_restore 15 = .ok (.invokespecial 90, 3) := by decide +kernel
theorem d_AB_restore_18 : decode b_AB_restore 18 = .ok (.athrow, 1) := by decide +kernel
theorem d_AB_restore_19 : decode b_AB_restore 19 = .ok (.aload_n 0, 1) := by decide +kernel
theorem d_AB_restore_20 : decode b_AB_restore 20 = .ok (.getfield 70, 3) := by decide +kernel
theorem d_AB_restore_23 : decode b_AB_restore 23 = .ok (.iload_n 1, 1) := by decide +kernel
theorem d_AB_restore_24 : decode b_AB_restore 24 = .ok (.baload, 1) := by decide +kernel
theorem d_AB_restore_25 : decode b_AB_restore 25 = .ok (.ifCond .ne 13, 3) := by decide +kernel
theorem d_AB_restore_28 : decode b_AB_restore 28 = .ok (.new 93, 3) := by decide +kernel
theorem d_AB_restore_31 : decode b_AB_restore 31 = .ok (.dup, 1) := by decide +kernel
theorem d_AB_restore_32 : decode b_AB_restore 32 = .ok (.ldc 167, 2) := by decide +kernel
theorem d_AB_restore_34 : decode b_AB_restore 34 = .ok (.invokespecial 97, 3) := by decide +kernel
theorem d_AB_restore_37 : decode b_AB_restore 37 = .ok (.athrow, 1) := by decide +kernel
theorem d_AB_restore_38 : decode b_AB_restore 38 = .ok (.aload_n 0, 1) := by decide +kernel
theorem d_AB_restore_39 : decode b_AB_restore 39 = .ok (.getfield 10, 3) := by decide +kernel
theorem d_AB_restore_42 : decode b_AB_restore 42 = .ok (.aload_n 0, 1) := by decide +kernel
theorem d_AB_restore_43 : decode b_AB_restore 43 = .ok (.getfield 66, 3) := by decide +kernel
theorem d_AB_restore_46 : decode b_AB_restore 46 = .ok (.iload_n 1, 1) := by decide +kernel
theorem d_AB_restore_47 : decode b_AB_restore 47 = .ok (.aaload, 1) := by decide +kernel
theorem d_AB_restore_48 : decode b_AB_restore 48 = .ok (.invokevirtual 162, 3) := by decide +kernel
theorem d_AB_restore_51 : decode b_AB_restore 51 = .ok (.iconst 1, 1) := by decide +kernel
theorem d_AB_restore_52 : decode b_AB_restore 52 = .ok (.ireturn, 1) := by decide +kernel
theorem tw_564 : Jvm.Cond.code ⟨"ArcadeBoard", "restore", "(I)Z"⟩ prog_1_method_14_code 2 (Option.some Jvm.ClassFile.FieldType.boolean) ∈ AL := ab_in (ab_t3 (List.mem_of_getElem? (i := 169) (by decide +kernel))) rfl
theorem tw_565 : Jvm.Cond.instanceMethod ⟨"ArcadeBoard", "restore", "(I)Z"⟩ ∈ AL := ab_in (ab_t3 (List.mem_of_getElem? (i := 167) (by decide +kernel))) rfl
theorem tw_566 : Jvm.Cond.selects "ArcadeBoard" ⟨"ArcadeBoard", "restore", "(I)Z"⟩ ⟨"ArcadeBoard", "restore", "(I)Z"⟩ ∈ AL := ab_in (ab_t3 (List.mem_of_getElem? (i := 168) (by decide +kernel))) rfl
theorem tw_567 : Jvm.Cond.stringRef "ArcadeBoard" 165 "the slot is not 0 or 1" ∈ lw_tbl := ab_t3 (List.mem_of_getElem? (i := 170) (by decide +kernel))
theorem tw_568 : Jvm.Cond.stringRef "ArcadeBoard" 167 "nothing was saved there" ∈ lw_tbl := ab_t3 (List.mem_of_getElem? (i := 171) (by decide +kernel))
theorem ok_AB_restore : ab_yok y_AB_restore b_AB_restore 2 (some .boolean) 1 := ⟨tw_564, tw_492, by decide, by decide, by decide +kernel⟩
theorem okv_AB_restore : ab_yok_V y_AB_restore := ⟨tw_565, tw_566⟩
set_option maxHeartbeats 1000000 in
set_option maxRecDepth 100000 in
theorem c_AB_restore (l : Launch) (hst : l.stackTraces = false) (D : va_G) (t : Nat → ClassId) (q : Nat → Nat) (z u : SS) (x1 : Int32) (hb : ∀ k, 3 ≤ k → k ≤ 5 → ab_bo (z 1 k) ∧ ab_bo (z 4 k)) : ab_kx l D (tyC t) (wT t q) y_AB_restore b_AB_restore 2 .boolean { frames := 6, cells := 1, slots := 6, locals := 104 } [.ref (q 12), .int x1] (z, u) (f_AB_restore z u x1) := by
  refine ab_kx_ofW (by decide) (Nat.le_of_ble_eq_true rfl) (fun p e s m below meth c ls A X hT hr hk hl hX => ?_)
  have hl : lv_has ls 2 [(0, .ref (q 12)), (1, .int x1)] := hl
  refine lv_iload_n (pc := 0) X.1 X.2.1 d_AB_restore_0 rfl (lv_at hl 1 rfl) ?_
  refine lv_if_lt (pc := 1) (tgt := 9) X.1 X.2.1 d_AB_restore_1 (by decide) (fun h1 => ?_) (fun h1 => ?_)
  ·
    exact ab_kx_throw (pc := 9) (cls := "java/lang/IllegalArgumentException") hst X hT hk hX hl.1 (xw_IAE tw_567) rfl (by rw [f_AB_restore, if_pos h1]) rfl ⟨Nat.le_of_ble_eq_true rfl, Nat.le_of_ble_eq_true rfl, Nat.le_of_ble_eq_true rfl, Nat.le_of_ble_eq_true rfl⟩ d_AB_restore_9 d_AB_restore_12 d_AB_restore_13 d_AB_restore_15 d_AB_restore_18
  ·
    refine lv_iload_n (pc := 4) X.1 X.2.1 d_AB_restore_4 rfl (lv_at hl 1 rfl) ?_
    refine lv_iconst (pc := 5) (v := 2) X.1 X.2.1 d_AB_restore_5 (by decide) ?_
    refine lv_icmp_lt (pc := 6) (tgt := 19) X.1 X.2.1 d_AB_restore_6 (by decide) (fun h2 => ?_) (fun h2 => ?_)
    ·
      rcases ab_01 h1 h2 with rfl | rfl
      ·
        refine lv_aload_n (pc := 19) X.1 X.2.1 d_AB_restore_19 rfl (lv_at hl 0 rfl) ?_
        refine ab_gx (pc := 20) (v := .ref (q 14)) X hX 0 8 8 rfl rfl (Nat.le_of_ble_eq_true rfl) in_AB rfl tw_563 rfl d_AB_restore_20 ?_
        refine lv_iload_n (pc := 23) X.1 X.2.1 d_AB_restore_23 rfl (lv_at hl 1 rfl) ?_
        refine ab_aldz (pc := 24) (f := z 7) (j := 0) X hX 2 1 rfl rfl (ab_inc (by decide)) rfl d_AB_restore_24 ?_
        refine lv_if_ne (pc := 25) (tgt := 38) X.1 X.2.1 d_AB_restore_25 (by decide) (fun h3 => ?_) (fun h3 => ?_)
        ·
          refine lv_aload_n (pc := 38) X.1 X.2.1 d_AB_restore_38 rfl (lv_at hl 0 rfl) ?_
          refine ab_gx (pc := 39) (v := .ref (q 1)) X hX 0 8 0 rfl rfl (Nat.le_of_ble_eq_true rfl) in_AB rfl tw_527 rfl d_AB_restore_39 ?_
          refine lv_aload_n (pc := 42) X.1 X.2.1 d_AB_restore_42 rfl (lv_at hl 0 rfl) ?_
          refine ab_gx (pc := 43) (v := .ref (q 13)) X hX 0 8 7 rfl rfl (Nat.le_of_ble_eq_true rfl) in_AB rfl tw_561 rfl d_AB_restore_43 ?_
          refine lv_iload_n (pc := 46) X.1 X.2.1 d_AB_restore_46 rfl (lv_at hl 1 rfl) ?_
          refine ab_aldr (pc := 47) (v := .ref (q 15)) X hX 1 2 rfl rfl (ab_inc (by decide)) rfl d_AB_restore_47 ?_
          refine ab_kv_callV (pc := 48) (wr := []) (w := (wT t q)) (u := (z, u)) (F := f_State_become_10_3 z u) (as := [.ref (q 15)]) (rest := []) X hX (c_State_become_10_3 l D t q z u (hb 3 (by decide) (by decide)).1 (hb 4 (by decide) (by decide)).1 (hb 5 (by decide) (by decide)).1) ok_State_become okv_State_become tw_562 10 7 rfl rfl rfl hl.1 rfl (Nat.le_of_ble_eq_true rfl) ⟨rfl, rfl, Nat.le_of_ble_eq_true rfl, Nat.le_of_ble_eq_true rfl⟩ ⟨Nat.zero_le _, Nat.zero_le _⟩ d_AB_restore_48 (fun H locs hX => ?_)
          have hX : ab_hx D (wT t q (((f_State_become_10_3 z u).1), ((f_State_become_10_3 z u).2))) A s.heap H locs := hX
          refine lv_iconst (pc := 51) (v := 1) X.1 X.2.1 d_AB_restore_51 (by decide) ?_
          exact ab_kx_ret (pc := 52) X hr hk hX rfl (by rw [f_AB_restore, if_neg h1, if_pos h2, if_pos (show (0 : Int32) = 0 from rfl), if_neg h3]) d_AB_restore_52
        ·
          exact ab_kx_throw (pc := 28) (cls := "java/lang/IllegalStateException") hst X hT hk hX hl.1 (xw_ISE tw_568) rfl (by rw [f_AB_restore, if_neg h1, if_pos h2, if_pos (show (0 : Int32) = 0 from rfl), if_pos h3]) rfl ⟨Nat.le_of_ble_eq_true rfl, Nat.le_of_ble_eq_true rfl, Nat.le_of_ble_eq_true rfl, Nat.le_of_ble_eq_true rfl⟩ d_AB_restore_28 d_AB_restore_31 d_AB_restore_32 d_AB_restore_34 d_AB_restore_37
      ·
        refine lv_aload_n (pc := 19) X.1 X.2.1 d_AB_restore_19 rfl (lv_at hl 0 rfl) ?_
        refine ab_gx (pc := 20) (v := .ref (q 14)) X hX 0 8 8 rfl rfl (Nat.le_of_ble_eq_true rfl) in_AB rfl tw_563 rfl d_AB_restore_20 ?_
        refine lv_iload_n (pc := 23) X.1 X.2.1 d_AB_restore_23 rfl (lv_at hl 1 rfl) ?_
        refine ab_aldz (pc := 24) (f := z 7) (j := 1) X hX 2 1 rfl rfl (ab_inc (by decide)) rfl d_AB_restore_24 ?_
        refine lv_if_ne (pc := 25) (tgt := 38) X.1 X.2.1 d_AB_restore_25 (by decide) (fun h4 => ?_) (fun h4 => ?_)
        ·
          refine lv_aload_n (pc := 38) X.1 X.2.1 d_AB_restore_38 rfl (lv_at hl 0 rfl) ?_
          refine ab_gx (pc := 39) (v := .ref (q 1)) X hX 0 8 0 rfl rfl (Nat.le_of_ble_eq_true rfl) in_AB rfl tw_527 rfl d_AB_restore_39 ?_
          refine lv_aload_n (pc := 42) X.1 X.2.1 d_AB_restore_42 rfl (lv_at hl 0 rfl) ?_
          refine ab_gx (pc := 43) (v := .ref (q 13)) X hX 0 8 7 rfl rfl (Nat.le_of_ble_eq_true rfl) in_AB rfl tw_561 rfl d_AB_restore_43 ?_
          refine lv_iload_n (pc := 46) X.1 X.2.1 d_AB_restore_46 rfl (lv_at hl 1 rfl) ?_
          refine ab_aldr (pc := 47) (v := .ref (q 18)) X hX 1 2 rfl rfl (ab_inc (by decide)) rfl d_AB_restore_47 ?_
          refine ab_kv_callV (pc := 48) (wr := []) (w := (wT t q)) (u := (z, u)) (F := f_State_become_10_6 z u) (as := [.ref (q 18)]) (rest := []) X hX (c_State_become_10_6 l D t q z u (hb 3 (by decide) (by decide)).2 (hb 4 (by decide) (by decide)).2 (hb 5 (by decide) (by decide)).2) ok_State_become okv_State_become tw_562 10 7 rfl rfl rfl hl.1 rfl (Nat.le_of_ble_eq_true rfl) ⟨rfl, rfl, Nat.le_of_ble_eq_true rfl, Nat.le_of_ble_eq_true rfl⟩ ⟨Nat.zero_le _, Nat.zero_le _⟩ d_AB_restore_48 (fun H locs hX => ?_)
          have hX : ab_hx D (wT t q (((f_State_become_10_6 z u).1), ((f_State_become_10_6 z u).2))) A s.heap H locs := hX
          refine lv_iconst (pc := 51) (v := 1) X.1 X.2.1 d_AB_restore_51 (by decide) ?_
          exact ab_kx_ret (pc := 52) X hr hk hX rfl (by rw [f_AB_restore, if_neg h1, if_pos h2, if_neg (show ¬ (1 : Int32) = 0 by decide), if_neg h4]) d_AB_restore_52
        ·
          exact ab_kx_throw (pc := 28) (cls := "java/lang/IllegalStateException") hst X hT hk hX hl.1 (xw_ISE tw_568) rfl (by rw [f_AB_restore, if_neg h1, if_pos h2, if_neg (show ¬ (1 : Int32) = 0 by decide), if_pos h4]) rfl ⟨Nat.le_of_ble_eq_true rfl, Nat.le_of_ble_eq_true rfl, Nat.le_of_ble_eq_true rfl, Nat.le_of_ble_eq_true rfl⟩ d_AB_restore_28 d_AB_restore_31 d_AB_restore_32 d_AB_restore_34 d_AB_restore_37
    ·
      exact ab_kx_throw (pc := 9) (cls := "java/lang/IllegalArgumentException") hst X hT hk hX hl.1 (xw_IAE tw_567) rfl (by rw [f_AB_restore, if_neg h1, if_neg h2]) rfl ⟨Nat.le_of_ble_eq_true rfl, Nat.le_of_ble_eq_true rfl, Nat.le_of_ble_eq_true rfl, Nat.le_of_ble_eq_true rfl⟩ d_AB_restore_9 d_AB_restore_12 d_AB_restore_13 d_AB_restore_15 d_AB_restore_18
