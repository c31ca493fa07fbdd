/-! what the methods compute, laid out of their bytecode by wip/whole/gen -/
def f_Memory_at (u : SS) (x1 : Int32) : Int32 :=
  (if 512 ≤ (x1 &&& 1023) then (u 1 (((x1 &&& 1023) - 512).toNatClampNeg)) else (u 3 ((x1 &&& 1023).toNatClampNeg)) : Int32)
def f_Memory_put (u : SS) (x1 : Int32) (x2 : Int32) : SS :=
  if (x1 &&& 1023) < 512 then
    u
  else
    (stt u 1 (((x1 &&& 1023) - 512).toNatClampNeg) (x2 &&& 255))
def f_Memory_wordAt (u : SS) (x1 : Int32) : Int32 :=
  (f_Memory_at u x1) ||| ((f_Memory_at u (x1 + 1)) <<< ((8 : Int32) &&& 31))
def f_Memory_putWord (u : SS) (x1 : Int32) (x2 : Int32) : SS :=
  (f_Memory_put (f_Memory_put u x1 x2) (x1 + 1) (x2 >>> ((8 : Int32) &&& 31)))
def f_Memory_push (u : SS) (x1 : Int32) : SS :=
  (stt (f_Memory_put (f_Memory_put u ((u 0 1) - 1) (x1 >>> ((8 : Int32) &&& 31))) (((f_Memory_put u ((u 0 1) - 1) (x1 >>> ((8 : Int32) &&& 31))) 0 1) - 2) x1) 0 1 ((((f_Memory_put (f_Memory_put u ((u 0 1) - 1) (x1 >>> ((8 : Int32) &&& 31))) (((f_Memory_put u ((u 0 1) - 1) (x1 >>> ((8 : Int32) &&& 31))) 0 1) - 2) x1) 0 1) - 2) &&& 65535))
def f_Memory_pop (u : SS) : Int32 × SS :=
  ((f_Memory_at u (u 0 1)) ||| ((f_Memory_at u ((u 0 1) + 1)) <<< ((8 : Int32) &&& 31)), (stt u 0 1 (((u 0 1) + 2) &&& 65535)))
def f_Memory_burn (u : SS) (x1 : Int32) (x2 : Int32) : SS :=
  if x1 < 0 then
    u
  else
    if 512 ≤ x1 then
      u
    else
      (stt u 3 ((x1).toNatClampNeg) (x2 &&& 255))
def g_Memory_sumOfByte_4 : Nat → SS → Int32 → Int32 → Int32
  | 0, u, _, _ => 0
  | k + 1, u, v1, v2 =>
    if 8 ≤ v2 then
      v1
    else
      g_Memory_sumOfByte_4 k u (if (v1 &&& 32768) = 0 then ((v1 <<< ((1 : Int32) &&& 31)) &&& 65535) else (((v1 <<< ((1 : Int32) &&& 31)) &&& 65535) ^^^ 4129) : Int32) (v2 + 1)
def f_Memory_sumOfByte (u : SS) (x1 : Int32) : Int32 :=
  g_Memory_sumOfByte_4 9 u x1 0
def g_Memory_programSum_5 : Nat → SS → Int32 → Int32 → Int32
  | 0, u, _, _ => 0
  | k + 1, u, v1, v2 =>
    if 512 ≤ v2 then
      v1
    else
      g_Memory_programSum_5 k u (f_Memory_sumOfByte u (v1 ^^^ ((u 3 ((v2).toNatClampNeg)) <<< ((8 : Int32) &&& 31)))) (v2 + 1)
def f_Memory_programSum (u : SS) : Int32 :=
  g_Memory_programSum_5 513 u 65535 0
def f_Registers_pair (u : SS) (x1 : Int32) : Int32 :=
  if x1 = 3 then
    u 0 1
  else
    ((u 2 ((2 * (x1 &&& 3)).toNatClampNeg)) <<< ((8 : Int32) &&& 31)) ||| (u 2 (((2 * (x1 &&& 3)) + 1).toNatClampNeg))
def f_Registers_value (u : SS) (x1 : Int32) : Int32 :=
  if x1 = 6 then
    (f_Memory_at u (f_Registers_pair u 2))
  else
    u 2 ((x1 &&& 7).toNatClampNeg)
def f_Registers_set (u : SS) (x1 : Int32) (x2 : Int32) : SS :=
  if x1 = 6 then
    (f_Memory_put u (f_Registers_pair u 2) x2)
  else
    (stt u 2 ((x1 &&& 7).toNatClampNeg) (x2 &&& 255))
def f_Registers_setPair (u : SS) (x1 : Int32) (x2 : Int32) : SS :=
  if x1 = 3 then
    (stt u 0 1 (x2 &&& 65535))
  else
    (stt (stt u 2 ((2 * (x1 &&& 3)).toNatClampNeg) ((x2 >>> ((8 : Int32) &&& 31)) &&& 255)) 2 (((2 * (x1 &&& 3)) + 1).toNatClampNeg) (x2 &&& 255))
def f_Arithmetic_carry (u : SS) : Int32 :=
  (u 0 0) &&& 1
def f_Arithmetic_setCarry (u : SS) (x1 : Int32) : SS :=
  (stt u 0 0 (((u 0 0) &&& (-2)) ||| (x1 &&& 1)))
def f_JI_bitCount (u : SS) (x1 : Int32) : Int32 :=
  (((((((x1 - (((x1.toUInt32 >>> ((1 : Int32).toUInt32 &&& Int32.toUInt32 31)).toInt32) &&& 1431655765)) &&& 858993459) + ((((x1 - (((x1.toUInt32 >>> ((1 : Int32).toUInt32 &&& Int32.toUInt32 31)).toInt32) &&& 1431655765)).toUInt32 >>> ((2 : Int32).toUInt32 &&& Int32.toUInt32 31)).toInt32) &&& 858993459)) + (((((x1 - (((x1.toUInt32 >>> ((1 : Int32).toUInt32 &&& Int32.toUInt32 31)).toInt32) &&& 1431655765)) &&& 858993459) + ((((x1 - (((x1.toUInt32 >>> ((1 : Int32).toUInt32 &&& Int32.toUInt32 31)).toInt32) &&& 1431655765)).toUInt32 >>> ((2 : Int32).toUInt32 &&& Int32.toUInt32 31)).toInt32) &&& 858993459)).toUInt32 >>> ((4 : Int32).toUInt32 &&& Int32.toUInt32 31)).toInt32)) &&& 252645135) + (((((((x1 - (((x1.toUInt32 >>> ((1 : Int32).toUInt32 &&& Int32.toUInt32 31)).toInt32) &&& 1431655765)) &&& 858993459) + ((((x1 - (((x1.toUInt32 >>> ((1 : Int32).toUInt32 &&& Int32.toUInt32 31)).toInt32) &&& 1431655765)).toUInt32 >>> ((2 : Int32).toUInt32 &&& Int32.toUInt32 31)).toInt32) &&& 858993459)) + (((((x1 - (((x1.toUInt32 >>> ((1 : Int32).toUInt32 &&& Int32.toUInt32 31)).toInt32) &&& 1431655765)) &&& 858993459) + ((((x1 - (((x1.toUInt32 >>> ((1 : Int32).toUInt32 &&& Int32.toUInt32 31)).toInt32) &&& 1431655765)).toUInt32 >>> ((2 : Int32).toUInt32 &&& Int32.toUInt32 31)).toInt32) &&& 858993459)).toUInt32 >>> ((4 : Int32).toUInt32 &&& Int32.toUInt32 31)).toInt32)) &&& 252645135).toUInt32 >>> ((8 : Int32).toUInt32 &&& Int32.toUInt32 31)).toInt32)) + ((((((((x1 - (((x1.toUInt32 >>> ((1 : Int32).toUInt32 &&& Int32.toUInt32 31)).toInt32) &&& 1431655765)) &&& 858993459) + ((((x1 - (((x1.toUInt32 >>> ((1 : Int32).toUInt32 &&& Int32.toUInt32 31)).toInt32) &&& 1431655765)).toUInt32 >>> ((2 : Int32).toUInt32 &&& Int32.toUInt32 31)).toInt32) &&& 858993459)) + (((((x1 - (((x1.toUInt32 >>> ((1 : Int32).toUInt32 &&& Int32.toUInt32 31)).toInt32) &&& 1431655765)) &&& 858993459) + ((((x1 - (((x1.toUInt32 >>> ((1 : Int32).toUInt32 &&& Int32.toUInt32 31)).toInt32) &&& 1431655765)).toUInt32 >>> ((2 : Int32).toUInt32 &&& Int32.toUInt32 31)).toInt32) &&& 858993459)).toUInt32 >>> ((4 : Int32).toUInt32 &&& Int32.toUInt32 31)).toInt32)) &&& 252645135) + (((((((x1 - (((x1.toUInt32 >>> ((1 : Int32).toUInt32 &&& Int32.toUInt32 31)).toInt32) &&& 1431655765)) &&& 858993459) + ((((x1 - (((x1.toUInt32 >>> ((1 : Int32).toUInt32 &&& Int32.toUInt32 31)).toInt32) &&& 1431655765)).toUInt32 >>> ((2 : Int32).toUInt32 &&& Int32.toUInt32 31)).toInt32) &&& 858993459)) + (((((x1 - (((x1.toUInt32 >>> ((1 : Int32).toUInt32 &&& Int32.toUInt32 31)).toInt32) &&& 1431655765)) &&& 858993459) + ((((x1 - (((x1.toUInt32 >>> ((1 : Int32).toUInt32 &&& Int32.toUInt32 31)).toInt32) &&& 1431655765)).toUInt32 >>> ((2 : Int32).toUInt32 &&& Int32.toUInt32 31)).toInt32) &&& 858993459)).toUInt32 >>> ((4 : Int32).toUInt32 &&& Int32.toUInt32 31)).toInt32)) &&& 252645135).toUInt32 >>> ((8 : Int32).toUInt32 &&& Int32.toUInt32 31)).toInt32)).toUInt32 >>> ((16 : Int32).toUInt32 &&& Int32.toUInt32 31)).toInt32)) &&& 63
def f_Arithmetic_resultFlags (u : SS) (x1 : Int32) : Int32 :=
  (((x1 &&& 128) ||| (if x1 = 0 then 64 else 0 : Int32)) ||| (if ((f_JI_bitCount u x1) &&& 1) = 0 then 4 else 0 : Int32)) ||| 2
def f_Arithmetic_sum (u : SS) (x1 : Int32) (x2 : Int32) (x3 : Int32) : Int32 × SS :=
  (((x1 + x2) + x3) &&& 255, (stt u 0 0 (((f_Arithmetic_resultFlags u (((x1 + x2) + x3) &&& 255)) ||| ((((x1 &&& 15) + (x2 &&& 15)) + x3) &&& 16)) ||| (((x1 + x2) + x3) >>> ((8 : Int32) &&& 31)))))
def f_Arithmetic_difference (u : SS) (x1 : Int32) (x2 : Int32) (x3 : Int32) : Int32 × SS :=
  (((x1 - x2) - x3) &&& 255, (stt u 0 0 (((f_Arithmetic_resultFlags u (((x1 - x2) - x3) &&& 255)) ||| (((((x1 &&& 15) + ((x2 ^^^ (-1)) &&& 15)) + 1) - x3) &&& 16)) ||| (if 0 ≤ ((x1 - x2) - x3) then 0 else 1 : Int32))))
def f_Arithmetic_logical (u : SS) (x1 : Int32) (x2 : Int32) : Int32 × SS :=
  (x1, (stt u 0 0 ((f_Arithmetic_resultFlags u x1) ||| x2)))
def f_Arithmetic_operate (u : SS) (x1 : Int32) (x2 : Int32) : SS :=
  if x1 = 0 then
    (stt ((f_Arithmetic_sum u (u 2 7) x2 0).2) 2 7 ((f_Arithmetic_sum u (u 2 7) x2 0).1))
  else
    if x1 = 1 then
      (stt ((f_Arithmetic_sum u (u 2 7) x2 (f_Arithmetic_carry u)).2) 2 7 ((f_Arithmetic_sum u (u 2 7) x2 (f_Arithmetic_carry u)).1))
    else
      if x1 = 2 then
        (stt ((f_Arithmetic_difference u (u 2 7) x2 0).2) 2 7 ((f_Arithmetic_difference u (u 2 7) x2 0).1))
      else
        if x1 = 3 then
          (stt ((f_Arithmetic_difference u (u 2 7) x2 (f_Arithmetic_carry u)).2) 2 7 ((f_Arithmetic_difference u (u 2 7) x2 (f_Arithmetic_carry u)).1))
        else
          if x1 = 4 then
            (stt ((f_Arithmetic_logical u ((u 2 7) &&& x2) ((((u 2 7) ||| x2) &&& 8) * 2)).2) 2 7 ((f_Arithmetic_logical u ((u 2 7) &&& x2) ((((u 2 7) ||| x2) &&& 8) * 2)).1))
          else
            if x1 = 5 then
              (stt ((f_Arithmetic_logical u ((u 2 7) ^^^ x2) 0).2) 2 7 ((f_Arithmetic_logical u ((u 2 7) ^^^ x2) 0).1))
            else
              if x1 = 6 then
                (stt ((f_Arithmetic_logical u ((u 2 7) ||| x2) 0).2) 2 7 ((f_Arithmetic_logical u ((u 2 7) ||| x2) 0).1))
              else
                ((f_Arithmetic_difference u (u 2 7) x2 0).2)
def f_Arithmetic_oneMore (u : SS) (x1 : Int32) : Int32 × SS :=
  ((x1 + 1) &&& 255, (stt u 0 0 (((f_Arithmetic_resultFlags u ((x1 + 1) &&& 255)) ||| (((x1 &&& 15) + 1) &&& 16)) ||| (f_Arithmetic_carry u))))
def f_Arithmetic_oneLess (u : SS) (x1 : Int32) : Int32 × SS :=
  ((x1 - 1) &&& 255, (stt u 0 0 (((f_Arithmetic_resultFlags u ((x1 - 1) &&& 255)) ||| (if (x1 &&& 15) = 0 then 0 else 16 : Int32)) ||| (f_Arithmetic_carry u))))
def f_Arithmetic_growHL (u : SS) (x1 : Int32) : SS :=
  (f_Arithmetic_setCarry (stt (stt u 2 4 ((((((u 2 4) <<< ((8 : Int32) &&& 31)) ||| (u 2 5)) + x1) >>> ((8 : Int32) &&& 31)) &&& 255)) 2 5 (((((u 2 4) <<< ((8 : Int32) &&& 31)) ||| (u 2 5)) + x1) &&& 255)) (((((u 2 4) <<< ((8 : Int32) &&& 31)) ||| (u 2 5)) + x1) >>> ((16 : Int32) &&& 31)))
def g_Arithmetic_adjust_60 (u : SS) (v1 : Int32) (v2 : Int32) (v3 : Int32) : SS :=
  (stt (stt u 2 7 ((v1 + v3) &&& 255)) 0 0 (((f_Arithmetic_resultFlags (stt u 2 7 ((v1 + v3) &&& 255)) ((v1 + v3) &&& 255)) ||| (((v1 &&& 15) + (v3 &&& 15)) &&& 16)) ||| v2))
def g_Arithmetic_adjust_43 (u : SS) (v1 : Int32) (v2 : Int32) (v3 : Int32) : SS :=
  if 153 < v1 then
    g_Arithmetic_adjust_60 u v1 1 (v3 + 96)
  else
    if v2 = 1 then
      g_Arithmetic_adjust_60 u v1 1 (v3 + 96)
    else
      g_Arithmetic_adjust_60 u v1 v2 v3
def f_Arithmetic_adjust (u : SS) : SS :=
  if 9 < ((u 2 7) &&& 15) then
    g_Arithmetic_adjust_43 u (u 2 7) (f_Arithmetic_carry u) 6
  else
    if ((u 0 0) &&& 16) = 0 then
      g_Arithmetic_adjust_43 u (u 2 7) (f_Arithmetic_carry u) 0
    else
      g_Arithmetic_adjust_43 u (u 2 7) (f_Arithmetic_carry u) 6
def f_Arithmetic_turnTo (u : SS) (x1 : Int32) (x2 : Int32) : SS :=
  (f_Arithmetic_setCarry (stt u 2 7 (x1 &&& 255)) x2)
def f_Arithmetic_turn (u : SS) (x1 : Int32) : SS :=
  if x1 = 0 then
    (f_Arithmetic_turnTo u (((u 2 7) <<< ((1 : Int32) &&& 31)) ||| ((u 2 7) >>> ((7 : Int32) &&& 31))) ((u 2 7) >>> ((7 : Int32) &&& 31)))
  else
    if x1 = 1 then
      (f_Arithmetic_turnTo u (((u 2 7) >>> ((1 : Int32) &&& 31)) ||| ((u 2 7) <<< ((7 : Int32) &&& 31))) (u 2 7))
    else
      if x1 = 2 then
        (f_Arithmetic_turnTo u (((u 2 7) <<< ((1 : Int32) &&& 31)) ||| (f_Arithmetic_carry u)) ((u 2 7) >>> ((7 : Int32) &&& 31)))
      else
        if x1 = 3 then
          (f_Arithmetic_turnTo u (((u 2 7) >>> ((1 : Int32) &&& 31)) ||| ((f_Arithmetic_carry u) <<< ((7 : Int32) &&& 31))) (u 2 7))
        else
          if x1 = 4 then
            u
          else
            if x1 = 5 then
              (stt u 2 7 ((u 2 7) ^^^ 255))
            else
              if x1 = 6 then
                (f_Arithmetic_setCarry u 1)
              else
                if x1 = 7 then
                  (f_Arithmetic_setCarry u ((f_Arithmetic_carry u) ^^^ 1))
                else
                  u
def f_Clock_reset (u : SS) : SS :=
  (stt (stt (stt (stt (stt (stt (stt u 0 2 0) 0 7 0) 0 8 0) 0 9 0) 0 3 0) 0 5 0) 0 6 0)
def g_Clock_endFrame_51 (u : SS) : SS :=
  if ((u 0 9) + 1) < 4 then
    (stt u 0 9 ((u 0 9) + 1))
  else
    (f_Clock_reset (stt u 0 9 ((u 0 9) + 1)))
def f_Clock_endFrame (u : SS) : SS :=
  if (u 0 12) ≤ 0 then
    g_Clock_endFrame_51 (stt (stt u 0 10 ((u 0 10) - 2560)) 0 11 ((u 0 11) + 1))
  else
    g_Clock_endFrame_51 (stt (stt (stt u 0 10 ((u 0 10) - 2560)) 0 11 ((u 0 11) + 1)) 0 12 ((u 0 12) - 1))
def g_Clock_pass_74 (u : SS) : SS :=
  if (u 0 10) < 2560 then
    u
  else
    (f_Clock_endFrame u)
def g_Clock_pass_46 (u : SS) (v2 : Int32) : SS :=
  if 2048 ≤ v2 then
    g_Clock_pass_74 u
  else
    if (u 0 10) < 2048 then
      g_Clock_pass_74 u
    else
      g_Clock_pass_74 (stt u 0 6 2)
def f_Clock_pass (u : SS) (x1 : Int32) : SS :=
  if 1024 ≤ (u 0 10) then
    g_Clock_pass_46 (stt u 0 10 ((u 0 10) + x1)) (u 0 10)
  else
    if ((u 0 10) + x1) < 1024 then
      g_Clock_pass_46 (stt u 0 10 ((u 0 10) + x1)) (u 0 10)
    else
      g_Clock_pass_46 (stt (stt u 0 10 ((u 0 10) + x1)) 0 6 1) (u 0 10)
def f_Ports_setSwitches (u : SS) (x1 : Int32) (x2 : Int32) : Int32 × SS :=
  if x1 = 0 then
    (1, (stt u 0 15 (x2 &&& 255)))
  else
    if x1 = 1 then
      (1, (stt u 0 16 (x2 &&& 254)))
    else
      (0, u)
def f_Ports_in (u : SS) (x1 : Int32) : Int32 :=
  if x1 = 0 then
    u 0 15
  else
    if x1 = 1 then
      (if (u 0 12) ≤ 0 then (u 0 16) else ((u 0 16) + 1) : Int32)
    else
      if x1 = 2 then
        0
      else
        if x1 = 3 then
          (((u 0 7) <<< ((u 0 8) &&& 31)) >>> ((8 : Int32) &&& 31)) &&& 255
        else
          0
def g_Sounds_trigger_2 : Nat → SS → Int32 → Int32 → Int32 → SS
  | 0, u, _, _, _ => u
  | k + 1, u, v1, v2, v3 =>
    if 8 ≤ v3 then
      u
    else
      if ((v2 >>> (v3 &&& 31)) &&& 1) = 1 then
        g_Sounds_trigger_2 k (stt (stt u 4 (((u 0 17) &&& 7).toNatClampNeg) ((8 * v1) + v3)) 0 17 ((u 0 17) + 1)) v1 v2 (v3 + 1)
      else
        g_Sounds_trigger_2 k u v1 v2 (v3 + 1)
def f_Sounds_trigger (u : SS) (x1 : Int32) (x2 : Int32) : SS :=
  g_Sounds_trigger_2 9 u x1 x2 0
def f_Ports_out (u : SS) (x1 : Int32) (x2 : Int32) : SS :=
  if x1 = 2 then
    (stt u 0 8 (x2 &&& 7))
  else
    if x1 = 3 then
      (stt (f_Sounds_trigger u 3 (x2 &&& ((u 0 13) ^^^ (-1)))) 0 13 x2)
    else
      if x1 = 4 then
        (stt u 0 7 (((u 0 7) >>> ((8 : Int32) &&& 31)) ||| (x2 <<< ((8 : Int32) &&& 31))))
      else
        if x1 = 5 then
          (stt (f_Sounds_trigger u 5 (x2 &&& ((u 0 14) ^^^ (-1)))) 0 14 x2)
        else
          if x1 = 6 then
            (stt u 0 9 0)
          else
            u
def f_Sounds_count (u : SS) : Int32 :=
  u 0 17
def f_Sounds_latestBut (u : SS) (x1 : Int32) : Int32 :=
  if x1 < 0 then
    (-1)
  else
    if 7 < x1 then
      (-1)
    else
      if x1 < (u 0 17) then
        u 4 (((((u 0 17) - 1) - x1) &&& 7).toNatClampNeg)
      else
        (-1)
def f_Processor_goWithReturn (u : SS) (x1 : Int32) : SS :=
  (stt (f_Memory_push u (u 0 2)) 0 2 x1)
def f_Processor_takeCall (u : SS) : Int32 × SS :=
  (11, (f_Processor_goWithReturn (stt (stt (stt u 0 6 0) 0 3 0) 0 5 0) (8 * (u 0 6))))
def f_Processor_nextByte (u : SS) : Int32 × SS :=
  ((f_Memory_at u (u 0 2)), (stt u 0 2 (((u 0 2) + 1) &&& 65535)))
def f_Processor_nextWord (u : SS) : Int32 × SS :=
  ((f_Memory_at u (u 0 2)) ||| ((f_Memory_at u ((u 0 2) + 1)) <<< ((8 : Int32) &&& 31)), (stt u 0 2 (((u 0 2) + 2) &&& 65535)))
def f_Processor_setOrAddPair (u : SS) (x1 : Int32) : Int32 × SS :=
  if (x1 - x1 / 2 * 2) = 0 then
    (10, (f_Registers_setPair ((f_Processor_nextWord u).2) (x1 / 2) ((f_Processor_nextWord u).1)))
  else
    (10, (f_Arithmetic_growHL u (f_Registers_pair u (x1 / 2))))
def f_Processor_moveByAddress (u : SS) (x1 : Int32) : Int32 × SS :=
  if x1 = 0 then
    (7, (f_Memory_put u (f_Registers_pair u (x1 / 2)) (u 2 7)))
  else
    if x1 = 1 then
      (7, (stt u 2 7 (f_Memory_at u (f_Registers_pair u (x1 / 2)))))
    else
      if x1 = 2 then
        (7, (f_Memory_put u (f_Registers_pair u (x1 / 2)) (u 2 7)))
      else
        if x1 = 3 then
          (7, (stt u 2 7 (f_Memory_at u (f_Registers_pair u (x1 / 2)))))
        else
          if x1 = 4 then
            (16, (f_Memory_putWord ((f_Processor_nextWord u).2) ((f_Processor_nextWord u).1) (f_Registers_pair ((f_Processor_nextWord u).2) 2)))
          else
            if x1 = 5 then
              (16, (f_Registers_setPair ((f_Processor_nextWord u).2) 2 (f_Memory_wordAt ((f_Processor_nextWord u).2) ((f_Processor_nextWord u).1))))
            else
              if x1 = 6 then
                (13, (f_Memory_put ((f_Processor_nextWord u).2) ((f_Processor_nextWord u).1) (((f_Processor_nextWord u).2) 2 7)))
              else
                (13, (stt ((f_Processor_nextWord u).2) 2 7 (f_Memory_at ((f_Processor_nextWord u).2) ((f_Processor_nextWord u).1))))
def f_Processor_operateOnData (u : SS) (x1 : Int32) (x2 : Int32) : Int32 × SS :=
  if x2 = 0 then
    (4, u)
  else
    if x2 = 1 then
      ((f_Processor_setOrAddPair u x1).1, ((f_Processor_setOrAddPair u x1).2))
    else
      if x2 = 2 then
        ((f_Processor_moveByAddress u x1).1, ((f_Processor_moveByAddress u x1).2))
      else
        if x2 = 3 then
          (5, (f_Registers_setPair u (x1 / 2) ((f_Registers_pair u (x1 / 2)) + (if (x1 - x1 / 2 * 2) = 0 then 1 else (-1) : Int32))))
        else
          if x2 = 4 then
            ((if x1 = 6 then 10 else 5 : Int32), (f_Registers_set ((f_Arithmetic_oneMore u (f_Registers_value u x1)).2) x1 ((f_Arithmetic_oneMore u (f_Registers_value u x1)).1)))
          else
            if x2 = 5 then
              ((if x1 = 6 then 10 else 5 : Int32), (f_Registers_set ((f_Arithmetic_oneLess u (f_Registers_value u x1)).2) x1 ((f_Arithmetic_oneLess u (f_Registers_value u x1)).1)))
            else
              if x2 = 6 then
                ((if x1 = 6 then 10 else 7 : Int32), (f_Registers_set ((f_Processor_nextByte u).2) x1 ((f_Processor_nextByte u).1)))
              else
                if x1 = 4 then
                  (4, (f_Arithmetic_adjust u))
                else
                  (4, (f_Arithmetic_turn u x1))
def f_Processor_move (u : SS) (x1 : Int32) (x2 : Int32) : Int32 × SS :=
  if x1 = 6 then
    if x2 = 6 then
      (7, (stt u 0 5 1))
    else
      ((if x1 = 6 then 7 else (if x2 = 6 then 7 else 5 : Int32) : Int32), (f_Registers_set u x1 (f_Registers_value u x2)))
  else
    ((if x1 = 6 then 7 else (if x2 = 6 then 7 else 5 : Int32) : Int32), (f_Registers_set u x1 (f_Registers_value u x2)))
def f_Processor_holds (u : SS) (x1 : Int32) : Int32 :=
  if (x1 / 2) = 0 then
    (if (if ((u 0 0) &&& 64) = 0 then 0 else 1 : Int32) = (if (x1 - x1 / 2 * 2) = 1 then 1 else 0 : Int32) then 1 else 0 : Int32)
  else
    if (x1 / 2) = 1 then
      (if (if ((u 0 0) &&& 1) = 0 then 0 else 1 : Int32) = (if (x1 - x1 / 2 * 2) = 1 then 1 else 0 : Int32) then 1 else 0 : Int32)
    else
      if (x1 / 2) = 2 then
        (if (if ((u 0 0) &&& 4) = 0 then 0 else 1 : Int32) = (if (x1 - x1 / 2 * 2) = 1 then 1 else 0 : Int32) then 1 else 0 : Int32)
      else
        (if (if ((u 0 0) &&& 128) = 0 then 0 else 1 : Int32) = (if (x1 - x1 / 2 * 2) = 1 then 1 else 0 : Int32) then 1 else 0 : Int32)
def f_Processor_returnIf (u : SS) (x1 : Int32) : Int32 × SS :=
  if x1 = 0 then
    (5, u)
  else
    (11, (stt ((f_Memory_pop u).2) 0 2 ((f_Memory_pop u).1)))
def f_Processor_popAAndFlags (u : SS) : SS :=
  (stt (stt ((f_Memory_pop u).2) 2 7 (((f_Memory_pop u).1) >>> ((8 : Int32) &&& 31))) 0 0 ((((f_Memory_pop u).1) &&& 213) ||| 2))
def f_Processor_popOrGo (u : SS) (x1 : Int32) : Int32 × SS :=
  if x1 = 1 then
    (10, (stt ((f_Memory_pop u).2) 0 2 ((f_Memory_pop u).1)))
  else
    if x1 = 2 then
      (10, (f_Registers_setPair ((f_Memory_pop u).2) (x1 / 2) ((f_Memory_pop u).1)))
    else
      if x1 = 3 then
        (10, (stt ((f_Memory_pop u).2) 0 2 ((f_Memory_pop u).1)))
      else
        if x1 = 4 then
          (10, (f_Registers_setPair ((f_Memory_pop u).2) (x1 / 2) ((f_Memory_pop u).1)))
        else
          if x1 = 5 then
            (5, (stt u 0 2 (f_Registers_pair u 2)))
          else
            if x1 = 6 then
              (10, (f_Processor_popAAndFlags u))
            else
              if x1 = 7 then
                (5, (stt u 0 1 (f_Registers_pair u 2)))
              else
                (10, (f_Registers_setPair ((f_Memory_pop u).2) (x1 / 2) ((f_Memory_pop u).1)))
def f_Processor_goIf (u : SS) (x1 : Int32) : Int32 × SS :=
  if x1 = 0 then
    (10, ((f_Processor_nextWord u).2))
  else
    (10, (stt ((f_Processor_nextWord u).2) 0 2 ((f_Processor_nextWord u).1)))
def f_Processor_goOrExchange (u : SS) (x1 : Int32) : Int32 × SS :=
  if x1 = 2 then
    (10, (f_Ports_out ((f_Processor_nextByte u).2) ((f_Processor_nextByte u).1) (((f_Processor_nextByte u).2) 2 7)))
  else
    if x1 = 3 then
      (10, (stt ((f_Processor_nextByte u).2) 2 7 (f_Ports_in ((f_Processor_nextByte u).2) ((f_Processor_nextByte u).1))))
    else
      if x1 = 4 then
        (18, (f_Registers_setPair (f_Memory_putWord u (u 0 1) (f_Registers_pair u 2)) 2 (f_Memory_wordAt u (u 0 1))))
      else
        if x1 = 5 then
          (5, (f_Registers_setPair (f_Registers_setPair u 1 (f_Registers_pair u 2)) 2 (f_Registers_pair u 1)))
        else
          if x1 = 6 then
            (4, (stt u 0 3 0))
          else
            if x1 = 7 then
              (4, (stt u 0 3 1))
            else
              (10, (stt ((f_Processor_nextWord u).2) 0 2 ((f_Processor_nextWord u).1)))
def f_Processor_goWithReturnIf (u : SS) (x1 : Int32) : Int32 × SS :=
  if x1 = 0 then
    (11, ((f_Processor_nextWord u).2))
  else
    (17, (stt (f_Memory_push ((f_Processor_nextWord u).2) (((f_Processor_nextWord u).2) 0 2)) 0 2 ((f_Processor_nextWord u).1)))
def f_Processor_pushPair (u : SS) (x1 : Int32) : Int32 × SS :=
  if x1 = 3 then
    (11, (f_Memory_push u (((u 2 7) <<< ((8 : Int32) &&& 31)) ||| (u 0 0))))
  else
    (11, (f_Memory_push u (f_Registers_pair u x1)))
def f_Processor_operateOnFlow (u : SS) (x1 : Int32) (x2 : Int32) : Int32 × SS :=
  if x2 = 0 then
    ((f_Processor_returnIf u (f_Processor_holds u x1)).1, ((f_Processor_returnIf u (f_Processor_holds u x1)).2))
  else
    if x2 = 1 then
      ((f_Processor_popOrGo u x1).1, ((f_Processor_popOrGo u x1).2))
    else
      if x2 = 2 then
        ((f_Processor_goIf u (f_Processor_holds u x1)).1, ((f_Processor_goIf u (f_Processor_holds u x1)).2))
      else
        if x2 = 3 then
          ((f_Processor_goOrExchange u x1).1, ((f_Processor_goOrExchange u x1).2))
        else
          if x2 = 4 then
            ((f_Processor_goWithReturnIf u (f_Processor_holds u x1)).1, ((f_Processor_goWithReturnIf u (f_Processor_holds u x1)).2))
          else
            if x2 = 5 then
              if (x1 - x1 / 2 * 2) = 0 then
                ((f_Processor_pushPair u (x1 / 2)).1, ((f_Processor_pushPair u (x1 / 2)).2))
              else
                ((f_Processor_goWithReturnIf u 1).1, ((f_Processor_goWithReturnIf u 1).2))
            else
              (11, (f_Processor_goWithReturn u (8 * x1)))
def f_Processor_operate (u : SS) (x1 : Int32) : Int32 × SS :=
  if (x1 >>> ((6 : Int32) &&& 31)) = 0 then
    ((f_Processor_operateOnData u ((x1 >>> ((3 : Int32) &&& 31)) &&& 7) (x1 &&& 7)).1, ((f_Processor_operateOnData u ((x1 >>> ((3 : Int32) &&& 31)) &&& 7) (x1 &&& 7)).2))
  else
    if (x1 >>> ((6 : Int32) &&& 31)) = 1 then
      ((f_Processor_move u ((x1 >>> ((3 : Int32) &&& 31)) &&& 7) (x1 &&& 7)).1, ((f_Processor_move u ((x1 >>> ((3 : Int32) &&& 31)) &&& 7) (x1 &&& 7)).2))
    else
      if (x1 >>> ((6 : Int32) &&& 31)) = 2 then
        ((if (x1 &&& 7) = 6 then 7 else 4 : Int32), (f_Arithmetic_operate u ((x1 >>> ((3 : Int32) &&& 31)) &&& 7) (f_Registers_value u (x1 &&& 7))))
      else
        if (x1 &&& 7) = 6 then
          (7, (f_Arithmetic_operate ((f_Processor_nextByte u).2) ((x1 >>> ((3 : Int32) &&& 31)) &&& 7) ((f_Processor_nextByte u).1)))
        else
          ((f_Processor_operateOnFlow u ((x1 >>> ((3 : Int32) &&& 31)) &&& 7) (x1 &&& 7)).1, ((f_Processor_operateOnFlow u ((x1 >>> ((3 : Int32) &&& 31)) &&& 7) (x1 &&& 7)).2))
def g_Processor_step_70 (u : SS) (v1 : Int32) (v2 : Int32) : Int32 × SS :=
  (v2, (f_Clock_pass (stt u 0 4 (if (u 0 3) = 0 then 0 else (if v1 = 0 then 1 else 0 : Int32) : Int32)) v2))
def f_Processor_step (u : SS) : Int32 × SS :=
  if (u 0 3) = 0 then
    if (u 0 5) = 0 then
      g_Processor_step_70 ((f_Processor_operate ((f_Processor_nextByte u).2) ((f_Processor_nextByte u).1)).2) (u 0 3) ((f_Processor_operate ((f_Processor_nextByte u).2) ((f_Processor_nextByte u).1)).1)
    else
      g_Processor_step_70 u (u 0 3) 4
  else
    if (u 0 4) = 0 then
      if (u 0 6) = 0 then
        if (u 0 5) = 0 then
          g_Processor_step_70 ((f_Processor_operate ((f_Processor_nextByte u).2) ((f_Processor_nextByte u).1)).2) (u 0 3) ((f_Processor_operate ((f_Processor_nextByte u).2) ((f_Processor_nextByte u).1)).1)
        else
          g_Processor_step_70 u (u 0 3) 4
      else
        g_Processor_step_70 ((f_Processor_takeCall u).2) (u 0 3) ((f_Processor_takeCall u).1)
    else
      if (u 0 5) = 0 then
        g_Processor_step_70 ((f_Processor_operate ((f_Processor_nextByte u).2) ((f_Processor_nextByte u).1)).2) (u 0 3) ((f_Processor_operate ((f_Processor_nextByte u).2) ((f_Processor_nextByte u).1)).1)
      else
        g_Processor_step_70 u (u 0 3) 4
def f_MD_thrown (u : SS) : Int32 :=
  u 0 0
def f_MD_read (u : SS) (x1 : Int32) : Int32 :=
  u 1 ((x1 &&& 1023).toNatClampNeg)
def f_MD_write (u : SS) (x1 : Int32) (x2 : Int32) : SS :=
  (stt u 1 ((x1 &&& 1023).toNatClampNeg) (if 512 ≤ (x1 &&& 1023) then (x2 &&& 255) else (u 1 ((x1 &&& 1023).toNatClampNeg)) : Int32))
def f_MD_next (u : SS) : Int32 × SS :=
  ((f_MD_read u (u 0 10)), (stt u 0 10 (((u 0 10) + 1) &&& 65535)))
def f_MD_nextWord (u : SS) : Int32 × SS :=
  (((f_MD_next u).1) + (256 * ((f_MD_next ((f_MD_next u).2)).1)), ((f_MD_next ((f_MD_next u).2)).2))
def f_MD_pair (u : SS) (x1 : Int32) : Int32 :=
  (if x1 = 3 then (u 0 9) else ((256 * (u 2 ((2 * x1).toNatClampNeg))) + (u 2 (((2 * x1) + 1).toNatClampNeg))) : Int32)
def f_MD_setPair (u : SS) (x1 : Int32) (x2 : Int32) : SS :=
  if x1 = 3 then
    (stt u 0 9 (x2 &&& 65535))
  else
    (stt (stt u 2 ((2 * x1).toNatClampNeg) ((x2 &&& 65535) / 256)) 2 (((2 * x1) + 1).toNatClampNeg) ((x2 &&& 65535) - (x2 &&& 65535) / 256 * 256))
def f_MD_get (u : SS) (x1 : Int32) : Int32 :=
  if x1 = 6 then
    (f_MD_read u (f_MD_pair u 2))
  else
    u 2 ((x1).toNatClampNeg)
def f_MD_set (u : SS) (x1 : Int32) (x2 : Int32) : SS :=
  if x1 = 6 then
    (f_MD_write u (f_MD_pair u 2) x2)
  else
    (stt u 2 ((x1).toNatClampNeg) (x2 &&& 255))
def f_MD_push (u : SS) (x1 : Int32) : SS :=
  (stt (f_MD_write (f_MD_write u ((u 0 9) - 1) (x1 / 256)) (((f_MD_write u ((u 0 9) - 1) (x1 / 256)) 0 9) - 2) (x1 - x1 / 256 * 256)) 0 9 ((((f_MD_write (f_MD_write u ((u 0 9) - 1) (x1 / 256)) (((f_MD_write u ((u 0 9) - 1) (x1 / 256)) 0 9) - 2) (x1 - x1 / 256 * 256)) 0 9) - 2) &&& 65535))
def f_MD_pop (u : SS) : Int32 × SS :=
  ((f_MD_read u (u 0 9)) + (256 * (f_MD_read u ((u 0 9) + 1))), (stt u 0 9 (((u 0 9) + 2) &&& 65535)))
def f_MD_flags (u : SS) : Int32 :=
  (((((if (u 0 4) = 0 then 0 else 128 : Int32) + (if (u 0 5) = 0 then 0 else 64 : Int32)) + (if (u 0 6) = 0 then 0 else 16 : Int32)) + (if (u 0 7) = 0 then 0 else 4 : Int32)) + 2) + (if (u 0 8) = 0 then 0 else 1 : Int32)
def f_MD_setFlags (u : SS) (x1 : Int32) : SS :=
  (stt (stt (stt (stt (stt u 0 4 (if (x1 &&& 128) = 0 then 0 else 1 : Int32)) 0 5 (if (x1 &&& 64) = 0 then 0 else 1 : Int32)) 0 6 (if (x1 &&& 16) = 0 then 0 else 1 : Int32)) 0 7 (if (x1 &&& 4) = 0 then 0 else 1 : Int32)) 0 8 (if (x1 &&& 1) = 0 then 0 else 1 : Int32))
def g_MD_result_39 : Nat → SS → Int32 → Int32 → Int32 → Int32 × SS
  | 0, u, _, _, _ => (0, u)
  | k + 1, u, v2, v3, v4 =>
    if 8 ≤ v4 then
      (v2, (stt u 0 7 (if (v3 - v3 / 2 * 2) = 0 then 1 else 0 : Int32)))
    else
      g_MD_result_39 k u v2 (v3 + ((v2 >>> (v4 &&& 31)) &&& 1)) (v4 + 1)
def f_MD_result (u : SS) (x1 : Int32) : Int32 × SS :=
  g_MD_result_39 9 (stt (stt u 0 4 (if (x1 &&& 255) ≤ 127 then 0 else 1 : Int32)) 0 5 (if (x1 &&& 255) = 0 then 1 else 0 : Int32)) (x1 &&& 255) 0 0
def f_MD_holds (u : SS) (x1 : Int32) : Int32 :=
  (if (if 2 ≤ x1 then (if 4 ≤ x1 then (if 6 ≤ x1 then (u 0 4) else (u 0 7) : Int32) else (u 0 8) : Int32) else (u 0 5) : Int32) = (if (x1 - x1 / 2 * 2) = 1 then 1 else 0 : Int32) then 1 else 0 : Int32)
def f_MD_operate (u : SS) (x1 : Int32) (x2 : Int32) : SS :=
  if 2 ≤ x1 then
    if x1 < 4 then
      (stt ((f_MD_result (stt (stt u 0 8 (if 0 ≤ (((u 2 7) - x2) - (if (u 0 8) = 0 then 0 else (if x1 = 1 then 1 else (if x1 = 3 then 1 else 0 : Int32) : Int32) : Int32)) then 0 else 1 : Int32)) 0 6 (if (((((u 2 7) - (u 2 7) / 16 * 16) + (15 - (x2 - x2 / 16 * 16))) + 1) - (if (u 0 8) = 0 then 0 else (if x1 = 1 then 1 else (if x1 = 3 then 1 else 0 : Int32) : Int32) : Int32)) ≤ 15 then 0 else 1 : Int32)) (((u 2 7) - x2) - (if (u 0 8) = 0 then 0 else (if x1 = 1 then 1 else (if x1 = 3 then 1 else 0 : Int32) : Int32) : Int32))).2) 2 7 (if x1 = 7 then (u 2 7) else ((f_MD_result (stt (stt u 0 8 (if 0 ≤ (((u 2 7) - x2) - (if (u 0 8) = 0 then 0 else (if x1 = 1 then 1 else (if x1 = 3 then 1 else 0 : Int32) : Int32) : Int32)) then 0 else 1 : Int32)) 0 6 (if (((((u 2 7) - (u 2 7) / 16 * 16) + (15 - (x2 - x2 / 16 * 16))) + 1) - (if (u 0 8) = 0 then 0 else (if x1 = 1 then 1 else (if x1 = 3 then 1 else 0 : Int32) : Int32) : Int32)) ≤ 15 then 0 else 1 : Int32)) (((u 2 7) - x2) - (if (u 0 8) = 0 then 0 else (if x1 = 1 then 1 else (if x1 = 3 then 1 else 0 : Int32) : Int32) : Int32))).1) : Int32))
    else
      if x1 = 7 then
        (stt ((f_MD_result (stt (stt u 0 8 (if 0 ≤ (((u 2 7) - x2) - (if (u 0 8) = 0 then 0 else (if x1 = 1 then 1 else (if x1 = 3 then 1 else 0 : Int32) : Int32) : Int32)) then 0 else 1 : Int32)) 0 6 (if (((((u 2 7) - (u 2 7) / 16 * 16) + (15 - (x2 - x2 / 16 * 16))) + 1) - (if (u 0 8) = 0 then 0 else (if x1 = 1 then 1 else (if x1 = 3 then 1 else 0 : Int32) : Int32) : Int32)) ≤ 15 then 0 else 1 : Int32)) (((u 2 7) - x2) - (if (u 0 8) = 0 then 0 else (if x1 = 1 then 1 else (if x1 = 3 then 1 else 0 : Int32) : Int32) : Int32))).2) 2 7 (if x1 = 7 then (u 2 7) else ((f_MD_result (stt (stt u 0 8 (if 0 ≤ (((u 2 7) - x2) - (if (u 0 8) = 0 then 0 else (if x1 = 1 then 1 else (if x1 = 3 then 1 else 0 : Int32) : Int32) : Int32)) then 0 else 1 : Int32)) 0 6 (if (((((u 2 7) - (u 2 7) / 16 * 16) + (15 - (x2 - x2 / 16 * 16))) + 1) - (if (u 0 8) = 0 then 0 else (if x1 = 1 then 1 else (if x1 = 3 then 1 else 0 : Int32) : Int32) : Int32)) ≤ 15 then 0 else 1 : Int32)) (((u 2 7) - x2) - (if (u 0 8) = 0 then 0 else (if x1 = 1 then 1 else (if x1 = 3 then 1 else 0 : Int32) : Int32) : Int32))).1) : Int32))
      else
        (stt ((f_MD_result (stt (stt u 0 8 0) 0 6 (if x1 = 4 then (if (((u 2 7) ||| x2) &&& 8) = 0 then 0 else 1 : Int32) else 0 : Int32)) (if x1 = 4 then ((u 2 7) &&& x2) else (if x1 = 5 then ((u 2 7) ^^^ x2) else ((u 2 7) ||| x2) : Int32) : Int32)).2) 2 7 ((f_MD_result (stt (stt u 0 8 0) 0 6 (if x1 = 4 then (if (((u 2 7) ||| x2) &&& 8) = 0 then 0 else 1 : Int32) else 0 : Int32)) (if x1 = 4 then ((u 2 7) &&& x2) else (if x1 = 5 then ((u 2 7) ^^^ x2) else ((u 2 7) ||| x2) : Int32) : Int32)).1))
  else
    (stt ((f_MD_result (stt (stt u 0 8 (if (((u 2 7) + x2) + (if (u 0 8) = 0 then 0 else (if x1 = 1 then 1 else (if x1 = 3 then 1 else 0 : Int32) : Int32) : Int32)) ≤ 255 then 0 else 1 : Int32)) 0 6 (if ((((u 2 7) - (u 2 7) / 16 * 16) + (x2 - x2 / 16 * 16)) + (if (u 0 8) = 0 then 0 else (if x1 = 1 then 1 else (if x1 = 3 then 1 else 0 : Int32) : Int32) : Int32)) ≤ 15 then 0 else 1 : Int32)) (((u 2 7) + x2) + (if (u 0 8) = 0 then 0 else (if x1 = 1 then 1 else (if x1 = 3 then 1 else 0 : Int32) : Int32) : Int32))).2) 2 7 ((f_MD_result (stt (stt u 0 8 (if (((u 2 7) + x2) + (if (u 0 8) = 0 then 0 else (if x1 = 1 then 1 else (if x1 = 3 then 1 else 0 : Int32) : Int32) : Int32)) ≤ 255 then 0 else 1 : Int32)) 0 6 (if ((((u 2 7) - (u 2 7) / 16 * 16) + (x2 - x2 / 16 * 16)) + (if (u 0 8) = 0 then 0 else (if x1 = 1 then 1 else (if x1 = 3 then 1 else 0 : Int32) : Int32) : Int32)) ≤ 15 then 0 else 1 : Int32)) (((u 2 7) + x2) + (if (u 0 8) = 0 then 0 else (if x1 = 1 then 1 else (if x1 = 3 then 1 else 0 : Int32) : Int32) : Int32))).1))
def f_MD_turnA (u : SS) (x1 : Int32) : SS :=
  if x1 = 0 then
    (stt (stt u 2 7 (((2 * (u 2 7)) - (2 * (u 2 7)) / 256 * 256) + ((u 2 7) >>> ((7 : Int32) &&& 31)))) 0 8 (if ((u 2 7) >>> ((7 : Int32) &&& 31)) = 1 then 1 else 0 : Int32))
  else
    if x1 = 1 then
      (stt (stt u 2 7 (((u 2 7) / 2) + (128 * ((u 2 7) &&& 1)))) 0 8 (if ((u 2 7) &&& 1) = 1 then 1 else 0 : Int32))
    else
      if x1 = 2 then
        (stt (stt u 2 7 (((2 * (u 2 7)) - (2 * (u 2 7)) / 256 * 256) + (if (u 0 8) = 0 then 0 else 1 : Int32))) 0 8 (if ((u 2 7) >>> ((7 : Int32) &&& 31)) = 1 then 1 else 0 : Int32))
      else
        if x1 = 3 then
          (stt (stt u 2 7 (((u 2 7) / 2) + (128 * (if (u 0 8) = 0 then 0 else 1 : Int32)))) 0 8 (if ((u 2 7) &&& 1) = 1 then 1 else 0 : Int32))
        else
          if x1 = 4 then
            (stt ((f_MD_result (stt (stt u 0 8 (if (u 0 8) = 0 then (if (if 153 < (u 2 7) then 1 else (if (u 0 8) = 0 then 0 else 1 : Int32) : Int32) = 0 then 0 else 1 : Int32) else 1 : Int32)) 0 6 (if (((u 2 7) - (u 2 7) / 16 * 16) + ((if (if 153 < (u 2 7) then 1 else (if (u 0 8) = 0 then 0 else 1 : Int32) : Int32) = 0 then (if 9 < ((u 2 7) - (u 2 7) / 16 * 16) then 6 else (if (u 0 6) = 0 then 0 else 6 : Int32) : Int32) else ((if 9 < ((u 2 7) - (u 2 7) / 16 * 16) then 6 else (if (u 0 6) = 0 then 0 else 6 : Int32) : Int32) + 96) : Int32) - (if (if 153 < (u 2 7) then 1 else (if (u 0 8) = 0 then 0 else 1 : Int32) : Int32) = 0 then (if 9 < ((u 2 7) - (u 2 7) / 16 * 16) then 6 else (if (u 0 6) = 0 then 0 else 6 : Int32) : Int32) else ((if 9 < ((u 2 7) - (u 2 7) / 16 * 16) then 6 else (if (u 0 6) = 0 then 0 else 6 : Int32) : Int32) + 96) : Int32) / 16 * 16)) ≤ 15 then 0 else 1 : Int32)) ((u 2 7) + (if (if 153 < (u 2 7) then 1 else (if (u 0 8) = 0 then 0 else 1 : Int32) : Int32) = 0 then (if 9 < ((u 2 7) - (u 2 7) / 16 * 16) then 6 else (if (u 0 6) = 0 then 0 else 6 : Int32) : Int32) else ((if 9 < ((u 2 7) - (u 2 7) / 16 * 16) then 6 else (if (u 0 6) = 0 then 0 else 6 : Int32) : Int32) + 96) : Int32))).2) 2 7 ((f_MD_result (stt (stt u 0 8 (if (u 0 8) = 0 then (if (if 153 < (u 2 7) then 1 else (if (u 0 8) = 0 then 0 else 1 : Int32) : Int32) = 0 then 0 else 1 : Int32) else 1 : Int32)) 0 6 (if (((u 2 7) - (u 2 7) / 16 * 16) + ((if (if 153 < (u 2 7) then 1 else (if (u 0 8) = 0 then 0 else 1 : Int32) : Int32) = 0 then (if 9 < ((u 2 7) - (u 2 7) / 16 * 16) then 6 else (if (u 0 6) = 0 then 0 else 6 : Int32) : Int32) else ((if 9 < ((u 2 7) - (u 2 7) / 16 * 16) then 6 else (if (u 0 6) = 0 then 0 else 6 : Int32) : Int32) + 96) : Int32) - (if (if 153 < (u 2 7) then 1 else (if (u 0 8) = 0 then 0 else 1 : Int32) : Int32) = 0 then (if 9 < ((u 2 7) - (u 2 7) / 16 * 16) then 6 else (if (u 0 6) = 0 then 0 else 6 : Int32) : Int32) else ((if 9 < ((u 2 7) - (u 2 7) / 16 * 16) then 6 else (if (u 0 6) = 0 then 0 else 6 : Int32) : Int32) + 96) : Int32) / 16 * 16)) ≤ 15 then 0 else 1 : Int32)) ((u 2 7) + (if (if 153 < (u 2 7) then 1 else (if (u 0 8) = 0 then 0 else 1 : Int32) : Int32) = 0 then (if 9 < ((u 2 7) - (u 2 7) / 16 * 16) then 6 else (if (u 0 6) = 0 then 0 else 6 : Int32) : Int32) else ((if 9 < ((u 2 7) - (u 2 7) / 16 * 16) then 6 else (if (u 0 6) = 0 then 0 else 6 : Int32) : Int32) + 96) : Int32))).1))
          else
            if x1 = 5 then
              (stt u 2 7 (255 - (u 2 7)))
            else
              (stt u 0 8 (if x1 = 6 then 1 else (if (u 0 8) = 0 then 1 else 0 : Int32) : Int32))
def f_MD_carry (u : SS) (x1 : Int32) : SS :=
  if 4 ≤ x1 then
    if x1 = 4 then
      (f_MD_write (f_MD_write (stt ((f_MD_nextWord u).2) 0 24 (if 6 ≤ x1 then 13 else 16 : Int32)) ((f_MD_nextWord u).1) (((f_MD_nextWord u).2) 2 5)) (((f_MD_nextWord u).1) + 1) ((f_MD_write (stt ((f_MD_nextWord u).2) 0 24 (if 6 ≤ x1 then 13 else 16 : Int32)) ((f_MD_nextWord u).1) (((f_MD_nextWord u).2) 2 5)) 2 4))
    else
      if x1 = 5 then
        (stt (stt (stt ((f_MD_nextWord u).2) 0 24 (if 6 ≤ x1 then 13 else 16 : Int32)) 2 4 (f_MD_read (stt ((f_MD_nextWord u).2) 0 24 (if 6 ≤ x1 then 13 else 16 : Int32)) (((f_MD_nextWord u).1) + 1))) 2 5 (f_MD_read (stt ((f_MD_nextWord u).2) 0 24 (if 6 ≤ x1 then 13 else 16 : Int32)) ((f_MD_nextWord u).1)))
      else
        if x1 = 6 then
          (f_MD_write (stt ((f_MD_nextWord u).2) 0 24 (if 6 ≤ x1 then 13 else 16 : Int32)) ((f_MD_nextWord u).1) (((f_MD_nextWord u).2) 2 7))
        else
          (stt (stt ((f_MD_nextWord u).2) 0 24 (if 6 ≤ x1 then 13 else 16 : Int32)) 2 7 (f_MD_read (stt ((f_MD_nextWord u).2) 0 24 (if 6 ≤ x1 then 13 else 16 : Int32)) ((f_MD_nextWord u).1)))
  else
    if (x1 - x1 / 2 * 2) = 0 then
      (f_MD_write (stt u 0 24 7) (f_MD_pair (stt u 0 24 7) (x1 / 2)) (u 2 7))
    else
      (stt (stt u 0 24 7) 2 7 (f_MD_read (stt u 0 24 7) (f_MD_pair (stt u 0 24 7) (x1 / 2))))
def f_MD_lowOperation (u : SS) (x1 : Int32) (x2 : Int32) : SS :=
  if x2 = 0 then
    (stt u 0 24 4)
  else
    if x2 = 1 then
      if (x1 - x1 / 2 * 2) = 0 then
        (f_MD_setPair ((f_MD_nextWord (stt u 0 24 10)).2) (x1 / 2) ((f_MD_nextWord (stt u 0 24 10)).1))
      else
        (f_MD_setPair (stt (stt u 0 24 10) 0 8 (if ((f_MD_pair (stt u 0 24 10) 2) + (f_MD_pair (stt u 0 24 10) (x1 / 2))) ≤ 65535 then 0 else 1 : Int32)) 2 ((f_MD_pair (stt u 0 24 10) 2) + (f_MD_pair (stt u 0 24 10) (x1 / 2))))
    else
      if x2 = 2 then
        (f_MD_carry u x1)
      else
        if x2 = 3 then
          (f_MD_setPair (stt u 0 24 5) (x1 / 2) ((f_MD_pair (stt u 0 24 5) (x1 / 2)) + (if (x1 - x1 / 2 * 2) = 0 then 1 else (-1) : Int32)))
        else
          if 6 ≤ x2 then
            if x2 = 6 then
              (f_MD_set ((f_MD_next (stt u 0 24 (if x1 = 6 then 10 else 7 : Int32))).2) x1 ((f_MD_next (stt u 0 24 (if x1 = 6 then 10 else 7 : Int32))).1))
            else
              (f_MD_turnA (stt u 0 24 4) x1)
          else
            (f_MD_set ((f_MD_result (stt (stt u 0 24 (if x1 = 6 then 10 else 5 : Int32)) 0 6 (if x2 = 4 then (if ((f_MD_get (stt u 0 24 (if x1 = 6 then 10 else 5 : Int32)) x1) - (f_MD_get (stt u 0 24 (if x1 = 6 then 10 else 5 : Int32)) x1) / 16 * 16) = 15 then 1 else 0 : Int32) else (if ((f_MD_get (stt u 0 24 (if x1 = 6 then 10 else 5 : Int32)) x1) - (f_MD_get (stt u 0 24 (if x1 = 6 then 10 else 5 : Int32)) x1) / 16 * 16) ≤ 0 then 0 else 1 : Int32) : Int32)) (if x2 = 4 then ((f_MD_get (stt u 0 24 (if x1 = 6 then 10 else 5 : Int32)) x1) + 1) else ((f_MD_get (stt u 0 24 (if x1 = 6 then 10 else 5 : Int32)) x1) - 1) : Int32)).2) x1 ((f_MD_result (stt (stt u 0 24 (if x1 = 6 then 10 else 5 : Int32)) 0 6 (if x2 = 4 then (if ((f_MD_get (stt u 0 24 (if x1 = 6 then 10 else 5 : Int32)) x1) - (f_MD_get (stt u 0 24 (if x1 = 6 then 10 else 5 : Int32)) x1) / 16 * 16) = 15 then 1 else 0 : Int32) else (if ((f_MD_get (stt u 0 24 (if x1 = 6 then 10 else 5 : Int32)) x1) - (f_MD_get (stt u 0 24 (if x1 = 6 then 10 else 5 : Int32)) x1) / 16 * 16) ≤ 0 then 0 else 1 : Int32) : Int32)) (if x2 = 4 then ((f_MD_get (stt u 0 24 (if x1 = 6 then 10 else 5 : Int32)) x1) + 1) else ((f_MD_get (stt u 0 24 (if x1 = 6 then 10 else 5 : Int32)) x1) - 1) : Int32)).1))
def f_MD_popOrSo (u : SS) (x1 : Int32) : SS :=
  if x1 = 1 then
    (stt ((f_MD_pop (stt u 0 24 (if x1 = 5 then 5 else (if x1 = 7 then 5 else 10 : Int32) : Int32))).2) 0 10 ((f_MD_pop (stt u 0 24 (if x1 = 5 then 5 else (if x1 = 7 then 5 else 10 : Int32) : Int32))).1))
  else
    if x1 = 3 then
      (stt ((f_MD_pop (stt u 0 24 (if x1 = 5 then 5 else (if x1 = 7 then 5 else 10 : Int32) : Int32))).2) 0 10 ((f_MD_pop (stt u 0 24 (if x1 = 5 then 5 else (if x1 = 7 then 5 else 10 : Int32) : Int32))).1))
    else
      if x1 = 5 then
        (stt (stt u 0 24 (if x1 = 5 then 5 else (if x1 = 7 then 5 else 10 : Int32) : Int32)) 0 10 (f_MD_pair (stt u 0 24 (if x1 = 5 then 5 else (if x1 = 7 then 5 else 10 : Int32) : Int32)) 2))
      else
        if x1 = 7 then
          (stt (stt u 0 24 (if x1 = 5 then 5 else (if x1 = 7 then 5 else 10 : Int32) : Int32)) 0 9 (f_MD_pair (stt u 0 24 (if x1 = 5 then 5 else (if x1 = 7 then 5 else 10 : Int32) : Int32)) 2))
        else
          if x1 = 6 then
            (f_MD_setFlags (stt ((f_MD_pop (stt u 0 24 (if x1 = 5 then 5 else (if x1 = 7 then 5 else 10 : Int32) : Int32))).2) 2 7 (((f_MD_pop (stt u 0 24 (if x1 = 5 then 5 else (if x1 = 7 then 5 else 10 : Int32) : Int32))).1) / 256)) (((f_MD_pop (stt u 0 24 (if x1 = 5 then 5 else (if x1 = 7 then 5 else 10 : Int32) : Int32))).1) - ((f_MD_pop (stt u 0 24 (if x1 = 5 then 5 else (if x1 = 7 then 5 else 10 : Int32) : Int32))).1) / 256 * 256))
          else
            (f_MD_setPair ((f_MD_pop (stt u 0 24 (if x1 = 5 then 5 else (if x1 = 7 then 5 else 10 : Int32) : Int32))).2) (x1 / 2) ((f_MD_pop (stt u 0 24 (if x1 = 5 then 5 else (if x1 = 7 then 5 else 10 : Int32) : Int32))).1))
def g_MD_out_86 : Nat → SS → Int32 → Int32 → Int32 → Int32 → SS
  | 0, u, _, _, _, _ => u
  | k + 1, u, v1, v2, v3, v4 =>
    if 8 ≤ v4 then
      (stt (stt u 0 21 (if v1 = 3 then v2 else (u 0 21) : Int32)) 0 22 (if v1 = 5 then v2 else (u 0 22) : Int32))
    else
      if ((v2 >>> (v4 &&& 31)) &&& 1) = 1 then
        if ((v3 >>> (v4 &&& 31)) &&& 1) = 0 then
          g_MD_out_86 k (stt (stt u 3 (((u 0 23) - (u 0 23) / 8 * 8).toNatClampNeg) ((8 * v1) + v4)) 0 23 ((u 0 23) + 1)) v1 v2 v3 (v4 + 1)
        else
          g_MD_out_86 k u v1 v2 v3 (v4 + 1)
      else
        g_MD_out_86 k u v1 v2 v3 (v4 + 1)
def f_MD_out (u : SS) (x1 : Int32) (x2 : Int32) : SS :=
  if x1 = 2 then
    (stt u 0 16 (x2 &&& 7))
  else
    if x1 = 4 then
      (stt u 0 15 (((u 0 15) / 256) + (256 * x2)))
    else
      if x1 = 6 then
        (stt u 0 17 0)
      else
        if x1 = 3 then
          g_MD_out_86 9 u x1 x2 (if x1 = 3 then (u 0 21) else (u 0 22) : Int32) 0
        else
          if x1 = 5 then
            g_MD_out_86 9 u x1 x2 (if x1 = 3 then (u 0 21) else (u 0 22) : Int32) 0
          else
            u
def f_MD_in (u : SS) (x1 : Int32) : Int32 :=
  if x1 = 0 then
    u 0 2
  else
    if x1 = 1 then
      (u 0 3) + (if (u 0 20) ≤ 0 then 0 else 1 : Int32)
    else
      (if x1 = 3 then ((((u 0 15) <<< ((u 0 16) &&& 31)) >>> ((8 : Int32) &&& 31)) &&& 255) else 0 : Int32)
def f_MD_others (u : SS) (x1 : Int32) : SS :=
  if 2 ≤ x1 then
    if x1 = 2 then
      (f_MD_out ((f_MD_next (stt u 0 24 (if 4 ≤ x1 then (if x1 = 4 then 18 else (if x1 = 5 then 5 else 4 : Int32) : Int32) else 10 : Int32))).2) ((f_MD_next (stt u 0 24 (if 4 ≤ x1 then (if x1 = 4 then 18 else (if x1 = 5 then 5 else 4 : Int32) : Int32) else 10 : Int32))).1) (((f_MD_next (stt u 0 24 (if 4 ≤ x1 then (if x1 = 4 then 18 else (if x1 = 5 then 5 else 4 : Int32) : Int32) else 10 : Int32))).2) 2 7))
    else
      if x1 = 3 then
        (stt ((f_MD_next (stt u 0 24 (if 4 ≤ x1 then (if x1 = 4 then 18 else (if x1 = 5 then 5 else 4 : Int32) : Int32) else 10 : Int32))).2) 2 7 (f_MD_in ((f_MD_next (stt u 0 24 (if 4 ≤ x1 then (if x1 = 4 then 18 else (if x1 = 5 then 5 else 4 : Int32) : Int32) else 10 : Int32))).2) ((f_MD_next (stt u 0 24 (if 4 ≤ x1 then (if x1 = 4 then 18 else (if x1 = 5 then 5 else 4 : Int32) : Int32) else 10 : Int32))).1)))
      else
        if x1 = 4 then
          (f_MD_setPair (f_MD_write (f_MD_write (stt u 0 24 (if 4 ≤ x1 then (if x1 = 4 then 18 else (if x1 = 5 then 5 else 4 : Int32) : Int32) else 10 : Int32)) (u 0 9) (u 2 5)) (((f_MD_write (stt u 0 24 (if 4 ≤ x1 then (if x1 = 4 then 18 else (if x1 = 5 then 5 else 4 : Int32) : Int32) else 10 : Int32)) (u 0 9) (u 2 5)) 0 9) + 1) ((f_MD_write (stt u 0 24 (if 4 ≤ x1 then (if x1 = 4 then 18 else (if x1 = 5 then 5 else 4 : Int32) : Int32) else 10 : Int32)) (u 0 9) (u 2 5)) 2 4)) 2 ((f_MD_read (stt u 0 24 (if 4 ≤ x1 then (if x1 = 4 then 18 else (if x1 = 5 then 5 else 4 : Int32) : Int32) else 10 : Int32)) (u 0 9)) + (256 * (f_MD_read (stt u 0 24 (if 4 ≤ x1 then (if x1 = 4 then 18 else (if x1 = 5 then 5 else 4 : Int32) : Int32) else 10 : Int32)) ((u 0 9) + 1)))))
        else
          if x1 = 5 then
            (f_MD_setPair (f_MD_setPair (stt u 0 24 (if 4 ≤ x1 then (if x1 = 4 then 18 else (if x1 = 5 then 5 else 4 : Int32) : Int32) else 10 : Int32)) 1 (f_MD_pair (stt u 0 24 (if 4 ≤ x1 then (if x1 = 4 then 18 else (if x1 = 5 then 5 else 4 : Int32) : Int32) else 10 : Int32)) 2)) 2 (f_MD_pair (stt u 0 24 (if 4 ≤ x1 then (if x1 = 4 then 18 else (if x1 = 5 then 5 else 4 : Int32) : Int32) else 10 : Int32)) 1))
          else
            (stt (stt (stt u 0 24 (if 4 ≤ x1 then (if x1 = 4 then 18 else (if x1 = 5 then 5 else 4 : Int32) : Int32) else 10 : Int32)) 0 12 (if x1 = 7 then (if (u 0 11) = 0 then 1 else 0 : Int32) else 0 : Int32)) 0 11 (if x1 = 7 then 1 else 0 : Int32))
  else
    (stt ((f_MD_nextWord (stt u 0 24 (if 4 ≤ x1 then (if x1 = 4 then 18 else (if x1 = 5 then 5 else 4 : Int32) : Int32) else 10 : Int32))).2) 0 10 ((f_MD_nextWord (stt u 0 24 (if 4 ≤ x1 then (if x1 = 4 then 18 else (if x1 = 5 then 5 else 4 : Int32) : Int32) else 10 : Int32))).1))
def f_MD_highOperation (u : SS) (x1 : Int32) (x2 : Int32) : SS :=
  if x2 = 0 then
    if (f_MD_holds (stt u 0 24 (if (f_MD_holds u x1) = 0 then 5 else 11 : Int32)) x1) = 0 then
      (stt (stt u 0 24 (if (f_MD_holds u x1) = 0 then 5 else 11 : Int32)) 0 10 (u 0 10))
    else
      (stt ((f_MD_pop (stt u 0 24 (if (f_MD_holds u x1) = 0 then 5 else 11 : Int32))).2) 0 10 ((f_MD_pop (stt u 0 24 (if (f_MD_holds u x1) = 0 then 5 else 11 : Int32))).1))
  else
    if x2 = 1 then
      (f_MD_popOrSo u x1)
    else
      if x2 = 2 then
        (stt ((f_MD_nextWord (stt u 0 24 10)).2) 0 10 (if (f_MD_holds ((f_MD_nextWord (stt u 0 24 10)).2) x1) = 0 then (((f_MD_nextWord (stt u 0 24 10)).2) 0 10) else ((f_MD_nextWord (stt u 0 24 10)).1) : Int32))
      else
        if x2 = 3 then
          (f_MD_others u x1)
        else
          if x2 = 4 then
            if (f_MD_holds (stt ((f_MD_nextWord u).2) 0 24 (if (f_MD_holds ((f_MD_nextWord u).2) x1) = 0 then 11 else 17 : Int32)) x1) = 0 then
              (stt ((f_MD_nextWord u).2) 0 24 (if (f_MD_holds ((f_MD_nextWord u).2) x1) = 0 then 11 else 17 : Int32))
            else
              (stt (f_MD_push (stt ((f_MD_nextWord u).2) 0 24 (if (f_MD_holds ((f_MD_nextWord u).2) x1) = 0 then 11 else 17 : Int32)) (((f_MD_nextWord u).2) 0 10)) 0 10 ((f_MD_nextWord u).1))
          else
            if x2 = 5 then
              if (x1 - x1 / 2 * 2) = 0 then
                if x1 = 6 then
                  (f_MD_push (stt u 0 24 11) ((256 * (u 2 7)) + (f_MD_flags (stt u 0 24 11))))
                else
                  (f_MD_push (stt u 0 24 11) (f_MD_pair (stt u 0 24 11) (x1 / 2)))
              else
                (stt (f_MD_push ((f_MD_nextWord (stt u 0 24 17)).2) (((f_MD_nextWord (stt u 0 24 17)).2) 0 10)) 0 10 ((f_MD_nextWord (stt u 0 24 17)).1))
            else
              if x2 = 6 then
                (f_MD_operate ((f_MD_next (stt u 0 24 7)).2) x1 ((f_MD_next (stt u 0 24 7)).1))
              else
                (stt (f_MD_push (stt u 0 24 11) (u 0 10)) 0 10 (8 * x1))
def f_MD_reset (u : SS) : SS :=
  (stt (stt (stt (stt (stt (stt (stt (stt u 0 10 0) 0 15 0) 0 16 0) 0 17 0) 0 11 0) 0 12 0) 0 13 0) 0 14 0)
def f_MD_operation (u : SS) : SS :=
  if ((f_MD_next u).1) = 118 then
    (stt (stt ((f_MD_next u).2) 0 13 1) 0 24 7)
  else
    if (((f_MD_next u).1) >>> ((6 : Int32) &&& 31)) = 0 then
      (f_MD_lowOperation ((f_MD_next u).2) ((((f_MD_next u).1) >>> ((3 : Int32) &&& 31)) &&& 7) (((f_MD_next u).1) &&& 7))
    else
      if (((f_MD_next u).1) >>> ((6 : Int32) &&& 31)) = 1 then
        (f_MD_set (stt ((f_MD_next u).2) 0 24 (if ((((f_MD_next u).1) >>> ((3 : Int32) &&& 31)) &&& 7) = 6 then 7 else (if (((f_MD_next u).1) &&& 7) = 6 then 7 else 5 : Int32) : Int32)) ((((f_MD_next u).1) >>> ((3 : Int32) &&& 31)) &&& 7) (f_MD_get (stt ((f_MD_next u).2) 0 24 (if ((((f_MD_next u).1) >>> ((3 : Int32) &&& 31)) &&& 7) = 6 then 7 else (if (((f_MD_next u).1) &&& 7) = 6 then 7 else 5 : Int32) : Int32)) (((f_MD_next u).1) &&& 7)))
      else
        if (((f_MD_next u).1) >>> ((6 : Int32) &&& 31)) = 2 then
          (f_MD_operate (stt ((f_MD_next u).2) 0 24 (if (((f_MD_next u).1) &&& 7) = 6 then 7 else 4 : Int32)) ((((f_MD_next u).1) >>> ((3 : Int32) &&& 31)) &&& 7) (f_MD_get (stt ((f_MD_next u).2) 0 24 (if (((f_MD_next u).1) &&& 7) = 6 then 7 else 4 : Int32)) (((f_MD_next u).1) &&& 7)))
        else
          (f_MD_highOperation ((f_MD_next u).2) ((((f_MD_next u).1) >>> ((3 : Int32) &&& 31)) &&& 7) (((f_MD_next u).1) &&& 7))
def g_MD_step_90 (u : SS) : SS :=
  if ((u 0 18) + (u 0 24)) < 2560 then
    (stt (stt u 0 18 ((u 0 18) + (u 0 24))) 0 14 (if 1024 ≤ (u 0 18) then (if 2048 ≤ (u 0 18) then (u 0 14) else (if ((u 0 18) + (u 0 24)) < 2048 then (u 0 14) else 2 : Int32) : Int32) else (if ((u 0 18) + (u 0 24)) < 1024 then (if 2048 ≤ (u 0 18) then (u 0 14) else (if ((u 0 18) + (u 0 24)) < 2048 then (u 0 14) else 2 : Int32) : Int32) else 1 : Int32) : Int32))
  else
    if ((u 0 17) + 1) = 4 then
      (f_MD_reset (stt (stt (stt (stt (stt (stt u 0 18 ((u 0 18) + (u 0 24))) 0 14 (if 1024 ≤ (u 0 18) then (if 2048 ≤ (u 0 18) then (u 0 14) else (if ((u 0 18) + (u 0 24)) < 2048 then (u 0 14) else 2 : Int32) : Int32) else (if ((u 0 18) + (u 0 24)) < 1024 then (if 2048 ≤ (u 0 18) then (u 0 14) else (if ((u 0 18) + (u 0 24)) < 2048 then (u 0 14) else 2 : Int32) : Int32) else 1 : Int32) : Int32)) 0 18 (((u 0 18) + (u 0 24)) - 2560)) 0 19 ((u 0 19) + 1)) 0 20 (if (u 0 20) ≤ 0 then 0 else ((u 0 20) - 1) : Int32)) 0 17 ((u 0 17) + 1)))
    else
      (stt (stt (stt (stt (stt (stt u 0 18 ((u 0 18) + (u 0 24))) 0 14 (if 1024 ≤ (u 0 18) then (if 2048 ≤ (u 0 18) then (u 0 14) else (if ((u 0 18) + (u 0 24)) < 2048 then (u 0 14) else 2 : Int32) : Int32) else (if ((u 0 18) + (u 0 24)) < 1024 then (if 2048 ≤ (u 0 18) then (u 0 14) else (if ((u 0 18) + (u 0 24)) < 2048 then (u 0 14) else 2 : Int32) : Int32) else 1 : Int32) : Int32)) 0 18 (((u 0 18) + (u 0 24)) - 2560)) 0 19 ((u 0 19) + 1)) 0 20 (if (u 0 20) ≤ 0 then 0 else ((u 0 20) - 1) : Int32)) 0 17 ((u 0 17) + 1))
def f_MD_step (u : SS) : SS :=
  if (u 0 11) = 0 then
    if (u 0 13) = 0 then
      g_MD_step_90 (f_MD_operation (stt u 0 12 0))
    else
      g_MD_step_90 (stt (stt u 0 12 0) 0 24 4)
  else
    if (u 0 12) = 0 then
      if (u 0 14) ≤ 0 then
        if (u 0 13) = 0 then
          g_MD_step_90 (f_MD_operation (stt u 0 12 0))
        else
          g_MD_step_90 (stt (stt u 0 12 0) 0 24 4)
      else
        g_MD_step_90 (stt (stt (stt (f_MD_push (stt (stt (stt u 0 12 0) 0 11 0) 0 13 0) (u 0 10)) 0 10 (8 * ((f_MD_push (stt (stt (stt u 0 12 0) 0 11 0) 0 13 0) (u 0 10)) 0 14))) 0 14 0) 0 24 11)
    else
      if (u 0 13) = 0 then
        g_MD_step_90 (f_MD_operation (stt u 0 12 0))
      else
        g_MD_step_90 (stt (stt u 0 12 0) 0 24 4)
def g_MD_load_40 : Nat → SS → Int32 → Int32 → Int32 → Int32 → Int32 × SS
  | 0, u, _, _, _, _ => (0, u)
  | k + 1, u, v1, v2, v3, v4 =>
    if v3 ≤ v4 then
      (1, u)
    else
      g_MD_load_40 k (stt u 1 ((v1 + v4).toNatClampNeg) ((v2 >>> ((8 * v4) &&& 31)) &&& 255)) v1 v2 v3 (v4 + 1)
def f_MD_load (u : SS) (x1 : Int32) (x2 : Int32) (x3 : Int32) : Int32 × SS :=
  if (u 0 1) = 0 then
    if x3 < 1 then
      (0, (stt u 0 0 0))
    else
      if 4 < x3 then
        (0, (stt u 0 0 0))
      else
        if x1 < 0 then
          (0, (stt u 0 0 0))
        else
          if x1 ≤ (512 - x3) then
            g_MD_load_40 5 (stt u 0 0 0) x1 x2 x3 0
          else
            (0, (stt u 0 0 0))
  else
    (0, (stt u 0 0 0))
def g_MD_check_32 : Nat → Int32 → Int32 → Int32 → Int32
  | 0, _, _, _ => 0
  | k + 1, v1, v2, v3 =>
    if 8 ≤ v3 then
      v1
    else
      g_MD_check_32 k (if (if v1 ≤ 32767 then 0 else 1 : Int32) = 0 then ((2 * v1) &&& 65535) else (((2 * v1) &&& 65535) ^^^ 4129) : Int32) v2 (v3 + 1)
def g_MD_check_10 : Nat → SS → Int32 → Int32 → Int32 × SS
  | 0, u, _, _ => (0, u)
  | k + 1, u, v1, v2 =>
    if 512 ≤ v2 then
      (v1, u)
    else
      g_MD_check_10 k u (g_MD_check_32 9 (v1 ^^^ ((u 1 ((v2).toNatClampNeg)) * 256)) v2 0) (v2 + 1)
def f_MD_check (u : SS) : Int32 × SS :=
  g_MD_check_10 513 (stt u 0 0 0) 65535 0
def f_MD_power (u : SS) (x1 : Int32) : Int32 × SS :=
  if (if (if ((f_MD_check u).1) = x1 then 1 else 0 : Int32) = 0 then 1 else (if (((f_MD_check u).2) 0 1) = 0 then 0 else 2 : Int32) : Int32) ≤ 0 then
    (1, (f_MD_reset (stt (stt ((f_MD_check u).2) 0 0 (if (if ((f_MD_check u).1) = x1 then 1 else 0 : Int32) = 0 then 1 else (if (((f_MD_check u).2) 0 1) = 0 then 0 else 2 : Int32) : Int32)) 0 1 1)))
  else
    (0, (stt ((f_MD_check u).2) 0 0 (if (if ((f_MD_check u).1) = x1 then 1 else 0 : Int32) = 0 then 1 else (if (((f_MD_check u).2) 0 1) = 0 then 0 else 2 : Int32) : Int32)))
def f_MD_off (u : SS) : Int32 × SS :=
  (u 0 1, (stt (stt u 0 0 0) 0 1 0))
def g_MD_run_34 : Nat → SS → Int32 → Int32 → Int32 → Int32 × SS
  | 0, u, _, _, _ => (0, u)
  | k + 1, u, v1, v2, v3 =>
    if v1 ≤ v3 then
      (v2, u)
    else
      if (u 0 0) = 0 then
        g_MD_run_34 k (f_MD_step u) v1 (v2 + ((f_MD_step u) 0 24)) (v3 + 1)
      else
        (v2, u)
def f_MD_run (u : SS) (x1 : Int32) : Int32 × SS :=
  g_MD_run_34 61 (stt u 0 0 (if x1 < 0 then 1 else (if x1 ≤ 60 then (if (u 0 1) = 0 then 2 else 0 : Int32) else 1 : Int32) : Int32)) x1 0 0
def f_MD_switches (u : SS) (x1 : Int32) (x2 : Int32) : Int32 × SS :=
  if x1 = 0 then
    (1, (stt (stt (stt u 0 0 0) 0 2 (if x1 = 0 then (x2 &&& 255) else (u 0 2) : Int32)) 0 3 (if x1 = 1 then (x2 &&& 254) else (u 0 3) : Int32)))
  else
    if x1 = 1 then
      (1, (stt (stt (stt u 0 0 0) 0 2 (if x1 = 0 then (x2 &&& 255) else (u 0 2) : Int32)) 0 3 (if x1 = 1 then (x2 &&& 254) else (u 0 3) : Int32)))
    else
      (0, (stt u 0 0 0))
def f_MD_coin (u : SS) : Int32 × SS :=
  if (u 0 20) ≤ 0 then
    (1, (stt (stt u 0 0 0) 0 20 3))
  else
    (0, (stt u 0 0 0))
def f_MD_more (u : SS) (x1 : Int32) : Int32 :=
  if x1 = 9 then
    u 0 9
  else
    if x1 = 10 then
      u 0 10
    else
      if x1 = 11 then
        (if (u 0 11) = 0 then 0 else 1 : Int32)
      else
        if x1 = 12 then
          (if (u 0 13) = 0 then 0 else 1 : Int32)
        else
          if x1 = 13 then
            u 0 14
          else
            if x1 = 14 then
              u 0 15
            else
              if x1 = 15 then
                u 0 16
              else
                if x1 = 16 then
                  u 0 17
                else
                  if x1 = 17 then
                    u 0 18
                  else
                    if x1 = 18 then
                      u 0 19
                    else
                      u 0 20
def f_MD_look (u : SS) (x1 : Int32) : Int32 × SS :=
  if x1 < 0 then
    ((-1), (stt u 0 0 0))
  else
    if x1 ≤ 19 then
      if 8 ≤ x1 then
        if x1 = 8 then
          ((f_MD_flags (stt u 0 0 0)), (stt u 0 0 0))
        else
          ((f_MD_more (stt u 0 0 0) x1), (stt u 0 0 0))
      else
        ((f_MD_get (stt u 0 0 0) x1), (stt u 0 0 0))
    else
      ((-1), (stt u 0 0 0))
def f_MD_peek (u : SS) (x1 : Int32) : Int32 × SS :=
  ((if x1 < 0 then (-1) else (if 1024 ≤ x1 then (-1) else (u 1 ((x1).toNatClampNeg)) : Int32) : Int32), (stt u 0 0 0))
def f_MD_dot (u : SS) (x1 : Int32) (x2 : Int32) : Int32 × SS :=
  ((if x1 < 0 then 0 else (if 64 ≤ x1 then 0 else (if x2 < 0 then 0 else (if 32 ≤ x2 then 0 else (if (((u 1 (((768 + (8 * x2)) + (x1 / 8)).toNatClampNeg)) >>> ((x1 - x1 / 8 * 8) &&& 31)) &&& 1) = 1 then 1 else 0 : Int32) : Int32) : Int32) : Int32) : Int32), (stt u 0 0 0))
def f_MD_sound (u : SS) (x1 : Int32) : Int32 × SS :=
  if x1 = (-1) then
    (u 0 23, (stt u 0 0 0))
  else
    ((if x1 < 0 then (-1) else (if 8 ≤ x1 then (-1) else (if (u 0 23) ≤ x1 then (-1) else (u 3 (((((u 0 23) - 1) - x1) - (((u 0 23) - 1) - x1) / 8 * 8).toNatClampNeg)) : Int32) : Int32) : Int32), (stt u 0 0 0))
def g_MD_save_147 : Nat → SS → Int32 → Int32 → Int32 → Int32 × SS
  | 0, u, _, _, _ => (0, u)
  | k + 1, u, v1, v2, v3 =>
    if 512 ≤ v3 then
      (1, u)
    else
      g_MD_save_147 k (stt u 5 (((v2 + 23) + v3).toNatClampNeg) (u 1 ((512 + v3).toNatClampNeg))) v1 v2 (v3 + 1)
def g_MD_save_73 : Nat → SS → Int32 → Int32 → Int32 → Int32 × SS
  | 0, u, _, _, _ => (0, u)
  | k + 1, u, v1, v2, v3 =>
    if 20 ≤ v3 then
      g_MD_save_147 513 (stt (stt (stt u 5 ((v2 + 20).toNatClampNeg) (u 0 21)) 5 ((v2 + 21).toNatClampNeg) (u 0 22)) 5 ((v2 + 22).toNatClampNeg) (if (u 0 12) = 0 then 0 else 1 : Int32)) v1 v2 0
    else
      g_MD_save_73 k (stt u 5 ((v2 + v3).toNatClampNeg) (f_MD_more u v3)) v1 v2 (v3 + 1)
def g_MD_save_31 : Nat → SS → Int32 → Int32 → Int32 → Int32 × SS
  | 0, u, _, _, _ => (0, u)
  | k + 1, u, v1, v2, v3 =>
    if 8 ≤ v3 then
      g_MD_save_73 12 (stt u 5 ((v2 + 8).toNatClampNeg) (f_MD_flags u)) v1 v2 9
    else
      g_MD_save_31 k (stt u 5 ((v2 + v3).toNatClampNeg) (u 2 ((v3).toNatClampNeg))) v1 v2 (v3 + 1)
def f_MD_save (u : SS) (x1 : Int32) : Int32 × SS :=
  if x1 = 0 then
    g_MD_save_31 9 (stt (stt u 0 0 0) 4 ((x1).toNatClampNeg) 1) x1 (540 * x1) 0
  else
    if x1 = 1 then
      g_MD_save_31 9 (stt (stt u 0 0 0) 4 ((x1).toNatClampNeg) 1) x1 (540 * x1) 0
    else
      (0, (stt u 0 0 0))
def g_MD_restore_313 : Nat → SS → Int32 → Int32 → Int32 × SS
  | 0, u, _, _ => (0, u)
  | k + 1, u, v3, v4 =>
    if 512 ≤ v4 then
      (1, u)
    else
      g_MD_restore_313 k (stt u 1 ((512 + v4).toNatClampNeg) (u 5 (((v3 + 23) + v4).toNatClampNeg))) v3 (v4 + 1)
def g_MD_restore_59 : Nat → SS → Int32 → Int32 → Int32 × SS
  | 0, u, _, _ => (0, u)
  | k + 1, u, v3, v4 =>
    if 8 ≤ v4 then
      g_MD_restore_313 513 (stt (stt (stt (stt (stt (stt (stt (stt (stt (stt (stt (stt (stt (stt (f_MD_setFlags u (u 5 ((v3 + 8).toNatClampNeg))) 0 9 ((f_MD_setFlags u (u 5 ((v3 + 8).toNatClampNeg))) 5 ((v3 + 9).toNatClampNeg))) 0 10 ((f_MD_setFlags u (u 5 ((v3 + 8).toNatClampNeg))) 5 ((v3 + 10).toNatClampNeg))) 0 11 (if ((f_MD_setFlags u (u 5 ((v3 + 8).toNatClampNeg))) 5 ((v3 + 11).toNatClampNeg)) = 1 then 1 else 0 : Int32)) 0 13 (if ((f_MD_setFlags u (u 5 ((v3 + 8).toNatClampNeg))) 5 ((v3 + 12).toNatClampNeg)) = 1 then 1 else 0 : Int32)) 0 14 ((f_MD_setFlags u (u 5 ((v3 + 8).toNatClampNeg))) 5 ((v3 + 13).toNatClampNeg))) 0 15 ((f_MD_setFlags u (u 5 ((v3 + 8).toNatClampNeg))) 5 ((v3 + 14).toNatClampNeg))) 0 16 ((f_MD_setFlags u (u 5 ((v3 + 8).toNatClampNeg))) 5 ((v3 + 15).toNatClampNeg))) 0 17 ((f_MD_setFlags u (u 5 ((v3 + 8).toNatClampNeg))) 5 ((v3 + 16).toNatClampNeg))) 0 18 ((f_MD_setFlags u (u 5 ((v3 + 8).toNatClampNeg))) 5 ((v3 + 17).toNatClampNeg))) 0 19 ((f_MD_setFlags u (u 5 ((v3 + 8).toNatClampNeg))) 5 ((v3 + 18).toNatClampNeg))) 0 20 ((f_MD_setFlags u (u 5 ((v3 + 8).toNatClampNeg))) 5 ((v3 + 19).toNatClampNeg))) 0 21 ((f_MD_setFlags u (u 5 ((v3 + 8).toNatClampNeg))) 5 ((v3 + 20).toNatClampNeg))) 0 22 ((f_MD_setFlags u (u 5 ((v3 + 8).toNatClampNeg))) 5 ((v3 + 21).toNatClampNeg))) 0 12 (if ((f_MD_setFlags u (u 5 ((v3 + 8).toNatClampNeg))) 5 ((v3 + 22).toNatClampNeg)) = 1 then 1 else 0 : Int32)) v3 0
    else
      g_MD_restore_59 k (stt u 2 ((v4).toNatClampNeg) (u 5 ((v3 + v4).toNatClampNeg))) v3 (v4 + 1)
def f_MD_restore (u : SS) (x1 : Int32) : Int32 × SS :=
  if (if (if x1 = 0 then 1 else (if x1 = 1 then 1 else 0 : Int32) : Int32) = 0 then 1 else (if (u 4 ((x1).toNatClampNeg)) = 0 then 2 else 0 : Int32) : Int32) ≤ 0 then
    g_MD_restore_59 9 (stt u 0 0 (if (if x1 = 0 then 1 else (if x1 = 1 then 1 else 0 : Int32) : Int32) = 0 then 1 else (if (u 4 ((x1).toNatClampNeg)) = 0 then 2 else 0 : Int32) : Int32)) (540 * x1) 0
  else
    (0, (stt u 0 0 (if (if x1 = 0 then 1 else (if x1 = 1 then 1 else 0 : Int32) : Int32) = 0 then 1 else (if (u 4 ((x1).toNatClampNeg)) = 0 then 2 else 0 : Int32) : Int32)))
def f_State_become_3_10 (z u : SS) : (SS × SS) :=
  ((stt (stt (stt (stt (stt (stt (stt (stt (stt (stt (stt (stt (stt (stt (stt (va_up (va_up z 2 (va_cpy (u 1) (z 2) 0 0 512)) 3 (va_cpy (u 2) (z 3) 0 0 8)) 1 0 (u 0 0)) 1 1 (u 0 1)) 1 2 (u 0 2)) 1 3 (u 0 3)) 1 4 (u 0 4)) 1 5 (u 0 5)) 1 6 (u 0 6)) 1 7 (u 0 7)) 1 8 (u 0 8)) 1 9 (u 0 9)) 1 10 (u 0 10)) 1 11 (u 0 11)) 1 12 (u 0 12)) 1 13 (u 0 13)) 1 14 (u 0 14)), u)
def f_State_become_6_10 (z u : SS) : (SS × SS) :=
  ((stt (stt (stt (stt (stt (stt (stt (stt (stt (stt (stt (stt (stt (stt (stt (va_up (va_up z 5 (va_cpy (u 1) (z 5) 0 0 512)) 6 (va_cpy (u 2) (z 6) 0 0 8)) 4 0 (u 0 0)) 4 1 (u 0 1)) 4 2 (u 0 2)) 4 3 (u 0 3)) 4 4 (u 0 4)) 4 5 (u 0 5)) 4 6 (u 0 6)) 4 7 (u 0 7)) 4 8 (u 0 8)) 4 9 (u 0 9)) 4 10 (u 0 10)) 4 11 (u 0 11)) 4 12 (u 0 12)) 4 13 (u 0 13)) 4 14 (u 0 14)), u)
def f_State_become_10_3 (z u : SS) : (SS × SS) :=
  (z, (stt (stt (stt (stt (stt (stt (stt (stt (stt (stt (stt (stt (stt (stt (stt (va_up (va_up u 1 (va_cpy (z 2) (u 1) 0 0 512)) 2 (va_cpy (z 3) (u 2) 0 0 8)) 0 0 (z 1 0)) 0 1 (z 1 1)) 0 2 (z 1 2)) 0 3 (z 1 3)) 0 4 (z 1 4)) 0 5 (z 1 5)) 0 6 (z 1 6)) 0 7 (z 1 7)) 0 8 (z 1 8)) 0 9 (z 1 9)) 0 10 (z 1 10)) 0 11 (z 1 11)) 0 12 (z 1 12)) 0 13 (z 1 13)) 0 14 (z 1 14)))
def f_State_become_10_6 (z u : SS) : (SS × SS) :=
  (z, (stt (stt (stt (stt (stt (stt (stt (stt (stt (stt (stt (stt (stt (stt (stt (va_up (va_up u 1 (va_cpy (z 5) (u 1) 0 0 512)) 2 (va_cpy (z 6) (u 2) 0 0 8)) 0 0 (z 4 0)) 0 1 (z 4 1)) 0 2 (z 4 2)) 0 3 (z 4 3)) 0 4 (z 4 4)) 0 5 (z 4 5)) 0 6 (z 4 6)) 0 7 (z 4 7)) 0 8 (z 4 8)) 0 9 (z 4 9)) 0 10 (z 4 10)) 0 11 (z 4 11)) 0 12 (z 4 12)) 0 13 (z 4 13)) 0 14 (z 4 14)))
def g_AB_load_35 : Nat → SS → SS → Int32 → Int32 → Int32 → Int32 → Int32 × (SS × SS)
  | 0, z, u, _, _, _, _ => (0, (z, u))
  | k + 1, z, u, v1, v2, v3, v4 =>
    if v3 ≤ v4 then
      (1, (z, u))
    else
      g_AB_load_35 k z (f_Memory_burn u (v1 + v4) (v2 >>> ((8 * v4) &&& 31))) v1 v2 v3 (v4 + 1)
def f_AB_load (z u : SS) (x1 : Int32) (x2 : Int32) (x3 : Int32) : Int32 × (SS × SS) :=
  if (z 0 0) = 0 then
    if x3 < 1 then
      (0, (z, u))
    else
      if 4 < x3 then
        (0, (z, u))
      else
        if x1 < 0 then
          (0, (z, u))
        else
          if x1 ≤ (512 - x3) then
            g_AB_load_35 5 z u x1 x2 x3 0
          else
            (0, (z, u))
  else
    (0, (z, u))
def f_AB_check (z u : SS) : Int32 :=
  (f_Memory_programSum u)
def f_AB_power (z u : SS) (x1 : Int32) : Nat × (Int32 × (SS × SS)) :=
  if (f_Memory_programSum u) = x1 then
    if (z 0 0) = 0 then
      (0, (1, ((stt z 0 0 1), (f_Clock_reset u))))
    else
      (2, (0, (z, u)))
  else
    (1, (0, (z, u)))
def f_AB_off (z u : SS) : Int32 × (SS × SS) :=
  (z 0 0, ((stt z 0 0 0), u))
def g_AB_run_41 : Nat → SS → SS → Int32 → Int32 → Int32 → Nat × (Int32 × (SS × SS))
  | 0, z, u, _, _, _ => (0, (0, (z, u)))
  | k + 1, z, u, v1, v2, v3 =>
    if v1 ≤ v3 then
      (0, (v2, (z, u)))
    else
      g_AB_run_41 k z ((f_Processor_step u).2) v1 (v2 + ((f_Processor_step u).1)) (v3 + 1)
def f_AB_run (z u : SS) (x1 : Int32) : Nat × (Int32 × (SS × SS)) :=
  if x1 < 0 then
    (1, (0, (z, u)))
  else
    if x1 ≤ 60 then
      if (z 0 0) = 0 then
        (2, (0, (z, u)))
      else
        g_AB_run_41 61 z u x1 0 0
    else
      (1, (0, (z, u)))
def f_AB_switches (z u : SS) (x1 : Int32) (x2 : Int32) : Int32 × (SS × SS) :=
  ((f_Ports_setSwitches u x1 x2).1, (z, ((f_Ports_setSwitches u x1 x2).2)))
def f_AB_coin (z u : SS) : Int32 × (SS × SS) :=
  if (u 0 12) ≤ 0 then
    (1, (z, (stt u 0 12 3)))
  else
    (0, (z, u))
def f_AB_look (z u : SS) (x1 : Int32) : Int32 :=
  if x1 < 0 then
    if x1 = 8 then
      u 0 0
    else
      if x1 = 9 then
        u 0 1
      else
        if x1 = 10 then
          u 0 2
        else
          if x1 = 11 then
            (if (u 0 3) = 0 then 0 else 1 : Int32)
          else
            if x1 = 12 then
              (if (u 0 5) = 0 then 0 else 1 : Int32)
            else
              if x1 = 13 then
                u 0 6
              else
                if x1 = 14 then
                  u 0 7
                else
                  if x1 = 15 then
                    u 0 8
                  else
                    if x1 = 16 then
                      u 0 9
                    else
                      if x1 = 17 then
                        u 0 10
                      else
                        if x1 = 18 then
                          u 0 11
                        else
                          if x1 = 19 then
                            u 0 12
                          else
                            (-1)
  else
    if 7 < x1 then
      if x1 = 8 then
        u 0 0
      else
        if x1 = 9 then
          u 0 1
        else
          if x1 = 10 then
            u 0 2
          else
            if x1 = 11 then
              (if (u 0 3) = 0 then 0 else 1 : Int32)
            else
              if x1 = 12 then
                (if (u 0 5) = 0 then 0 else 1 : Int32)
              else
                if x1 = 13 then
                  u 0 6
                else
                  if x1 = 14 then
                    u 0 7
                  else
                    if x1 = 15 then
                      u 0 8
                    else
                      if x1 = 16 then
                        u 0 9
                      else
                        if x1 = 17 then
                          u 0 10
                        else
                          if x1 = 18 then
                            u 0 11
                          else
                            if x1 = 19 then
                              u 0 12
                            else
                              (-1)
    else
      (f_Registers_value u x1)
def f_AB_peek (z u : SS) (x1 : Int32) : Int32 :=
  if x1 < 0 then
    (-1)
  else
    if x1 < 1024 then
      (f_Memory_at u x1)
    else
      (-1)
def f_AB_dot (z u : SS) (x1 : Int32) (x2 : Int32) : Int32 :=
  if x1 < 0 then
    0
  else
    if 64 ≤ x1 then
      0
    else
      if x2 < 0 then
        0
      else
        if x2 < 32 then
          (if (((f_Memory_at u ((768 + (8 * x2)) + (x1 / 8))) >>> ((x1 - x1 / 8 * 8) &&& 31)) &&& 1) = 1 then 1 else 0 : Int32)
        else
          0
def f_AB_sound (z u : SS) (x1 : Int32) : Int32 :=
  if x1 = (-1) then
    (f_Sounds_count u)
  else
    (f_Sounds_latestBut u x1)
def f_AB_save (z u : SS) (x1 : Int32) : Int32 × (SS × SS) :=
  if x1 < 0 then
    (0, (z, u))
  else
    if x1 < 2 then
      if x1 = 0 then
        (1, ((stt ((f_State_become_3_10 z u).1) 7 0 1), ((f_State_become_3_10 z u).2)))
      else
        (1, ((stt ((f_State_become_6_10 z u).1) 7 1 1), ((f_State_become_6_10 z u).2)))
    else
      (0, (z, u))
def f_AB_restore (z u : SS) (x1 : Int32) : Nat × (Int32 × (SS × SS)) :=
  if x1 < 0 then
    (1, (0, (z, u)))
  else
    if x1 < 2 then
      if x1 = 0 then
        if (z 7 0) = 0 then
          (2, (0, (z, u)))
        else
          (0, (1, (((f_State_become_10_3 z u).1), ((f_State_become_10_3 z u).2))))
      else
        if (z 7 1) = 0 then
          (2, (0, (z, u)))
        else
          (0, (1, (((f_State_become_10_6 z u).1), ((f_State_become_10_6 z u).2))))
    else
      (1, (0, (z, u)))
