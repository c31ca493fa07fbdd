abbrev SS : Type := Nat → Nat → Int32
/-- element k of array a is v now (array 0: the numbers by themselves) -/
def stt (u : SS) (a k : Nat) (v : Int32) : SS := va_up u a (upd (u a) k v)
abbrev tyC (t : Nat → ClassId) : List (ClassId × FieldType) := [(t 0, .int), (t 1, .boolean), (t 2, .object "ArcadeBoard$State"), (t 3, .long)]
def wC (t : Nat → ClassId) (q : Nat → Nat) (u : SS) : va_W := [(q 0, .inr (4, [.ref (q 1), .ref (q 4), .ref (q 6), .ref (q 7), .ref (q 8), .ref (q 11)])),
  (q 1, .inr (7, [.ref (q 2), .ref (q 3), .int (u 0 0), .int (u 0 1), .int (u 0 2), .int (u 0 3), .int (u 0 4), .int (u 0 5), .int (u 0 6), .int (u 0 7), .int (u 0 8), .int (u 0 9), .int (u 0 10), .int (u 0 11), .int (u 0 12), .int (u 0 13), .int (u 0 14)])),
  (q 2, .inl (t 0, 512, .inl (u 1))),
  (q 3, .inl (t 0, 8, .inl (u 2))),
  (q 4, .inr (2, [.ref (q 5), .ref (q 1)])),
  (q 5, .inl (t 0, 512, .inl (u 3))),
  (q 6, .inr (5, [.ref (q 1), .ref (q 4)])),
  (q 7, .inr (0, [.ref (q 1)])),
  (q 8, .inr (3, [.ref (q 1), .ref (q 9), .int (u 0 15), .int (u 0 16)])),
  (q 9, .inr (6, [.ref (q 10), .int (u 0 17)])),
  (q 10, .inl (t 0, 8, .inl (u 4))),
  (q 11, .inr (1, [.ref (q 1)]))]
def wM (t : Nat → ClassId) (q : Nat → Nat) (u : SS) : va_W := [(q 0, .inr (9, [.int (u 0 0), .ref (q 1), .int (u 0 1), .int (u 0 2), .int (u 0 3), .ref (q 2), .int (u 0 4), .int (u 0 5), .int (u 0 6), .int (u 0 7), .int (u 0 8), .int (u 0 9), .int (u 0 10), .int (u 0 11), .int (u 0 12), .int (u 0 13), .int (u 0 14), .int (u 0 15), .int (u 0 16), .int (u 0 17), .int (u 0 18), .int (u 0 19), .int (u 0 20), .int (u 0 21), .int (u 0 22), .int (u 0 23), .ref (q 3), .ref (q 4), .ref (q 5), .int (u 0 24)])),
  (q 1, .inl (t 0, 1024, .inl (u 1))),
  (q 2, .inl (t 0, 8, .inl (u 2))),
  (q 3, .inl (t 0, 8, .inl (u 3))),
  (q 4, .inl (t 1, 2, .inl (u 4))),
  (q 5, .inl (t 0, 1080, .inl (u 5)))]
def wA (t : Nat → ClassId) (q : Nat → Nat) (z : SS) : va_W := [(q 12, .inr (8, [.ref (q 1), .ref (q 4), .ref (q 6), .ref (q 9), .ref (q 8), .ref (q 11), .ref (q 0), .ref (q 13), .ref (q 14), .int (z 0 0)])),
  (q 13, .inl (t 2, 2, .inr (.inr (.inr (.inr (fun k => some (if k = 0 then q 15 else q 18))))))),
  (q 14, .inl (t 1, 2, .inl (z 7))),
  (q 15, .inr (7, [.ref (q 16), .ref (q 17), .int (z 1 0), .int (z 1 1), .int (z 1 2), .int (z 1 3), .int (z 1 4), .int (z 1 5), .int (z 1 6), .int (z 1 7), .int (z 1 8), .int (z 1 9), .int (z 1 10), .int (z 1 11), .int (z 1 12), .int (z 1 13), .int (z 1 14)])),
  (q 16, .inl (t 0, 512, .inl (z 2))),
  (q 17, .inl (t 0, 8, .inl (z 3))),
  (q 18, .inr (7, [.ref (q 19), .ref (q 20), .int (z 4 0), .int (z 4 1), .int (z 4 2), .int (z 4 3), .int (z 4 4), .int (z 4 5), .int (z 4 6), .int (z 4 7), .int (z 4 8), .int (z 4 9), .int (z 4 10), .int (z 4 11), .int (z 4 12), .int (z 4 13), .int (z 4 14)])),
  (q 19, .inl (t 0, 512, .inl (z 5))),
  (q 20, .inl (t 0, 8, .inl (z 6)))]
def wT (t : Nat → ClassId) (q : Nat → Nat) (s : SS × SS) : va_W := wA t q s.1 ++ wC t q s.2
