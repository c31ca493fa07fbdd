theorem ab_bi {c : Prop} {d : Decidable c} {a b : Int32} (ha : ab_bo a) (hb : ab_bo b) : ab_bo (@ite Int32 c d a b) := by
  split
  · exact ha
  · exact hb
