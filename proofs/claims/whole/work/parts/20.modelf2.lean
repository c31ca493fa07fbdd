theorem ab_lt8_of {x : Int32} (h1 : ¬ x < 0) (h2 : ¬ 8 ≤ x) : ab_lt8 x := by
  obtain ⟨j, hj, rfl⟩ := nI_of h1
  exact ⟨j, Nat.lt_of_not_le fun q => h2 (nI_le q hj), rfl⟩
