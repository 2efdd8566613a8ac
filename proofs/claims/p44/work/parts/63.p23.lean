theorem slot_o {a : Int32} (h : a < 0 ∨ nI 2 ≤ a) : a < 0 ∨ 1 < a := by
  rcases h with h | h
  · exact Or.inl h
  · exact Or.inr (by rw [show nI 2 = (2 : Int32) from rfl] at h; grind)
