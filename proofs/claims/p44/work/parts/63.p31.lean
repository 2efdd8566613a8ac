/-- words -/
theorem w_ok : ∀ w, w < 3 → hz_sok w = true ∧ hz_sl w = nI (hz_len.getD w 0) ∧ hz_len.getD w 0 ≤ 90 := by decide +kernel
