def FC (Mc Mc' : hz_M) : Prop := ∀ a, a ≠ 176 → a ≠ 177 → Mc' a = Mc a
theorem C_fr {M M' : hz_M} {q : Nat → Int32} (h : FC M M') (C : hy_C M q) : hy_C M' q := by
  obtain ⟨hZ, hH, hR⟩ := C
  refine ⟨hZ, ?_, ?_⟩
  · unfold hy_Ho nmd at *
    rw [h 1 (by omega) (by omega), h 2 (by omega) (by omega), h 3 (by omega) (by omega), h 4 (by omega) (by omega)]
    exact hH
  · unfold hy_RC at *
    rw [h 11 (by omega) (by omega), h (11 + 13) (by omega) (by omega), h (11 + 1) (by omega) (by omega), h (11 + 2) (by omega) (by omega), h (11 + 3) (by omega) (by omega), h (11 + 4) (by omega) (by omega), h (11 + 5) (by omega) (by omega), h (11 + 6) (by omega) (by omega), h (11 + 7) (by omega) (by omega), h (11 + 8) (by omega) (by omega), h (11 + 9) (by omega) (by omega), h (11 + 10) (by omega) (by omega), h (11 + 11) (by omega) (by omega), h (11 + 12) (by omega) (by omega)]
    exact hR
def cN (p : Nat → Bool) : Nat → Nat → Nat
  | 0, _ => 0
  | k + 1, i => (if p i = true then 1 else 0) + cN p k (i + 1)
theorem cN_le (p : Nat → Bool) : ∀ k i, cN p k i ≤ k
  | 0, _ => Nat.le_refl 0
  | k + 1, i => by
    have := cN_le p k (i + 1)
    unfold cN; split <;> omega
