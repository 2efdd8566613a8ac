theorem eldS_al {q : Nat → Int32} {a : Int32} {i : Nat} {b : Int32} (h : b = -1 ∨ ∃ k, k < i ∧ b = nI k) : eldS q a i b = -1 ∨ ∃ k, k < i + 1 ∧ eldS q a i b = nI k := by
  unfold eldS
  rcases h with h | ⟨k, hk, h⟩
  · repeat (first | exact Or.inl h | exact Or.inr ⟨i, by omega, rfl⟩ | split)
  · repeat (first | exact Or.inl h | exact Or.inr ⟨i, by omega, rfl⟩ | exact Or.inr ⟨k, by omega, h⟩ | split)
theorem eldS_n {q : Nat → Int32} {a : Int32} {i : Nat} : eldS q a i (-1) = if q (25 + 8 * i + 2) = a then nI i else -1 := by
  unfold eldS
  simp only [if_true]
theorem dryS_al {q : Nat → Int32} (hZ : hy_Z q) {i : Nat} {b : Int32} (h : b = -1 ∨ ∃ k, k < tz q ∧ b = nI k) : dryS q i b = -1 ∨ ∃ k, k < tz q ∧ dryS q i b = nI k := by
  unfold dryS
  rcases tw_al hZ i with e | ⟨t, ht, e, _⟩
  · rw [if_pos e]; exact h
  · rw [e, if_neg (by rw [hy_n1 (by have := hZ.2.2.2.1.2; have := hZ.2.2.1.2.2; omega)]; exact not_false)]
    rcases h with h | ⟨k, hk, h⟩
    · repeat (first | exact Or.inl h | exact Or.inr ⟨t, ht, rfl⟩ | split)
    · repeat (first | exact Or.inl h | exact Or.inr ⟨t, ht, rfl⟩ | exact Or.inr ⟨k, hk, h⟩ | split)
theorem dry_al {q : Nat → Int32} (hZ : hy_Z q) : ∀ (k i : Nat) (b : Int32), (b = -1 ∨ ∃ k, k < tz q ∧ b = nI k) → (hy_fold (dryS q) k i b = -1 ∨ ∃ j, j < tz q ∧ hy_fold (dryS q) k i b = nI j)
  | 0, _, _, h => h
  | k + 1, i, b, h => dry_al hZ k (i + 1) _ (dryS_al hZ h)
