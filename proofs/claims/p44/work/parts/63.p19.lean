theorem gst_16 (q : Nat → Int32) (g : Nat) : ∃ d, d ≤ 1 ∧ gst q g 16 = q 16 + nI d := by
  have z : ∀ x : Int32, x = x + nI 0 := fun x => (Int32.add_zero x).symm
  unfold gst
  by_cases e1 : q (25 + 8 * g + 2) = -1
  · rw [if_pos e1]; exact ⟨0, by omega, z _⟩
  · rw [if_neg e1]
    by_cases e2 : q (25 + 8 * g + 2) = 0
    · rw [if_pos e2, hy_so _ _ (by omega)]; exact ⟨0, by omega, z _⟩
    · rw [if_neg e2]
      by_cases e3 : 10 ≤ sbh q g
      · rw [if_pos e3, hy_ss]; exact ⟨1, by omega, rfl⟩
      · rw [if_neg e3, hy_so _ _ (by omega)]; exact ⟨0, by omega, z _⟩
theorem gstN_16 : ∀ (k : Nat) (q : Nat → Int32) (i : Nat), ∃ d, d ≤ k ∧ gstN q k i 16 = q 16 + nI d
  | 0, q, _ => ⟨0, by omega, by unfold gstN; rw [show nI 0 = (0 : Int32) from rfl, Int32.add_zero]⟩
  | k + 1, q, i => by
    obtain ⟨d, h1, h2⟩ := gst_16 q i
    obtain ⟨e, h3, h4⟩ := gstN_16 k (gst q i) (i + 1)
    refine ⟨d + e, by omega, ?_⟩
    unfold gstN
    rw [h4, h2, Int32.add_assoc, hy_add]
theorem minute_16 {q : Nat → Int32} (hg : gz q ≤ 16) : ∃ d, d ≤ 16 ∧ minute q 16 = q 16 + nI d := by
  obtain ⟨d, h1, h2⟩ := gstN_16 (gz q) (mC q) 0
  refine ⟨d, by omega, ?_⟩
  unfold minute
  rw [h2, mC_o (by omega) (by omega) (by omega) (by omega) (by omega) (by omega) (by omega)]
theorem minute_gz {q : Nat → Int32} : gz (minute q) = gz q := gz_cg (minute_o (by omega) (by omega) (by omega) (by omega) (by omega) (by omega) (by omega) (by omega) (by omega))
theorem minN_16 : ∀ (k : Nat) (q : Nat → Int32), gz q ≤ 16 → ∃ d, d ≤ 16 * k ∧ minN k q 16 = q 16 + nI d
  | 0, q, _ => ⟨0, by omega, by unfold minN; rw [show nI 0 = (0 : Int32) from rfl, Int32.add_zero]⟩
  | k + 1, q, h => by
    obtain ⟨d, h1, h2⟩ := minute_16 h
    obtain ⟨e, h3, h4⟩ := minN_16 k (minute q) (by rw [minute_gz]; exact h)
    refine ⟨d + e, by omega, ?_⟩
    unfold minN
    rw [h4, h2, Int32.add_assoc, hy_add]
theorem T_min : ∀ (k : Nat) (q : Nat → Int32) (t : Nat), gz q ≤ 16 → q 8 = nI t → t + k ≤ 9999 → hy_T q → hy_T (minN k q)
  | 0, _, _, _, _, _, T => T
  | k + 1, q, t, hg, h8, ht, T => by
    unfold minN
    have m8 : minute q 8 = nI (t + 1) := by rw [minute_8 hg, h8, hy_add1]
    refine T_min k (minute q) (t + 1) (by rw [minute_gz]; exact hg) m8 (by omega) ?_
    obtain ⟨t', h1, h2, h3⟩ := T
    have et : t' = t := by
      rw [h8, hy_eq (by omega) (by omega)] at h2; exact h2.symm
    subst et
    refine ⟨t' + 1, by omega, m8, ?_⟩
    rw [minute_10 hg]
    split
    · exact Or.inr ⟨t' + 1, by omega, by rw [h8, hy_add1]⟩
    · rcases h3 with h3 | ⟨j, h4, h5⟩
      · exact Or.inl h3
      · exact Or.inr ⟨j, by omega, h5⟩
theorem hy_ctid (o : hz_O) : hz_ct o (fun r M => some (r, M)) = o := by cases o <;> rfl
theorem c_isOpen (M : hz_M) (a : Int32) : (f_X10_isOpening a M = some (0, M) ∧ (a < 0 ∨ 9 < a)) ∨ (f_X10_isOpening a M = some (1, M) ∧ ∃ k, k ≤ 9 ∧ a = nI k) := by
  unfold f_X10_isOpening
  by_cases e1 : a < 0
  · exact Or.inl ⟨by rw [if_pos e1], Or.inl e1⟩
  · by_cases e2 : 9 < a
    · exact Or.inl ⟨by rw [if_neg e1, if_pos e2], Or.inr e2⟩
    · refine Or.inr ⟨by rw [if_neg e1, if_neg e2], ?_⟩
      exact hy_ex' (n := 9) (by grind) (by rw [show nI 9 = (9 : Int32) from rfl]; grind) (by omega)
