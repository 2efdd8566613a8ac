theorem mod_up {a g : Nat} (h : a % g + 1 < g) : (a + 1) % g = a % g + 1 := by
  have e : a + 1 = g * (a / g) + (a % g + 1) := by have := Nat.div_add_mod a g; omega
  rw [e, Nat.mul_add_mod]
  have e2 : (g * (a / g) + (a % g + 1)) = a + 1 := e.symm
  rw [Nat.mod_eq_of_lt h]
theorem mod_top {a g : Nat} (h : a % g + 1 = g) : (a + 1) % g = 0 := by
  have e : a + 1 = g * (a / g) + (a % g + 1) := by have := Nat.div_add_mod a g; omega
  rw [e, Nat.mul_add_mod, h, Nat.mod_self]
def NS (q : Nat → Int32) (a g u : Nat) : Prop := a ≤ 20000 ∧ 2 ≤ g ∧ g ≤ 60 ∧ u ≤ 30 ∧ q 8 = nI a ∧ q 6 = nI g ∧ q 7 = nI u ∧ (q 10 = -1 ∨ ∃ j, j + u ≤ a ∧ q 10 = nI j)
theorem NS_0 {q : Nat → Int32} {a g u : Nat} (h : NS q a g u) : (if q 10 = -1 then (0 : Int32) else if q 10 + q 7 ≤ q 8 then 0 else 1) = 0 := by
  obtain ⟨h1, h2, h3, h4, h5, h6, h7, h8⟩ := h
  rcases h8 with h8 | ⟨j, hj, h8⟩
  · rw [if_pos h8]
  · have : q 10 + q 7 ≤ q 8 := by rw [h8, h7, h5, hy_add, hy_le (by omega) (by omega)]; exact hj
    rw [if_pos this]; split <;> rfl
theorem min_gong {q : Nat → Int32} {a g : Nat} (hz : gz q ≤ 16) (ha : a ≤ 20000) (hg : 2 ≤ g) (hg2 : g ≤ 60) (h8 : q 8 = nI a) (h6 : q 6 = nI g) : minute q 10 = if (a + 1) % g = 0 then nI (a + 1) else q 10 := by
  rw [minute_10 hz, h8, h6, hy_add1, hy_mod (by omega) (by omega) (by omega)]
  have hm : (a + 1) % g ≤ a + 1 := Nat.mod_le _ _
  by_cases e : (a + 1) % g = 0
  · rw [if_pos e, e]; rfl
  · rw [if_neg e, if_neg (by rw [hy_0, hy_eq (by omega) (by omega)]; exact e)]
theorem fold_ad {q : Nat → Int32} : ∀ (k i : Nat) (c d : Int32), hy_fold (fun v c => c + q (21 + v)) k i (c + d) = hy_fold (fun v c => c + q (21 + v)) k i c + d
  | 0, _, _, _ => rfl
  | k + 1, i, c, d => by
    show hy_fold (fun v c => c + q (21 + v)) k (i + 1) (c + d + q (21 + i)) = hy_fold (fun v c => c + q (21 + v)) k (i + 1) (c + q (21 + i)) + d
    rw [← fold_ad k (i + 1) (c + q (21 + i)) d]
    congr 1
    generalize q (21 + i) = x
    grind
theorem fold_st {q : Nat → Int32} {v : Nat} {o : Int32} : ∀ (k i : Nat) (c : Int32), i ≤ v → v < i + k → hy_fold (fun w c => c + hy_st q (21 + v) o (21 + w)) k i c = hy_fold (fun w c => c + q (21 + w)) k i c - q (21 + v) + o
  | 0, _, _, h, h2 => by omega
  | k + 1, i, c, h, h2 => by
    show hy_fold (fun w c => c + hy_st q (21 + v) o (21 + w)) k (i + 1) (c + hy_st q (21 + v) o (21 + i)) = hy_fold (fun w c => c + q (21 + w)) k (i + 1) (c + q (21 + i)) - q (21 + v) + o
    by_cases e : i = v
    · subst e
      rw [hy_ss]
      have e1 : hy_fold (fun w c => c + hy_st q (21 + i) o (21 + w)) k (i + 1) (c + o) = hy_fold (fun w c => c + q (21 + w)) k (i + 1) (c + o) := hy_fold_congr _ _ _ (fun j hj _ b => by rw [hy_so _ _ (by omega)])
      rw [e1, fold_ad, fold_ad]
      generalize hy_fold (fun w c => c + q (21 + w)) k (i + 1) c = y
      generalize q (21 + i) = x
      grind
    · rw [hy_so _ _ (by omega)]
      exact fold_st k (i + 1) _ (by omega) (by omega)
