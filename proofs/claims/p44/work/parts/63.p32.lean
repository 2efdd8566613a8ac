theorem c_keep {th i s e n : Nat} (hi : i < 16) (hn : n ≤ 600) (hse : s ≤ e) (he : e ≤ n) (h6 : e - s ≤ 6) (hth : th = 1 ∨ th = 5) : ∀ (k j f : Nat) (M : hz_M), M 9 1 = nI n → M 9 3 = nI s → M th 3 = nI i → j + k = e - s → k < f →
    ∃ M', f_X3_keepName_L27 th f (nI (e - s)) (nI j) M = some (0, M') ∧ (∀ a, a ≠ th + 2 → M' a = M a) ∧ (∀ b, b < 6 * i + j → M' (th + 2) b = M (th + 2) b) ∧ ∀ x, j ≤ x → x < e - s → M' (th + 2) (6 * i + x) = M 10 (s + x)
  | 0, j, f, M, h1, h3, ht, hj, hf => by
    obtain ⟨f, rfl⟩ : ∃ e, f = e + 1 := ⟨f - 1, by omega⟩
    have e1 : e - s ≤ j := by omega
    refine ⟨M, ?_, fun _ _ => rfl, fun _ _ => rfl, fun x h h' => by omega⟩
    simp (disch := omega) only [f_X3_keepName_L27, hy_le, e1, if_true]
  | k + 1, j, f, M, h1, h3, ht, hj, hf => by
    obtain ⟨f, rfl⟩ : ∃ e, f = e + 1 := ⟨f - 1, by omega⟩
    have e1 : ¬ e - s ≤ j := by omega
    obtain ⟨M', a1, a2, a3, a4⟩ := c_keep hi hn hse he h6 hth k (j + 1) f (hz_set M (th + 2) (6 * i + j) (M 10 (s + j))) (by rw [hy_seto _ _ _ (by omega)]; exact h1) (by rw [hy_seto _ _ _ (by omega)]; exact h3) (by rw [hy_seto _ _ _ (by omega)]; exact ht) (by omega) (by omega)
    refine ⟨M', ?_, fun a h => by rw [a2 a h, hy_seto _ _ _ h], fun b hb => ?_, fun x hx hx' => ?_⟩
    · simp (disch := omega) only [f_X3_keepName_L27, hy_le, e1, if_false, h3, hy_add, c_byteAt h1 hn (k := s + j) (by omega), hy_cts, ht, show (6 : Int32) = nI 6 from rfl, hy_mul, Nat.mul_comm i 6, hy_in, hy_gt, hy_c, hy_lm, hy_lt', hy_add1]
      exact a1
    · rw [a3 b (by omega), hy_setn _ _ _ (by omega)]
    · by_cases ex : x = j
      · subst ex; rw [a3 (6 * i + x) (by omega), hy_setk]
      · rw [a4 x (by omega) hx', hy_seto _ _ _ (by omega)]
