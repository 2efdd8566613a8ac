theorem fil_o {M : hz_M} {i n a : Nat} {v : Int32} (h : a ≠ i) : hz_fil M i n v a = M a := by
  unfold hz_fil; funext b; rw [if_neg (fun e => h e.1)]
theorem fil_k {M : hz_M} {i n b : Nat} {v : Int32} (h : b < n) : hz_fil M i n v i b = v := by
  unfold hz_fil; rw [if_pos ⟨rfl, h⟩]
theorem cpy_o {M : hz_M} {i j n a : Nat} (h : a ≠ j) : hz_cpy M i j n a = M a := by
  unfold hz_cpy; funext b; rw [if_neg (fun e => h e.1)]
theorem cpy_k {M : hz_M} {i j n b : Nat} (h : b < n) : hz_cpy M i j n j b = M i b := by
  unfold hz_cpy; rw [if_pos ⟨rfl, h⟩]
theorem c_begL {T : Nat} (hT : T ≤ 16) : ∀ (k i f : Nat) (M : hz_M), M 1 6 = nI T → i + k = T → k < f → ∃ M', f_X7_begin_L155 f (nI i) M = some (0, M') ∧ (∀ a, a ≠ 21 → a ≠ 22 → a ≠ 23 → M' a = M a) ∧
    (∀ b, M' 23 b = if i ≤ b ∧ b < T then nI b else M 23 b) ∧ (∀ b, M' 21 b = if i ≤ b ∧ b < T then nI b else M 21 b) ∧ ∀ b, M' 22 b = if i ≤ b ∧ b < T then -1 else M 22 b
  | 0, i, f, M, h6, hi, hf => by
    obtain ⟨f, rfl⟩ : ∃ e, f = e + 1 := ⟨f - 1, by omega⟩
    have e : T ≤ i := by omega
    refine ⟨M, ?_, fun _ _ _ _ => rfl, fun b => by rw [if_neg (by omega)], fun b => by rw [if_neg (by omega)], fun b => by rw [if_neg (by omega)]⟩
    simp (disch := omega) only [f_X7_begin_L155, h6, hy_le, e, if_true]
  | k + 1, i, f, M, h6, hi, hf => by
    obtain ⟨f, rfl⟩ : ∃ e, f = e + 1 := ⟨f - 1, by omega⟩
    have e : ¬ T ≤ i := by omega
    obtain ⟨M', a1, a2, a3, a4, a5⟩ := c_begL hT k (i + 1) f (hz_set (hz_set (hz_set M 23 i (nI i)) 21 i (nI i)) 22 i (-1)) (by simp (disch := omega) only [hy_seto]; exact h6) (by omega) (by omega)
    refine ⟨M', ?_, fun a h1 h2 h3 => by rw [a2 a h1 h2 h3]; simp (disch := omega) only [hy_seto], fun b => ?_, fun b => ?_, fun b => ?_⟩
    · simp (disch := omega) only [f_X7_begin_L155, h6, hy_le, e, if_false, n_put, hy_cts, hy_lt', hy_add1]
      exact a1
    · rw [a3 b]
      simp (disch := omega) only [hy_seto, hy_srow]
      unfold hy_st
      by_cases e1 : b = i
      · subst e1; rw [if_neg (by omega), if_pos rfl, if_pos (by omega)]
      · by_cases e2 : i + 1 ≤ b ∧ b < T
        · rw [if_pos e2, if_pos (by omega)]
        · rw [if_neg e2, if_neg e1, if_neg (by omega)]
    · rw [a4 b]
      simp (disch := omega) only [hy_seto, hy_srow]
      unfold hy_st
      by_cases e1 : b = i
      · subst e1; rw [if_neg (by omega), if_pos rfl, if_pos (by omega)]
      · by_cases e2 : i + 1 ≤ b ∧ b < T
        · rw [if_pos e2, if_pos (by omega)]
        · rw [if_neg e2, if_neg e1, if_neg (by omega)]
    · rw [a5 b]
      simp (disch := omega) only [hy_seto, hy_srow]
      unfold hy_st
      by_cases e1 : b = i
      · subst e1; rw [if_neg (by omega), if_pos rfl, if_pos (by omega)]
      · by_cases e2 : i + 1 ≤ b ∧ b < T
        · rw [if_pos e2, if_pos (by omega)]
        · rw [if_neg e2, if_neg e1, if_neg (by omega)]
/-- all as at first -/
theorem c_begin {M : hz_M} {T : Nat} (hT : T ≤ 16) (h6 : M 1 6 = nI T) : ∃ M', f_X7_begin M = some (0, M') ∧ (∀ a, (a < 11 ∨ 24 < a) → M' a = M a) ∧
    (M' 11 14 = 0 ∧ M' 11 15 = 30 ∧ M' 11 16 = -1 ∧ M' 11 17 = M 1 9 ∧ M' 11 18 = M 1 10 ∧ M' 11 19 = M 1 11) ∧
    (∀ b, b < 4 → M' 12 b = 0) ∧ (∀ b, b < 16 → M' 13 b = -1 ∧ M' 14 b = -1 ∧ M' 15 b = -1 ∧ M' 16 b = 0 ∧ M' 17 b = 0 ∧ M' 18 b = -1 ∧ M' 20 b = 0) ∧ (∀ b, b < 12 → M' 19 b = -1) ∧ (∀ b, b < 9 → M' 24 b = 0) ∧
    (∀ b, b < 16 → M' 23 b = (if b < T then nI b else -1) ∧ M' 22 b = -1) ∧ ∀ b, b < T → M' 21 b = nI b := by
  unfold f_X7_begin
  simp only [hy_lm]
  obtain ⟨M', a1, a2, a3, a4, a5⟩ := c_begL hT T 0 hz_FU (hz_fil (hz_fil (hz_fil (hz_fil (hz_fil (hz_fil (hz_fil (hz_fil (hz_fil (hz_fil (hz_fil (hz_fil (hz_fil
    (hz_set (hz_set (hz_set (hz_set (hz_set (hz_set M 11 14 0) 11 15 30) 11 16 (-1)) 11 17 (hz_set (hz_set (hz_set M 11 14 0) 11 15 30) 11 16 (-1) 1 9)) 11 18 (hz_set (hz_set (hz_set (hz_set M 11 14 0) 11 15 30) 11 16 (-1)) 11 17 (hz_set (hz_set (hz_set M 11 14 0) 11 15 30) 11 16 (-1) 1 9) 1 10)) 11 19 (hz_set (hz_set (hz_set (hz_set (hz_set M 11 14 0) 11 15 30) 11 16 (-1)) 11 17 (hz_set (hz_set (hz_set M 11 14 0) 11 15 30) 11 16 (-1) 1 9)) 11 18 (hz_set (hz_set (hz_set (hz_set M 11 14 0) 11 15 30) 11 16 (-1)) 11 17 (hz_set (hz_set (hz_set M 11 14 0) 11 15 30) 11 16 (-1) 1 9) 1 10) 1 11))
    12 4 0) 13 16 (-1)) 14 16 (-1)) 15 16 (-1)) 16 16 0) 17 16 0) 18 16 (-1)) 19 12 (-1)) 20 16 0) 21 16 (-1)) 22 16 (-1)) 23 16 (-1)) 24 9 0) (by simp (disch := omega) only [fil_o, hy_seto]; exact h6) (by omega) (hy_FU (by omega))
  refine ⟨M', a1, fun a ha => by rw [a2 a (by omega) (by omega) (by omega)]; simp (disch := omega) only [fil_o, hy_seto], ?_, fun b hb => ?_, fun b hb => ?_, fun b hb => ?_, fun b hb => ?_, fun b hb => ?_, fun b hb => ?_⟩
  · rw [a2 11 (by omega) (by omega) (by omega)]
    simp (disch := omega) only [fil_o, hy_setn, hy_setk, hy_seto, and_self]
  · rw [a2 12 (by omega) (by omega) (by omega)]; simp (disch := omega) only [fil_o, fil_k]
  · rw [a2 13 (by omega) (by omega) (by omega), a2 14 (by omega) (by omega) (by omega), a2 15 (by omega) (by omega) (by omega), a2 16 (by omega) (by omega) (by omega), a2 17 (by omega) (by omega) (by omega), a2 18 (by omega) (by omega) (by omega), a2 20 (by omega) (by omega) (by omega)]
    simp (disch := omega) only [fil_o, fil_k, and_self]
  · rw [a2 19 (by omega) (by omega) (by omega)]; simp (disch := omega) only [fil_o, fil_k]
  · rw [a2 24 (by omega) (by omega) (by omega)]; simp (disch := omega) only [fil_o, fil_k]
  · rw [a3 b, a5 b]
    simp (disch := omega) only [fil_o, fil_k]
    refine ⟨?_, ?_⟩
    · by_cases e : b < T
      · rw [if_pos (by omega), if_pos e]
      · rw [if_neg (by omega), if_neg e]
    · split <;> rfl
  · rw [a4 b, if_pos (by omega)]
