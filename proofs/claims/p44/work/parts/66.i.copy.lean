theorem O_L106 {b b2 : Nat} (hb : b + 12 ≤ b2 ∨ b2 + 12 ≤ b) (kk : hz_M → hz_O) (M0 : hz_M) : ∀ (k i f : Nat) (M : hz_M), (∀ k, k < i → M (b2 + 1) k = M0 (b + 1) k) → (∀ a, a ≠ b2 + 1 → M a = M0 a) → i + k = 4 → k < f → ∃ M', f_X11_copy_L106 b b2 kk f (nI i) M = kk M' ∧ (∀ k, k < 4 → M' (b2 + 1) k = M0 (b + 1) k) ∧ (∀ a, a ≠ b2 + 1 → M' a = M0 a)
  | 0, i, f, M, h1, ho, hi, hf => by
    obtain ⟨f, rfl⟩ : ∃ e, f = e + 1 := ⟨f - 1, by omega⟩
    have e : i = 4 := by omega
    subst e
    refine ⟨M, ?_, h1, ho⟩
    rw [f_X11_copy_L106, if_pos (by decide)]
  | k + 1, i, f, M, h1, ho, hi, hf => by
    obtain ⟨f, rfl⟩ : ∃ e, f = e + 1 := ⟨f - 1, by omega⟩
    have hn : ¬ (4 : Int32) ≤ nI i := by
      have := hy_le (a := 4) (b := i) (by omega) (by omega)
      intro e
      have := this.mp e
      omega
    obtain ⟨M', e, r⟩ := O_L106 hb kk M0 k (i + 1) f (hz_set M (b2 + 1) i (M0 (b + 1) i)) (fun k hk => by
      by_cases e : k = i
      · subst e
        simp (disch := omega) only [hy_seto, hy_setk]
      · simp (disch := omega) only [hy_seto, hy_setn]
        exact h1 k (by omega)) (fun a x1 => by simp (disch := omega) only [hy_seto]; exact ho a x1) (by omega) (by omega)
    refine ⟨M', ?_, r⟩
    rw [← e]
    simp (disch := omega) only [↓reduceIte, f_X11_copy_L106, hn, if_false, hy_cts, hy_gt, hy_lt', hy_lm, hy_jn, hy_c, hy_in, hy_le, hy_add1, hy_k0, hy_k1, hy_k2, hy_k3, hy_k4, hy_k5, hy_k6, hy_k7, hy_k8, hy_k9, hy_k10, hy_k11, hy_k12, hy_k13, hy_seto, ho (b + 1)]
theorem O_L131 {b b2 : Nat} (hb : b + 12 ≤ b2 ∨ b2 + 12 ≤ b) (kk : hz_M → hz_O) (M0 : hz_M) : ∀ (k i f : Nat) (M : hz_M), (∀ k, k < i → M (b2 + 3) k = M0 (b + 3) k) → (∀ a, a ≠ b2 + 3 → M a = M0 a) → i + k = 12 → k < f → ∃ M', f_X11_copy_L131 b b2 kk f (nI i) M = kk M' ∧ (∀ k, k < 12 → M' (b2 + 3) k = M0 (b + 3) k) ∧ (∀ a, a ≠ b2 + 3 → M' a = M0 a)
  | 0, i, f, M, h3, ho, hi, hf => by
    obtain ⟨f, rfl⟩ : ∃ e, f = e + 1 := ⟨f - 1, by omega⟩
    have e : i = 12 := by omega
    subst e
    refine ⟨M, ?_, h3, ho⟩
    rw [f_X11_copy_L131, if_pos (by decide)]
  | k + 1, i, f, M, h3, ho, hi, hf => by
    obtain ⟨f, rfl⟩ : ∃ e, f = e + 1 := ⟨f - 1, by omega⟩
    have hn : ¬ (12 : Int32) ≤ nI i := by
      have := hy_le (a := 12) (b := i) (by omega) (by omega)
      intro e
      have := this.mp e
      omega
    obtain ⟨M', e, r⟩ := O_L131 hb kk M0 k (i + 1) f (hz_set M (b2 + 3) i (M0 (b + 3) i)) (fun k hk => by
      by_cases e : k = i
      · subst e
        simp (disch := omega) only [hy_seto, hy_setk]
      · simp (disch := omega) only [hy_seto, hy_setn]
        exact h3 k (by omega)) (fun a x3 => by simp (disch := omega) only [hy_seto]; exact ho a x3) (by omega) (by omega)
    refine ⟨M', ?_, r⟩
    rw [← e]
    simp (disch := omega) only [↓reduceIte, f_X11_copy_L131, hn, if_false, hy_cts, hy_gt, hy_lt', hy_lm, hy_jn, hy_c, hy_in, hy_le, hy_add1, hy_k0, hy_k1, hy_k2, hy_k3, hy_k4, hy_k5, hy_k6, hy_k7, hy_k8, hy_k9, hy_k10, hy_k11, hy_k12, hy_k13, hy_seto, ho (b + 3)]
theorem O_L157 {b b2 : Nat} (hb : b + 12 ≤ b2 ∨ b2 + 12 ≤ b) (kk : hz_M → hz_O) (M0 : hz_M) : ∀ (k i f : Nat) (M : hz_M), (∀ k, k < i → M (b2 + 5) k = M0 (b + 5) k) → (∀ a, a ≠ b2 + 5 → M a = M0 a) → i + k = 9 → k < f → ∃ M', f_X11_copy_L157 b b2 kk f (nI i) M = kk M' ∧ (∀ k, k < 9 → M' (b2 + 5) k = M0 (b + 5) k) ∧ (∀ a, a ≠ b2 + 5 → M' a = M0 a)
  | 0, i, f, M, h5, ho, hi, hf => by
    obtain ⟨f, rfl⟩ : ∃ e, f = e + 1 := ⟨f - 1, by omega⟩
    have e : i = 9 := by omega
    subst e
    refine ⟨M, ?_, h5, ho⟩
    rw [f_X11_copy_L157, if_pos (by decide)]
  | k + 1, i, f, M, h5, ho, hi, hf => by
    obtain ⟨f, rfl⟩ : ∃ e, f = e + 1 := ⟨f - 1, by omega⟩
    have hn : ¬ (9 : Int32) ≤ nI i := by
      have := hy_le (a := 9) (b := i) (by omega) (by omega)
      intro e
      have := this.mp e
      omega
    obtain ⟨M', e, r⟩ := O_L157 hb kk M0 k (i + 1) f (hz_set M (b2 + 5) i (M0 (b + 5) i)) (fun k hk => by
      by_cases e : k = i
      · subst e
        simp (disch := omega) only [hy_seto, hy_setk]
      · simp (disch := omega) only [hy_seto, hy_setn]
        exact h5 k (by omega)) (fun a x5 => by simp (disch := omega) only [hy_seto]; exact ho a x5) (by omega) (by omega)
    refine ⟨M', ?_, r⟩
    rw [← e]
    simp (disch := omega) only [↓reduceIte, f_X11_copy_L157, hn, if_false, hy_cts, hy_gt, hy_lt', hy_lm, hy_jn, hy_c, hy_in, hy_le, hy_add1, hy_k0, hy_k1, hy_k2, hy_k3, hy_k4, hy_k5, hy_k6, hy_k7, hy_k8, hy_k9, hy_k10, hy_k11, hy_k12, hy_k13, hy_seto, ho (b + 5)]
theorem O_L183 {b b2 : Nat} (hb : b + 12 ≤ b2 ∨ b2 + 12 ≤ b) (M0 : hz_M) : ∀ (k i f : Nat) (M : hz_M), (∀ k, k < i → M (b2 + 2) k = M0 (b + 2) k) →   (∀ k, k < i → M (b2 + 4) k = M0 (b + 4) k) →   (∀ k, k < i → M (b2 + 6) k = M0 (b + 6) k) →   (∀ k, k < i → M (b2 + 7) k = M0 (b + 7) k) →   (∀ k, k < i → M (b2 + 8) k = M0 (b + 8) k) →   (∀ k, k < i → M (b2 + 9) k = M0 (b + 9) k) →   (∀ k, k < i → M (b2 + 10) k = M0 (b + 10) k) →   (∀ k, k < i → M (b2 + 11) k = M0 (b + 11) k) → (∀ a, a ≠ b2 + 2 → a ≠ b2 + 4 → a ≠ b2 + 6 → a ≠ b2 + 7 → a ≠ b2 + 8 → a ≠ b2 + 9 → a ≠ b2 + 10 → a ≠ b2 + 11 → M a = M0 a) → i + k = 16 → k < f → ∃ M', f_X11_copy_L183 b b2 f (nI i) M = some (0, M') ∧ (∀ k, k < 16 → M' (b2 + 2) k = M0 (b + 2) k) ∧ (∀ k, k < 16 → M' (b2 + 4) k = M0 (b + 4) k) ∧ (∀ k, k < 16 → M' (b2 + 6) k = M0 (b + 6) k) ∧ (∀ k, k < 16 → M' (b2 + 7) k = M0 (b + 7) k) ∧ (∀ k, k < 16 → M' (b2 + 8) k = M0 (b + 8) k) ∧ (∀ k, k < 16 → M' (b2 + 9) k = M0 (b + 9) k) ∧ (∀ k, k < 16 → M' (b2 + 10) k = M0 (b + 10) k) ∧ (∀ k, k < 16 → M' (b2 + 11) k = M0 (b + 11) k) ∧ (∀ a, a ≠ b2 + 2 → a ≠ b2 + 4 → a ≠ b2 + 6 → a ≠ b2 + 7 → a ≠ b2 + 8 → a ≠ b2 + 9 → a ≠ b2 + 10 → a ≠ b2 + 11 → M' a = M0 a)
  | 0, i, f, M, h2, h4, h6, h7, h8, h9, h10, h11, ho, hi, hf => by
    obtain ⟨f, rfl⟩ : ∃ e, f = e + 1 := ⟨f - 1, by omega⟩
    have e : i = 16 := by omega
    subst e
    refine ⟨M, ?_, h2, h4, h6, h7, h8, h9, h10, h11, ho⟩
    rw [f_X11_copy_L183, if_pos (by decide)]
  | k + 1, i, f, M, h2, h4, h6, h7, h8, h9, h10, h11, ho, hi, hf => by
    obtain ⟨f, rfl⟩ : ∃ e, f = e + 1 := ⟨f - 1, by omega⟩
    have hn : ¬ (16 : Int32) ≤ nI i := by
      have := hy_le (a := 16) (b := i) (by omega) (by omega)
      intro e
      have := this.mp e
      omega
    obtain ⟨M', e, r⟩ := O_L183 hb M0 k (i + 1) f (hz_set (hz_set (hz_set (hz_set (hz_set (hz_set (hz_set (hz_set M (b2 + 2) i (M0 (b + 2) i)) (b2 + 4) i (M0 (b + 4) i)) (b2 + 6) i (M0 (b + 6) i)) (b2 + 7) i (M0 (b + 7) i)) (b2 + 8) i (M0 (b + 8) i)) (b2 + 9) i (M0 (b + 9) i)) (b2 + 10) i (M0 (b + 10) i)) (b2 + 11) i (M0 (b + 11) i)) (fun k hk => by
      by_cases e : k = i
      · subst e
        simp (disch := omega) only [hy_seto, hy_setk]
      · simp (disch := omega) only [hy_seto, hy_setn]
        exact h2 k (by omega)) (fun k hk => by
      by_cases e : k = i
      · subst e
        simp (disch := omega) only [hy_seto, hy_setk]
      · simp (disch := omega) only [hy_seto, hy_setn]
        exact h4 k (by omega)) (fun k hk => by
      by_cases e : k = i
      · subst e
        simp (disch := omega) only [hy_seto, hy_setk]
      · simp (disch := omega) only [hy_seto, hy_setn]
        exact h6 k (by omega)) (fun k hk => by
      by_cases e : k = i
      · subst e
        simp (disch := omega) only [hy_seto, hy_setk]
      · simp (disch := omega) only [hy_seto, hy_setn]
        exact h7 k (by omega)) (fun k hk => by
      by_cases e : k = i
      · subst e
        simp (disch := omega) only [hy_seto, hy_setk]
      · simp (disch := omega) only [hy_seto, hy_setn]
        exact h8 k (by omega)) (fun k hk => by
      by_cases e : k = i
      · subst e
        simp (disch := omega) only [hy_seto, hy_setk]
      · simp (disch := omega) only [hy_seto, hy_setn]
        exact h9 k (by omega)) (fun k hk => by
      by_cases e : k = i
      · subst e
        simp (disch := omega) only [hy_seto, hy_setk]
      · simp (disch := omega) only [hy_seto, hy_setn]
        exact h10 k (by omega)) (fun k hk => by
      by_cases e : k = i
      · subst e
        simp (disch := omega) only [hy_seto, hy_setk]
      · simp (disch := omega) only [hy_seto, hy_setn]
        exact h11 k (by omega)) (fun a x2 x4 x6 x7 x8 x9 x10 x11 => by simp (disch := omega) only [hy_seto]; exact ho a x2 x4 x6 x7 x8 x9 x10 x11) (by omega) (by omega)
    refine ⟨M', ?_, r⟩
    rw [← e]
    simp (disch := omega) only [↓reduceIte, f_X11_copy_L183, hn, if_false, hy_cts, hy_gt, hy_lt', hy_lm, hy_jn, hy_c, hy_in, hy_le, hy_add1, hy_k0, hy_k1, hy_k2, hy_k3, hy_k4, hy_k5, hy_k6, hy_k7, hy_k8, hy_k9, hy_k10, hy_k11, hy_k12, hy_k13, hy_seto, ho (b + 2), ho (b + 4), ho (b + 6), ho (b + 7), ho (b + 8), ho (b + 9), ho (b + 10), ho (b + 11)]
theorem O_copy {b b2 : Nat} {M : hz_M} {q : Nat → Int32} (hb : b + 12 ≤ b2 ∨ b2 + 12 ≤ b) (hR : RO b M q) (hZ : hy_Z q) : ∃ M', f_X11_copy b b2 M = some (0, M') ∧ (∀ a, (a < b2 ∨ b2 + 11 < a) → M' a = M a) ∧ RO b2 M' q := by
  have z2 := hZ.1.2
  have z5 := hZ.2.1.2.2
  have z8 := hZ.2.2.1.2.2
  have z10 := hZ.2.2.2.1.2
  obtain ⟨⟨f0, f1, f2, f3, f4, f5, f6, f7, f8, f9, f10, f11⟩, rop, rpg, rlk, rwt, rac, rag, rat, rhs, rst, rwn, rsd⟩ := hR
  have h0 : ∀ a, a ≠ b2 → (hz_set (hz_set (hz_set (hz_set (hz_set (hz_set (hz_set (hz_set (hz_set (hz_set (hz_set (hz_set M b2 0 (M b 0)) b2 1 (M b 1)) b2 2 (M b 2)) b2 3 (M b 3)) b2 4 (M b 4)) b2 5 (M b 5)) b2 6 (M b 6)) b2 7 (M b 7)) b2 8 (M b 8)) b2 9 (M b 9)) b2 10 (M b 10)) b2 11 (M b 11)) a = M a := fun a ha => by simp (disch := omega) only [hy_seto]
  obtain ⟨M1, e1, c1, o1⟩ := O_L106 hb (fun (M13 : hz_M) => hz_jn (fun (M14 : hz_M) => hz_jn (fun (M15 : hz_M) => f_X11_copy_L183 b b2 hz_FU (0 : Int32) M15) fun k44 => f_X11_copy_L157 b b2 k44 hz_FU (0 : Int32) M14) fun k52 => f_X11_copy_L131 b b2 k52 hz_FU (0 : Int32) M13) (hz_set (hz_set (hz_set (hz_set (hz_set (hz_set (hz_set (hz_set (hz_set (hz_set (hz_set (hz_set M b2 0 (M b 0)) b2 1 (M b 1)) b2 2 (M b 2)) b2 3 (M b 3)) b2 4 (M b 4)) b2 5 (M b 5)) b2 6 (M b 6)) b2 7 (M b 7)) b2 8 (M b 8)) b2 9 (M b 9)) b2 10 (M b 10)) b2 11 (M b 11)) 4 0 hz_FU (hz_set (hz_set (hz_set (hz_set (hz_set (hz_set (hz_set (hz_set (hz_set (hz_set (hz_set (hz_set M b2 0 (M b 0)) b2 1 (M b 1)) b2 2 (M b 2)) b2 3 (M b 3)) b2 4 (M b 4)) b2 5 (M b 5)) b2 6 (M b 6)) b2 7 (M b 7)) b2 8 (M b 8)) b2 9 (M b 9)) b2 10 (M b 10)) b2 11 (M b 11)) (fun k hk => by omega) (fun _ _ => rfl) (by omega) (hy_FU (by omega))
  obtain ⟨M2, e2, c3, o2⟩ := O_L131 hb (fun (M14 : hz_M) => hz_jn (fun (M15 : hz_M) => f_X11_copy_L183 b b2 hz_FU (0 : Int32) M15) fun k44 => f_X11_copy_L157 b b2 k44 hz_FU (0 : Int32) M14) M1 12 0 hz_FU M1 (fun k hk => by omega) (fun _ _ => rfl) (by omega) (hy_FU (by omega))
  obtain ⟨M3, e3, c5, o3⟩ := O_L157 hb (fun (M15 : hz_M) => f_X11_copy_L183 b b2 hz_FU (0 : Int32) M15) M2 9 0 hz_FU M2 (fun k hk => by omega) (fun _ _ => rfl) (by omega) (hy_FU (by omega))
  obtain ⟨M4, e4, c2, c4, c6, c7, c8, c9, c10, c11, o4⟩ := O_L183 hb M3 16 0 hz_FU M3 (fun k hk => by omega) (fun k hk => by omega) (fun k hk => by omega) (fun k hk => by omega) (fun k hk => by omega) (fun k hk => by omega) (fun k hk => by omega) (fun k hk => by omega) (fun _ _ _ _ _ _ _ _ _ => rfl) (by omega) (hy_FU (by omega))
  have g : ∀ a, (a < b2 ∨ b2 + 11 < a) → M4 a = M a := fun a ha => by
    rw [o4 a (by omega) (by omega) (by omega) (by omega) (by omega) (by omega) (by omega) (by omega), o3 a (by omega), o2 a (by omega), o1 a (by omega), h0 a (by omega)]
  have g3 : ∀ j, 1 ≤ j → j ≤ 11 → M3 (b + j) = M (b + j) := fun j h1 h2 => by
    rw [o3 _ (by omega), o2 _ (by omega), o1 _ (by omega), h0 _ (by omega)]
  have gb : ∀ k, k < 12 → M4 b2 k = M b k := fun k hk => by
    rw [o4 b2 (by omega) (by omega) (by omega) (by omega) (by omega) (by omega) (by omega) (by omega), o3 b2 (by omega), o2 b2 (by omega), o1 b2 (by omega)]
    match k, hk with
    | 0, _ => simp (disch := omega) only [hy_setn, hy_setk]
    | 1, _ => simp (disch := omega) only [hy_setn, hy_setk]
    | 2, _ => simp (disch := omega) only [hy_setn, hy_setk]
    | 3, _ => simp (disch := omega) only [hy_setn, hy_setk]
    | 4, _ => simp (disch := omega) only [hy_setn, hy_setk]
    | 5, _ => simp (disch := omega) only [hy_setn, hy_setk]
    | 6, _ => simp (disch := omega) only [hy_setn, hy_setk]
    | 7, _ => simp (disch := omega) only [hy_setn, hy_setk]
    | 8, _ => simp (disch := omega) only [hy_setn, hy_setk]
    | 9, _ => simp (disch := omega) only [hy_setn, hy_setk]
    | 10, _ => simp (disch := omega) only [hy_setn, hy_setk]
    | 11, _ => simp (disch := omega) only [hy_setn, hy_setk]
    | k + 12, h => exact absurd h (by omega)
  have r1 : ∀ k, k < 4 → M4 (b2 + 1) k = M (b + 1) k := fun k hk => by
    rw [o4 _ (by omega) (by omega) (by omega) (by omega) (by omega) (by omega) (by omega) (by omega), o3 _ (by omega), o2 _ (by omega), c1 k hk, h0 _ (by omega)]
  have r3 : ∀ k, k < 12 → M4 (b2 + 3) k = M (b + 3) k := fun k hk => by
    rw [o4 _ (by omega) (by omega) (by omega) (by omega) (by omega) (by omega) (by omega) (by omega), o3 _ (by omega), c3 k hk, o1 _ (by omega), h0 _ (by omega)]
  have r5 : ∀ k, k < 9 → M4 (b2 + 5) k = M (b + 5) k := fun k hk => by
    rw [o4 _ (by omega) (by omega) (by omega) (by omega) (by omega) (by omega) (by omega) (by omega), c5 k hk, o2 _ (by omega), o1 _ (by omega), h0 _ (by omega)]
  refine ⟨M4, ?_, g, ⟨by rw [gb 0 (by omega)]; exact f0, by rw [gb 1 (by omega)]; exact f1, by rw [gb 2 (by omega)]; exact f2, by rw [gb 3 (by omega)]; exact f3, by rw [gb 4 (by omega)]; exact f4, by rw [gb 5 (by omega)]; exact f5, by rw [gb 6 (by omega)]; exact f6, by rw [gb 7 (by omega)]; exact f7, by rw [gb 8 (by omega)]; exact f8, by rw [gb 9 (by omega)]; exact f9, by rw [gb 10 (by omega)]; exact f10, by rw [gb 11 (by omega)]; exact f11⟩, fun k hk => by rw [r1 k hk]; exact rop k hk, fun k hk => by rw [c2 k (by omega), g3 2 (by omega) (by omega)]; exact rpg k hk, fun k hk => by rw [r3 k (by omega)]; exact rlk k hk, fun k hk => by rw [c4 k (by omega), g3 4 (by omega) (by omega)]; exact rwt k hk, fun k hk => by rw [r5 k hk]; exact rac k hk, fun k hk => by rw [c6 k (by omega), g3 6 (by omega) (by omega)]; exact rag k hk, fun k hk => by rw [c7 k (by omega), g3 7 (by omega) (by omega)]; exact rat k hk, fun k hk => by rw [c8 k (by omega), g3 8 (by omega) (by omega)]; exact rhs k hk, fun k hk => by rw [c9 k (by omega), g3 9 (by omega) (by omega)]; exact rst k hk, fun k hk => by rw [c10 k (by omega), g3 10 (by omega) (by omega)]; exact rwn k hk, fun k hk => by rw [c11 k (by omega), g3 11 (by omega) (by omega)]; exact rsd k hk⟩
  unfold f_X11_copy
  simp (disch := omega) only [hy_lm, hy_seto]
  rw [show (0 : Int32) = nI 0 from rfl] at e1 e2 e3 e4 ⊢
  rw [hy_jn]
  refine Eq.trans e1 ?_
  rw [hy_jn]
  refine Eq.trans e2 ?_
  rw [hy_jn]
  refine Eq.trans e3 ?_
  exact e4
