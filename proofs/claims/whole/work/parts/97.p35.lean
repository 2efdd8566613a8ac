theorem k_l61 (kk : hz_M → hz_O) : ∀ (k i f : Nat) (M : hz_M) , i + k = 185 → k < f → f_X11_load_L61 kk f (nI i) M = kk (hy_row M 179 (fun b => if 0 + i ≤ b ∧ b < 0 + 185 then M 181 (b - (0) + (0)) else M 179 b))
  | 0, i, f, M, h, hf => by
    obtain ⟨f, rfl⟩ : ∃ e, f = e + 1 := ⟨f - 1, by omega⟩
    have e : i = 185 := by omega
    subst e
    have er : hy_row M 179 (fun b => if 0 + 185 ≤ b ∧ b < 0 + 185 then M 181 (b - (0) + (0)) else M 179 b) = M := by
      rw [show (fun b => if 0 + 185 ≤ b ∧ b < 0 + 185 then M 181 (b - (0) + (0)) else M 179 b) = M 179 from funext (fun b => if_neg (by omega)), hy_rid]
    have e5 : (185 : Int32) ≤ nI 185 := by decide
    rw [er]
    simp only [f_X11_load_L61, e5, if_true]
  | k + 1, i, f, M, h, hf => by
    obtain ⟨f, rfl⟩ : ∃ e, f = e + 1 := ⟨f - 1, by omega⟩
    have e5 : ¬ (185 : Int32) ≤ nI i := by rw [show (185 : Int32) = nI 185 from rfl, hy_le (by omega) (by omega)]; omega
    have e6 : ¬ 185 ≤ i := by omega
    have ih := k_l61 kk k (i + 1) f (hz_set M 179 (0 + i) (M 181 (0 + i)))  (by omega) (by omega)
    have er : hy_row (hz_set M 179 (0 + i) (M 181 (0 + i))) 179 (fun b => if 0 + (i + 1) ≤ b ∧ b < 0 + 185 then (hz_set M 179 (0 + i) (M 181 (0 + i))) 181 (b - (0) + (0)) else (hz_set M 179 (0 + i) (M 181 (0 + i))) 179 b) = hy_row M 179 (fun b => if 0 + i ≤ b ∧ b < 0 + 185 then M 181 (b - (0) + (0)) else M 179 b) := by
      rw [hy_set, hy_rr]
      congr 1
      funext b
      rw [hy_ro _ _ (by omega), hy_rs]
      unfold hy_st
      by_cases e1 : b = 0 + i
      · subst e1
        rw [if_neg (by omega), if_pos rfl, if_pos (by omega)]
        congr 1 <;> omega
      · by_cases e2 : 0 + (i + 1) ≤ b ∧ b < 0 + 185
        · rw [if_pos e2, if_pos (by omega)]
        · rw [if_neg e2, if_neg e1, if_neg (by omega)]
    rw [er] at ih
    rw [← ih]
    simp (disch := omega) only [f_X11_load_L61, e5, e6, hy_le, if_false,  hy_in, hy_c, hy_gt, hy_lm, hy_lt', hy_add1, hy_add, hy_mul, show (185 : Int32) = nI 185 from rfl, Nat.zero_add]

theorem k_l7 (kk : hz_M → hz_O) : ∀ (k i f : Nat) (M : hz_M), i + k = 185 → k < f → f_X11_load_L7 kk f (nI i) M = kk (hy_row (hy_row M 181 (fun b => if i ≤ b ∧ b < 185 then M 179 b else M 181 b)) 179 (fun b => if i ≤ b ∧ b < 185 then 0 else M 179 b))
  | 0, i, f, M, h, hf => by
    obtain ⟨f, rfl⟩ : ∃ e, f = e + 1 := ⟨f - 1, by omega⟩
    have e : i = 185 := by omega
    subst e
    have e5 : (185 : Int32) ≤ nI 185 := by decide
    have r1 : (fun b => if 185 ≤ b ∧ b < 185 then M 179 b else M 181 b) = M 181 := funext (fun b => if_neg (by omega))
    have r2 : (fun b => if 185 ≤ b ∧ b < 185 then (0 : Int32) else M 179 b) = M 179 := funext (fun b => if_neg (by omega))
    rw [r1, r2, hy_rid, hy_rid]
    simp only [f_X11_load_L7, e5, if_true]
  | k + 1, i, f, M, h, hf => by
    obtain ⟨f, rfl⟩ : ∃ e, f = e + 1 := ⟨f - 1, by omega⟩
    have e5 : ¬ (185 : Int32) ≤ nI i := by rw [show (185 : Int32) = nI 185 from rfl, hy_le (by omega) (by omega)]; omega
    have ih := k_l7 kk k (i + 1) f (hz_set (hz_set M 181 i (M 179 i)) 179 i 0) (by omega) (by omega)
    have er : hy_row (hy_row (hz_set (hz_set M 181 i (M 179 i)) 179 i 0) 181 (fun b => if i + 1 ≤ b ∧ b < 185 then hz_set (hz_set M 181 i (M 179 i)) 179 i 0 179 b else hz_set (hz_set M 181 i (M 179 i)) 179 i 0 181 b)) 179 (fun b => if i + 1 ≤ b ∧ b < 185 then 0 else hz_set (hz_set M 181 i (M 179 i)) 179 i 0 179 b) = hy_row (hy_row M 181 (fun b => if i ≤ b ∧ b < 185 then M 179 b else M 181 b)) 179 (fun b => if i ≤ b ∧ b < 185 then 0 else M 179 b) := by
      have q1 : hz_set (hz_set M 181 i (M 179 i)) 179 i 0 179 = hy_st (M 179) i 0 := by rw [hy_srow, hy_seto _ _ _ (by omega)]
      have q2 : hz_set (hz_set M 181 i (M 179 i)) 179 i 0 181 = hy_st (M 181) i (M 179 i) := by rw [hy_seto _ _ _ (by omega), hy_srow]
      rw [q1, q2]
      funext a
      by_cases a1 : a = 179
      · subst a1
        rw [hy_rs, hy_rs]
        funext b
        unfold hy_st
        by_cases e1 : b = i
        · subst e1; rw [if_neg (by omega), if_pos rfl, if_pos (by omega)]
        · by_cases e2 : i + 1 ≤ b ∧ b < 185
          · rw [if_pos e2, if_pos (by omega)]
          · rw [if_neg e2, if_neg e1, if_neg (by omega)]
      · rw [hy_ro _ _ a1, hy_ro _ _ a1]
        by_cases a2 : a = 181
        · subst a2
          rw [hy_rs, hy_rs]
          funext b
          unfold hy_st
          by_cases e1 : b = i
          · subst e1; rw [if_neg (by omega), if_pos rfl, if_pos (by omega)]
          · by_cases e2 : i + 1 ≤ b ∧ b < 185
            · rw [if_pos e2, if_neg e1, if_pos (by omega)]
            · rw [if_neg e2, if_neg e1, if_neg (by omega)]
        · rw [hy_ro _ _ a2, hy_ro _ _ a2, hy_seto _ _ _ a1, hy_seto _ _ _ a2]
    rw [er] at ih
    rw [← ih]
    simp (disch := omega) only [f_X11_load_L7, e5, if_false, hy_in, hy_c, hy_gt, hy_lm, hy_lt', hy_add1]
theorem fil_o {M : hz_M} {i n a : Nat} {v : Int32} (h : a ≠ i) : hz_fil M i n v a = M a := by
  unfold hz_fil; funext b; rw [if_neg (fun e => h e.1)]
theorem fil_k {M : hz_M} {i n b : Nat} {v : Int32} (h : b < n) : hz_fil M i n v i b = v := by
  unfold hz_fil; rw [if_pos ⟨rfl, h⟩]
theorem cpy_o {M : hz_M} {i j n a : Nat} (h : a ≠ j) : hz_cpy M i j n a = M a := by
  unfold hz_cpy; funext b; rw [if_neg (fun e => h e.1)]
theorem cpy_k {M : hz_M} {i j n b : Nat} (h : b < n) : hz_cpy M i j n j b = M i b := by
  unfold hz_cpy; rw [if_pos ⟨rfl, h⟩]
theorem c_begL {T : Nat} (hT : T ≤ 16) : ∀ (k i f : Nat) (M : hz_M), M 1 6 = nI T → i + k = T → k < f → ∃ M', f_X7_begin_L155 f (nI i) M = some (0, M') ∧ (∀ a, a ≠ 21 → a ≠ 22 → a ≠ 23 → M' a = M a) ∧
    (∀ b, M' 23 b = if i ≤ b ∧ b < T then nI b else M 23 b) ∧ (∀ b, M' 21 b = if i ≤ b ∧ b < T then nI b else M 21 b) ∧ ∀ b, M' 22 b = if i ≤ b ∧ b < T then -1 else M 22 b
  | 0, i, f, M, h6, hi, hf => by
    obtain ⟨f, rfl⟩ : ∃ e, f = e + 1 := ⟨f - 1, by omega⟩
    have e : T ≤ i := by omega
    refine ⟨M, ?_, fun _ _ _ _ => rfl, fun b => by rw [if_neg (by omega)], fun b => by rw [if_neg (by omega)], fun b => by rw [if_neg (by omega)]⟩
    simp (disch := omega) only [f_X7_begin_L155, h6, hy_le, e, if_true]
  | k + 1, i, f, M, h6, hi, hf => by
    obtain ⟨f, rfl⟩ : ∃ e, f = e + 1 := ⟨f - 1, by omega⟩
    have e : ¬ T ≤ i := by omega
    obtain ⟨M', a1, a2, a3, a4, a5⟩ := c_begL hT k (i + 1) f (hz_set (hz_set (hz_set M 23 i (nI i)) 21 i (nI i)) 22 i (-1)) (by simp (disch := omega) only [hy_seto]; exact h6) (by omega) (by omega)
    refine ⟨M', ?_, fun a h1 h2 h3 => by rw [a2 a h1 h2 h3]; simp (disch := omega) only [hy_seto], fun b => ?_, fun b => ?_, fun b => ?_⟩
    · simp (disch := omega) only [f_X7_begin_L155, h6, hy_le, e, if_false, n_put, hy_cts, hy_lt', hy_add1]
      exact a1
    · rw [a3 b]
      simp (disch := omega) only [hy_seto, hy_srow]
      unfold hy_st
      by_cases e1 : b = i
      · subst e1; rw [if_neg (by omega), if_pos rfl, if_pos (by omega)]
      · by_cases e2 : i + 1 ≤ b ∧ b < T
        · rw [if_pos e2, if_pos (by omega)]
        · rw [if_neg e2, if_neg e1, if_neg (by omega)]
    · rw [a4 b]
      simp (disch := omega) only [hy_seto, hy_srow]
      unfold hy_st
      by_cases e1 : b = i
      · subst e1; rw [if_neg (by omega), if_pos rfl, if_pos (by omega)]
      · by_cases e2 : i + 1 ≤ b ∧ b < T
        · rw [if_pos e2, if_pos (by omega)]
        · rw [if_neg e2, if_neg e1, if_neg (by omega)]
    · rw [a5 b]
      simp (disch := omega) only [hy_seto, hy_srow]
      unfold hy_st
      by_cases e1 : b = i
      · subst e1; rw [if_neg (by omega), if_pos rfl, if_pos (by omega)]
      · by_cases e2 : i + 1 ≤ b ∧ b < T
        · rw [if_pos e2, if_pos (by omega)]
        · rw [if_neg e2, if_neg e1, if_neg (by omega)]
/-- all as at first -/
theorem c_begin {M : hz_M} {T : Nat} (hT : T ≤ 16) (h6 : M 1 6 = nI T) : ∃ M', f_X7_begin M = some (0, M') ∧ (∀ a, (a < 11 ∨ 24 < a) → M' a = M a) ∧
    (M' 11 14 = 0 ∧ M' 11 15 = 30 ∧ M' 11 16 = -1 ∧ M' 11 17 = M 1 9 ∧ M' 11 18 = M 1 10 ∧ M' 11 19 = M 1 11) ∧
    (∀ b, b < 4 → M' 12 b = 0) ∧ (∀ b, b < 16 → M' 13 b = -1 ∧ M' 14 b = -1 ∧ M' 15 b = -1 ∧ M' 16 b = 0 ∧ M' 17 b = 0 ∧ M' 18 b = -1 ∧ M' 20 b = 0) ∧ (∀ b, b < 12 → M' 19 b = -1) ∧ (∀ b, b < 9 → M' 24 b = 0) ∧
    (∀ b, b < 16 → M' 23 b = (if b < T then nI b else -1) ∧ M' 22 b = -1) ∧ ∀ b, b < T → M' 21 b = nI b := by
  unfold f_X7_begin
  simp only [hy_lm]
  obtain ⟨M', a1, a2, a3, a4, a5⟩ := c_begL hT T 0 hz_FU (hz_fil (hz_fil (hz_fil (hz_fil (hz_fil (hz_fil (hz_fil (hz_fil (hz_fil (hz_fil (hz_fil (hz_fil (hz_fil
    (hz_set (hz_set (hz_set (hz_set (hz_set (hz_set M 11 14 0) 11 15 30) 11 16 (-1)) 11 17 (hz_set (hz_set (hz_set M 11 14 0) 11 15 30) 11 16 (-1) 1 9)) 11 18 (hz_set (hz_set (hz_set (hz_set M 11 14 0) 11 15 30) 11 16 (-1)) 11 17 (hz_set (hz_set (hz_set M 11 14 0) 11 15 30) 11 16 (-1) 1 9) 1 10)) 11 19 (hz_set (hz_set (hz_set (hz_set (hz_set M 11 14 0) 11 15 30) 11 16 (-1)) 11 17 (hz_set (hz_set (hz_set M 11 14 0) 11 15 30) 11 16 (-1) 1 9)) 11 18 (hz_set (hz_set (hz_set (hz_set M 11 14 0) 11 15 30) 11 16 (-1)) 11 17 (hz_set (hz_set (hz_set M 11 14 0) 11 15 30) 11 16 (-1) 1 9) 1 10) 1 11))
    12 4 0) 13 16 (-1)) 14 16 (-1)) 15 16 (-1)) 16 16 0) 17 16 0) 18 16 (-1)) 19 12 (-1)) 20 16 0) 21 16 (-1)) 22 16 (-1)) 23 16 (-1)) 24 9 0) (by simp (disch := omega) only [fil_o, hy_seto]; exact h6) (by omega) (hy_FU (by omega))
  refine ⟨M', a1, fun a ha => by rw [a2 a (by omega) (by omega) (by omega)]; simp (disch := omega) only [fil_o, hy_seto], ?_, fun b hb => ?_, fun b hb => ?_, fun b hb => ?_, fun b hb => ?_, fun b hb => ?_, fun b hb => ?_⟩
  · rw [a2 11 (by omega) (by omega) (by omega)]
    simp (disch := omega) only [fil_o, hy_setn, hy_setk, hy_seto, and_self]
  · rw [a2 12 (by omega) (by omega) (by omega)]; simp (disch := omega) only [fil_o, fil_k]
  · rw [a2 13 (by omega) (by omega) (by omega), a2 14 (by omega) (by omega) (by omega), a2 15 (by omega) (by omega) (by omega), a2 16 (by omega) (by omega) (by omega), a2 17 (by omega) (by omega) (by omega), a2 18 (by omega) (by omega) (by omega), a2 20 (by omega) (by omega) (by omega)]
    simp (disch := omega) only [fil_o, fil_k, and_self]
  · rw [a2 19 (by omega) (by omega) (by omega)]; simp (disch := omega) only [fil_o, fil_k]
  · rw [a2 24 (by omega) (by omega) (by omega)]; simp (disch := omega) only [fil_o, fil_k]
  · rw [a3 b, a5 b]
    simp (disch := omega) only [fil_o, fil_k]
    refine ⟨?_, ?_⟩
    · by_cases e : b < T
      · rw [if_pos (by omega), if_pos e]
      · rw [if_neg (by omega), if_neg e]
    · split <;> rfl
  · rw [a4 b, if_pos (by omega)]
/-- a fresh house -/
theorem W_fresh {M C : hz_M} {q : Nat → Int32} {i T : Nat} (hi : i ≤ 16) (hT : T ≤ 16) (H : HD 5 C q) (q2 : q 2 = nI T) (q11 : q 11 = nI i) (q9 : q 9 = 30) (q10 : q 10 = -1)
    (G : ∀ g, g < i → ∃ Mr : hz_M, Mr 179 = q ∧ GS 5 C Mr g) (pg : ∀ x, x < T → q (154 + 2 * x) = nI x) (z : ∀ b, (b = 8 ∨ (12 ≤ b ∧ b < 25) ∨ (25 ≤ b ∧ b < 153 ∧ (b % 8 = 6 ∨ b % 8 = 7)) ∨ (153 ≤ b ∧ b % 2 = 1) ∨ 185 ≤ b) → q b = 0)
    (c1 : M 1 3 = nI i ∧ (∀ b, 4 ≤ b → b ≤ 11 → M 1 b = C 5 b)) (c2 : ∀ b, b < 16 → M 2 b = C 6 b) (c3 : ∀ b, b < 96 → M 3 b = C 7 b) (c4 : ∀ b, b < 16 → M 4 b = C 8 b)
    (s : M 11 14 = 0 ∧ M 11 15 = 30 ∧ M 11 16 = -1 ∧ M 11 17 = M 1 9 ∧ M 11 18 = M 1 10 ∧ M 11 19 = M 1 11)
    (r12 : ∀ b, b < 4 → M 12 b = 0) (rg : ∀ b, b < 16 → M 13 b = -1 ∧ M 14 b = -1 ∧ M 15 b = -1 ∧ M 16 b = 0 ∧ M 17 b = 0 ∧ M 18 b = -1 ∧ M 20 b = 0) (r19 : ∀ b, b < 12 → M 19 b = -1) (r24 : ∀ b, b < 9 → M 24 b = 0)
    (rt : ∀ b, b < 16 → M 23 b = (if b < T then nI b else -1) ∧ M 22 b = -1) (r21 : ∀ b, b < T → M 21 b = nI b) : hy_W M q ∧ hy_T q := by
  obtain ⟨l, p, t, v, st, r, g, u, l1, l2, p1, p2, t1, v1, v2, st1, st2, r1, r2, g1, g2, u1, ⟨d4, d5, d6, d7, d8, d9, d10, d11⟩, ⟨e0, e1, e2, e3, e4, e5, e6, e7⟩⟩ := H
  have tT : t = T := by rw [e2, hy_eq (by omega) (by omega)] at q2; exact q2
  subst tT
  have Gz : gz q = i := by unfold gz; rw [q11, hy_c (by omega)]
  have Lz : lz q = l := by unfold lz; rw [e0, hy_c (by omega)]
  have Pz : pz q = p := by unfold pz; rw [e1, hy_c (by omega)]
  have Tz : tz q = t := by unfold tz; rw [e2, hy_c (by omega)]
  have Vz : vz q = v := by unfold vz; rw [e3, hy_c (by omega)]
  have Sz : sz q = st := by unfold sz; rw [e4, hy_c (by omega)]
  have gs : ∀ x, x < i → (∃ a, a ≤ 99 ∧ C 6 x = nI a ∧ q (25 + 8 * x + 1) = nI a) ∧ nmdT 5 C x (q (25 + 8 * x)) ∧ q (25 + 8 * x + 2) = -1 ∧ q (25 + 8 * x + 3) = -1 ∧ q (25 + 8 * x + 4) = -1 ∧ q (25 + 8 * x + 7) = -1 := fun x hx => by
    obtain ⟨Mr, h1, h2⟩ := G x hx
    unfold GS at h2
    rw [h1] at h2; exact h2
  have z5 : ∀ x, x < 16 → q (25 + 8 * x + 5) = 0 := fun x hx => z _ (by omega)
  have z6 : ∀ x, x < 16 → q (25 + 8 * x + 6) = 0 := fun x hx => z _ (by omega)
  have zw : ∀ x, q (153 + 2 * x) = 0 := fun x => z _ (by omega)
  have pk' : ∀ x, x < t → q (153 + 2 * x + 1) = nI x := fun x hx => by rw [show 153 + 2 * x + 1 = 154 + 2 * x by omega]; exact pg x hx
  have kp : ∀ k, k < 100 → kpr q k = -1 := fun k hk => by
    rw [kpr_fk, Gz]
    exact fk_no (fun x hx e => by
      have e' : q (25 + 8 * x + 3) = nI k := e
      rw [(gs x hx).2.2.2.1, hy_n1' (by omega)] at e'; exact e')
  have hl : ∀ k, k < 100 → hld q k = -1 := fun k hk => by
    rw [hld_fk, Gz]
    exact fk_no (fun x hx e => by
      have e' : q (25 + 8 * x + 4) = nI k := e
      rw [(gs x hx).2.2.2.2.1, hy_n1' (by omega)] at e'; exact e')
  have jp : inj (fun x => q (153 + 2 * x + 1)) t := fun a b ha hb e => by
    have e' : q (153 + 2 * a + 1) = q (153 + 2 * b + 1) := e
    rw [pk' a ha, pk' b hb, hy_eq (by omega) (by omega)] at e'; exact Or.inr e'
  have tw' : ∀ k, k < 16 → tw q k = if k < t then nI k else -1 := fun k hk => by
    rw [tw_fk, Tz]
    by_cases h : k < t
    · rw [if_pos h]; exact fk_is (by omega) h (pk' k h) jp
    · rw [if_neg h]
      exact fk_no (fun x hx e => by
        have e' : q (153 + 2 * x + 1) = nI k := e
        rw [pk' x hx, hy_eq (by omega) (by omega)] at e'; omega)
  have Z : hy_Z q := by
    unfold hy_Z; rw [Gz, Lz, Pz, Tz, Vz, Sz]
    exact ⟨⟨q11, hi⟩, ⟨e0, l1, l2⟩, ⟨e1, p1, p2⟩, ⟨e2, t1⟩, ⟨e3, v1, v2⟩, ⟨e4, st1, st2⟩⟩
  have Ho : hy_Ho M q := by
    unfold hy_Ho; rw [Gz]
    refine ⟨by rw [c1.1, q11], by rw [c1.2 4 (by omega) (by omega), d4, e0], by rw [c1.2 5 (by omega) (by omega), d5, e1], by rw [c1.2 6 (by omega) (by omega), d6, e2], by rw [c1.2 7 (by omega) (by omega), d7, e3], by rw [c1.2 8 (by omega) (by omega), d8, e4], fun x hx => ?_, fun x hx => ?_⟩
    · obtain ⟨⟨a, _, h1, h2⟩, _⟩ := gs x hx
      rw [c2 x (by omega), h1, h2]
    · obtain ⟨_, ⟨n, n1, n6, n4, nl, nv⟩, _⟩ := gs x hx
      refine ⟨n, n1, n6, by rw [c4 x (by omega)]; exact n4, fun j hj => by rw [c3 _ (by omega)]; exact nl j hj, ?_⟩
      rw [nv]
      unfold pk
      exact hy_fold_congr _ _ _ (fun j _ hj b => by show 27 * b + C 7 (6 * x + j) - 96 = 27 * b + M 3 (6 * x + j) - 96; rw [c3 _ (by omega)])
  have R : hy_RC 11 M q := by
    unfold hy_RC; rw [Gz, Lz, Pz, Tz]
    refine ⟨⟨by rw [s.1, z 8 (by omega)], by rw [s.2.1, q9], by rw [s.2.2.1, q10], by rw [s.2.2.2.1, c1.2 9 (by omega) (by omega), d9, e5], by rw [s.2.2.2.2.1, c1.2 10 (by omega) (by omega), d10, e6], by rw [s.2.2.2.2.2, c1.2 11 (by omega) (by omega), d11, e7]⟩, fun k hk => ?_, fun k hk => ?_, fun k hk => ?_, fun k hk => ?_, fun k hk => ?_, fun k hk => ?_, fun k hk => ?_, fun k hk => ?_, fun k hk => ?_, fun k hk => ?_, fun k hk => ?_, fun k hk => ?_, fun k hk => ?_⟩
    · rw [r24 k hk, z _ (by omega)]
    · rw [r12 k hk, z _ (by omega)]
    · rw [(rg k (by omega)).1, (gs k hk).2.2.1]
    · rw [(rg k (by omega)).2.1, (gs k hk).2.2.2.1]
    · rw [(rg k (by omega)).2.2.1, (gs k hk).2.2.2.2.1]
    · rw [(rg k (by omega)).2.2.2.1, z5 k (by omega)]
    · rw [(rg k (by omega)).2.2.2.2.1, z6 k (by omega)]
    · rw [(rg k (by omega)).2.2.2.2.2.1, (gs k hk).2.2.2.2.2]
    · rw [(rg k (by omega)).2.2.2.2.2.2, zw k]
    · rw [r21 k hk, pk' k hk]
    · rw [r19 k (by omega), kp k (by omega)]
    · rw [(rt k (by omega)).2, hl k (by omega)]
    · rw [(rt k (by omega)).1, tw' k (by omega)]
  have Q : hy_Q q := by
    unfold hy_Q; rw [Gz, Lz, Pz, Tz, Sz]
    refine ⟨fun x hx => ?_, fun x hx => Or.inl (gs x hx).2.2.1, fun x hx => Or.inl (gs x hx).2.2.2.1, fun x hx => Or.inl (gs x hx).2.2.2.2.1, fun x hx => ⟨0, by omega, z5 x (by omega)⟩, fun x hx => ⟨0, by omega, z6 x (by omega)⟩, fun x hx => ⟨0, by omega, zw x⟩, fun x hx => Or.inr ⟨x, by omega, pk' x hx⟩, fun x y hx hy _ => Or.inl (gs x hx).2.2.2.1, fun x y hx hy _ => Or.inl (gs x hx).2.2.2.2.1, jp, fun x hx _ => ⟨(gs x hx).2.2.2.1, (gs x hx).2.2.2.2.1⟩, fun x hx _ => (gs x hx).2.2.1, fun x y hx hy e => ?_, ⟨30, by omega, q9⟩, ⟨r, r1, r2, e5⟩, ⟨g, g1, g2, e6⟩, ⟨u, u1, e7⟩, fun w hw => ⟨0, by omega, z _ (by omega)⟩⟩
    · obtain ⟨⟨a, ha, _, h2⟩, _⟩ := gs x hx
      exact ⟨a, ha, h2⟩
    · rw [(gs x hx).2.2.2.2.1, hy_n1' (by omega)] at e; exact absurd e not_false
  exact ⟨⟨⟨Z, Ho, R⟩, Q, fun k hk => z k (by omega)⟩, ⟨0, by omega, z 8 (by omega), Or.inl q10⟩⟩

