/-- what is left to undo: u states up to the n-th -/
def Rg (M : hz_M) (qs : Nat → Nat → Int32) (n u : Nat) : Prop := ∃ w, u ≤ 8 ∧ w < 8 ∧ u ≤ n ∧ M 32 4 = nI u ∧ M 32 3 = nI w ∧ ∀ j, j < u → Snap (36 + 14 * ((w + 9 + j - u) % 8)) M (qs (n - u + j))
theorem Ring_Rg {M : hz_M} {qs : Nat → Nat → Int32} {n : Nat} (R : Ring M qs n) : Rg M qs n (if n < 8 then n else 8) := by
  obtain ⟨u, w, h1, h2, h3, h4, h5, h6⟩ := R
  have e : (if n < 8 then n else 8) = u := by split <;> omega
  rw [e]
  exact ⟨w, h1, h2, by omega, h4, h5, h6⟩
theorem Rg_fr {M M' : hz_M} {qs : Nat → Nat → Int32} {n u : Nat} (h : ∀ a, (a = 1 ∨ a = 2 ∨ a = 3 ∨ a = 4 ∨ a = 32 ∨ (36 ≤ a ∧ a ≤ 147)) → M' a = M a) (R : Rg M qs n u) : Rg M' qs n u := by
  obtain ⟨w, h1, h2, h3, h4, h5, h6⟩ := R
  refine ⟨w, h1, h2, h3, by rw [h 32 (by omega)]; exact h4, by rw [h 32 (by omega)]; exact h5, fun j hj => Snap_fr (fun a ha => h a (by omega)) (h6 j hj)⟩
theorem U_no {M : hz_M} {qs : Nat → Nat → Int32} {n : Nat} (R : Rg M qs n 0) : f_X10_undo M = some (-1, M) := by
  obtain ⟨w, h1, h2, h3, h4, h5, h6⟩ := R
  simp (disch := omega) only [f_X10_undo, f_X2_stepBack, h5, hy_in, hy_gt, h4, show (nI 0 = 0) = True from eq_true rfl, if_true, hy_cts]
theorem U_yes {M : hz_M} {qs : Nat → Nat → Int32} {n u : Nat} (R : Rg M qs (n + 1) (u + 1)) : ∃ M1, f_X10_undo M = some (nI u, M1) ∧ hy_W M1 (qs n) ∧ hy_T (qs n) ∧ Rg M1 qs n u ∧ (∀ a, (24 < a ∧ a ≠ 32) → M1 a = M a) := by
  obtain ⟨w, hu, hw, h3, h4, h5, h6⟩ := R
  have nu : ¬ nI (u + 1) = 0 := by rw [hy_0, hy_eq (by omega) (by omega)]; omega
  have us : nI (u + 1) - 1 = nI u := by rw [hy_1, hy_sub (by omega)]; rfl
  have s := h6 u (by omega)
  rw [show (w + 9 + u - (u + 1)) % 8 = w by omega, show n + 1 - (u + 1) + u = n by omega] at s
  have sn := cp_Snap (b1 := 11) (by omega) (by omega) s
  have ew : (if nI w ≤ 0 then (7 : Int32) else nI w - 1) = nI ((w + 7) % 8) := by
    by_cases e : w = 0
    · subst e; rfl
    · rw [if_neg (by rw [hy_0, hy_le (by omega) (by omega)]; omega), hy_1, hy_sub (by omega)]; congr 1; omega
  have key : f_X10_undo M = some (nI u, hz_set (hz_set (cpM 11 (36 + 14 * w) M) 32 3 (nI ((w + 7) % 8))) 32 4 (nI u)) := by
    have kx : ∀ x, x = nI ((w + 7) % 8) → (hz_lm (hz_set (cpM 11 (36 + 14 * w) M) 32 3 x) fun M9 => hz_lm (hz_set M9 32 4 ((M9 32 4) - (1 : Int32))) fun M10 => some ((M10 32 4), M10)) = some (nI u, hz_set (hz_set (cpM 11 (36 + 14 * w) M) 32 3 (nI ((w + 7) % 8))) 32 4 (nI u)) := by
      intro x hx
      subst hx
      simp (disch := omega) only [hy_lm, hy_setn, cp_o, h4, us, hy_setk]
    unfold f_X10_undo f_X2_stepBack
    simp (disch := omega) only [h5, hy_in, hy_gt, h4, nu, if_false, hz_pa, hy_c, cp_eq, hy_cts, hy_jn, cp_o, hy_ctid]
    rw [← kx _ ew]
    split <;> rfl
  generalize hM1 : hz_set (hz_set (cpM 11 (36 + 14 * w) M) 32 3 (nI ((w + 7) % 8))) 32 4 (nI u) = M1 at key
  have f0 : ∀ a, (a < 11 ∨ 24 < a) → a ≠ 32 → M1 a = M a := fun a h1 h2 => by subst hM1; simp (disch := omega) only [hy_seto, cp_o]
  have f3 : M1 32 3 = nI ((w + 7) % 8) := by subst hM1; rw [hy_setn _ _ _ (by omega), hy_setk]
  have f4 : M1 32 4 = nI u := by subst hM1; rw [hy_setk]
  have s1 : Snap 11 M1 (qs n) := Snap_fr (fun a ha => by subst hM1; simp (disch := omega) only [hy_seto]) sn
  refine ⟨M1, key, ⟨⟨s1.1, s1.2.1, s1.2.2.1⟩, s1.2.2.2.1, s1.2.2.2.2.2⟩, s1.2.2.2.2.1, ⟨(w + 7) % 8, by omega, by omega, by omega, f4, f3, fun j hj => ?_⟩, fun a ha => f0 a (by omega) (by omega)⟩
  rw [show ((w + 7) % 8 + 9 + j - u) % 8 = (w + 9 + j - (u + 1)) % 8 by omega, show n - u + j = n + 1 - (u + 1) + j by omega]
  exact Snap_fr (fun a ha => f0 a (by omega) (by omega)) (h6 j (by omega))
/-- the own bathhouses of the past: the i-th lies at pb i, below B -/
def Past (M : hz_M) (qs : Nat → Nat → Int32) (kept B : Nat) (pb : Nat → Nat) : Prop := ∀ i, i < kept → (178 ≤ pb i ∧ pb i + 12 ≤ B ∧ (pb i = 178 ∨ 191 ≤ pb i)) ∧ (M 190 i = nI (pb i + 1) ∧ hz_bo (nI (pb i + 1)) = true ∧ hz_pl (nI (pb i + 1)) = pb i) ∧ RO (pb i) M (qs i) ∧ hy_N (qs i) ∧ hy_E (qs i)
theorem Past_fr {M M' : hz_M} {qs : Nat → Nat → Int32} {kept B B' : Nat} {pb : Nat → Nat} (h : ∀ a, 178 ≤ a → a < B → M' a = M a) (h190 : M' 190 = M 190) (hB : B ≤ B') (P : Past M qs kept B pb) : Past M' qs kept B' pb := by
  intro i hi
  obtain ⟨⟨p1, p2, p3⟩, ⟨p4, p5, p6⟩, p7, p8⟩ := P i hi
  exact ⟨⟨p1, by omega, p3⟩, ⟨by rw [h190]; exact p4, p5, p6⟩, RO_fr (fun a h1 h2 => h a (by omega) (by omega)) p7, p8⟩
theorem lawU {qs : Nat → Nat → Int32} {kept B : Nat} {pb : Nat → Nat} {rf : Int32} (hk : kept ≤ 36) : ∀ (u n f : Nat) (M : hz_M), u < f → n ≤ kept → Rg M qs n u → Past M qs kept B pb → M 26 3 = rf → ∃ M', f_lawU rf f (nI u) (nI n - 1) M = some (1, M')
  | 0, n, f, M, hf, hn, R, P, h26 => by
    obtain ⟨f, rfl⟩ : ∃ e, f = e + 1 := ⟨f - 1, by omega⟩
    refine ⟨M, ?_⟩
    rw [f_lawU, if_pos (show nI 0 ≤ 0 by decide), U_no R, hy_cts]
    rw [show ((-1 : Int32) == (-1 : Int32)) = true from by decide, hy_gt]
  | u + 1, n, f, M, hf, hn, R, P, h26 => by
    obtain ⟨f, rfl⟩ : ∃ e, f = e + 1 := ⟨f - 1, by omega⟩
    have hun : u + 1 ≤ n := by obtain ⟨w, h1, h2, h3, -⟩ := R; exact h3
    have hu8 : u + 1 ≤ 8 := by obtain ⟨w, h1, h2, h3, -⟩ := R; exact h1
    obtain ⟨n, rfl⟩ : ∃ e, n = e + 1 := ⟨n - 1, by omega⟩
    obtain ⟨M1, e, W1, T1, R1, f1⟩ := U_yes R
    obtain ⟨⟨p1, p2, p3⟩, ⟨p4, p5, p6⟩, p7, p8, p9⟩ := P n (by omega)
    have P1 : Past M1 qs kept B pb := Past_fr (fun a h1 h2 => f1 a (by omega)) (f1 190 (by omega)) (Nat.le_refl _) P
    have h26' : M1 26 3 = rf := by rw [f1 26 (by omega)]; exact h26
    have RO1 : RO (pb n) M1 (qs n) := RO_fr (fun a h1 h2 => f1 a (by omega)) p7
    have ia := L_isAs W1.1 W1.2.1 RO1 T1 p8 p9 h26'
    obtain ⟨M2, e2⟩ := lawU hk u n f M1 (by omega) (by omega) R1 P1 h26'
    refine ⟨M2, ?_⟩
    have hle : ¬ nI (u + 1) ≤ 0 := by rw [hy_0, hy_le (by omega) (by omega)]; omega
    have e1 : nI (u + 1) + Int32.ofInt (-1) = nI u := hy_dec u
    have e3 : nI (n + 1) - 1 = nI n := by rw [hy_1, hy_sub (by omega)]; rfl
    have e4 : nI n + Int32.ofInt (-1) = nI n - 1 := by
      show nI n + (-1) = nI n - 1
      grind
    rw [f_lawU, if_neg hle, e, hy_cts, e1, e3, show (nI u == nI u) = true from beq_self_eq_true _, hy_gt, hy_in (by omega) (by omega), hy_gt, hy_c (by omega), f1 190 (by omega), p4, p5, hy_gt, p6, ia, hy_cts, show hz_nz (1 : Int32) = true from by decide, hy_gt, e4]
    exact e2
theorem lawE {qs : Nat → Nat → Int32} {q : Nat → Int32} {kept b : Nat} {pb : Nat → Nat} {rf : Int32} {M : hz_M} (hk : kept ≤ 36) (h : hLS b M q qs kept rf) (P : Past M qs kept b pb) : ∃ M', f_lawE b kept rf M = some (1, M') := by
  obtain ⟨W, T, N, E, R, G, F⟩ := h
  have ia := L_isAs W.1 W.2.1 R T N E F
  have R8 := Ring_Rg G
  obtain ⟨M', e⟩ := lawU hk (if kept < 8 then kept else 8) kept hz_FU M (hy_FU (by split <;> omega)) (Nat.le_refl _) R8 P F
  refine ⟨M', ?_⟩
  have e8 : (if nI kept < 8 then nI kept else 8) = nI (if kept < 8 then kept else 8) := by
    have el : (nI kept < 8) = (kept < 8) := hy_lt (b := 8) (by omega) (by omega)
    by_cases c : kept < 8
    · rw [if_pos (by rw [el]; exact c), if_pos c]
    · rw [if_neg (by rw [el]; exact c), if_neg c]
      rfl
  unfold f_lawE
  rw [ia, hy_cts, show hz_nz (1 : Int32) = true from by decide, hy_gt, e8]
  exact e
