theorem hy_k16 : Int32.toNatClampNeg (16 : Int32) = 16 := by decide
theorem hy_stt (q : Nat → Int32) (k : Nat) (v w : Int32) : hy_st (hy_st q k v) k w = hy_st q k w := by
  funext b; unfold hy_st; split <;> rfl
theorem php : ∀ (m n : Nat) (f : Nat → Nat), (∀ i, i < n → f i < m) → (∀ i j, i < n → j < n → f i = f j → i = j) → n ≤ m
  | 0, n, f, h1, _ => by
    by_cases e : n = 0
    · omega
    · have := h1 0 (by omega); omega
  | m + 1, 0, f, _, _ => by omega
  | m + 1, n + 1, f, h1, h2 => by
    have := php m n (fun i => if f i = m then f n else f i) (fun i hi => by
      show (if f i = m then f n else f i) < m
      have a := h1 i (by omega)
      have b := h1 n (by omega)
      split
      · rename_i e
        have : f n ≠ m := fun e2 => by have := h2 i n (by omega) (by omega) (by rw [e, e2]); omega
        omega
      · omega) (fun i j hi hj e => by
      have e' : (if f i = m then f n else f i) = (if f j = m then f n else f j) := e
      by_cases a : f i = m <;> by_cases b : f j = m
      · exact h2 i j (by omega) (by omega) (by rw [a, b])
      · rw [if_pos a, if_neg b] at e'
        have := h2 n j (by omega) (by omega) e'; omega
      · rw [if_neg a, if_pos b] at e'
        have := h2 i n (by omega) (by omega) e'; omega
      · rw [if_neg a, if_neg b] at e'
        exact h2 i j (by omega) (by omega) e')
    omega
theorem frP_ok {q : Nat → Int32} (hZ : hy_Z q) {t : Nat} (ht : t < tz q) (hb : q (153 + 2 * t + 1) = -1) : ∃ p, p < pz q ∧ frP q = nI p ∧ tw q p = -1 := by
  rcases frP_al (q := q) with ⟨_, h2⟩ | h
  · exfalso
    have hz := hZ.2.2.1.2.2
    have hz2 := hZ.2.2.2.1.2
    have key : ∀ p, p < pz q → ∃ i, i < tz q ∧ tw q p = nI i ∧ q (153 + 2 * i + 1) = nI p := fun p hp => by
      rcases tw_al hZ p with e | e
      · exact absurd e (h2 p hp)
      · exact e
    have := php (tz q) (pz q + 1) (fun p => if p = pz q then t else Int32.toNatClampNeg (tw q p)) (fun i hi => by
      show (if i = pz q then t else Int32.toNatClampNeg (tw q i)) < tz q
      split
      · exact ht
      · obtain ⟨k, hk, e, _⟩ := key i (by omega)
        rw [e, hy_c (by omega)]; exact hk) (fun i j hi hj e => by
      have e' : (if i = pz q then t else Int32.toNatClampNeg (tw q i)) = (if j = pz q then t else Int32.toNatClampNeg (tw q j)) := e
      by_cases a : i = pz q <;> by_cases b : j = pz q
      · omega
      · rw [if_pos a, if_neg b] at e'
        obtain ⟨k, hk, e1, e2⟩ := key j (by omega)
        rw [e1, hy_c (by omega)] at e'
        rw [← e', hb, hy_n1' (by omega)] at e2; exact absurd e2 not_false
      · rw [if_neg a, if_pos b] at e'
        obtain ⟨k, hk, e1, e2⟩ := key i (by omega)
        rw [e1, hy_c (by omega)] at e'
        rw [e', hb, hy_n1' (by omega)] at e2; exact absurd e2 not_false
      · rw [if_neg a, if_neg b] at e'
        obtain ⟨k, hk, e1, e2⟩ := key i (by omega)
        obtain ⟨k2, hk2, e3, e4⟩ := key j (by omega)
        rw [e1, e3, hy_c (by omega), hy_c (by omega)] at e'
        rw [e', e4, hy_eq (by omega) (by omega)] at e2; exact e2.symm)
    omega
  · exact h

theorem n_goT {M : hz_M} {g l nl t nt : Nat} (hg : g < 16) (hl : l < nl) (hnl : nl ≤ 12) (ht : t < nt) (hnt : nt ≤ 16) (h6 : M 1 6 = nI nt) (h4 : M 1 4 = nI nl) (h14 : M 14 g = nI l) (h15 : M 15 g = nI t) :
    f_X1_letGo (nI g) M = some (nI l, (hz_set (hz_set (hz_set (hz_set (hz_set (hz_set M 19 (l) (-1)) 22 (t) (-1)) 14 (g) (-1)) 15 (g) (-1)) 13 (g) (-1)) 24 1 (M 24 1 + 1))) := by
  simp (disch := omega) only [f_X1_letGo, h14, h15, n_isLocker h4 (by omega) hl, n_isTowel (M := hz_set M 19 l (-1)) (n := nt) (p := t) (by simp (disch := omega) only [hy_seto]; exact h6) (by omega) ht, hy_k1, hy_seto, hy_in, hy_c, hy_gt, hy_cts, hy_lt', hy_jn, hy_lm, hy_f10, if_false, if_true]
theorem o_hearT {M : hz_M} {q : Nat → Int32} {g t l : Nat} (W : hy_W M q) (hg : g < gz q) (ht : t < tz q) (hl : l < lz q) (hhg : q (25 + 8 * g + 4) = nI t) (hlg : q (25 + 8 * g + 3) = nI l) (hw : q (25 + 8 * g + 6) = nI 2) (h10 : q 10 ≠ -1) (h11 : ¬ q 10 + q 7 ≤ q 8) :
    ∃ M', f_X1_hear (nI g) M = some (3, M') ∧ (∀ a, (a < 11 ∨ 24 < a) → M' a = M a) ∧ hy_W M' (hy_st (hy_st (hy_st (hy_st (hy_st (hy_st (hy_st (hy_st q (25 + 8 * g + 4) (-1)) (25 + 8 * g + 3) (-1)) (25 + 8 * g + 2) (-1)) (25 + 8 * g + 6) (nI 0)) (25 + 8 * g + 7) (q 8 / 600)) (12 + 3) (q 15 + 1)) (12 + 1) (q 13 + 1)) (12 + 2) (q 14 + 1)) := by
  have W0 := W
  obtain ⟨hC, hQ, hX⟩ := W
  have hC0 := hC
  obtain ⟨hZ, ⟨b3, b4, b5, b6, b7, b8, bag, bnm⟩, hRR⟩ := hC
  have hZ0 := hZ
  obtain ⟨⟨s1, s2, s3, s4, s5, s6⟩, ra, ro, rp, rl, rt, rs, rw', rd, rwt, rpg, rk, rh, rtw⟩ := c_rows hRR
  obtain ⟨⟨z1, z2⟩, ⟨z3, z4, z5⟩, ⟨z6, z7, z8⟩, ⟨z9, z10⟩, ⟨z11, z12, z13⟩, ⟨z14, z15, z16⟩⟩ := hZ
  rw [z1] at b3; rw [z3] at b4; rw [z6] at b5; rw [z9] at b6; rw [z11] at b7; rw [z14] at b8
  obtain ⟨qa, qat, ql, qh, qs, qw, qwt, qpg, jl, jh, jp, qo, qol, qhp, qht, qrm, qgn, qqt, qop⟩ := hQ
  have ra1 : M 24 1 = q 13 := ra 1 (by omega)
  have ra2 : M 24 2 = q 14 := ra 2 (by omega)
  have ra3 : M 24 3 = q 15 := ra 3 (by omega)
  have w17 := rw' g hg
  rw [hw] at w17
  refine ⟨(hz_set (hz_set (hz_set (hz_set (hz_set (hz_set (hz_set (hz_set (hz_set (hz_set (hz_set M 17 (g) (nI 3)) 24 (3) (q 15 + 1)) 19 (l) (-1)) 22 (t) (-1)) 14 (g) (-1)) 15 (g) (-1)) 13 (g) (-1)) 24 (1) (q 13 + 1)) 17 (g) (nI 0)) 18 (g) (q 8 / 600)) 24 (2) (q 14 + 1)), ?_, ?_, ?_⟩
  · have sil := c_silence hC0
    rw [if_neg h10, if_neg h11] at sil
    have e3 : nI 2 + 1 = nI 3 := rfl
    have e4 : ((3 : Int32) ≤ nI 3) = True := eq_true (by decide)
    have go := n_goT (M := hz_set (hz_set M 17 g (nI 3)) 24 3 (q 15 + 1)) (g := g) (l := l) (t := t) (nt := tz q) (nl := lz q) (by omega) hl (by omega) ht (by omega) (by simp (disch := omega) only [hy_seto]; exact b6) (by simp (disch := omega) only [hy_seto]; exact b4) (by simp (disch := omega) only [hy_seto]; rw [rl g hg, hlg]) (by simp (disch := omega) only [hy_seto]; rw [rt g hg, hhg])
    simp (disch := omega) only [hy_setn, hy_seto, ra1] at go
    simp (disch := omega) only [f_X1_hear, sil, w17, e3, e4, hy_k3, hy_k2, hy_k1, ra3, hy_setk, hy_setn, hy_seto, go, f_X7_day, s1, ra1, ra2, hy_in, hy_c, hy_gt, hy_cts, hy_lt', hy_jn, hy_lm, hy_f10, if_false, if_true]
    rfl
  · intro a ha; simp (disch := omega) only [hy_seto]
  · generalize hM' : (hz_set (hz_set (hz_set (hz_set (hz_set (hz_set (hz_set (hz_set (hz_set (hz_set (hz_set M 17 (g) (nI 3)) 24 (3) (q 15 + 1)) 19 (l) (-1)) 22 (t) (-1)) 14 (g) (-1)) 15 (g) (-1)) 13 (g) (-1)) 24 (1) (q 13 + 1)) 17 (g) (nI 0)) 18 (g) (q 8 / 600)) 24 (2) (q 14 + 1)) = M'
    have r19 : M' 19 = hy_st (M 19) (l) (-1) := by subst hM'; simp (disch := omega) only [hy_seto, hy_srow]
    have r22 : M' 22 = hy_st (M 22) (t) (-1) := by subst hM'; simp (disch := omega) only [hy_seto, hy_srow]
    have r14 : M' 14 = hy_st (M 14) (g) (-1) := by subst hM'; simp (disch := omega) only [hy_seto, hy_srow]
    have r15 : M' 15 = hy_st (M 15) (g) (-1) := by subst hM'; simp (disch := omega) only [hy_seto, hy_srow]
    have r13 : M' 13 = hy_st (M 13) (g) (-1) := by subst hM'; simp (disch := omega) only [hy_seto, hy_srow]
    have r17 : M' 17 = hy_st (M 17) g (nI 0) := by subst hM'; simp (disch := omega) only [hy_seto, hy_srow, hy_stt]
    have r18 : M' 18 = hy_st (M 18) g (q 8 / 600) := by subst hM'; simp (disch := omega) only [hy_seto, hy_srow]
    have r24 : M' 24 = hy_st (hy_st (hy_st (M 24) 3 (q 15 + 1)) 1 (q 13 + 1)) 2 (q 14 + 1) := by subst hM'; simp (disch := omega) only [hy_seto, hy_srow]
    have rO : ∀ a, a ≠ 22 → a ≠ 15 → a ≠ 19 → a ≠ 14 → a ≠ 13 → a ≠ 17 → a ≠ 18 → a ≠ 24 → M' a = M a := by
      intro a n22 n15 n19 n14 n13 n17 n18 n24; subst hM'; simp (disch := omega) only [hy_seto]
    have W1 : hy_W (ov [22, 15] M' M) (hy_st q (25 + 8 * g + 4) (-1)) := p_dropT W0 hg ht hhg
      (fun a a22 a15 => by simp only [ov, List.mem_cons, List.not_mem_nil, a22, a15, false_or, or_false, if_false])
      (by simp [ov, r22])
      (by simp [ov, r15])
      (fun k c0 => by simp only [hy_st, c0, if_false])
      (by simp (disch := omega) only [hy_so, hy_ss])
    have W2 : hy_W (ov [22, 15, 19, 14, 13] M' M) (hy_st (hy_st (hy_st q (25 + 8 * g + 4) (-1)) (25 + 8 * g + 3) (-1)) (25 + 8 * g + 2) (-1)) := p_dropL W1 (by simp (disch := omega) only [gz_st, lz_st, pz_st, tz_st, vz_st, sz_st, hy_so]; exact hg) (by simp (disch := omega) only [gz_st, lz_st, pz_st, tz_st, vz_st, sz_st, hy_so]; exact hl) (by simp (disch := omega) only [hy_ss]) (by simp (disch := omega) only [gz_st, lz_st, pz_st, tz_st, vz_st, sz_st, hy_so]; exact hlg)
      (fun a a19 a14 a13 => by simp only [ov, List.mem_cons, List.not_mem_nil, a19, a14, a13, false_or, or_false, if_false])
      (by simp [ov, r19])
      (by simp [ov, r14])
      (by simp [ov, r13])
      (fun k c0 c1 => by simp only [hy_st, c0, c1, if_false])
      (by simp (disch := omega) only [hy_so, hy_ss])
      (by simp (disch := omega) only [hy_so, hy_ss])
    have W3 : hy_W (ov [22, 15, 19, 14, 13, 17] M' M) (hy_st (hy_st (hy_st (hy_st q (25 + 8 * g + 4) (-1)) (25 + 8 * g + 3) (-1)) (25 + 8 * g + 2) (-1)) (25 + 8 * g + 6) (nI 0)) := p_wrn W2 (k := 0) (by simp (disch := omega) only [gz_st, lz_st, pz_st, tz_st, vz_st, sz_st, hy_so]; exact hg) (by omega)
      (fun a a17 => by simp only [ov, List.mem_cons, List.not_mem_nil, a17, false_or, or_false, if_false])
      (by simp [ov, r17])
      (fun k c0 => by simp only [hy_st, c0, if_false])
      (by simp (disch := omega) only [hy_so, hy_ss])
    have W4 : hy_W (ov [22, 15, 19, 14, 13, 17, 18] M' M) (hy_st (hy_st (hy_st (hy_st (hy_st q (25 + 8 * g + 4) (-1)) (25 + 8 * g + 3) (-1)) (25 + 8 * g + 2) (-1)) (25 + 8 * g + 6) (nI 0)) (25 + 8 * g + 7) (q 8 / 600)) := p_sent W3 (v := q 8 / 600) (by simp (disch := omega) only [gz_st, lz_st, pz_st, tz_st, vz_st, sz_st, hy_so]; exact hg)
      (fun a a18 => by simp only [ov, List.mem_cons, List.not_mem_nil, a18, false_or, or_false, if_false])
      (by simp [ov, r18])
      (fun k c0 => by simp only [hy_st, c0, if_false])
      (by simp (disch := omega) only [hy_so, hy_ss])
    have oA : (ov [22, 15, 19, 14, 13, 17, 18] M' M) 24 = M 24 := by simp [ov]
    have WA : hy_W (hy_row (ov [22, 15, 19, 14, 13, 17, 18] M' M) 24 (hy_st (M 24) 3 (q 15 + 1))) (hy_st (hy_st (hy_st (hy_st (hy_st (hy_st q (25 + 8 * g + 4) (-1)) (25 + 8 * g + 3) (-1)) (25 + 8 * g + 2) (-1)) (25 + 8 * g + 6) (nI 0)) (25 + 8 * g + 7) (q 8 / 600)) (12 + 3) (q 15 + 1)) := p_acc (g := 3) (v := q 15 + 1) W4 (by omega) (fun a h => hy_ro _ _ h) (by rw [hy_rs, oA]) (fun k c0 => by simp only [hy_st, c0, if_false]) (by simp (disch := omega) only [hy_so, hy_ss])
    have WB : hy_W (hy_row (hy_row (ov [22, 15, 19, 14, 13, 17, 18] M' M) 24 (hy_st (M 24) 3 (q 15 + 1))) 24 (hy_st (hy_st (M 24) 3 (q 15 + 1)) 1 (q 13 + 1))) (hy_st (hy_st (hy_st (hy_st (hy_st (hy_st (hy_st q (25 + 8 * g + 4) (-1)) (25 + 8 * g + 3) (-1)) (25 + 8 * g + 2) (-1)) (25 + 8 * g + 6) (nI 0)) (25 + 8 * g + 7) (q 8 / 600)) (12 + 3) (q 15 + 1)) (12 + 1) (q 13 + 1)) := p_acc (g := 1) (v := q 13 + 1) WA (by omega) (fun a h => hy_ro _ _ h) (by rw [hy_rs, hy_rs]) (fun k c0 => by simp only [hy_st, c0, if_false]) (by simp (disch := omega) only [hy_so, hy_ss])
    refine p_acc (g := 2) (v := q 14 + 1) WB (by omega) (fun a h => ?_) (by rw [hy_rs, r24]) (fun k c0 => by simp only [hy_st, c0, if_false]) (by simp (disch := omega) only [hy_so, hy_ss])
    rw [hy_ro _ _ h, hy_ro _ _ h]
    by_cases hS : a ∈ [22, 15, 19, 14, 13, 17, 18]
    · simp only [ov, hS, if_true]
    · simp only [ov, hS, if_false]; simp only [List.mem_cons, List.not_mem_nil, or_false, not_or] at hS; exact rO a (by omega) (by omega) (by omega) (by omega) (by omega) (by omega) (by omega) h
theorem n_goN {M : hz_M} {g l nl : Nat} (hg : g < 16) (hl : l < nl) (hnl : nl ≤ 12)  (h4 : M 1 4 = nI nl) (h14 : M 14 g = nI l) (h15 : M 15 g = -1) :
    f_X1_letGo (nI g) M = some (nI l, (hz_set (hz_set (hz_set (hz_set (hz_set M 19 (l) (-1)) 14 (g) (-1)) 15 (g) (-1)) 13 (g) (-1)) 24 1 (M 24 1 + 1))) := by
  simp (disch := omega) only [f_X1_letGo, h14, h15, n_isLocker h4 (by omega) hl, c_isTowelN (M := hz_set M 19 l (-1)) (-1) (by decide), hy_k1, hy_seto, hy_in, hy_c, hy_gt, hy_cts, hy_lt', hy_jn, hy_lm, hy_f10, if_false, if_true]
theorem o_hearN {M : hz_M} {q : Nat → Int32} {g l : Nat} (W : hy_W M q) (hg : g < gz q)  (hl : l < lz q) (hhg : q (25 + 8 * g + 4) = -1) (hlg : q (25 + 8 * g + 3) = nI l) (hw : q (25 + 8 * g + 6) = nI 2) (h10 : q 10 ≠ -1) (h11 : ¬ q 10 + q 7 ≤ q 8) :
    ∃ M', f_X1_hear (nI g) M = some (3, M') ∧ (∀ a, (a < 11 ∨ 24 < a) → M' a = M a) ∧ hy_W M' (hy_st (hy_st (hy_st (hy_st (hy_st (hy_st (hy_st (hy_st q (25 + 8 * g + 4) (-1)) (25 + 8 * g + 3) (-1)) (25 + 8 * g + 2) (-1)) (25 + 8 * g + 6) (nI 0)) (25 + 8 * g + 7) (q 8 / 600)) (12 + 3) (q 15 + 1)) (12 + 1) (q 13 + 1)) (12 + 2) (q 14 + 1)) := by
  have W0 := W
  obtain ⟨hC, hQ, hX⟩ := W
  have hC0 := hC
  obtain ⟨hZ, ⟨b3, b4, b5, b6, b7, b8, bag, bnm⟩, hRR⟩ := hC
  have hZ0 := hZ
  obtain ⟨⟨s1, s2, s3, s4, s5, s6⟩, ra, ro, rp, rl, rt, rs, rw', rd, rwt, rpg, rk, rh, rtw⟩ := c_rows hRR
  obtain ⟨⟨z1, z2⟩, ⟨z3, z4, z5⟩, ⟨z6, z7, z8⟩, ⟨z9, z10⟩, ⟨z11, z12, z13⟩, ⟨z14, z15, z16⟩⟩ := hZ
  rw [z1] at b3; rw [z3] at b4; rw [z6] at b5; rw [z9] at b6; rw [z11] at b7; rw [z14] at b8
  obtain ⟨qa, qat, ql, qh, qs, qw, qwt, qpg, jl, jh, jp, qo, qol, qhp, qht, qrm, qgn, qqt, qop⟩ := hQ
  have ra1 : M 24 1 = q 13 := ra 1 (by omega)
  have ra2 : M 24 2 = q 14 := ra 2 (by omega)
  have ra3 : M 24 3 = q 15 := ra 3 (by omega)
  have w17 := rw' g hg
  rw [hw] at w17
  refine ⟨(hz_set (hz_set (hz_set (hz_set (hz_set (hz_set (hz_set (hz_set (hz_set (hz_set M 17 (g) (nI 3)) 24 (3) (q 15 + 1)) 19 (l) (-1)) 14 (g) (-1)) 15 (g) (-1)) 13 (g) (-1)) 24 (1) (q 13 + 1)) 17 (g) (nI 0)) 18 (g) (q 8 / 600)) 24 (2) (q 14 + 1)), ?_, ?_, ?_⟩
  · have sil := c_silence hC0
    rw [if_neg h10, if_neg h11] at sil
    have e3 : nI 2 + 1 = nI 3 := rfl
    have e4 : ((3 : Int32) ≤ nI 3) = True := eq_true (by decide)
    have go := n_goN (M := hz_set (hz_set M 17 g (nI 3)) 24 3 (q 15 + 1)) (g := g) (l := l)  (nl := lz q) (by omega) hl (by omega)  (by simp (disch := omega) only [hy_seto]; exact b4) (by simp (disch := omega) only [hy_seto]; rw [rl g hg, hlg]) (by simp (disch := omega) only [hy_seto]; rw [rt g hg, hhg])
    simp (disch := omega) only [hy_setn, hy_seto, ra1] at go
    simp (disch := omega) only [f_X1_hear, sil, w17, e3, e4, hy_k3, hy_k2, hy_k1, ra3, hy_setk, hy_setn, hy_seto, go, f_X7_day, s1, ra1, ra2, hy_in, hy_c, hy_gt, hy_cts, hy_lt', hy_jn, hy_lm, hy_f10, if_false, if_true]
    rfl
  · intro a ha; simp (disch := omega) only [hy_seto]
  · generalize hM' : (hz_set (hz_set (hz_set (hz_set (hz_set (hz_set (hz_set (hz_set (hz_set (hz_set M 17 (g) (nI 3)) 24 (3) (q 15 + 1)) 19 (l) (-1)) 14 (g) (-1)) 15 (g) (-1)) 13 (g) (-1)) 24 (1) (q 13 + 1)) 17 (g) (nI 0)) 18 (g) (q 8 / 600)) 24 (2) (q 14 + 1)) = M'
    have r19 : M' 19 = hy_st (M 19) (l) (-1) := by subst hM'; simp (disch := omega) only [hy_seto, hy_srow]
    have r14 : M' 14 = hy_st (M 14) (g) (-1) := by subst hM'; simp (disch := omega) only [hy_seto, hy_srow]
    have r15 : M' 15 = hy_st (M 15) (g) (-1) := by subst hM'; simp (disch := omega) only [hy_seto, hy_srow]
    have r13 : M' 13 = hy_st (M 13) (g) (-1) := by subst hM'; simp (disch := omega) only [hy_seto, hy_srow]
    have r17 : M' 17 = hy_st (M 17) g (nI 0) := by subst hM'; simp (disch := omega) only [hy_seto, hy_srow, hy_stt]
    have r18 : M' 18 = hy_st (M 18) g (q 8 / 600) := by subst hM'; simp (disch := omega) only [hy_seto, hy_srow]
    have r24 : M' 24 = hy_st (hy_st (hy_st (M 24) 3 (q 15 + 1)) 1 (q 13 + 1)) 2 (q 14 + 1) := by subst hM'; simp (disch := omega) only [hy_seto, hy_srow]
    have rO : ∀ a, a ≠ 15 → a ≠ 19 → a ≠ 14 → a ≠ 13 → a ≠ 17 → a ≠ 18 → a ≠ 24 → M' a = M a := by
      intro a n15 n19 n14 n13 n17 n18 n24; subst hM'; simp (disch := omega) only [hy_seto]
    have W1 : hy_W (ov [15] M' M) (hy_st q (25 + 8 * g + 4) (-1)) := p_noT W0 hg hhg
      (fun a a15 => by simp only [ov, List.mem_cons, List.not_mem_nil, a15, false_or, or_false, if_false])
      (by simp [ov, r15])
      (fun k c0 => by simp only [hy_st, c0, if_false])
      (by simp (disch := omega) only [hy_so, hy_ss])
    have W2 : hy_W (ov [15, 19, 14, 13] M' M) (hy_st (hy_st (hy_st q (25 + 8 * g + 4) (-1)) (25 + 8 * g + 3) (-1)) (25 + 8 * g + 2) (-1)) := p_dropL W1 (by simp (disch := omega) only [gz_st, lz_st, pz_st, tz_st, vz_st, sz_st, hy_so]; exact hg) (by simp (disch := omega) only [gz_st, lz_st, pz_st, tz_st, vz_st, sz_st, hy_so]; exact hl) (by simp (disch := omega) only [hy_ss]) (by simp (disch := omega) only [gz_st, lz_st, pz_st, tz_st, vz_st, sz_st, hy_so]; exact hlg)
      (fun a a19 a14 a13 => by simp only [ov, List.mem_cons, List.not_mem_nil, a19, a14, a13, false_or, or_false, if_false])
      (by simp [ov, r19])
      (by simp [ov, r14])
      (by simp [ov, r13])
      (fun k c0 c1 => by simp only [hy_st, c0, c1, if_false])
      (by simp (disch := omega) only [hy_so, hy_ss])
      (by simp (disch := omega) only [hy_so, hy_ss])
    have W3 : hy_W (ov [15, 19, 14, 13, 17] M' M) (hy_st (hy_st (hy_st (hy_st q (25 + 8 * g + 4) (-1)) (25 + 8 * g + 3) (-1)) (25 + 8 * g + 2) (-1)) (25 + 8 * g + 6) (nI 0)) := p_wrn W2 (k := 0) (by simp (disch := omega) only [gz_st, lz_st, pz_st, tz_st, vz_st, sz_st, hy_so]; exact hg) (by omega)
      (fun a a17 => by simp only [ov, List.mem_cons, List.not_mem_nil, a17, false_or, or_false, if_false])
      (by simp [ov, r17])
      (fun k c0 => by simp only [hy_st, c0, if_false])
      (by simp (disch := omega) only [hy_so, hy_ss])
    have W4 : hy_W (ov [15, 19, 14, 13, 17, 18] M' M) (hy_st (hy_st (hy_st (hy_st (hy_st q (25 + 8 * g + 4) (-1)) (25 + 8 * g + 3) (-1)) (25 + 8 * g + 2) (-1)) (25 + 8 * g + 6) (nI 0)) (25 + 8 * g + 7) (q 8 / 600)) := p_sent W3 (v := q 8 / 600) (by simp (disch := omega) only [gz_st, lz_st, pz_st, tz_st, vz_st, sz_st, hy_so]; exact hg)
      (fun a a18 => by simp only [ov, List.mem_cons, List.not_mem_nil, a18, false_or, or_false, if_false])
      (by simp [ov, r18])
      (fun k c0 => by simp only [hy_st, c0, if_false])
      (by simp (disch := omega) only [hy_so, hy_ss])
    have oA : (ov [15, 19, 14, 13, 17, 18] M' M) 24 = M 24 := by simp [ov]
    have WA : hy_W (hy_row (ov [15, 19, 14, 13, 17, 18] M' M) 24 (hy_st (M 24) 3 (q 15 + 1))) (hy_st (hy_st (hy_st (hy_st (hy_st (hy_st q (25 + 8 * g + 4) (-1)) (25 + 8 * g + 3) (-1)) (25 + 8 * g + 2) (-1)) (25 + 8 * g + 6) (nI 0)) (25 + 8 * g + 7) (q 8 / 600)) (12 + 3) (q 15 + 1)) := p_acc (g := 3) (v := q 15 + 1) W4 (by omega) (fun a h => hy_ro _ _ h) (by rw [hy_rs, oA]) (fun k c0 => by simp only [hy_st, c0, if_false]) (by simp (disch := omega) only [hy_so, hy_ss])
    have WB : hy_W (hy_row (hy_row (ov [15, 19, 14, 13, 17, 18] M' M) 24 (hy_st (M 24) 3 (q 15 + 1))) 24 (hy_st (hy_st (M 24) 3 (q 15 + 1)) 1 (q 13 + 1))) (hy_st (hy_st (hy_st (hy_st (hy_st (hy_st (hy_st q (25 + 8 * g + 4) (-1)) (25 + 8 * g + 3) (-1)) (25 + 8 * g + 2) (-1)) (25 + 8 * g + 6) (nI 0)) (25 + 8 * g + 7) (q 8 / 600)) (12 + 3) (q 15 + 1)) (12 + 1) (q 13 + 1)) := p_acc (g := 1) (v := q 13 + 1) WA (by omega) (fun a h => hy_ro _ _ h) (by rw [hy_rs, hy_rs]) (fun k c0 => by simp only [hy_st, c0, if_false]) (by simp (disch := omega) only [hy_so, hy_ss])
    refine p_acc (g := 2) (v := q 14 + 1) WB (by omega) (fun a h => ?_) (by rw [hy_rs, r24]) (fun k c0 => by simp only [hy_st, c0, if_false]) (by simp (disch := omega) only [hy_so, hy_ss])
    rw [hy_ro _ _ h, hy_ro _ _ h]
    by_cases hS : a ∈ [15, 19, 14, 13, 17, 18]
    · simp only [ov, hS, if_true]
    · simp only [ov, hS, if_false]; simp only [List.mem_cons, List.not_mem_nil, or_false, not_or] at hS; exact rO a (by omega) (by omega) (by omega) (by omega) (by omega) (by omega) h
theorem o_warn {M : hz_M} {q : Nat → Int32} {g k : Nat} (W : hy_W M q) (hg : g < gz q) (hk : k ≤ 1) (hw : q (25 + 8 * g + 6) = nI k) (h10 : q 10 ≠ -1) (h11 : ¬ q 10 + q 7 ≤ q 8) : ∃ M', f_X1_hear (nI g) M = some (nI (k + 1), M') ∧ (∀ a, (a < 11 ∨ 24 < a) → M' a = M a) ∧ hy_W M' (hy_st (hy_st q (25 + 8 * g + 6) (nI (k + 1))) (12 + 3) (q 15 + 1)) := by
  have W0 := W
  obtain ⟨hC, hQ, hX⟩ := W
  have hC0 := hC
  obtain ⟨hZ, ⟨b3, b4, b5, b6, b7, b8, bag, bnm⟩, hRR⟩ := hC
  have hZ0 := hZ
  obtain ⟨⟨s1, s2, s3, s4, s5, s6⟩, ra, ro, rp, rl, rt, rs, rw', rd, rwt, rpg, rk, rh, rtw⟩ := c_rows hRR
  obtain ⟨⟨z1, z2⟩, ⟨z3, z4, z5⟩, ⟨z6, z7, z8⟩, ⟨z9, z10⟩, ⟨z11, z12, z13⟩, ⟨z14, z15, z16⟩⟩ := hZ
  rw [z1] at b3; rw [z3] at b4; rw [z6] at b5; rw [z9] at b6; rw [z11] at b7; rw [z14] at b8
  obtain ⟨qa, qat, ql, qh, qs, qw, qwt, qpg, jl, jh, jp, qo, qol, qhp, qht, qrm, qgn, qqt, qop⟩ := hQ
  have ra3 : M 24 3 = q 15 := ra 3 (by omega)
  refine ⟨(hz_set (hz_set M 17 (g) (nI (k + 1))) 24 (3) (q 15 + 1)), ?_, ?_, ?_⟩
  · have sil := c_silence hC0
    rw [if_neg h10, if_neg h11] at sil
    have w17 := rw' g hg
    rw [hw] at w17
    have e4 : ¬ (3 : Int32) ≤ nI (k + 1) := by rw [show (3 : Int32) = nI 3 from rfl, hy_le (by omega) (by omega)]; omega
    simp (disch := omega) only [f_X1_hear, sil, w17, e4, hy_add1, hy_k3, ra3, hy_setk, hy_setn, hy_seto, hy_in, hy_c, hy_gt, hy_cts, hy_lt', hy_jn, hy_lm, hy_f10, if_false, if_true]
  · intro a ha; simp (disch := omega) only [hy_seto]
  · generalize hM' : (hz_set (hz_set M 17 (g) (nI (k + 1))) 24 (3) (q 15 + 1)) = M'
    have r17 : M' 17 = hy_st (M 17) (g) (nI (k + 1)) := by subst hM'; simp (disch := omega) only [hy_seto, hy_srow]
    have r24 : M' 24 = hy_st (M 24) (3) (q 15 + 1) := by subst hM'; simp (disch := omega) only [hy_seto, hy_srow]
    have rO : ∀ a, a ≠ 17 → a ≠ 24 → M' a = M a := by
      intro a n17 n24; subst hM'; simp (disch := omega) only [hy_seto]
    have W1 : hy_W (ov [17] M' M) (hy_st q (25 + 8 * g + 6) (nI (k + 1))) := p_wrn W0 (k := k + 1) hg (by omega)
      (fun a a17 => by simp only [ov, List.mem_cons, List.not_mem_nil, a17, false_or, or_false, if_false])
      (by simp [ov, r17])
      (fun k c0 => by simp only [hy_st, c0, if_false])
      (by simp (disch := omega) only [hy_so, hy_ss])
    have W2 : hy_W M' (hy_st (hy_st q (25 + 8 * g + 6) (nI (k + 1))) (12 + 3) (q 15 + 1)) := p_acc W1 (g := 3) (v := q 15 + 1) (by omega)
      (fun a a24 => by
        by_cases hS : a ∈ [17]
        · simp only [ov, hS, if_true]
        · simp only [ov, hS, if_false]; simp only [List.mem_cons, List.not_mem_nil, or_false, not_or] at hS; exact rO a (by omega) a24)
      (by simp [ov, r24])
      (fun k c0 => by simp only [hy_st, c0, if_false])
      (by simp (disch := omega) only [hy_so, hy_ss])
    exact W2
theorem o_mute {M : hz_M} {q : Nat → Int32} {g : Nat} (W : hy_W M q) (hg : g < gz q) (h : q 10 = -1 ∨ q 10 + q 7 ≤ q 8) : f_X1_hear (nI g) M = some (q (25 + 8 * g + 6), M) := by
  have W0 := W
  obtain ⟨hC, hQ, hX⟩ := W
  have hC0 := hC
  obtain ⟨hZ, ⟨b3, b4, b5, b6, b7, b8, bag, bnm⟩, hRR⟩ := hC
  have hZ0 := hZ
  obtain ⟨⟨s1, s2, s3, s4, s5, s6⟩, ra, ro, rp, rl, rt, rs, rw', rd, rwt, rpg, rk, rh, rtw⟩ := c_rows hRR
  obtain ⟨⟨z1, z2⟩, ⟨z3, z4, z5⟩, ⟨z6, z7, z8⟩, ⟨z9, z10⟩, ⟨z11, z12, z13⟩, ⟨z14, z15, z16⟩⟩ := hZ
  rw [z1] at b3; rw [z3] at b4; rw [z6] at b5; rw [z9] at b6; rw [z11] at b7; rw [z14] at b8
  obtain ⟨qa, qat, ql, qh, qs, qw, qwt, qpg, jl, jh, jp, qo, qol, qhp, qht, qrm, qgn, qqt, qop⟩ := hQ
  have sil := c_silence hC0
  have e : (if q 10 = -1 then (0 : Int32) else if q 10 + q 7 ≤ q 8 then 0 else 1) = 0 := by
    rcases h with h | h
    · rw [if_pos h]
    · rw [if_pos h]; split <;> rfl
  rw [e] at sil
  simp (disch := omega) only [f_X1_hear, sil, rw' g hg, hy_in, hy_c, hy_gt, hy_cts, hy_lt', hy_jn, hy_lm, hy_f10, if_false, if_true]
/-- washing, towel by towel -/
def wsh (q : Nat → Int32) (i : Nat) : Nat → Int32 := if isB q i = true then hy_st (hy_st q (153 + 2 * i + 1) (frP q)) (153 + 2 * i) (nI 0) else q
def wshN : (Nat → Int32) → Nat → Nat → (Nat → Int32)
  | q, 0, _ => q
  | q, k + 1, i => wshN (wsh q i) k (i + 1)
def wcn : (Nat → Int32) → Nat → Nat → Int32 → Int32
  | _, 0, _, c => c
  | q, k + 1, i, c => wcn (wsh q i) k (i + 1) (if isB q i = true then c + 1 else c)
theorem wsh_tz (q : Nat → Int32) (i : Nat) : tz (wsh q i) = tz q := by
  unfold wsh; split
  · simp (disch := omega) only [tz_st]
  · rfl
theorem wsh_Z {q : Nat → Int32} (hZ : hy_Z q) (i : Nat) : hy_Z (wsh q i) := by
  unfold wsh; split
  · unfold hy_Z at *
    simp (disch := omega) only [gz_st, lz_st, pz_st, tz_st, vz_st, sz_st, hy_so]
    exact hZ
  · exact hZ
theorem o_wsh1 {M : hz_M} {q : Nat → Int32} {t p : Nat} (W : hy_W M q) (ht : t < tz q) (hb : isB q t = true) (hp : p < pz q) (hf : frP q = nI p) (htw : tw q p = -1) :
    ∃ M', M' = hz_set (hz_set (hz_set (hz_set M 20 t (nI 0)) 23 p (nI t)) 21 t (nI p)) 22 t (-1) ∧ (∀ a, (a < 11 ∨ 24 < a) → M' a = M a) ∧ hy_W M' (wsh q t) := by
  have W0 := W
  obtain ⟨hC, hQ, hX⟩ := W
  have hC0 := hC
  obtain ⟨hZ, ⟨b3, b4, b5, b6, b7, b8, bag, bnm⟩, hRR⟩ := hC
  have hZ0 := hZ
  obtain ⟨⟨s1, s2, s3, s4, s5, s6⟩, ra, ro, rp, rl, rt, rs, rw', rd, rwt, rpg, rk, rh, rtw⟩ := c_rows hRR
  obtain ⟨⟨z1, z2⟩, ⟨z3, z4, z5⟩, ⟨z6, z7, z8⟩, ⟨z9, z10⟩, ⟨z11, z12, z13⟩, ⟨z14, z15, z16⟩⟩ := hZ
  rw [z1] at b3; rw [z3] at b4; rw [z6] at b5; rw [z9] at b6; rw [z11] at b7; rw [z14] at b8
  obtain ⟨qa, qat, ql, qh, qs, qw, qwt, qpg, jl, jh, jp, qo, qol, qhp, qht, qrm, qgn, qqt, qop⟩ := hQ
  have hb2 : q (153 + 2 * t + 1) = -1 ∧ hld q t = -1 := of_decide_eq_true hb
  refine ⟨_, rfl, ?_, ?_⟩
  · intro a ha; simp (disch := omega) only [hy_seto]
  · generalize hM' : hz_set (hz_set (hz_set (hz_set M 20 t (nI 0)) 23 p (nI t)) 21 t (nI p)) 22 t (-1) = M'
    have r20 : M' 20 = hy_st (M 20) t (nI 0) := by subst hM'; simp (disch := omega) only [hy_seto, hy_srow]
    have r23 : M' 23 = hy_st (M 23) p (nI t) := by subst hM'; simp (disch := omega) only [hy_seto, hy_srow]
    have r21 : M' 21 = hy_st (M 21) t (nI p) := by subst hM'; simp (disch := omega) only [hy_seto, hy_srow]
    have r22 : M' 22 = hy_st (M 22) t (-1) := by subst hM'; simp (disch := omega) only [hy_seto, hy_srow]
    have rO : ∀ a, a ≠ 20 → a ≠ 23 → a ≠ 21 → a ≠ 22 → M' a = M a := by
      intro a n1 n2 n3 n4; subst hM'; simp (disch := omega) only [hy_seto]
    have e : wsh q t = hy_st (hy_st q (153 + 2 * t + 1) (nI p)) (153 + 2 * t) (nI 0) := by unfold wsh; rw [if_pos hb, hf]
    rw [e]
    have W1 : hy_W (ov [23, 21, 22] M' M) (hy_st q (153 + 2 * t + 1) (nI p)) := p_wash W0 ht hp hb2.1 hb2.2 htw
      (fun a a1 a2 a3 => by simp only [ov, List.mem_cons, List.not_mem_nil, a1, a2, a3, false_or, or_false, if_false])
      (by simp [ov, r23]) (by simp [ov, r21]) (by simp [ov, r22]) (fun k c0 => by simp only [hy_st, c0, if_false]) (by simp only [hy_ss])
    refine p_wet (k := 0) W1 (by simp (disch := omega) only [gz_st, lz_st, pz_st, tz_st, vz_st, sz_st]; exact ht) (by omega) (fun a h => ?_) (by simp [ov, r20]) (fun k c0 => by simp only [hy_st, c0, if_false]) (by simp only [hy_ss])
    by_cases hS : a ∈ [23, 21, 22]
    · simp only [ov, hS, if_true]
    · simp only [ov, hS, if_false]; simp only [List.mem_cons, List.not_mem_nil, or_false, not_or] at hS; exact rO a h (by omega) (by omega) (by omega)
theorem c_washL (kk : Int32 → hz_M → hz_O) : ∀ (k i f : Nat) (c : Int32) (M : hz_M) (q : Nat → Int32), hy_W M q → i + k = tz q → k < f →
    ∃ M', f_X1_washBasket_L4 kk f c (nI i) M = kk (wcn q k i c) M' ∧ (∀ a, (a < 11 ∨ 24 < a) → M' a = M a) ∧ hy_W M' (wshN q k i)
  | 0, i, f, c, M, q, W, hi, hf => by
    obtain ⟨f, rfl⟩ : ∃ e, f = e + 1 := ⟨f - 1, by omega⟩
    have e : i = tz q := by omega
    refine ⟨M, ?_, fun _ _ => rfl, W⟩
    have W0 := W
    obtain ⟨hC, hQ, hX⟩ := W
    have hC0 := hC
    obtain ⟨hZ, ⟨b3, b4, b5, b6, b7, b8, bag, bnm⟩, hRR⟩ := hC
    have hZ0 := hZ
    obtain ⟨⟨s1, s2, s3, s4, s5, s6⟩, ra, ro, rp, rl, rt, rs, rw', rd, rwt, rpg, rk, rh, rtw⟩ := c_rows hRR
    obtain ⟨⟨z1, z2⟩, ⟨z3, z4, z5⟩, ⟨z6, z7, z8⟩, ⟨z9, z10⟩, ⟨z11, z12, z13⟩, ⟨z14, z15, z16⟩⟩ := hZ
    rw [z1] at b3; rw [z3] at b4; rw [z6] at b5; rw [z9] at b6; rw [z11] at b7; rw [z14] at b8
    obtain ⟨qa, qat, ql, qh, qs, qw, qwt, qpg, jl, jh, jp, qo, qol, qhp, qht, qrm, qgn, qqt, qop⟩ := hQ
    unfold wcn
    simp (disch := omega) only [f_X1_washBasket_L4, b6, hy_le, e, Nat.le_refl, if_true]
  | k + 1, i, f, c, M, q, W, hi, hf => by
    obtain ⟨f, rfl⟩ : ∃ e, f = e + 1 := ⟨f - 1, by omega⟩
    have W0 := W
    obtain ⟨hC, hQ, hX⟩ := W
    have hC0 := hC
    obtain ⟨hZ, ⟨b3, b4, b5, b6, b7, b8, bag, bnm⟩, hRR⟩ := hC
    have hZ0 := hZ
    obtain ⟨⟨s1, s2, s3, s4, s5, s6⟩, ra, ro, rp, rl, rt, rs, rw', rd, rwt, rpg, rk, rh, rtw⟩ := c_rows hRR
    obtain ⟨⟨z1, z2⟩, ⟨z3, z4, z5⟩, ⟨z6, z7, z8⟩, ⟨z9, z10⟩, ⟨z11, z12, z13⟩, ⟨z14, z15, z16⟩⟩ := hZ
    rw [z1] at b3; rw [z3] at b4; rw [z6] at b5; rw [z9] at b6; rw [z11] at b7; rw [z14] at b8
    obtain ⟨qa, qat, ql, qh, qs, qw, qwt, qpg, jl, jh, jp, qo, qol, qhp, qht, qrm, qgn, qqt, qop⟩ := hQ
    have hi' : ¬ tz q ≤ i := by omega
    unfold wcn wshN
    simp (disch := omega) only [f_X1_washBasket_L4, b6, hy_le, hi', if_false, c_isB hC0 (t := i) (by omega), hy_cts, hy_jn, hy_lt', hy_add1]
    by_cases e : isB q i = true
    · have hb2 : q (153 + 2 * i + 1) = -1 ∧ hld q i = -1 := of_decide_eq_true e
      obtain ⟨p, hp, hf2, htw⟩ := frP_ok hZ0 (t := i) (by omega) hb2.1
      obtain ⟨M1, hM1, fr1, W1⟩ := o_wsh1 W0 (t := i) (by omega) e hp hf2 htw
      obtain ⟨M2, h2, fr2, W2⟩ := c_washL kk k (i + 1) f (c + 1) M1 (wsh q i) W1 (by rw [wsh_tz]; omega) (by omega)
      refine ⟨M2, ?_, fun a ha => by rw [fr2 a ha, fr1 a ha], W2⟩
      have a1 := c_frP hC0
      rw [hf2] at a1
      simp (disch := omega) only [e, if_true, hy_f10, if_false, a1, hy_cts, c_isPeg hC0 hp, n_put, hy_in, hy_c, hy_gt, hy_lm]
      rw [show (0 : Int32) = nI 0 from rfl, ← hM1]
      exact h2
    · simp only [e, if_false, if_true, hy_cts, c_isPegN (M := M) (-1) (by decide)]
      have e2 : wsh q i = q := by unfold wsh; rw [if_neg e]
      rw [e2]
      exact c_washL kk k (i + 1) f c M q W0 (by omega) (by omega)


