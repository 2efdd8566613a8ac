
/-! the orders' words -/
theorem hy_FU20 : ∃ m, hz_FU = m + 20 := ⟨99980, rfl⟩
theorem wd_ok : ∀ j, j < 11 → hz_wd (nI (j + 1)) = 3 + j ∧ hz_nn (nI (j + 1)) = true := by decide
theorem c_ord1 (kk : hz_M → hz_O) {Mc : hz_M} {j f : Nat} {v : Int32} (hj : j < 11) (h : f_X8_isWord (3 + j) Mc = some (v, Mc)) : f_X6_orderHere_L2 kk (f + 1) (nI j) Mc = if v = 0 then f_X6_orderHere_L2 kk f (nI (j + 1)) Mc else some (nI (j + 1), Mc) := by
  obtain ⟨w1, w2⟩ := wd_ok j hj
  have e : ¬ (11 : Int32) ≤ nI j := by rw [show (11 : Int32) = nI 11 from rfl, hy_le (by omega) (by omega)]; omega
  have n0 : ¬ nI (j + 1) = 0 := by rw [hy_0, hy_eq (by omega) (by omega)]; omega
  simp (disch := omega) only [f_X6_orderHere_L2, e, if_false, hy_in, hy_gt, hy_lt', hy_jn, hy_add1, n0, w1, w2, h, hy_cts]
theorem j_order {n : Nat} {Mc Mr : hz_M} (P : PJ n Mc Mr) (e : Mc 9 6 = 0) : (f_X6_orderHere Mc = some (0, Mc) ∧ f_X11_orderHere Mr = some (-1, Mr)) ∨ ∃ c, c ≤ 10 ∧ f_X6_orderHere Mc = some (nI (c + 1), Mc) ∧ f_X11_orderHere Mr = some (nI c, Mr) := by
  obtain ⟨m, hm⟩ := hy_FU20
  have w : ∀ j, j < 11 → ∃ v, f_X8_isWord (3 + j) Mc = some (v, Mc) ∧ f_X11_isWord (3 + j) Mr = some (v, Mr) := fun j hj => by
    obtain ⟨rc, rr, _, a2, a3, a4, _⟩ := j_isWord (w := 3 + j) (by omega) P
    have er := a4 e
    subst er
    exact ⟨rr, a2, a3⟩
  obtain ⟨v0, c0, r0⟩ := w 0 (by omega)
  obtain ⟨v1, c1, r1⟩ := w 1 (by omega)
  obtain ⟨v2, c2, r2⟩ := w 2 (by omega)
  obtain ⟨v3, c3, r3⟩ := w 3 (by omega)
  obtain ⟨v4, c4, r4⟩ := w 4 (by omega)
  obtain ⟨v5, c5, r5⟩ := w 5 (by omega)
  obtain ⟨v6, c6, r6⟩ := w 6 (by omega)
  obtain ⟨v7, c7, r7⟩ := w 7 (by omega)
  obtain ⟨v8, c8, r8⟩ := w 8 (by omega)
  obtain ⟨v9, c9, r9⟩ := w 9 (by omega)
  obtain ⟨v10, c10, r10⟩ := w 10 (by omega)
  unfold f_X6_orderHere f_X11_orderHere
  simp only [hy_jn]
  rw [hm, show (0 : Int32) = nI 0 from rfl]
  by_cases h0 : v0 = 0
  rotate_left
  · refine Or.inr ⟨0, by omega, ?_, ?_⟩
    · rw [c_ord1 _ (by omega) c0, if_neg h0]
    · rw [← show (0 : Int32) = nI 0 from rfl]
      simp only [show f_X11_isWord 3 Mr = some (v0, Mr) from r0, hy_cts, h0, if_true, if_false]
      first | rfl | skip
  by_cases h1 : v1 = 0
  rotate_left
  · refine Or.inr ⟨1, by omega, ?_, ?_⟩
    · rw [c_ord1 _ (by omega) c0, if_pos h0, c_ord1 _ (by omega) c1, if_neg h1]
    · rw [← show (0 : Int32) = nI 0 from rfl]
      simp only [show f_X11_isWord 3 Mr = some (v0, Mr) from r0, show f_X11_isWord 4 Mr = some (v1, Mr) from r1, hy_cts, h0, h1, if_true, if_false]
      first | rfl | skip
  by_cases h2 : v2 = 0
  rotate_left
  · refine Or.inr ⟨2, by omega, ?_, ?_⟩
    · rw [c_ord1 _ (by omega) c0, if_pos h0, c_ord1 _ (by omega) c1, if_pos h1, c_ord1 _ (by omega) c2, if_neg h2]
    · rw [← show (0 : Int32) = nI 0 from rfl]
      simp only [show f_X11_isWord 3 Mr = some (v0, Mr) from r0, show f_X11_isWord 4 Mr = some (v1, Mr) from r1, show f_X11_isWord 5 Mr = some (v2, Mr) from r2, hy_cts, h0, h1, h2, if_true, if_false]
      first | rfl | skip
  by_cases h3 : v3 = 0
  rotate_left
  · refine Or.inr ⟨3, by omega, ?_, ?_⟩
    · rw [c_ord1 _ (by omega) c0, if_pos h0, c_ord1 _ (by omega) c1, if_pos h1, c_ord1 _ (by omega) c2, if_pos h2, c_ord1 _ (by omega) c3, if_neg h3]
    · rw [← show (0 : Int32) = nI 0 from rfl]
      simp only [show f_X11_isWord 3 Mr = some (v0, Mr) from r0, show f_X11_isWord 4 Mr = some (v1, Mr) from r1, show f_X11_isWord 5 Mr = some (v2, Mr) from r2, show f_X11_isWord 6 Mr = some (v3, Mr) from r3, hy_cts, h0, h1, h2, h3, if_true, if_false]
      first | rfl | skip
  by_cases h4 : v4 = 0
  rotate_left
  · refine Or.inr ⟨4, by omega, ?_, ?_⟩
    · rw [c_ord1 _ (by omega) c0, if_pos h0, c_ord1 _ (by omega) c1, if_pos h1, c_ord1 _ (by omega) c2, if_pos h2, c_ord1 _ (by omega) c3, if_pos h3, c_ord1 _ (by omega) c4, if_neg h4]
    · rw [← show (0 : Int32) = nI 0 from rfl]
      simp only [show f_X11_isWord 3 Mr = some (v0, Mr) from r0, show f_X11_isWord 4 Mr = some (v1, Mr) from r1, show f_X11_isWord 5 Mr = some (v2, Mr) from r2, show f_X11_isWord 6 Mr = some (v3, Mr) from r3, show f_X11_isWord 7 Mr = some (v4, Mr) from r4, hy_cts, h0, h1, h2, h3, h4, if_true, if_false]
      first | rfl | skip
  by_cases h5 : v5 = 0
  rotate_left
  · refine Or.inr ⟨5, by omega, ?_, ?_⟩
    · rw [c_ord1 _ (by omega) c0, if_pos h0, c_ord1 _ (by omega) c1, if_pos h1, c_ord1 _ (by omega) c2, if_pos h2, c_ord1 _ (by omega) c3, if_pos h3, c_ord1 _ (by omega) c4, if_pos h4, c_ord1 _ (by omega) c5, if_neg h5]
    · rw [← show (0 : Int32) = nI 0 from rfl]
      simp only [show f_X11_isWord 3 Mr = some (v0, Mr) from r0, show f_X11_isWord 4 Mr = some (v1, Mr) from r1, show f_X11_isWord 5 Mr = some (v2, Mr) from r2, show f_X11_isWord 6 Mr = some (v3, Mr) from r3, show f_X11_isWord 7 Mr = some (v4, Mr) from r4, show f_X11_isWord 8 Mr = some (v5, Mr) from r5, hy_cts, h0, h1, h2, h3, h4, h5, if_true, if_false]
      first | rfl | skip
  by_cases h6 : v6 = 0
  rotate_left
  · refine Or.inr ⟨6, by omega, ?_, ?_⟩
    · rw [c_ord1 _ (by omega) c0, if_pos h0, c_ord1 _ (by omega) c1, if_pos h1, c_ord1 _ (by omega) c2, if_pos h2, c_ord1 _ (by omega) c3, if_pos h3, c_ord1 _ (by omega) c4, if_pos h4, c_ord1 _ (by omega) c5, if_pos h5, c_ord1 _ (by omega) c6, if_neg h6]
    · rw [← show (0 : Int32) = nI 0 from rfl]
      simp only [show f_X11_isWord 3 Mr = some (v0, Mr) from r0, show f_X11_isWord 4 Mr = some (v1, Mr) from r1, show f_X11_isWord 5 Mr = some (v2, Mr) from r2, show f_X11_isWord 6 Mr = some (v3, Mr) from r3, show f_X11_isWord 7 Mr = some (v4, Mr) from r4, show f_X11_isWord 8 Mr = some (v5, Mr) from r5, show f_X11_isWord 9 Mr = some (v6, Mr) from r6, hy_cts, h0, h1, h2, h3, h4, h5, h6, if_true, if_false]
      first | rfl | skip
  by_cases h7 : v7 = 0
  rotate_left
  · refine Or.inr ⟨7, by omega, ?_, ?_⟩
    · rw [c_ord1 _ (by omega) c0, if_pos h0, c_ord1 _ (by omega) c1, if_pos h1, c_ord1 _ (by omega) c2, if_pos h2, c_ord1 _ (by omega) c3, if_pos h3, c_ord1 _ (by omega) c4, if_pos h4, c_ord1 _ (by omega) c5, if_pos h5, c_ord1 _ (by omega) c6, if_pos h6, c_ord1 _ (by omega) c7, if_neg h7]
    · rw [← show (0 : Int32) = nI 0 from rfl]
      simp only [show f_X11_isWord 3 Mr = some (v0, Mr) from r0, show f_X11_isWord 4 Mr = some (v1, Mr) from r1, show f_X11_isWord 5 Mr = some (v2, Mr) from r2, show f_X11_isWord 6 Mr = some (v3, Mr) from r3, show f_X11_isWord 7 Mr = some (v4, Mr) from r4, show f_X11_isWord 8 Mr = some (v5, Mr) from r5, show f_X11_isWord 9 Mr = some (v6, Mr) from r6, show f_X11_isWord 10 Mr = some (v7, Mr) from r7, hy_cts, h0, h1, h2, h3, h4, h5, h6, h7, if_true, if_false]
      first | rfl | skip
  by_cases h8 : v8 = 0
  rotate_left
  · refine Or.inr ⟨8, by omega, ?_, ?_⟩
    · rw [c_ord1 _ (by omega) c0, if_pos h0, c_ord1 _ (by omega) c1, if_pos h1, c_ord1 _ (by omega) c2, if_pos h2, c_ord1 _ (by omega) c3, if_pos h3, c_ord1 _ (by omega) c4, if_pos h4, c_ord1 _ (by omega) c5, if_pos h5, c_ord1 _ (by omega) c6, if_pos h6, c_ord1 _ (by omega) c7, if_pos h7, c_ord1 _ (by omega) c8, if_neg h8]
    · rw [← show (0 : Int32) = nI 0 from rfl]
      simp only [show f_X11_isWord 3 Mr = some (v0, Mr) from r0, show f_X11_isWord 4 Mr = some (v1, Mr) from r1, show f_X11_isWord 5 Mr = some (v2, Mr) from r2, show f_X11_isWord 6 Mr = some (v3, Mr) from r3, show f_X11_isWord 7 Mr = some (v4, Mr) from r4, show f_X11_isWord 8 Mr = some (v5, Mr) from r5, show f_X11_isWord 9 Mr = some (v6, Mr) from r6, show f_X11_isWord 10 Mr = some (v7, Mr) from r7, show f_X11_isWord 11 Mr = some (v8, Mr) from r8, hy_cts, h0, h1, h2, h3, h4, h5, h6, h7, h8, if_true, if_false]
      first | rfl | skip
  by_cases h9 : v9 = 0
  rotate_left
  · refine Or.inr ⟨9, by omega, ?_, ?_⟩
    · rw [c_ord1 _ (by omega) c0, if_pos h0, c_ord1 _ (by omega) c1, if_pos h1, c_ord1 _ (by omega) c2, if_pos h2, c_ord1 _ (by omega) c3, if_pos h3, c_ord1 _ (by omega) c4, if_pos h4, c_ord1 _ (by omega) c5, if_pos h5, c_ord1 _ (by omega) c6, if_pos h6, c_ord1 _ (by omega) c7, if_pos h7, c_ord1 _ (by omega) c8, if_pos h8, c_ord1 _ (by omega) c9, if_neg h9]
    · rw [← show (0 : Int32) = nI 0 from rfl]
      simp only [show f_X11_isWord 3 Mr = some (v0, Mr) from r0, show f_X11_isWord 4 Mr = some (v1, Mr) from r1, show f_X11_isWord 5 Mr = some (v2, Mr) from r2, show f_X11_isWord 6 Mr = some (v3, Mr) from r3, show f_X11_isWord 7 Mr = some (v4, Mr) from r4, show f_X11_isWord 8 Mr = some (v5, Mr) from r5, show f_X11_isWord 9 Mr = some (v6, Mr) from r6, show f_X11_isWord 10 Mr = some (v7, Mr) from r7, show f_X11_isWord 11 Mr = some (v8, Mr) from r8, show f_X11_isWord 12 Mr = some (v9, Mr) from r9, hy_cts, h0, h1, h2, h3, h4, h5, h6, h7, h8, h9, if_true, if_false]
      first | rfl | skip
  by_cases h10 : v10 = 0
  rotate_left
  · refine Or.inr ⟨10, by omega, ?_, ?_⟩
    · rw [c_ord1 _ (by omega) c0, if_pos h0, c_ord1 _ (by omega) c1, if_pos h1, c_ord1 _ (by omega) c2, if_pos h2, c_ord1 _ (by omega) c3, if_pos h3, c_ord1 _ (by omega) c4, if_pos h4, c_ord1 _ (by omega) c5, if_pos h5, c_ord1 _ (by omega) c6, if_pos h6, c_ord1 _ (by omega) c7, if_pos h7, c_ord1 _ (by omega) c8, if_pos h8, c_ord1 _ (by omega) c9, if_pos h9, c_ord1 _ (by omega) c10, if_neg h10]
    · rw [← show (0 : Int32) = nI 0 from rfl]
      simp only [show f_X11_isWord 3 Mr = some (v0, Mr) from r0, show f_X11_isWord 4 Mr = some (v1, Mr) from r1, show f_X11_isWord 5 Mr = some (v2, Mr) from r2, show f_X11_isWord 6 Mr = some (v3, Mr) from r3, show f_X11_isWord 7 Mr = some (v4, Mr) from r4, show f_X11_isWord 8 Mr = some (v5, Mr) from r5, show f_X11_isWord 9 Mr = some (v6, Mr) from r6, show f_X11_isWord 10 Mr = some (v7, Mr) from r7, show f_X11_isWord 11 Mr = some (v8, Mr) from r8, show f_X11_isWord 12 Mr = some (v9, Mr) from r9, show f_X11_isWord 13 Mr = some (v10, Mr) from r10, hy_cts, h0, h1, h2, h3, h4, h5, h6, h7, h8, h9, h10, if_true, if_false]
      first | rfl | skip
  refine Or.inl ⟨?_, ?_⟩
  · rw [c_ord1 _ (by omega) c0, if_pos h0, c_ord1 _ (by omega) c1, if_pos h1, c_ord1 _ (by omega) c2, if_pos h2, c_ord1 _ (by omega) c3, if_pos h3, c_ord1 _ (by omega) c4, if_pos h4, c_ord1 _ (by omega) c5, if_pos h5, c_ord1 _ (by omega) c6, if_pos h6, c_ord1 _ (by omega) c7, if_pos h7, c_ord1 _ (by omega) c8, if_pos h8, c_ord1 _ (by omega) c9, if_pos h9, c_ord1 _ (by omega) c10, if_pos h10]
    have e11 : (11 : Int32) ≤ nI (10 + 1) := by decide
    simp only [f_X6_orderHere_L2, e11, if_true]
  · rw [← show (0 : Int32) = nI 0 from rfl]
    simp only [show f_X11_isWord 3 Mr = some (v0, Mr) from r0, show f_X11_isWord 4 Mr = some (v1, Mr) from r1, show f_X11_isWord 5 Mr = some (v2, Mr) from r2, show f_X11_isWord 6 Mr = some (v3, Mr) from r3, show f_X11_isWord 7 Mr = some (v4, Mr) from r4, show f_X11_isWord 8 Mr = some (v5, Mr) from r5, show f_X11_isWord 9 Mr = some (v6, Mr) from r6, show f_X11_isWord 10 Mr = some (v7, Mr) from r7, show f_X11_isWord 11 Mr = some (v8, Mr) from r8, show f_X11_isWord 12 Mr = some (v9, Mr) from r9, show f_X11_isWord 13 Mr = some (v10, Mr) from r10, hy_cts, h0, h1, h2, h3, h4, h5, h6, h7, h8, h9, h10, if_true]

/-- a guest told by name -/
theorem j_subj {n : Nat} {q : Nat → Int32} {Mc Mr : hz_M} (P : PJ n Mc Mr) (H : hy_Ho Mc q) (hz : gz q ≤ 16) (z1 : q 11 = nI (gz q)) : ∃ g v Mc' Mr', (hz_ct (f_X8_checkName Mc) fun r5 M6 => if (M6 9 6) = 0 then hz_ct (f_X3_guestNamed 1 (M6 9 3) (M6 9 4) M6) fun r9 M10 => hz_ct (f_X8_advance M10) fun r12 M13 => some (r9, M13) else some ((-1 : Int32), M6)) = some (g, Mc') ∧ f_X11_takesName Mr = some (v, Mr') ∧ PJ n Mc' Mr' ∧ FE Mc Mc' ∧ FH Mr Mr' ∧ (Mc' 9 6 = 0 → Mc 9 6 = 0 ∧ g = nmc Mc v) := by
  obtain ⟨v, C1, R1_, a1, a2, P1, fc, fr, a3⟩ := j_look P
  by_cases e : C1 9 6 = 0
  · obtain ⟨e0, rfl, rfl, s, e', hse, hen, h6, c3, c4, hl, hv⟩ := a3 e
    have er : R1_ 178 17 = 0 := by rw [← P1.2.2.1]; exact e
    obtain ⟨C2, R2, b1, b2, P2, fc2, fr2, b3⟩ := j_advP P1
    have hn := P1.1.1
    have t1 := P1.1.2.1
    have b3' : C1 1 3 = nI (gz q) := by rw [H.1]; exact z1
    have lt : ∀ j, j < e' - s → ∃ c, 1 ≤ c ∧ c ≤ 26 ∧ C1 10 (s + j) = nI (96 + c) := fun j hj => hl (s + j) (by omega) (by omega)
    have hv' : v = pk (fun j => C1 10 (s + j)) (e' - s) := by
      rw [hv]
      unfold pk
      exact hy_fold_congr _ _ _ (fun j _ hj b => by show 27 * b + R1_ 186 (s + j) - 96 = 27 * b + C1 10 (s + j) - 96; rw [(P1.1.2.2.2 (s + j) (by omega)).1])
    have cn := c_named (th := 1) (s := s) (e := e') b3' hz (fun g hg => by
      obtain ⟨m, _, m6, m4, _⟩ := H.2.2.2.2.2.2.2 g hg
      exact ⟨m, m6, m4⟩) t1 hn (by omega) hen
    have same : hy_fnd (nmF 1 C1 s (e' - s)) (gz q) 0 = nmc C1 v := by
      rw [← nmc_eq H]
      refine hy_fnd_congr _ _ (fun j _ hj => ?_)
      rw [hv']
      exact nm_iff (H.2.2.2.2.2.2.2 j (by omega)) (by omega) h6 lt
    refine ⟨nmc C1 v, v, C2, R2, ?_, ?_, P2, fc2, fr2, fun _ => ⟨e, rfl⟩⟩
    · rw [a1, hy_cts, if_pos e, c3, c4, cn, hy_cts, b1, hy_cts, same]
    · simp only [f_X11_takesName, a2, hy_cts, f_X11_passes, er, if_true, b2]
  · have nr : ¬ R1_ 178 17 = 0 := by rw [← P1.2.2.1]; exact e
    refine ⟨-1, v, C1, R1_, ?_, ?_, P1, fc, fr, fun h => absurd h e⟩
    · rw [a1, hy_cts, if_neg e]
    · simp only [f_X11_takesName, a2, hy_cts, passE _ nr]

