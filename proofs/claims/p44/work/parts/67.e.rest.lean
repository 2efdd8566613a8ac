theorem D_wash {b : Nat} {M : hz_M} {q : Nat → Int32} {qs : Nat → Nat → Int32} {n : Nat} {rf : Int32} (hb : 178 ≤ b) (h : hLS b M q qs n rf) : hLR b M q qs n rf 0 (hz_ct (f_X10_wash M) fun r75 M76 =>
      hz_ct (f_X11_washes b M76) fun r78 M79 =>
      if r75 = r78 then
        some ((1 : Int32), M79)
      else
        some ((0 : Int32), M79)) := by
  have hh := h
  obtain ⟨W, T, N, E, R, G, F⟩ := hh
  have hZ := W.1.1
  have hQ := W.2.1
  have hz := hZ
  obtain ⟨⟨z1, z2⟩, ⟨z3, z4, z5⟩, ⟨z6, z7, z8⟩, ⟨z9, z10⟩, ⟨z11, z12, z13⟩, ⟨z14, z15, z16⟩⟩ := hz
  obtain ⟨M1, e, W1, G1, f1⟩ := k_wash W T G
  have R1 : RO b M1 q := RO_fr (fun a h1 h2 => f1 a (by unfold CF; omega)) R
  obtain ⟨M2, e2, f2, R2⟩ := O_washes W R1
  have s : ∀ k, k < 153 → k ≠ 17 → hy_st (wshN q (tz q) 0) (12 + 5) (q 17 + wcn q (tz q) 0 0) k = q k := fun k hk hne => by rw [hy_so _ _ (by omega)]; exact wshN_o _ _ _ _ hk
  exact hLR_yes hb h (by rw [e, hy_cts, e2, hy_cts, if_pos rfl]) W1 G1 (fun a ha => f1 a (by unfold CF; omega)) (f1 26 (Or.inr rfl)) f2 R2 (T_st (s 8 (by omega) (by omega)) (s 10 (by omega) (by omega)) T) (N_eqv N (gz_cg (s 11 (by omega) (by omega))) (fun k hk => s _ (by omega) (by omega))) (E_eqv E (gz_cg (s 11 (by omega) (by omega))) (fun k hk => by rw [s _ (by omega) (by omega)]) (s 12 (by omega) (by omega)) (s 13 (by omega) (by omega))) (keep8 0 (s 8 (by omega) (by omega)))
theorem D_valve {b : Nat} {M : hz_M} {q : Nat → Int32} {qs : Nat → Nat → Int32} {n : Nat} {rf : Int32} (hb : 178 ≤ b) (h : hLS b M q qs n rf) {i k : Nat} (hi : i < vz q) (hk : k ≤ 9) : hLR b M q qs n rf 0 (hz_gd (hz_in (nI i) 4) <|
        hz_lt ((M (b + 1) (Int32.toNatClampNeg (nI i)))) fun x68 =>
        hz_gd (hz_in (nI i) 4) <|
        hz_lm (hz_set M (b + 1) (Int32.toNatClampNeg (nI i)) (nI k)) fun M70 =>
        hz_ct (f_X10_valve (nI i) (nI k) M70) fun r71 M72 =>
        if r71 = x68 then
          some ((1 : Int32), M72)
        else
          some ((0 : Int32), M72)) := by
  have hh := h
  obtain ⟨W, T, N, E, R, G, F⟩ := hh
  have hZ := W.1.1
  have hQ := W.2.1
  have hz := hZ
  obtain ⟨⟨z1, z2⟩, ⟨z3, z4, z5⟩, ⟨z6, z7, z8⟩, ⟨z9, z10⟩, ⟨z11, z12, z13⟩, ⟨z14, z15, z16⟩⟩ := hz
  have W0 : hy_W (hz_set M (b + 1) i (nI k)) q := W_fr (fun a ha => hy_seto _ _ _ (by omega)) W T
  have G0 : Ring (hz_set M (b + 1) i (nI k)) qs n := Ring_fr (fun a ha => hy_seto _ _ _ (by omega)) G
  have R0 := ro_op (a := i) (v := nI k) R hZ (by omega)
  obtain ⟨M1, e, W1, G1, f1⟩ := k_valve W0 T G0 hi hk
  have R1 := RO_fr (M' := M1) (fun a h1 h2 => f1 a (by unfold CF; omega)) R0
  refine hLR_yes (M2 := M1) hb h ?_ W1 G1 (fun a ha => by rw [f1 a (by unfold CF; omega), hy_seto _ _ _ (by omega)]) (by rw [f1 26 (Or.inr rfl), hy_seto _ _ _ (by omega)]) (fun _ _ => rfl) R1 (T_st (by simp (disch := omega) only [hy_so, hy_ss]) (by simp (disch := omega) only [hy_so, hy_ss]) T) (N_eqv N (gz_cg (by simp (disch := omega) only [hy_so, hy_ss])) (fun k hk => by simp (disch := omega) only [hy_so, hy_ss])) (E_eqv E (gz_cg (by simp (disch := omega) only [hy_so, hy_ss])) (fun k hk => by rw [hy_so _ _ (by omega)]) (by simp (disch := omega) only [hy_so, hy_ss]) (by simp (disch := omega) only [hy_so, hy_ss])) (keep8 0 (by simp (disch := omega) only [hy_so, hy_ss]))
  rw [hy_in (by omega) (by omega), hy_gt, hy_c (by omega), hy_lt', R.2.1 i (by omega), hy_gt, hy_lm, e, hy_cts, if_pos rfl]
theorem k_set6 {M : hz_M} {q : Nat → Int32} {qs : Nat → Nat → Int32} {n k : Nat} (W : hy_W M q) (T : hy_T q) (R : Ring M qs n) (h1 : 1 ≤ k) (h2 : k ≤ 9) : ∃ M1, f_X10_set 6 (nI k) M = some (q 5, M1) ∧ hy_W M1 (hy_st q 5 (nI k)) ∧ Ring M1 (qadd qs n q) (n + 1) ∧ (∀ a, (CF a ∨ a = 26) → M1 a = M a) := by
  obtain ⟨Mc, hc, Rc, fc, Wc⟩ := Ring_rec R W T
  have sc := (c_rows Wc.1.2.2).1
  have W1 : hy_W (hz_set Mc 11 17 (nI k)) (hy_st q 5 (nI k)) := p_room (k := k) Wc h1 h2 (fun a h => hy_seto _ _ _ h) (fun k h => hy_setn _ _ _ h) (hy_setk _ _ _ _) (fun k c0 => hy_so _ _ c0) (hy_ss _ _ _)
  have l1 : ¬ nI k < 1 := by rw [show (1 : Int32) = nI 1 from rfl, hy_lt (by omega) (by omega)]; omega
  have l2 : ¬ (9 : Int32) < nI k := by rw [show (9 : Int32) = nI 9 from rfl, hy_lt (by omega) (by omega)]; omega
  refine ⟨hz_set Mc 11 17 (nI k), ?_, W1, Ring_fr (fun a ha => hy_seto _ _ _ (by omega)) Rc, fun a ha => ?_⟩
  · simp only [f_X10_set, f_X10_isSetting, hy_e6_0, hy_e6_1, hy_e6_2, hy_e6_3, hy_e6_4, hy_e6_5, hy_e6_7, hy_e6_8, hy_e6_9, hy_e6_10, hy_e6_11, hy_e6_12, hy_e6_13, hy_e6_14, hy_e6_15, hy_e6_16, l1, l2, hc, f_X10_size, sc, hy_cts, c_need1, hy_jn, hy_lm, hy_lt', hy_gt, if_true, if_false, hy_f10]
  · unfold CF at ha
    rw [hy_seto _ _ _ (by omega), fc a (by omega)]
theorem k_set7 {M : hz_M} {q : Nat → Int32} {qs : Nat → Nat → Int32} {n k : Nat} (W : hy_W M q) (T : hy_T q) (R : Ring M qs n) (h1 : 2 ≤ k) (h2 : k ≤ 60) : ∃ M1, f_X10_set 7 (nI k) M = some (q 6, M1) ∧ hy_W M1 (hy_st q 6 (nI k)) ∧ Ring M1 (qadd qs n q) (n + 1) ∧ (∀ a, (CF a ∨ a = 26) → M1 a = M a) := by
  obtain ⟨Mc, hc, Rc, fc, Wc⟩ := Ring_rec R W T
  have sc := (c_rows Wc.1.2.2).1
  have W1 : hy_W (hz_set Mc 11 18 (nI k)) (hy_st q 6 (nI k)) := p_gong (k := k) Wc h1 h2 (fun a h => hy_seto _ _ _ h) (fun k h => hy_setn _ _ _ h) (hy_setk _ _ _ _) (fun k c0 => hy_so _ _ c0) (hy_ss _ _ _)
  have l1 : ¬ nI k < 2 := by rw [show (2 : Int32) = nI 2 from rfl, hy_lt (by omega) (by omega)]; omega
  have l2 : ¬ (60 : Int32) < nI k := by rw [show (60 : Int32) = nI 60 from rfl, hy_lt (by omega) (by omega)]; omega
  refine ⟨hz_set Mc 11 18 (nI k), ?_, W1, Ring_fr (fun a ha => hy_seto _ _ _ (by omega)) Rc, fun a ha => ?_⟩
  · simp only [f_X10_set, f_X10_isSetting, hy_e7_0, hy_e7_1, hy_e7_2, hy_e7_3, hy_e7_4, hy_e7_5, hy_e7_6, hy_e7_8, hy_e7_9, hy_e7_10, hy_e7_11, hy_e7_12, hy_e7_13, hy_e7_14, hy_e7_15, hy_e7_16, l1, l2, hc, f_X10_size, sc, hy_cts, c_need1, hy_jn, hy_lm, hy_lt', hy_gt, if_true, if_false, hy_f10]
  · unfold CF at ha
    rw [hy_seto _ _ _ (by omega), fc a (by omega)]
theorem k_set8 {M : hz_M} {q : Nat → Int32} {qs : Nat → Nat → Int32} {n k : Nat} (W : hy_W M q) (T : hy_T q) (R : Ring M qs n) (h1 : 0 ≤ k) (h2 : k ≤ 30) : ∃ M1, f_X10_set 8 (nI k) M = some (q 7, M1) ∧ hy_W M1 (hy_st q 7 (nI k)) ∧ Ring M1 (qadd qs n q) (n + 1) ∧ (∀ a, (CF a ∨ a = 26) → M1 a = M a) := by
  obtain ⟨Mc, hc, Rc, fc, Wc⟩ := Ring_rec R W T
  have sc := (c_rows Wc.1.2.2).1
  have W1 : hy_W (hz_set Mc 11 19 (nI k)) (hy_st q 7 (nI k)) := p_quiet (k := k) Wc h2 (fun a h => hy_seto _ _ _ h) (fun k h => hy_setn _ _ _ h) (hy_setk _ _ _ _) (fun k c0 => hy_so _ _ c0) (hy_ss _ _ _)
  have l1 : ¬ nI k < 0 := by rw [show (0 : Int32) = nI 0 from rfl, hy_lt (by omega) (by omega)]; omega
  have l2 : ¬ (30 : Int32) < nI k := by rw [show (30 : Int32) = nI 30 from rfl, hy_lt (by omega) (by omega)]; omega
  refine ⟨hz_set Mc 11 19 (nI k), ?_, W1, Ring_fr (fun a ha => hy_seto _ _ _ (by omega)) Rc, fun a ha => ?_⟩
  · simp only [f_X10_set, f_X10_isSetting, hy_e8_0, hy_e8_1, hy_e8_2, hy_e8_3, hy_e8_4, hy_e8_5, hy_e8_6, hy_e8_7, hy_e8_9, hy_e8_10, hy_e8_11, hy_e8_12, hy_e8_13, hy_e8_14, hy_e8_15, hy_e8_16, l1, l2, hc, f_X10_size, sc, hy_cts, c_need1, hy_jn, hy_lm, hy_lt', hy_gt, if_true, if_false, hy_f10]
  · unfold CF at ha
    rw [hy_seto _ _ _ (by omega), fc a (by omega)]
theorem k_waits {M : hz_M} {q : Nat → Int32} {qs : Nat → Nat → Int32} {k n t : Nat} (W : hy_W M q) (T : hy_T q) (R : Ring M qs k) (h1 : 1 ≤ n) (hn : n ≤ 60) (ht : q 8 = nI t) (htn : t + n ≤ 9999) : ∃ M1, f_X10_waits (nI n) M = some (minN n q 16 - q 16, M1) ∧ hy_W M1 (minN n q) ∧ Ring M1 (qadd qs k q) (k + 1) ∧ (∀ a, (CF a ∨ a = 26) → M1 a = M a) := by
  have hZ := W.1.1
  obtain ⟨z1, z2⟩ := hZ.1
  have key : (9999 < q 8 + nI n) = (9999 < t + n) := by
    rw [ht, hy_add, show (9999 : Int32) = nI 9999 from rfl, hy_lt (by omega) (by omega)]
  have s1 := (c_rows W.1.2.2).1.1
  obtain ⟨M1, e, k1, k2, k3⟩ := ch_do (c := 10) (g := 0) (n := nI n) (r := minN n q 16 - q 16) (q' := minN n q) W T R (by rw [cR_10, s1, if_neg (by rw [key]; omega)]) (fun Mc Wc => by
    have ra4 := (c_rows Wc.1.2.2).2.1 4 (by omega)
    obtain ⟨M', b1, b2, b3⟩ := c_minN (fun (v2_2 : Int32) (M3 : hz_M) => some (((M3 24 (Int32.toNatClampNeg (4 : Int32))) - v2_2), M3)) (q 16) n 0 hz_FU n Mc q Wc (by omega) (by omega) (hy_FU (by omega))
    refine ⟨M', ?_, b2, b3⟩
    have ra4' := (c_rows b3.1.2.2).2.1 4 (by omega)
    rw [cP_10]
    unfold f_X7_pass
    simp only [hy_lt', hy_jn, hy_k4, ra4]
    rw [show (0 : Int32) = nI 0 from rfl]
    simp only [hy_k4] at b1
    rw [b1, ra4'])
  have e1 : ¬ nI n < 1 := by rw [show (1 : Int32) = nI 1 from rfl, hy_lt (by omega) (by omega)]; omega
  have e2 : ¬ (60 : Int32) < nI n := by rw [show (60 : Int32) = nI 60 from rfl, hy_lt (by omega) (by omega)]; omega
  exact ⟨M1, by simp only [f_X10_waits, e1, e2, hy_jn, if_false, c_need1, hy_cts, e], k1, k2, k3⟩
theorem W_minute {M : hz_M} {q : Nat → Int32} (W : hy_W M q) : ∃ M', hy_W M' (minute q) := by
  obtain ⟨Mw1, _, _, W1⟩ := c_min (fun _ _ => none) 0 (f := 0) (n := 1) (i := 0) W (by omega) (by omega)
  exact ⟨Mw1, W1⟩
theorem O_waitL {b : Nat} (xs : Nat → Int32) (L : Nat) (kk : Int32 → Int32 → hz_M → hz_O) (y : Int32) : ∀ (k i f n : Nat) (M Mc : hz_M) (q : Nat → Int32), RO b M q → hy_W Mc q → i + k = n → n ≤ 1000 → k < f → ∃ M', f_L_acts_L311 b xs L kk f (nI n) y (nI i) M = kk (nI n) y M' ∧ (∀ a, (a < b ∨ b + 11 < a) → M' a = M a) ∧ RO b M' (minN k q)
  | 0, i, f, n, M, Mc, q, hR, W, hi, hn, hf => by
    obtain ⟨f, rfl⟩ : ∃ e, f = e + 1 := ⟨f - 1, by omega⟩
    have e : n ≤ i := by omega
    refine ⟨M, ?_, fun _ _ => rfl, hR⟩
    simp (disch := omega) only [f_L_acts_L311, hy_le, e, if_true]
  | k + 1, i, f, n, M, Mc, q, hR, W, hi, hn, hf => by
    obtain ⟨f, rfl⟩ : ∃ e, f = e + 1 := ⟨f - 1, by omega⟩
    have e : ¬ n ≤ i := by omega
    obtain ⟨Mw, Ww⟩ := W_minute W
    obtain ⟨M1, e1, f1, R1⟩ := O_minute hR W
    have R1' : RO b (hz_set M1 b 23 (sbN (gz q) 0 (mC q) 0)) (minute q) := by
      obtain ⟨⟨b0, b1, b2, b3, b4, b5, b6, b7, b8, b9, b10, b11⟩, rest⟩ := R1
      refine ⟨?_, ?_⟩
      · refine ⟨?_, ?_, ?_, ?_, ?_, ?_, ?_, ?_, ?_, ?_, ?_, ?_⟩ <;> rw [hy_setn _ _ _ (by omega)] <;> assumption
      · simp (disch := omega) only [hy_seto]
        exact rest
    obtain ⟨M2, e2, f2, R2⟩ := O_waitL xs L kk y k (i + 1) f n _ Mw (minute q) R1' Ww (by omega) hn (by omega)
    refine ⟨M2, ?_, fun a ha => by rw [f2 a ha, hy_seto _ _ _ (by omega), f1 a ha], R2⟩
    simp (disch := omega) only [f_L_acts_L311, hy_le, e, if_false, e1, hy_cts, hy_lm, hy_lt', hy_add1]
    exact e2
theorem minute_at {q : Nat → Int32} {g : Nat} (hg : g < gz q) (hz : gz q ≤ 16) : (minute q (25 + 8 * g + 2) = -1 ↔ q (25 + 8 * g + 2) = -1) := by
  rw [minute_g hg hz (by omega)]
  have e := qg_c (q := q) (g := g) (c := 2) (by omega) (by omega)
  unfold gst
  rw [e]
  by_cases c1 : q (25 + 8 * g + 2) = -1
  · rw [if_pos c1, e]
  · rw [if_neg c1]
    refine iff_of_false ?_ c1
    by_cases c2 : q (25 + 8 * g + 2) = 0
    · rw [if_pos c2, hy_so _ _ (by omega), e]; exact c1
    · rw [if_neg c2]
      by_cases c3 : 10 ≤ sbh (qg q g) g
      · rw [if_pos c3, hy_so _ _ (by omega), hy_so _ _ (by omega), hy_ss]
        generalize q (25 + 8 * g + 2) = x
        have hl := low_le (qg q g) (Int32.toNatClampNeg x - 1)
        have hb : Int32.toNatClampNeg x < 2 ^ 31 := Int32.toNatClampNeg_lt x
        rw [hy_n1 (by omega)]
        exact not_false
      · rw [if_neg c3, hy_so _ _ (by omega), e]; exact c1
theorem minute_keep {q : Nat → Int32} (hz : gz q ≤ 16) : (∀ b, b < 8 ∨ b = 11 ∨ b = 12 ∨ b = 13 → minute q b = q b) ∧ (∀ g, g < gz q → minute q (25 + 8 * g) = q (25 + 8 * g)) :=
  ⟨fun b h => minute_o (by omega) (by omega) (by omega) (by omega) (by omega) (by omega) (by omega) (by omega) (by omega), fun g hg => minute_o (by omega) (by omega) (by omega) (by omega) (by omega) (by omega) (by omega) (by omega) (by omega)⟩
theorem minN_keep : ∀ (k : Nat) (q : Nat → Int32), gz q ≤ 16 → hy_N q → hy_E q → hy_N (minN k q) ∧ hy_E (minN k q) ∧ gz (minN k q) = gz q ∧ (∀ j, q 8 = nI j → minN k q 8 = nI (j + k))
  | 0, q, _, N, E => ⟨N, E, rfl, fun j h => h⟩
  | k + 1, q, hz, N, E => by
    obtain ⟨k1, k2⟩ := minute_keep hz
    have hg : gz (minute q) = gz q := gz_cg (k1 11 (by omega))
    have N1 := N_eqv N hg k2
    have E1 := E_eqv E hg (fun g hgg => minute_at hgg hz) (k1 12 (by omega)) (k1 13 (by omega))
    obtain ⟨a1, a2, a3, a4⟩ := minN_keep k (minute q) (by rw [hg]; exact hz) N1 E1
    unfold minN
    exact ⟨a1, a2, by rw [a3, hg], fun j h => by rw [a4 (j + 1) (by rw [minute_8 hz, h, hy_add1])]; congr 1; omega⟩
