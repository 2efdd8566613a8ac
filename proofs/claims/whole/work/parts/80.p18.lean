
theorem minute_8 {q : Nat → Int32} (hg : gz q ≤ 16) : minute q 8 = q 8 + 1 := by
  unfold minute mC mB
  rw [gstN_o _ _ _ _ (by omega) (by omega), towN_o _ _ _ _ (by omega) (by omega), hy_so _ _ (by omega)]
  unfold mA
  rw [gng_o (by omega) (by omega)]
  simp (disch := omega) only [hy_so, hy_ss]
theorem minute_10 {q : Nat → Int32} (hg : gz q ≤ 16) : minute q 10 = if (q 8 + 1) - (q 8 + 1) / q 6 * q 6 = 0 then q 8 + 1 else q 10 := by
  unfold minute mC mB
  rw [gstN_o _ _ _ _ (by omega) (by omega), towN_o _ _ _ _ (by omega) (by omega), hy_so _ _ (by omega)]
  unfold mA gng
  simp (disch := omega) only [hy_so, hy_ss]
  by_cases e : (q 8 + 1) - (q 8 + 1) / q 6 * q 6 = 0
  · simp (disch := omega) only [e, if_true, hy_so, hy_ss]
  · simp (disch := omega) only [e, if_false, hy_so, hy_ss]
theorem minute_o {q : Nat → Int32} {b : Nat} (h : b ≠ 8) (h1 : b ≠ 20) (h3 : b ≠ 10) (h2 : b ≠ 19) (h4 : b ≠ 9) (h5 : b < 153) (h6 : b ≠ 18) (h7 : b ≠ 16) (h8 : b < 25 ∨ (b % 8 ≠ 3 ∧ b % 8 ≠ 6)) : minute q b = q b := by
  unfold minute
  rw [gstN_o _ _ _ _ (by omega) h7, mC_o h h1 h3 h2 h4 h5 h6]
theorem c_isO {M : hz_M} {q : Nat → Int32} (W : hy_W M q) : M 11 18 = q 6 := (c_rows W.1.2.2).1.2.2.2.2.1
theorem c_gong {M : hz_M} {q : Nat → Int32} (W : hy_W M q) : ∃ M', f_X7_soundGong M = some (0, M') ∧ (∀ a, (a < 11 ∨ 24 < a) → M' a = M a) ∧ hy_W M' (gng q) := by
  have W0 := W
  obtain ⟨hC, hQ, hX⟩ := W
  have hC0 := hC
  obtain ⟨hZ, ⟨b3, b4, b5, b6, b7, b8, bag, bnm⟩, hRR⟩ := hC
  have hZ0 := hZ
  obtain ⟨⟨s1, s2, s3, s4, s5, s6⟩, ra, ro, rp, rl, rt, rs, rw', rd, rwt, rpg, rk, rh, rtw⟩ := c_rows hRR
  obtain ⟨⟨z1, z2⟩, ⟨z3, z4, z5⟩, ⟨z6, z7, z8⟩, ⟨z9, z10⟩, ⟨z11, z12, z13⟩, ⟨z14, z15, z16⟩⟩ := hZ
  rw [z1] at b3; rw [z3] at b4; rw [z6] at b5; rw [z9] at b6; rw [z11] at b7; rw [z14] at b8
  obtain ⟨qa, qat, ql, qh, qs, qw, qwt, qpg, jl, jh, jp, qo, qol, qhp, qht, qrm, qgn, qqt, qop⟩ := hQ
  obtain ⟨n, hn1, hn2, hn⟩ := qgn
  have e1 : ¬ q 6 ≤ 0 := by rw [hn, hy_0, hy_le (by omega) (by omega)]; omega
  have e2 : hz_nz (q 6) = true := by rw [hn]; unfold hz_nz; simp (disch := omega) [hy_0, hy_eq]; omega
  have ra7 : M 24 7 = q 19 := ra 7 (by omega)
  unfold gng
  by_cases e : q 8 - q 8 / q 6 * q 6 = 0
  · rw [if_pos e]
    refine ⟨hz_set (hz_set M 11 16 (q 8)) 24 7 (q 19 + 1), ?_, fun a ha => by simp (disch := omega) only [hy_seto], ?_⟩
    · simp (disch := omega) only [f_X7_soundGong, s5, e1, if_false, e2, hy_gt, s1, e, if_true, hy_lm, hy_k7, hy_seto, ra7]
    · have W1 : hy_W (hz_set M 11 16 (q 8)) (hy_st q 10 (q 8)) := p_since (v := q 8) W0 (fun a h => hy_seto _ _ _ h) (fun k h => hy_setn _ _ _ h) (hy_setk _ _ _ _) (fun k c0 => hy_so _ _ c0) (hy_ss _ _ _)
      exact p_acc (g := 7) W1 (by omega) (fun a h => hy_seto _ _ _ h) (hy_srow _ _ _ _) (fun k c0 => hy_so _ _ c0) (hy_ss _ _ _)
  · rw [if_neg e]
    refine ⟨M, ?_, fun _ _ => rfl, W0⟩
    simp (disch := omega) only [f_X7_soundGong, s5, e1, if_false, e2, hy_gt, s1, e]
theorem gng_s {q : Nat → Int32} : gz (gng q) = gz q ∧ tz (gng q) = tz q := ⟨gz_cg (gng_o (by omega) (by omega)), tz_cg (gng_o (by omega) (by omega))⟩
theorem c_min (kk : Int32 → hz_M → hz_O) (y : Int32) {M : hz_M} {q : Nat → Int32} {n i f : Nat} (W : hy_W M q) (hi : i < n) (hn : n ≤ 1000) : ∃ M', f_X7_pass_L9 kk (f + 1) (nI n) y (nI i) M = f_X7_pass_L9 kk f (nI n) y (nI (i + 1)) M' ∧ (∀ a, (a < 11 ∨ 24 < a) → M' a = M a) ∧ hy_W M' (minute q) := by
  have W0 := W
  obtain ⟨hC, hQ, hX⟩ := W
  have hC0 := hC
  obtain ⟨hZ, ⟨b3, b4, b5, b6, b7, b8, bag, bnm⟩, hRR⟩ := hC
  have hZ0 := hZ
  obtain ⟨⟨s1, s2, s3, s4, s5, s6⟩, ra, ro, rp, rl, rt, rs, rw', rd, rwt, rpg, rk, rh, rtw⟩ := c_rows hRR
  obtain ⟨⟨z1, z2⟩, ⟨z3, z4, z5⟩, ⟨z6, z7, z8⟩, ⟨z9, z10⟩, ⟨z11, z12, z13⟩, ⟨z14, z15, z16⟩⟩ := hZ
  rw [z1] at b3; rw [z3] at b4; rw [z6] at b5; rw [z9] at b6; rw [z11] at b7; rw [z14] at b8
  obtain ⟨qa, qat, ql, qh, qs, qw, qwt, qpg, jl, jh, jp, qo, qol, qhp, qht, qrm, qgn, qqt, qop⟩ := hQ
  have hi' : ¬ n ≤ i := by omega
  have ra8 : M 24 8 = q 20 := ra 8 (by omega)
  have W1 : hy_W (hz_set M 11 14 (q 8 + 1)) (hy_st q 8 (q 8 + 1)) := p_time (v := q 8 + 1) W0 (fun a h => hy_seto _ _ _ h) (fun k h => hy_setn _ _ _ h) (hy_setk _ _ _ _) (fun k c0 => hy_so _ _ c0) (hy_ss _ _ _)
  have W2 : hy_W (hz_set (hz_set M 11 14 (q 8 + 1)) 24 8 (q 20 + 1)) (hy_st (hy_st q 8 (q 8 + 1)) (12 + 8) (q 20 + 1)) := p_acc (g := 8) W1 (by omega) (fun a h => hy_seto _ _ _ h) (hy_srow _ _ _ _) (fun k c0 => hy_so _ _ c0) (hy_ss _ _ _)
  obtain ⟨M3, g1, g2, W3⟩ := c_gong W2
  have W3' : hy_W M3 (mA q) := W3
  have st := c_stm W3'.1
  have h15 : M3 11 15 = mA q 9 := (c_rows W3'.1.2.2).1.2.1
  obtain ⟨h, hh, eh⟩ := nxt_rg (mA q 9) (stm (mA q))
  have W4 : hy_W (hz_set M3 11 15 (nI h)) (mB q) := by
    unfold mB
    rw [eh]
    exact p_heat (k := h) W3' hh (fun a h => hy_seto _ _ _ h) (fun k h => hy_setn _ _ _ h) (hy_setk _ _ _ _) (fun k c0 => hy_so _ _ c0) (hy_ss _ _ _)
  have tB : tz (mB q) = tz q := tz_cg (mB_o (by omega) (by omega) (by omega) (by omega) (by omega))
  obtain ⟨M5, t1, t2, W5⟩ := c_towN (tz q) 0 hz_FU _ _ W4 (by omega) (hy_FU (by omega))
  have W5' : hy_W M5 (mC q) := W5
  have gC : gz (mC q) = gz q := gz_cg (mC_o (by omega) (by omega) (by omega) (by omega) (by omega) (by omega) (by omega))
  obtain ⟨M6, u1, u2, W6⟩ := c_gstN (fun (v1_25 : Int32) (v2_26 : Int32) (v3_27 : Int32) (M28 : hz_M) => hz_lt (v3_27 + (1 : Int32)) fun x29 => f_X7_pass_L9 kk f v1_25 v2_26 x29 M28) (nI n) y (nI i) (gz q) 0 hz_FU M5 (mC q) W5' (by omega) (hy_FU (by omega))
  refine ⟨M6, ?_, fun a ha => by rw [u2 a ha, t2 a ha, hy_seto _ _ _ (by omega), g2 a ha]; simp (disch := omega) only [hy_seto], W6⟩
  have hb : f_X7_heatBehind (mA q 9) (stm (mA q)) M3 = some (nI h, M3) := by rw [← eh]; rfl
  simp (disch := omega) only [f_X7_pass_L9, hy_le, hi', if_false, hy_lm, s1, hy_k8, hy_seto, ra8, g1, hy_cts, st, h15, hb, f_X7_changeTowels, hy_jn]
  rw [show (0 : Int32) = nI 0 from rfl]
  rw [t1, hy_cts, u1, hy_lt', hy_add1]
def minN : Nat → (Nat → Int32) → (Nat → Int32)
  | 0, q => q
  | k + 1, q => minN k (minute q)
theorem c_minN (kk : Int32 → hz_M → hz_O) (y : Int32) : ∀ (k i f n : Nat) (M : hz_M) (q : Nat → Int32), hy_W M q → i + k = n → n ≤ 1000 → k < f → ∃ M', f_X7_pass_L9 kk f (nI n) y (nI i) M = kk y M' ∧ (∀ a, (a < 11 ∨ 24 < a) → M' a = M a) ∧ hy_W M' (minN k q)
  | 0, i, f, n, M, q, W, hi, hn, hf => by
    obtain ⟨f, rfl⟩ : ∃ e, f = e + 1 := ⟨f - 1, by omega⟩
    refine ⟨M, ?_, fun _ _ => rfl, W⟩
    have e : n ≤ i := by omega
    simp (disch := omega) only [f_X7_pass_L9, hy_le, e, if_true]
  | k + 1, i, f, n, M, q, W, hi, hn, hf => by
    obtain ⟨f, rfl⟩ : ∃ e, f = e + 1 := ⟨f - 1, by omega⟩
    obtain ⟨M1, e1, f1, W1⟩ := c_min kk y (f := f) W (show i < n by omega) hn
    obtain ⟨M2, e2, f2, W2⟩ := c_minN kk y k (i + 1) f n M1 (minute q) W1 (by omega) hn (by omega)
    exact ⟨M2, by rw [e1, e2], fun a ha => by rw [f2 a ha, f1 a ha], W2⟩
/-- minutes of the reference -/
theorem r_tow {M : hz_M} {q : Nat → Int32} {t : Nat} (hq : M 179 = q) (hZ : hy_Z q) (hQ : hy_Q q) (ht : t < tz q) : f_X11_towelPasses (nI t) M = some (0, hy_row M 179 (tow q t)) := by
  have hZ0 := hZ
  obtain ⟨qa, qat, ql, qh, qs, qw, qwt, qpg, jl, jh, jp, qo, qol, qhp, qht, qrm, qgn, qqt, qop⟩ := hQ
  obtain ⟨⟨z1, z2⟩, ⟨z3, z4, z5⟩, ⟨z6, z7, z8⟩, ⟨z9, z10⟩, ⟨z11, z12, z13⟩, ⟨z14, z15, z16⟩⟩ := hZ
  obtain ⟨w, hw, ew⟩ := qwt t ht
  have rid : hy_row M 179 q = M := by rw [← hq]; exact hy_rid M 179
  unfold tow
  rcases hld_al hZ0 t with e | ⟨g, hg, e, e'⟩
  · simp (disch := omega) only [f_X11_towelPasses, r_hld hq hZ0, e, hy_cts, hy_jn, if_true, r_ofT1, r_ofT0, hq, hy_k9, r_putT0]
    by_cases e1 : q (153 + 2 * t + 1) = -1
    · simp only [e1, if_true, rid]
    · by_cases e2 : 60 ≤ q 9
      · simp only [e1, e2, if_true, if_false, rid]
      · simp only [e1, e2, if_false, mx]
  · have np := qhp g t hg ht e'
    simp (disch := omega) only [f_X11_towelPasses, r_hld hq hZ0, e, hy_cts, hy_jn, hy_n1, if_false, r_of2, r_ofT1, r_ofT0, hq, np, if_true, r_putT0, r_counts6, hy_rs, hy_rr, hy_so, hy_c]
    by_cases e1 : q (25 + 8 * g + 2) ≤ 0
    · simp only [e1, if_true, rid]
    · by_cases e2 : 9 ≤ q (153 + 2 * t)
      · simp only [e1, e2, if_true, if_false, rid]
      · simp only [e1, e2, if_false]
theorem r_gst {M : hz_M} {q : Nat → Int32} {g : Nat} (hq : M 179 = q) (hZ : hy_Z q) (hQ : hy_Q q) (hg : g < gz q) : ∃ M', f_X11_guestPasses (nI g) M = some (0, M') ∧ M' 179 = gst q g ∧ M' 185 = hy_st (M 185) g (if gdn q g = true then 1 else 0) ∧ ∀ a, a ≠ 179 → a ≠ 185 → M' a = M a := by
  have hZ0 := hZ
  have hQ0 := hQ
  obtain ⟨qa, qat, ql, qh, qs, qw, qwt, qpg, jl, jh, jp, qo, qol, qhp, qht, qrm, qgn, qqt, qop⟩ := hQ
  obtain ⟨⟨z1, z2⟩, ⟨z3, z4, z5⟩, ⟨z6, z7, z8⟩, ⟨z9, z10⟩, ⟨z11, z12, z13⟩, ⟨z14, z15, z16⟩⟩ := hZ
  unfold gst gdn
  have h5 : hz_set M 185 g 0 179 = q := by rw [hy_seto _ _ _ (by omega)]; exact hq
  by_cases e1 : q (25 + 8 * g + 2) = -1
  · refine ⟨hz_set M 185 g 0, ?_, by rw [if_pos e1]; exact h5, ?_, fun a _ h => hy_seto _ _ _ h⟩
    · simp (disch := omega) only [f_X11_guestPasses, r_of2, hq, hy_cts, hy_in, hy_gt, hy_c, hy_lm, e1, if_true]
    · rw [hy_srow, e1]; rfl
  · by_cases e2 : q (25 + 8 * g + 2) = 0
    · refine ⟨hy_row (hz_set M 185 g 0) 179 (hy_st q (25 + 8 * g + 5) (mx (q (25 + 8 * g + 5)))), ?_, by rw [hy_rs, if_neg e1, if_pos e2], ?_, fun a h1 h => by rw [hy_ro _ _ h1, hy_seto _ _ _ h]⟩
      · simp (maxSteps := 2000000) (disch := omega) only [f_X11_guestPasses, r_of2, hq, hy_cts, hy_in, hy_gt, hy_c, hy_lm, e2, hy_f01, if_true, if_false, hy_jn, show ((0 : Int32) ≤ 0) = True from eq_true (by decide), r_of5, h5, r_puts5, mx]
      · rw [hy_ro _ _ (by omega), hy_srow, e2]; rfl
    · obtain ⟨p, hp, ep⟩ : ∃ k, k ≤ sz q ∧ q (25 + 8 * g + 2) = nI k := by
        rcases qat g hg with e | e
        · exact absurd e e1
        · exact e
      have p0 : p ≠ 0 := by intro e; subst e; exact e2 ep
      have np : ¬ nI p = 0 := by rw [hy_0, hy_eq (by omega) (by omega)]; omega
      have pos : 0 < nI p := by rw [hy_0, hy_lt (by omega) (by omega)]; omega
      have eo : q 9 + 6 * nI p - (60 + q (25 + 8 * g + 1) / 4) = ovr q g := by unfold ovr; rw [ep]
      have pre : f_X11_guestPasses (nI g) M = if 10 ≤ sbh q g then
          f_X11_guestPasses_L98 (fun (v1_26 : Int32) (v4_27 : Int32) (M28 : hz_M) =>
              hz_ct (f_X11_puts v1_26 (2 : Int32) v4_27 M28) fun r29 M30 =>
              hz_ct (f_X11_puts v1_26 (5 : Int32) (5 : Int32) M30) fun r32 M33 =>
              hz_ct (f_X11_counts (4 : Int32) (1 : Int32) M33) fun r35 M36 =>
              hz_gd (hz_in v1_26 16) <|
              hz_lm (hz_set M36 185 (Int32.toNatClampNeg v1_26) (1 : Int32)) fun M39 =>
              some (0, M39)) hz_FU (nI g) (nI (p - 1)) (hy_row (hz_set M 185 g 0) 179 (hy_st q (25 + 8 * g + 5) (sbh q g)))
          else some (0, hy_row (hz_set M 185 g 0) 179 (hy_st q (25 + 8 * g + 5) (sbh q g))) := by
        simp (maxSteps := 2000000) (disch := omega) only [f_X11_guestPasses, r_of2, hq, hy_cts, hy_in, hy_gt, hy_c, hy_lm, ep, hy_n1, np, if_false, hy_jn, f_X11_warmthOf, f_X11_bears, r_of1, h5, hy_k9, eo, r_of5, r_puts5]
        rw [show nI p - 1 = nI (p - 1) by rw [hy_1, hy_sub (by omega)]]
        unfold sbh mx
        by_cases e : ovr q g ≤ 0
        · simp (disch := omega) only [e, if_true, r_of5, hy_rs, hy_ss, hy_cts, hy_lt']
        · simp (disch := omega) only [e, if_false, r_of5, hy_rs, hy_ss, hy_cts, hy_lt']
      rw [pre]
      by_cases e3 : 10 ≤ sbh q g
      · rw [if_pos e3]
        have hq1 : hy_row (hz_set M 185 g 0) 179 (hy_st q (25 + 8 * g + 5) (sbh q g)) 179 = hy_st q (25 + 8 * g + 5) (sbh q g) := hy_rs _ _ _
        have hZ1 : hy_Z (hy_st q (25 + 8 * g + 5) (sbh q g)) := by
          unfold hy_Z at *
          simp (disch := omega) only [gz_st, lz_st, pz_st, tz_st, vz_st, sz_st, hy_so]
          exact hZ0
        rw [r_low _ (q := q) (by rw [hq1]; exact hZ1) (fun a => by rw [hq1]; exact hAt_cg (hy_so _ _ (by omega)) (fun g => hy_so _ _ (by omega)) a) (by rw [hq1, hy_so _ _ (by omega)]) (nI g) (p - 1) hz_FU (by omega) (hy_FU (by omega))]
        simp (disch := omega) only [r_puts2, r_puts5, r_counts4, hy_rs, hy_rr, hy_cts, hy_in, hy_gt, hy_c, hy_lm, hy_so]
        refine ⟨_, rfl, ?_, ?_, ?_⟩
        · rw [hy_seto _ _ _ (by omega), hy_rs, if_neg e1, if_neg e2, if_pos e3, ep, hy_c (by omega)]
          funext k
          by_cases a10 : k = 25 + 8 * g + 5
          · subst a10; simp (disch := omega) only [hy_so, hy_ss] <;> rfl
          by_cases a11 : k = 25 + 8 * g + 2
          · subst a11; simp (disch := omega) only [hy_so, hy_ss] <;> rfl
          by_cases a12 : k = 16
          · subst a12; simp (disch := omega) only [hy_so, hy_ss] <;> rfl
          simp (disch := omega) only [hy_so, hy_ss] <;> rfl
        · rw [hy_srow, hy_ro _ _ (by omega), hy_srow, hy_stt, ep]
          simp only [pos, e3, and_self, decide_true, if_true]
        · intro a h1 h2
          rw [hy_seto _ _ _ h2, hy_ro _ _ h1, hy_seto _ _ _ h2]
      · rw [if_neg e3]
        refine ⟨_, rfl, ?_, ?_, ?_⟩
        · rw [hy_rs, if_neg e1, if_neg e2, if_neg e3]
        · rw [hy_ro _ _ (by omega), hy_srow]
          simp only [e3, and_false, decide_false, Bool.false_eq_true, if_false]
        · intro a h1 h2
          rw [hy_ro _ _ h1, hy_seto _ _ _ h2]
theorem r_towN (kk : hz_M → hz_O) : ∀ (k i f : Nat) (M Mw : hz_M), hy_W Mw (M 179) → i + k = tz (M 179) → k < f → f_X11_minute_L70 kk f (nI i) M = kk (hy_row M 179 (towN (M 179) k i))
  | 0, i, f, M, Mw, W, hi, hf => by
    obtain ⟨f, rfl⟩ : ∃ e, f = e + 1 := ⟨f - 1, by omega⟩
    have hZ := W.1.1
    obtain ⟨z9, z10⟩ := hZ.2.2.2.1
    have z8 := hZ.2.2.1.2.2
    have e : i = tz (M 179) := by omega
    unfold towN
    simp (disch := omega) only [f_X11_minute_L70, hy_k2, z9, hy_le, e, Nat.le_refl, if_true, hy_rid]
  | k + 1, i, f, M, Mw, W, hi, hf => by
    obtain ⟨f, rfl⟩ : ∃ e, f = e + 1 := ⟨f - 1, by omega⟩
    have hZ := W.1.1
    obtain ⟨z9, z10⟩ := hZ.2.2.2.1
    have z8 := hZ.2.2.1.2.2
    have hi' : ¬ tz (M 179) ≤ i := by omega
    obtain ⟨Mw1, _, _, W1⟩ := c_tow (f := 0) W (t := i) (by omega)
    have ih := r_towN kk k (i + 1) f (hy_row M 179 (tow (M 179) i)) Mw1 (by rw [hy_rs]; exact W1) (by rw [hy_rs, tow_tz]; omega) (by omega)
    rw [hy_rs, hy_rr] at ih
    unfold towN
    rw [← ih]
    simp (disch := omega) only [f_X11_minute_L70, hy_k2, z9, hy_le, hi', if_false, r_tow rfl hZ W.2.1 (t := i) (by omega), hy_cts, hy_lt', hy_add1]
theorem r_gstN : ∀ (k i f : Nat) (M Mw : hz_M), hy_W Mw (M 179) → i + k = gz (M 179) → k < f → ∃ M', f_X11_minute_L93 f (nI i) M = some (0, M') ∧ M' 179 = gstN (M 179) k i ∧ (∀ h, (i ≤ h ∧ h < i + k) → M' 185 h = if gdn (gstN (M 179) (h - i) i) h = true then 1 else 0) ∧ (∀ h, h < i → M' 185 h = M 185 h) ∧ ∀ a, a ≠ 179 → a ≠ 185 → M' a = M a
  | 0, i, f, M, Mw, W, hi, hf => by
    obtain ⟨f, rfl⟩ : ∃ e, f = e + 1 := ⟨f - 1, by omega⟩
    have hZ := W.1.1
    obtain ⟨z1, z2⟩ := hZ.1
    have e : i = gz (M 179) := by omega
    refine ⟨M, ?_, rfl, fun h hh => by omega, fun _ _ => rfl, fun _ _ _ => rfl⟩
    simp (disch := omega) only [f_X11_minute_L93, hy_k11, z1, hy_le, e, Nat.le_refl, if_true]
  | k + 1, i, f, M, Mw, W, hi, hf => by
    obtain ⟨f, rfl⟩ : ∃ e, f = e + 1 := ⟨f - 1, by omega⟩
    have hZ := W.1.1
    obtain ⟨z1, z2⟩ := hZ.1
    have hi' : ¬ gz (M 179) ≤ i := by omega
    obtain ⟨Mw1, _, _, W1⟩ := c_gst (fun _ _ _ _ => none) 0 0 0 (f := 0) W (g := i) (by omega)
    obtain ⟨M1, a1, a2, a3, a4⟩ := r_gst rfl hZ W.2.1 (g := i) (by omega)
    obtain ⟨M2, b1, b2, b3, b5, b4⟩ := r_gstN k (i + 1) f M1 Mw1 (by rw [a2]; exact W1) (by rw [a2, gst_gz]; omega) (by omega)
    refine ⟨M2, ?_, ?_, ?_, ?_, fun a h1 h2 => by rw [b4 a h1 h2, a4 a h1 h2]⟩
    · simp (disch := omega) only [f_X11_minute_L93, hy_k11, z1, hy_le, hi', if_false, a1, hy_cts, hy_lt', hy_add1, b1]
    · rw [b2, a2]; rfl
    · intro h hh
      by_cases e : h = i
      · subst e
        rw [b5 h (by omega), a3, hy_ss, show h - h = 0 by omega]; rfl
      · rw [b3 h (by omega), a2, show h - i = (h - (i + 1)) + 1 by omega]; rfl
    · intro h hh
      rw [b5 h (by omega), a3, hy_so _ _ (by omega)]
theorem r_min {M Mw : hz_M} {q : Nat → Int32} (W : hy_W Mw q) (hq : M 179 = q) : ∃ M', f_X11_minute M = some (0, M') ∧ M' 179 = minute q ∧ (∀ h, h < gz q → M' 185 h = if gdn (gstN (mC q) h 0) h = true then 1 else 0) ∧ ∀ a, a ≠ 179 → a ≠ 185 → M' a = M a := by
  have hZ := W.1.1
  have hZ0 := hZ
  obtain ⟨qa, qat, ql, qh, qs, qw, qwt, qpg, jl, jh, jp, qo, qol, qhp, qht, qrm, qgn, qqt, qop⟩ := W.2.1
  obtain ⟨⟨z1, z2⟩, ⟨z3, z4, z5⟩, ⟨z6, z7, z8⟩, ⟨z9, z10⟩, ⟨z11, z12, z13⟩, ⟨z14, z15, z16⟩⟩ := hZ
  obtain ⟨n, hn1, hn2, hn⟩ := qgn
  have en : hz_nz (q 6) = true := by rw [hn]; unfold hz_nz; simp (disch := omega) [hy_0, hy_eq]; omega
  have W1 : hy_W (hz_set Mw 11 14 (q 8 + 1)) (hy_st q 8 (q 8 + 1)) := p_time (v := q 8 + 1) W (fun a h => hy_seto _ _ _ h) (fun k h => hy_setn _ _ _ h) (hy_setk _ _ _ _) (fun k c0 => hy_so _ _ c0) (hy_ss _ _ _)
  have W2 : hy_W (hz_set (hz_set Mw 11 14 (q 8 + 1)) 24 8 (q 20 + 1)) (hy_st (hy_st q 8 (q 8 + 1)) (12 + 8) (q 20 + 1)) := p_acc (g := 8) W1 (by omega) (fun a h => hy_seto _ _ _ h) (hy_srow _ _ _ _) (fun k c0 => hy_so _ _ c0) (hy_ss _ _ _)
  obtain ⟨M3, g1, g2, W3⟩ := c_gong W2
  have W3' : hy_W M3 (mA q) := W3
  obtain ⟨h, hh, eh⟩ := nxt_rg (mA q 9) (stm (mA q))
  have W4 : hy_W (hz_set M3 11 15 (nI h)) (mB q) := by
    unfold mB
    rw [eh]
    exact p_heat (k := h) W3' hh (fun a h => hy_seto _ _ _ h) (fun k h => hy_setn _ _ _ h) (hy_setk _ _ _ _) (fun k c0 => hy_so _ _ c0) (hy_ss _ _ _)
  have tB : tz (mB q) = tz q := tz_cg (mB_o (by omega) (by omega) (by omega) (by omega) (by omega))
  obtain ⟨M5, t1, t2, W5⟩ := c_towN (tz q) 0 hz_FU _ _ W4 (by omega) (hy_FU (by omega))
  have W5' : hy_W M5 (mC q) := W5
  have gC : gz (mC q) = gz q := gz_cg (mC_o (by omega) (by omega) (by omega) (by omega) (by omega) (by omega) (by omega))
  have tail : ∀ X : hz_M, X 179 = mA q → hz_ct (f_X11_nextHeat X) (fun r7 M8 => hz_lm (hz_set M8 179 (Int32.toNatClampNeg (9 : Int32)) r7) fun M10 => f_X11_minute_L70 (fun (M11 : hz_M) => f_X11_minute_L93 hz_FU (0 : Int32) M11) hz_FU (0 : Int32) M10) = f_X11_minute_L93 hz_FU (nI 0) (hy_row X 179 (mC q)) := by
    intro X hX
    rw [r_nxt hX W3'.1.1, hy_cts, hy_lm, hy_k9, hy_set, hX]
    have := r_towN (fun (M11 : hz_M) => f_X11_minute_L93 hz_FU (0 : Int32) M11) (tz q) 0 hz_FU (hy_row X 179 (mB q)) _ (by rw [hy_rs]; exact W4) (by rw [hy_rs]; omega) (hy_FU (by omega))
    rw [hy_rs, hy_rr] at this
    exact this
  obtain ⟨M6, u1, u2, u3, _, u4⟩ := r_gstN (gz q) 0 hz_FU (hy_row (hy_row M 179 (mA q)) 179 (mC q)) M5 (by rw [hy_rs]; exact W5') (by rw [hy_rs]; omega) (hy_FU (by omega))
  rw [hy_rs] at u2 u3
  refine ⟨M6, ?_, u2, fun h hh => by rw [u3 h (by omega)]; simp only [Nat.sub_zero], fun a h1 h2 => by rw [u4 a h1 h2, hy_ro _ _ h1, hy_ro _ _ h1]⟩
  rw [← u1, ← tail (hy_row M 179 (mA q)) (hy_rs _ _ _)]
  unfold f_X11_minute
  simp (disch := omega) only [hy_lm, hy_k8, hq, hy_set, r_counts8, hy_rs, hy_rr, hy_cts, hy_k6, hy_so, en, hy_gt, hy_jn, hy_ss, hy_k10, r_counts7]
  unfold mA gng
  simp (disch := omega) only [hy_so, hy_ss]
  by_cases e : (q 8 + 1) - (q 8 + 1) / q 6 * q 6 = 0
  · simp (disch := omega) only [e, if_true]
  · simp (disch := omega) only [e, if_false]

