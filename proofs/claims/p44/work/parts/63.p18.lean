theorem minute_8 {q : Nat → Int32} (hg : gz q ≤ 16) : minute q 8 = q 8 + 1 := by
  unfold minute mC mB
  rw [gstN_o _ _ _ _ (by omega) (by omega), towN_o _ _ _ _ (by omega) (by omega), hy_so _ _ (by omega)]
  unfold mA
  rw [gng_o (by omega) (by omega)]
  simp (disch := omega) only [hy_so, hy_ss]
theorem minute_10 {q : Nat → Int32} (hg : gz q ≤ 16) : minute q 10 = if (q 8 + 1) - (q 8 + 1) / q 6 * q 6 = 0 then q 8 + 1 else q 10 := by
  unfold minute mC mB
  rw [gstN_o _ _ _ _ (by omega) (by omega), towN_o _ _ _ _ (by omega) (by omega), hy_so _ _ (by omega)]
  unfold mA gng
  simp (disch := omega) only [hy_so, hy_ss]
  by_cases e : (q 8 + 1) - (q 8 + 1) / q 6 * q 6 = 0
  · simp (disch := omega) only [e, if_true, hy_so, hy_ss]
  · simp (disch := omega) only [e, if_false, hy_so, hy_ss]
theorem minute_o {q : Nat → Int32} {b : Nat} (h : b ≠ 8) (h1 : b ≠ 20) (h3 : b ≠ 10) (h2 : b ≠ 19) (h4 : b ≠ 9) (h5 : b < 153) (h6 : b ≠ 18) (h7 : b ≠ 16) (h8 : b < 25 ∨ (b % 8 ≠ 3 ∧ b % 8 ≠ 6)) : minute q b = q b := by
  unfold minute
  rw [gstN_o _ _ _ _ (by omega) h7, mC_o h h1 h3 h2 h4 h5 h6]
theorem c_isO {M : hz_M} {q : Nat → Int32} (W : hy_W M q) : M 11 18 = q 6 := (c_rows W.1.2.2).1.2.2.2.2.1
theorem c_gong {M : hz_M} {q : Nat → Int32} (W : hy_W M q) : ∃ M', f_X7_soundGong M = some (0, M') ∧ (∀ a, (a < 11 ∨ 24 < a) → M' a = M a) ∧ hy_W M' (gng q) := by
  have W0 := W
  obtain ⟨hC, hQ, hX⟩ := W
  have hC0 := hC
  obtain ⟨hZ, ⟨b3, b4, b5, b6, b7, b8, bag, bnm⟩, hRR⟩ := hC
  have hZ0 := hZ
  obtain ⟨⟨s1, s2, s3, s4, s5, s6⟩, ra, ro, rp, rl, rt, rs, rw', rd, rwt, rpg, rk, rh, rtw⟩ := c_rows hRR
  obtain ⟨⟨z1, z2⟩, ⟨z3, z4, z5⟩, ⟨z6, z7, z8⟩, ⟨z9, z10⟩, ⟨z11, z12, z13⟩, ⟨z14, z15, z16⟩⟩ := hZ
  rw [z1] at b3; rw [z3] at b4; rw [z6] at b5; rw [z9] at b6; rw [z11] at b7; rw [z14] at b8
  obtain ⟨qa, qat, ql, qh, qs, qw, qwt, qpg, jl, jh, jp, qo, qol, qhp, qht, qrm, qgn, qqt, qop⟩ := hQ
  obtain ⟨n, hn1, hn2, hn⟩ := qgn
  have e1 : ¬ q 6 ≤ 0 := by rw [hn, hy_0, hy_le (by omega) (by omega)]; omega
  have e2 : hz_nz (q 6) = true := by rw [hn]; unfold hz_nz; simp (disch := omega) [hy_0, hy_eq]; omega
  have ra7 : M 24 7 = q 19 := ra 7 (by omega)
  unfold gng
  by_cases e : q 8 - q 8 / q 6 * q 6 = 0
  · rw [if_pos e]
    refine ⟨hz_set (hz_set M 11 16 (q 8)) 24 7 (q 19 + 1), ?_, fun a ha => by simp (disch := omega) only [hy_seto], ?_⟩
    · simp (disch := omega) only [f_X7_soundGong, s5, e1, if_false, e2, hy_gt, s1, e, if_true, hy_lm, hy_k7, hy_seto, ra7]
    · have W1 : hy_W (hz_set M 11 16 (q 8)) (hy_st q 10 (q 8)) := p_since (v := q 8) W0 (fun a h => hy_seto _ _ _ h) (fun k h => hy_setn _ _ _ h) (hy_setk _ _ _ _) (fun k c0 => hy_so _ _ c0) (hy_ss _ _ _)
      exact p_acc (g := 7) W1 (by omega) (fun a h => hy_seto _ _ _ h) (hy_srow _ _ _ _) (fun k c0 => hy_so _ _ c0) (hy_ss _ _ _)
  · rw [if_neg e]
    refine ⟨M, ?_, fun _ _ => rfl, W0⟩
    simp (disch := omega) only [f_X7_soundGong, s5, e1, if_false, e2, hy_gt, s1, e]
theorem gng_s {q : Nat → Int32} : gz (gng q) = gz q ∧ tz (gng q) = tz q := ⟨gz_cg (gng_o (by omega) (by omega)), tz_cg (gng_o (by omega) (by omega))⟩
theorem c_min (kk : Int32 → hz_M → hz_O) (y : Int32) {M : hz_M} {q : Nat → Int32} {n i f : Nat} (W : hy_W M q) (hi : i < n) (hn : n ≤ 1000) : ∃ M', f_X7_pass_L9 kk (f + 1) (nI n) y (nI i) M = f_X7_pass_L9 kk f (nI n) y (nI (i + 1)) M' ∧ (∀ a, (a < 11 ∨ 24 < a) → M' a = M a) ∧ hy_W M' (minute q) := by
  have W0 := W
  obtain ⟨hC, hQ, hX⟩ := W
  have hC0 := hC
  obtain ⟨hZ, ⟨b3, b4, b5, b6, b7, b8, bag, bnm⟩, hRR⟩ := hC
  have hZ0 := hZ
  obtain ⟨⟨s1, s2, s3, s4, s5, s6⟩, ra, ro, rp, rl, rt, rs, rw', rd, rwt, rpg, rk, rh, rtw⟩ := c_rows hRR
  obtain ⟨⟨z1, z2⟩, ⟨z3, z4, z5⟩, ⟨z6, z7, z8⟩, ⟨z9, z10⟩, ⟨z11, z12, z13⟩, ⟨z14, z15, z16⟩⟩ := hZ
  rw [z1] at b3; rw [z3] at b4; rw [z6] at b5; rw [z9] at b6; rw [z11] at b7; rw [z14] at b8
  obtain ⟨qa, qat, ql, qh, qs, qw, qwt, qpg, jl, jh, jp, qo, qol, qhp, qht, qrm, qgn, qqt, qop⟩ := hQ
  have hi' : ¬ n ≤ i := by omega
  have ra8 : M 24 8 = q 20 := ra 8 (by omega)
  have W1 : hy_W (hz_set M 11 14 (q 8 + 1)) (hy_st q 8 (q 8 + 1)) := p_time (v := q 8 + 1) W0 (fun a h => hy_seto _ _ _ h) (fun k h => hy_setn _ _ _ h) (hy_setk _ _ _ _) (fun k c0 => hy_so _ _ c0) (hy_ss _ _ _)
  have W2 : hy_W (hz_set (hz_set M 11 14 (q 8 + 1)) 24 8 (q 20 + 1)) (hy_st (hy_st q 8 (q 8 + 1)) (12 + 8) (q 20 + 1)) := p_acc (g := 8) W1 (by omega) (fun a h => hy_seto _ _ _ h) (hy_srow _ _ _ _) (fun k c0 => hy_so _ _ c0) (hy_ss _ _ _)
  obtain ⟨M3, g1, g2, W3⟩ := c_gong W2
  have W3' : hy_W M3 (mA q) := W3
  have st := c_stm W3'.1
  have h15 : M3 11 15 = mA q 9 := (c_rows W3'.1.2.2).1.2.1
  obtain ⟨h, hh, eh⟩ := nxt_rg (mA q 9) (stm (mA q))
  have W4 : hy_W (hz_set M3 11 15 (nI h)) (mB q) := by
    unfold mB
    rw [eh]
    exact p_heat (k := h) W3' hh (fun a h => hy_seto _ _ _ h) (fun k h => hy_setn _ _ _ h) (hy_setk _ _ _ _) (fun k c0 => hy_so _ _ c0) (hy_ss _ _ _)
  have tB : tz (mB q) = tz q := tz_cg (mB_o (by omega) (by omega) (by omega) (by omega) (by omega))
  obtain ⟨M5, t1, t2, W5⟩ := c_towN (tz q) 0 hz_FU _ _ W4 (by omega) (hy_FU (by omega))
  have W5' : hy_W M5 (mC q) := W5
  have gC : gz (mC q) = gz q := gz_cg (mC_o (by omega) (by omega) (by omega) (by omega) (by omega) (by omega) (by omega))
  obtain ⟨M6, u1, u2, W6⟩ := c_gstN (fun (v1_25 : Int32) (v2_26 : Int32) (v3_27 : Int32) (M28 : hz_M) => hz_lt (v3_27 + (1 : Int32)) fun x29 => f_X7_pass_L9 kk f v1_25 v2_26 x29 M28) (nI n) y (nI i) (gz q) 0 hz_FU M5 (mC q) W5' (by omega) (hy_FU (by omega))
  refine ⟨M6, ?_, fun a ha => by rw [u2 a ha, t2 a ha, hy_seto _ _ _ (by omega), g2 a ha]; simp (disch := omega) only [hy_seto], W6⟩
  have hb : f_X7_heatBehind (mA q 9) (stm (mA q)) M3 = some (nI h, M3) := by rw [← eh]; rfl
  simp (disch := omega) only [f_X7_pass_L9, hy_le, hi', if_false, hy_lm, s1, hy_k8, hy_seto, ra8, g1, hy_cts, st, h15, hb, f_X7_changeTowels, hy_jn]
  rw [show (0 : Int32) = nI 0 from rfl]
  rw [t1, hy_cts, u1, hy_lt', hy_add1]
def minN : Nat → (Nat → Int32) → (Nat → Int32)
  | 0, q => q
  | k + 1, q => minN k (minute q)
theorem c_minN (kk : Int32 → hz_M → hz_O) (y : Int32) : ∀ (k i f n : Nat) (M : hz_M) (q : Nat → Int32), hy_W M q → i + k = n → n ≤ 1000 → k < f → ∃ M', f_X7_pass_L9 kk f (nI n) y (nI i) M = kk y M' ∧ (∀ a, (a < 11 ∨ 24 < a) → M' a = M a) ∧ hy_W M' (minN k q)
  | 0, i, f, n, M, q, W, hi, hn, hf => by
    obtain ⟨f, rfl⟩ : ∃ e, f = e + 1 := ⟨f - 1, by omega⟩
    refine ⟨M, ?_, fun _ _ => rfl, W⟩
    have e : n ≤ i := by omega
    simp (disch := omega) only [f_X7_pass_L9, hy_le, e, if_true]
  | k + 1, i, f, n, M, q, W, hi, hn, hf => by
    obtain ⟨f, rfl⟩ : ∃ e, f = e + 1 := ⟨f - 1, by omega⟩
    obtain ⟨M1, e1, f1, W1⟩ := c_min kk y (f := f) W (show i < n by omega) hn
    obtain ⟨M2, e2, f2, W2⟩ := c_minN kk y k (i + 1) f n M1 (minute q) W1 (by omega) hn (by omega)
    exact ⟨M2, by rw [e1, e2], fun a ha => by rw [f2 a ha, f1 a ha], W2⟩
