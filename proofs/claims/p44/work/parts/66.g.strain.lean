theorem W_mA {M : hz_M} {q : Nat → Int32} (W : hy_W M q) : ∃ M', hy_W M' (mA q) := by
  have W1 : hy_W (hz_set M 11 14 (q 8 + 1)) (hy_st q 8 (q 8 + 1)) := p_time (v := q 8 + 1) W (fun a h => hy_seto _ _ _ h) (fun k h => hy_setn _ _ _ h) (hy_setk _ _ _ _) (fun k c0 => hy_so _ _ c0) (hy_ss _ _ _)
  have W2 : hy_W (hz_set (hz_set M 11 14 (q 8 + 1)) 24 8 (q 20 + 1)) (hy_st (hy_st q 8 (q 8 + 1)) (12 + 8) (q 20 + 1)) := p_acc (g := 8) W1 (by omega) (fun a h => hy_seto _ _ _ h) (hy_srow _ _ _ _) (fun k c0 => hy_so _ _ c0) (hy_ss _ _ _)
  obtain ⟨M3, g1, g2, W3⟩ := c_gong W2
  exact ⟨M3, W3⟩
theorem W_mB {M : hz_M} {q : Nat → Int32} (W : hy_W M q) : ∃ M', hy_W M' (mB q) := by
  obtain ⟨M3, W3⟩ := W_mA W
  obtain ⟨h, hh, eh⟩ := nxt_rg (mA q 9) (stm (mA q))
  refine ⟨hz_set M3 11 15 (nI h), ?_⟩
  unfold mB
  rw [eh]
  exact p_heat (k := h) W3 hh (fun a h => hy_seto _ _ _ h) (fun k h => hy_setn _ _ _ h) (hy_setk _ _ _ _) (fun k c0 => hy_so _ _ c0) (hy_ss _ _ _)
theorem tz_mB (q : Nat → Int32) : tz (mB q) = tz q := tz_cg (mB_o (by omega) (by omega) (by omega) (by omega) (by omega))
theorem gz_mC (q : Nat → Int32) : gz (mC q) = gz q := gz_cg (mC_o (by omega) (by omega) (by omega) (by omega) (by omega) (by omega) (by omega))
theorem W_mC {M : hz_M} {q : Nat → Int32} (W : hy_W M q) : ∃ M', hy_W M' (mC q) := by
  obtain ⟨M4, W4⟩ := W_mB W
  have z := W.1.1.2.2.1.2.2
  have z10 := W.1.1.2.2.2.1.2
  obtain ⟨M5, t1, t2, W5⟩ := c_towN (tz q) 0 hz_FU _ _ W4 (by rw [tz_mB]; omega) (hy_FU (by omega))
  exact ⟨M5, W5⟩
/-- who came down, as a set -/
def sbN : Nat → Nat → (Nat → Int32) → Int32 → Int32
  | 0, _, _, s => s
  | k + 1, i, q, s => sbN k (i + 1) (gst q i) (if gdn q i = true then s ||| ((1 : Int32) <<< (nI i &&& 31)) else s)
theorem O_low {b : Nat} {M : hz_M} {q : Nat → Int32} (hR : RO b M q) (hZ : hy_Z q) (kk : Int32 → Int32 → Int32 → hz_M → hz_O) (x y : Int32) : ∀ k f, k ≤ 10 → k < f → f_X11_minute_L329 b kk f x y (nI k) M = kk x y (nI (low q k)) M
  | 0, f, _, hf => by
    obtain ⟨f, rfl⟩ : ∃ e, f = e + 1 := ⟨f - 1, by omega⟩
    have e : nI 0 ≤ 0 := by decide
    simp only [f_X11_minute_L329, low, e, if_true]
  | k + 1, f, hk, hf => by
    have b5 := hR.1.2.2.2.2.2.1
    obtain ⟨f, rfl⟩ : ∃ e, f = e + 1 := ⟨f - 1, by omega⟩
    have e : ¬ nI (k + 1) ≤ 0 := by rw [hy_0, hy_le (by omega) (by omega)]; omega
    simp only [f_X11_minute_L329, low, e, if_false, O_on hR hZ, hy_cts, b5, hy_lt', hy_dec]
    by_cases e2 : hAt q (nI (k + 1)) < q 5
    · simp only [e2, if_true]
    · simp only [e2, if_false]
      exact O_low hR hZ kk x y k f (by omega) (by omega)
theorem low_st {q : Nat → Int32} {i : Nat} (v : Int32) (h : ∀ g, i ≠ 25 + 8 * g + 2) (h1 : i ≠ 11) (h2 : i ≠ 5) : ∀ k, low (hy_st q i v) k = low q k
  | 0 => rfl
  | k + 1 => by
    unfold low
    rw [low_st v h h1 h2 k, hAt_cg (q := q) (q' := hy_st q i v) (hy_so _ _ (fun e => h1 e.symm)) (fun g => hy_so _ _ (fun e => h g e.symm)), hy_so _ _ (fun e => h2 e.symm)]
theorem mx_add {k : Nat} (hk : k ≤ 100) : nI k + (if nI k ≤ 0 then 0 else -1) = mx (nI k) := by
  rw [mx_nI k (by omega)]
  by_cases e : k = 0
  · subst e
    rfl
  · rw [if_neg (by rw [hy_0, hy_le (by omega) (by omega)]; omega), ← Int32.sub_eq_add_neg, hy_1, hy_sub (by omega)]
theorem O_m207 {b : Nat} : ∀ (k i f : Nat) (M Mc : hz_M) (q : Nat → Int32) (s : Int32), RO b M q → hy_W Mc q → i + k = gz q → k < f → ∃ M', f_X11_minute_L207 b f s (nI i) M = some (sbN k i q s, M') ∧ (∀ a, (a < b ∨ b + 11 < a) → M' a = M a) ∧ RO b M' (gstN q k i)
  | 0, i, f, M, Mc, q, s, hR, W, hi, hf => by
    have hZ := W.1.1
    have z2 := hZ.1.2
    have b10 := hR.1.2.2.2.2.2.2.2.2.2.2.1
    rw [hZ.1.1] at b10
    obtain ⟨f, rfl⟩ : ∃ e, f = e + 1 := ⟨f - 1, by omega⟩
    refine ⟨M, ?_, fun _ _ => rfl, hR⟩
    rw [show i = gz q by omega]
    simp (disch := omega) only [f_X11_minute_L207, b10, hy_le, Nat.le_refl, if_true, sbN]
  | k + 1, i, f, M, Mc, q, s, hR, W, hi, hf => by
    have hZ := W.1.1
    have hQ := W.2.1
    have z2 := hZ.1.2
    have z16 := hZ.2.2.2.2.2.2.2
    obtain ⟨Mc', -, -, W'⟩ := c_gst (fun _ _ _ _ => none) 0 0 0 (f := 0) W (show i < gz q by omega)
    have b10 := hR.1.2.2.2.2.2.2.2.2.2.2.1
    rw [hZ.1.1] at b10
    have b9 := hR.1.2.2.2.2.2.2.2.2.2.1
    have rat := hR.2.2.2.2.2.2.2.1 i (by omega)
    have rst := hR.2.2.2.2.2.2.2.2.2.1 i (by omega)
    have a16 : M (b + 5) 4 = q 16 := hR.2.2.2.2.2.1 4 (by omega)
    have hbe := O_bears hR hZ (g := i) (by omega)
    obtain ⟨f, rfl⟩ : ∃ e, f = e + 1 := ⟨f - 1, by omega⟩
    have hi' : ¬ gz q ≤ i := by omega
    have go := fun M1 s1 (R : RO b M1 (gst q i)) => O_m207 k (i + 1) f M1 Mc' (gst q i) s1 R W' (by rw [gst_gz]; omega) (by omega)
    obtain ⟨ks, hks, eks⟩ := hQ.2.2.2.2.1 i (by omega)
    have rA : q (25 + 8 * i + 2) = -1 ∨ ∃ k, k < sz q + 1 ∧ q (25 + 8 * i + 2) = nI k := (hQ.2.1 i (by omega)).imp id (fun ⟨k, a, c⟩ => ⟨k, by omega, c⟩)
    have eA2 := hy_0lt (n := sz q + 1) (by omega) rA
    by_cases e1 : q (25 + 8 * i + 2) = -1
    · have eg : gst q i = q := by unfold gst; rw [if_pos e1]
      have ed : gdn q i = false := decide_eq_false (fun h => by rw [e1] at h; exact absurd h.1 (by decide))
      obtain ⟨M', e, fr, r⟩ := go M s (by rw [eg]; exact hR)
      refine ⟨M', ?_, fr, r⟩
      simp (maxSteps := 1000000) (disch := omega) only [↓reduceIte, f_X11_minute_L207, b10, hi', if_false, hy_cts, hy_gt, hy_lt', hy_lm, hy_jn, hy_c, hy_in, hy_le, hy_add1, hy_k0, hy_k1, hy_k2, hy_k3, hy_k4, hy_k5, hy_k6, hy_k7, hy_k8, hy_k9, hy_k10, hy_k11, hy_k12, hy_k13, rat, eA2, e1, not_true_eq_false, sbN, ed, Bool.false_eq_true]
      exact e
    · by_cases e2 : q (25 + 8 * i + 2) = 0
      · have eg : gst q i = hy_st q (25 + 8 * i + 5) (mx (q (25 + 8 * i + 5))) := by unfold gst; rw [if_neg e1, if_pos e2]
        have ed : gdn q i = false := decide_eq_false (fun h => by rw [e2] at h; exact absurd h.1 (by decide))
        have R1 := ro_str hR hZ (g := i) (v := mx (q (25 + 8 * i + 5))) (by omega)
        obtain ⟨M', e, fr, r⟩ := go _ s (by rw [eg]; exact R1)
        refine ⟨M', ?_, fun a ha => by rw [fr a ha, hy_seto _ _ _ (by omega)], r⟩
        have em := mx_add (k := ks) (by omega)
        rw [← eks] at em
        simp (maxSteps := 1000000) (disch := omega) only [↓reduceIte, f_X11_minute_L207, b10, hi', if_false, hy_cts, hy_gt, hy_lt', hy_lm, hy_jn, hy_c, hy_in, hy_le, hy_add1, hy_k0, hy_k1, hy_k2, hy_k3, hy_k4, hy_k5, hy_k6, hy_k7, hy_k8, hy_k9, hy_k10, hy_k11, hy_k12, hy_k13, rat, eA2, e1, not_false_eq_true, e2, if_true, sbN, ed, Bool.false_eq_true, rst, show ((-1 : Int32) ≤ 0) = True from eq_true (by decide), hy_seto]
        by_cases e3 : q (25 + 8 * i + 5) ≤ 0
        · simp only [e3, if_true] at em ⊢
          rw [em]
          exact e
        · simp only [e3, if_false] at em ⊢
          rw [em]
          exact e
      · obtain ⟨sk, hsk, esk⟩ := sbh_rg hZ hQ (show i < gz q by omega) e1
        have eb : q 9 + 6 * q (25 + 8 * i + 2) - (60 + q (25 + 8 * i + 1) / 4) = ovr q i := rfl
        obtain ⟨pa, hpa, epa⟩ := rA.resolve_left e1
        have hp0 : 0 < pa := by
          rcases Nat.eq_zero_or_pos pa with h | h
          · subst h
            exact absurd epa e2
          · exact h
        have gd0 : (0 < q (25 + 8 * i + 2)) = True := by
          rw [epa, hy_0, hy_lt (by omega) (by omega)]
          exact eq_true hp0
        -- the strain
        have est : ∀ x : Int32, x = (if ovr q i ≤ 0 then (if q (25 + 8 * i + 5) ≤ 0 then 0 else -1) else ovr q i / 5 + 1) → q (25 + 8 * i + 5) + x = sbh q i := by
          intro x hx
          subst hx
          unfold sbh
          split
          · have em := mx_add (k := ks) (by omega)
            rw [eks]
            exact em
          · rw [Int32.add_assoc]
        by_cases e4 : 10 ≤ sbh q i
        · have eg : gst q i = hy_st (hy_st (hy_st q (25 + 8 * i + 2) (nI (low q (pa - 1)))) (25 + 8 * i + 5) (nI 5)) (12 + 4) (q 16 + 1) := by
            unfold gst
            rw [if_neg e1, if_neg e2, if_pos e4, epa, hy_c (by omega)]
          have ed : gdn q i = true := decide_eq_true ⟨by rw [gd0]; exact trivial, e4⟩
          have R1 := ro_str hR hZ (g := i) (v := sbh q i) (by omega)
          have Z1 := Z_st (i := 25 + 8 * i + 5) (sbh q i) (by omega) (by omega) hZ
          have R2 := ro_at R1 Z1 (g := i) (v := nI (low q (pa - 1))) (by rw [gz_st _ _ (by omega)]; omega)
          have Z2 := Z_st (i := 25 + 8 * i + 2) (nI (low q (pa - 1))) (by omega) (by omega) Z1
          have R3 := ro_str R2 Z2 (g := i) (v := (5 : Int32)) (by rw [gz_st _ _ (by omega), gz_st _ _ (by omega)]; omega)
          have Z3 := Z_st (i := 25 + 8 * i + 5) (5 : Int32) (by omega) (by omega) Z2
          have R4 := ro_acc R3 Z3 (a := 4) (v := q 16 + 1) (by omega)
          have eq4 : hy_st (hy_st (hy_st (hy_st q (25 + 8 * i + 5) (sbh q i)) (25 + 8 * i + 2) (nI (low q (pa - 1)))) (25 + 8 * i + 5) (5 : Int32)) (12 + 4) (q 16 + 1) = gst q i := by
            rw [eg, show nI 5 = (5 : Int32) from rfl]
            funext k
            simp only [hy_st]
            grind
          rw [eq4] at R4
          obtain ⟨M', e, fr, r⟩ := go _ (s ||| ((1 : Int32) <<< (nI i &&& 31))) R4
          refine ⟨M', ?_, fun a ha => by rw [fr a ha]; simp (disch := omega) only [hy_seto], r⟩
          have hlw := fun kk x => O_low R1 Z1 kk x (nI i) (pa - 1) hz_FU (by omega) (hy_FU (by omega))
          have els : low (hy_st q (25 + 8 * i + 5) (sbh q i)) (pa - 1) = low q (pa - 1) := low_st _ (fun g => by omega) (by omega) (by omega) _
          rw [els] at hlw
          have m1 : nI pa - 1 = nI (pa - 1) := by rw [hy_1, hy_sub (by omega)]
          have n0 : (nI pa = 0) = False := by rw [← epa]; exact eq_false e2
          simp (maxSteps := 1000000) (disch := omega) only [↓reduceIte, f_X11_minute_L207, b10, hi', if_false, hy_cts, hy_gt, hy_lt', hy_lm, hy_jn, hy_c, hy_in, hy_le, hy_add1, hy_k0, hy_k1, hy_k2, hy_k3, hy_k4, hy_k5, hy_k6, hy_k7, hy_k8, hy_k9, hy_k10, hy_k11, hy_k12, hy_k13, rat, eA2, e1, not_false_eq_true, e2, if_true, sbN, ed, rst, hbe, b9, eb, hy_seto]
          by_cases x1 : ovr q i ≤ 0
          · simp only [x1, if_true] at est ⊢
            by_cases x2 : q (25 + 8 * i + 5) ≤ 0
            · simp only [x2, if_true] at est ⊢
              simp (disch := omega) only [est 0 rfl, hy_setk, hy_seto, rat, e2, e4, if_true, if_false, epa, n0, m1, hlw, hy_cts, hy_gt, hy_lt', hy_lm, hy_jn, hy_c, hy_in, hy_le, hy_add1, hy_k0, hy_k1, hy_k2, hy_k3, hy_k4, hy_k5, hy_k6, hy_k7, hy_k8, hy_k9, hy_k10, hy_k11, hy_k12, hy_k13, a16]
              exact e
            · simp only [x2, if_false] at est ⊢
              simp (disch := omega) only [est (-1) rfl, hy_setk, hy_seto, rat, e2, e4, if_true, if_false, epa, n0, m1, hlw, hy_cts, hy_gt, hy_lt', hy_lm, hy_jn, hy_c, hy_in, hy_le, hy_add1, hy_k0, hy_k1, hy_k2, hy_k3, hy_k4, hy_k5, hy_k6, hy_k7, hy_k8, hy_k9, hy_k10, hy_k11, hy_k12, hy_k13, a16]
              exact e
          · simp only [x1, if_false] at est ⊢
            simp (disch := omega) only [est (ovr q i / 5 + 1) rfl, hy_setk, hy_seto, rat, e2, e4, if_true, if_false, epa, n0, m1, hlw, hy_cts, hy_gt, hy_lt', hy_lm, hy_jn, hy_c, hy_in, hy_le, hy_add1, hy_k0, hy_k1, hy_k2, hy_k3, hy_k4, hy_k5, hy_k6, hy_k7, hy_k8, hy_k9, hy_k10, hy_k11, hy_k12, hy_k13, a16]
            exact e
        · have eg : gst q i = hy_st q (25 + 8 * i + 5) (sbh q i) := by
            unfold gst
            rw [if_neg e1, if_neg e2, if_neg e4]
          have ed : gdn q i = false := decide_eq_false (fun h => e4 h.2)
          have R1 := ro_str hR hZ (g := i) (v := sbh q i) (by omega)
          obtain ⟨M', e, fr, r⟩ := go _ s (by rw [eg]; exact R1)
          refine ⟨M', ?_, fun a ha => by rw [fr a ha, hy_seto _ _ _ (by omega)], r⟩
          simp (maxSteps := 1000000) (disch := omega) only [↓reduceIte, f_X11_minute_L207, b10, hi', if_false, hy_cts, hy_gt, hy_lt', hy_lm, hy_jn, hy_c, hy_in, hy_le, hy_add1, hy_k0, hy_k1, hy_k2, hy_k3, hy_k4, hy_k5, hy_k6, hy_k7, hy_k8, hy_k9, hy_k10, hy_k11, hy_k12, hy_k13, rat, eA2, e1, not_false_eq_true, e2, if_true, sbN, ed, Bool.false_eq_true, rst, hbe, b9, eb, hy_seto]
          by_cases x1 : ovr q i ≤ 0
          · simp only [x1, if_true] at est ⊢
            by_cases x2 : q (25 + 8 * i + 5) ≤ 0
            · simp only [x2, if_true] at est ⊢
              simp (disch := omega) only [est 0 rfl, hy_setk, hy_seto, rat, e2, e4, if_false, hy_cts, hy_gt, hy_lt', hy_lm, hy_jn, hy_c, hy_in, hy_le, hy_add1, hy_k0, hy_k1, hy_k2, hy_k3, hy_k4, hy_k5, hy_k6, hy_k7, hy_k8, hy_k9, hy_k10, hy_k11, hy_k12, hy_k13]
              exact e
            · simp only [x2, if_false] at est ⊢
              simp (disch := omega) only [est (-1) rfl, hy_setk, hy_seto, rat, e2, e4, if_false, hy_cts, hy_gt, hy_lt', hy_lm, hy_jn, hy_c, hy_in, hy_le, hy_add1, hy_k0, hy_k1, hy_k2, hy_k3, hy_k4, hy_k5, hy_k6, hy_k7, hy_k8, hy_k9, hy_k10, hy_k11, hy_k12, hy_k13]
              exact e
          · simp only [x1, if_false] at est ⊢
            simp (disch := omega) only [est (ovr q i / 5 + 1) rfl, hy_setk, hy_seto, rat, e2, e4, if_false, hy_cts, hy_gt, hy_lt', hy_lm, hy_jn, hy_c, hy_in, hy_le, hy_add1, hy_k0, hy_k1, hy_k2, hy_k3, hy_k4, hy_k5, hy_k6, hy_k7, hy_k8, hy_k9, hy_k10, hy_k11, hy_k12, hy_k13]
            exact e
