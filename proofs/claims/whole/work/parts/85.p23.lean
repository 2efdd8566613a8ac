
theorem c_rec {M : hz_M} (I : Inv M) : ∃ Mc, f_X2_record M = some (0, Mc) ∧ hy_W Mc (M 179) ∧ Mc 179 = M 179 ∧ ∀ (M1 : hz_M) (q' : Nat → Int32), (∀ a, (a < 11 ∨ 24 < a) → M1 a = Mc a) → hy_W M1 q' → hy_T q' →
    ∀ M2 : hz_M, (∀ a, a ≠ 178 → a ≠ 193 → M2 a = M1 a) → (∀ b, b ≠ 8 → M2 178 b = M1 178 b) → ∃ Mr1, f_X11_changes M2 = some (0, Mr1) ∧ Mr1 179 = M 179 ∧ ∀ M3 : hz_M, M3 179 = q' → (∀ a, a ≠ 179 → a ≠ 185 → M3 a = Mr1 a) → Inv M3 ∧ M3 178 8 = M2 178 8 ∧ M3 193 = M2 193 := by
  have W := I_W I
  obtain ⟨i1, i2, i3, i4, i5, i6, i7, i8⟩ := I
  obtain ⟨u, w, hu, hw, h6, h4, h3, hS⟩ := i2
  obtain ⟨Mc, hc, c3, c4, cS, cf⟩ := c_record hw hu h3 h4 i1
  have Wc : hy_W Mc (M 179) := W_fr (fun a ha => cf a (by omega) (by omega)) W i1.2.2.2.2.1
  refine ⟨Mc, hc, Wc, cf 179 (by omega) (by omega), fun M1 q' pf W1 hT M2 m1 m2 => ?_⟩
  have g1 : ∀ a, (a < 11 ∨ 24 < a) → a ≠ 32 → (a < 36 + 14 * ((w + 1) % 8) ∨ 36 + 14 * ((w + 1) % 8) + 13 < a) → M1 a = M a := fun a h1 h2 h3 => by rw [pf a h1, cf a h2 h3]
  have e6 : M2 178 6 = nI u := by rw [m2 6 (by omega), g1 178 (by omega) (by omega) (by omega)]; exact h6
  have e179 : M2 179 = M 179 := by rw [m1 179 (by omega) (by omega), g1 179 (by omega) (by omega) (by omega)]
  have e182 : M2 182 = M 182 := by rw [m1 182 (by omega) (by omega), g1 182 (by omega) (by omega) (by omega)]
  obtain ⟨Mr1, k0, k1, k2, k3, k4⟩ := r_keeps hu e6
  have e24 : M2 178 24 = 0 := by rw [m2 24 (by omega), g1 178 (by omega) (by omega) (by omega)]; exact i8
  have hch : f_X11_changes M2 = some (0, Mr1) := by simp only [f_X11_changes, e24, if_true, k0, hy_cts]
  refine ⟨Mr1, hch, by rw [k4 179 (by omega) (by omega), e179], fun M3 r2 r3 => ?_⟩
  have f1 : ∀ a, a ≠ 178 → a ≠ 179 → a ≠ 182 → a ≠ 185 → a ≠ 193 → M3 a = M1 a := fun a h1 h2 h3 h4 h5 => by rw [r3 a h2 h4, k4 a h1 h3, m1 a h1 h5]
  have f2 : ∀ b, b ≠ 6 → b ≠ 8 → M3 178 b = M 178 b := fun b h1 h2 => by rw [r3 178 (by omega) (by omega), k3 b h1, m2 b h2, g1 178 (by omega) (by omega) (by omega)]
  refine ⟨?_, by rw [r3 178 (by omega) (by omega), k3 8 (by omega)], by rw [r3 193 (by omega) (by omega), k4 193 (by omega) (by omega)]⟩
  refine Inv_mk (W_fr (fun a ha => f1 a (by omega) (by omega) (by omega) (by omega) (by omega)) W1 hT) hT r2 ?_ (Save_fr (fun a ha => ?_) i3) ?_ ?_ (Txt_fr (fun a ha => ?_) (f2 11 (by omega) (by omega)) i6) (Rep_fr (fun a ha => ?_) (f2 27 (by omega) (by omega)) i7) ?_
  · refine hist_new hw hu hS c3 c4 cS cf (fun a ha => ?_) ?_ ?_
    · rw [f1 a (by omega) (by omega) (by omega) (by omega) (by omega), pf a (by omega)]
    · rw [r3 182 (by omega) (by omega), k1, e182, e179]
    · rw [r3 178 (by omega) (by omega)]; exact k2
  · by_cases a1 : a = 183
    · subst a1; rw [f1 183 (by omega) (by omega) (by omega) (by omega) (by omega), g1 183 (by omega) (by omega) (by omega)]
    · by_cases a2 : a = 184
      · subst a2; rw [f1 184 (by omega) (by omega) (by omega) (by omega) (by omega), g1 184 (by omega) (by omega) (by omega)]
      · rw [f1 a (by omega) (by omega) (by omega) (by omega) (by omega), g1 a (by omega) (by omega) (by omega)]
  · rw [f1 26 (by omega) (by omega) (by omega) (by omega) (by omega), g1 26 (by omega) (by omega) (by omega), f2 7 (by omega) (by omega)]; exact i4
  · rw [f1 0 (by omega) (by omega) (by omega) (by omega) (by omega), g1 0 (by omega) (by omega) (by omega), f2 12 (by omega) (by omega)]; exact i5
  · rw [f1 a (by omega) (by omega) (by omega) (by omega) (by omega), g1 a (by omega) (by omega) (by omega)]
  · rw [f1 a (by omega) (by omega) (by omega) (by omega) (by omega), g1 a (by omega) (by omega) (by omega)]
  · rw [f2 24 (by omega) (by omega)]; exact i8

theorem set_6 {M : hz_M} (I : Inv M) {k : Nat} (h1 : 1 ≤ k) (h2 : k ≤ 9) : ∃ M', hy_go (f_X10_set 6 (nI k) M) (fx_X10_set 6 (nI k) M) (f_X11_set 6 (nI k)) = some (0, M') ∧ Inv M' := by
  obtain ⟨Mc, hc, Wc, c179, rest⟩ := c_rec I
  have sc := (c_rows Wc.1.2.2).1
  have W1 : hy_W (hz_set Mc 11 17 (nI k)) (hy_st (M 179) 5 (nI k)) := p_room (k := k) Wc h1 h2 (fun a h => hy_seto _ _ _ h) (fun k h => hy_setn _ _ _ h) (hy_setk _ _ _ _) (fun k c0 => hy_so _ _ c0) (hy_ss _ _ _)
  have T1 : hy_T (hy_st (M 179) 5 (nI k)) := T_st (hy_so _ _ (by omega)) (hy_so _ _ (by omega)) (I_T I)
  obtain ⟨Mr1, r1, r2, r3⟩ := rest _ _ (fun a ha => hy_seto _ _ _ (by omega)) W1 T1 (hz_set (hz_set (hz_set Mc 11 17 (nI k)) 193 0 (M 179 5)) 178 8 0) (fun a ha hb => by simp (disch := omega) only [hy_seto]) (fun b hb => by rw [hy_setn _ _ _ hb, hy_seto _ _ _ (by omega)])
  have l1 : ¬ nI k < 1 := by rw [show (1 : Int32) = nI 1 from rfl, hy_lt (by omega) (by omega)]; omega
  have l2 : ¬ (9 : Int32) < nI k := by rw [show (9 : Int32) = nI 9 from rfl, hy_lt (by omega) (by omega)]; omega
  obtain ⟨i1, i2, i3⟩ := r3 (hz_set Mr1 179 5 (nI k)) (by rw [hy_srow, r2]) (fun a h1 h2 => hy_seto _ _ _ h1)
  refine ⟨_, hy_okc (M1 := hz_set Mc 11 17 (nI k)) (r := M 179 5) ?_ ?_ (by rw [i2, hy_setk]) (by rw [i3, hy_seto _ _ _ (by omega), hy_setk]), i1⟩
  · simp only [f_X10_set, f_X10_isSetting, hy_e6_0, hy_e6_1, hy_e6_2, hy_e6_3, hy_e6_4, hy_e6_5, hy_e6_7, hy_e6_8, hy_e6_9, hy_e6_10, hy_e6_11, hy_e6_12, hy_e6_13, hy_e6_14, hy_e6_15, hy_e6_16, l1, l2, hc, f_X10_size, sc, hy_cts, hy_ctn, hy_xts, hy_xtn, c_need0, c_need1, x_need0, x_need1, hy_jn, hy_lm, hy_lt', hy_gt, if_true, if_false, hy_f10]
  · simp only [f_X11_set, r_in_ok _ (show (6 : Int32) ≤ 6 by decide) (show (6 : Int32) ≤ 8 by decide), hy_e6_7, hy_e6_8, r_in_ok _ (show (1 : Int32) ≤ nI k by grind) (show nI k ≤ 9 by grind), r_right1, r1, r2, show (6 : Int32) - 1 = 5 from rfl, show hz_in (5 : Int32) 185 = true from by decide, hy_k0, hy_k1, hy_k2, hy_k3, hy_k4, hy_k5, hy_k6, hy_k7, hy_k8, hy_k9, hy_k10, hy_k11, hy_k12, hy_k13, hy_cts, hy_ctn, hy_xts, hy_xtn, c_need0, c_need1, x_need0, x_need1, hy_jn, hy_lm, hy_lt', hy_gt, if_true, if_false, hy_f10]
theorem set_7 {M : hz_M} (I : Inv M) {k : Nat} (h1 : 2 ≤ k) (h2 : k ≤ 60) : ∃ M', hy_go (f_X10_set 7 (nI k) M) (fx_X10_set 7 (nI k) M) (f_X11_set 7 (nI k)) = some (0, M') ∧ Inv M' := by
  obtain ⟨Mc, hc, Wc, c179, rest⟩ := c_rec I
  have sc := (c_rows Wc.1.2.2).1
  have W1 : hy_W (hz_set Mc 11 18 (nI k)) (hy_st (M 179) 6 (nI k)) := p_gong (k := k) Wc h1 h2 (fun a h => hy_seto _ _ _ h) (fun k h => hy_setn _ _ _ h) (hy_setk _ _ _ _) (fun k c0 => hy_so _ _ c0) (hy_ss _ _ _)
  have T1 : hy_T (hy_st (M 179) 6 (nI k)) := T_st (hy_so _ _ (by omega)) (hy_so _ _ (by omega)) (I_T I)
  obtain ⟨Mr1, r1, r2, r3⟩ := rest _ _ (fun a ha => hy_seto _ _ _ (by omega)) W1 T1 (hz_set (hz_set (hz_set Mc 11 18 (nI k)) 193 0 (M 179 6)) 178 8 0) (fun a ha hb => by simp (disch := omega) only [hy_seto]) (fun b hb => by rw [hy_setn _ _ _ hb, hy_seto _ _ _ (by omega)])
  have l1 : ¬ nI k < 2 := by rw [show (2 : Int32) = nI 2 from rfl, hy_lt (by omega) (by omega)]; omega
  have l2 : ¬ (60 : Int32) < nI k := by rw [show (60 : Int32) = nI 60 from rfl, hy_lt (by omega) (by omega)]; omega
  obtain ⟨i1, i2, i3⟩ := r3 (hz_set Mr1 179 6 (nI k)) (by rw [hy_srow, r2]) (fun a h1 h2 => hy_seto _ _ _ h1)
  refine ⟨_, hy_okc (M1 := hz_set Mc 11 18 (nI k)) (r := M 179 6) ?_ ?_ (by rw [i2, hy_setk]) (by rw [i3, hy_seto _ _ _ (by omega), hy_setk]), i1⟩
  · simp only [f_X10_set, f_X10_isSetting, hy_e7_0, hy_e7_1, hy_e7_2, hy_e7_3, hy_e7_4, hy_e7_5, hy_e7_6, hy_e7_8, hy_e7_9, hy_e7_10, hy_e7_11, hy_e7_12, hy_e7_13, hy_e7_14, hy_e7_15, hy_e7_16, l1, l2, hc, f_X10_size, sc, hy_cts, hy_ctn, hy_xts, hy_xtn, c_need0, c_need1, x_need0, x_need1, hy_jn, hy_lm, hy_lt', hy_gt, if_true, if_false, hy_f10]
  · simp only [f_X11_set, r_in_ok _ (show (6 : Int32) ≤ 7 by decide) (show (7 : Int32) ≤ 8 by decide), hy_e7_6, hy_e7_8, r_in_ok _ (show (2 : Int32) ≤ nI k by grind) (show nI k ≤ 60 by grind), r_right1, r1, r2, show (7 : Int32) - 1 = 6 from rfl, show hz_in (6 : Int32) 185 = true from by decide, hy_k0, hy_k1, hy_k2, hy_k3, hy_k4, hy_k5, hy_k6, hy_k7, hy_k8, hy_k9, hy_k10, hy_k11, hy_k12, hy_k13, hy_cts, hy_ctn, hy_xts, hy_xtn, c_need0, c_need1, x_need0, x_need1, hy_jn, hy_lm, hy_lt', hy_gt, if_true, if_false, hy_f10]
theorem set_8 {M : hz_M} (I : Inv M) {k : Nat} (h1 : 0 ≤ k) (h2 : k ≤ 30) : ∃ M', hy_go (f_X10_set 8 (nI k) M) (fx_X10_set 8 (nI k) M) (f_X11_set 8 (nI k)) = some (0, M') ∧ Inv M' := by
  obtain ⟨Mc, hc, Wc, c179, rest⟩ := c_rec I
  have sc := (c_rows Wc.1.2.2).1
  have W1 : hy_W (hz_set Mc 11 19 (nI k)) (hy_st (M 179) 7 (nI k)) := p_quiet (k := k) Wc h2 (fun a h => hy_seto _ _ _ h) (fun k h => hy_setn _ _ _ h) (hy_setk _ _ _ _) (fun k c0 => hy_so _ _ c0) (hy_ss _ _ _)
  have T1 : hy_T (hy_st (M 179) 7 (nI k)) := T_st (hy_so _ _ (by omega)) (hy_so _ _ (by omega)) (I_T I)
  obtain ⟨Mr1, r1, r2, r3⟩ := rest _ _ (fun a ha => hy_seto _ _ _ (by omega)) W1 T1 (hz_set (hz_set (hz_set Mc 11 19 (nI k)) 193 0 (M 179 7)) 178 8 0) (fun a ha hb => by simp (disch := omega) only [hy_seto]) (fun b hb => by rw [hy_setn _ _ _ hb, hy_seto _ _ _ (by omega)])
  have l1 : ¬ nI k < 0 := by rw [show (0 : Int32) = nI 0 from rfl, hy_lt (by omega) (by omega)]; omega
  have l2 : ¬ (30 : Int32) < nI k := by rw [show (30 : Int32) = nI 30 from rfl, hy_lt (by omega) (by omega)]; omega
  obtain ⟨i1, i2, i3⟩ := r3 (hz_set Mr1 179 7 (nI k)) (by rw [hy_srow, r2]) (fun a h1 h2 => hy_seto _ _ _ h1)
  refine ⟨_, hy_okc (M1 := hz_set Mc 11 19 (nI k)) (r := M 179 7) ?_ ?_ (by rw [i2, hy_setk]) (by rw [i3, hy_seto _ _ _ (by omega), hy_setk]), i1⟩
  · simp only [f_X10_set, f_X10_isSetting, hy_e8_0, hy_e8_1, hy_e8_2, hy_e8_3, hy_e8_4, hy_e8_5, hy_e8_6, hy_e8_7, hy_e8_9, hy_e8_10, hy_e8_11, hy_e8_12, hy_e8_13, hy_e8_14, hy_e8_15, hy_e8_16, l1, l2, hc, f_X10_size, sc, hy_cts, hy_ctn, hy_xts, hy_xtn, c_need0, c_need1, x_need0, x_need1, hy_jn, hy_lm, hy_lt', hy_gt, if_true, if_false, hy_f10]
  · simp only [f_X11_set, r_in_ok _ (show (6 : Int32) ≤ 8 by decide) (show (8 : Int32) ≤ 8 by decide), hy_e8_6, hy_e8_7, r_in_ok _ (show (0 : Int32) ≤ nI k by grind) (show nI k ≤ 30 by grind), r_right1, r1, r2, show (8 : Int32) - 1 = 7 from rfl, show hz_in (7 : Int32) 185 = true from by decide, hy_k0, hy_k1, hy_k2, hy_k3, hy_k4, hy_k5, hy_k6, hy_k7, hy_k8, hy_k9, hy_k10, hy_k11, hy_k12, hy_k13, hy_cts, hy_ctn, hy_xts, hy_xtn, c_need0, c_need1, x_need0, x_need1, hy_jn, hy_lm, hy_lt', hy_gt, if_true, if_false, hy_f10]
theorem g_35 {M : hz_M} (I : Inv M) (a b : Int32) : ∃ M', fs_35 a b M = some (0, M') ∧ Inv M' := by
  show ∃ M', hy_go (f_X10_set a b M) (fx_X10_set a b M) (f_X11_set a b) = some (0, M') ∧ Inv M'
  by_cases a6 : a = 6
  · subst a6
    by_cases e1 : b < 1
    · refine g_no (r := 0) I ?_ ?_ ?_
      · simp only [f_X10_set, f_X10_isSetting, hy_e6_7, hy_e6_8, e1, hy_cts, hy_ctn, hy_xts, hy_xtn, c_need0, c_need1, x_need0, x_need1, hy_jn, hy_lm, hy_lt', hy_gt, if_true, if_false, hy_f10]
      · simp only [fx_X10_set, f_X10_isSetting, hy_e6_7, hy_e6_8, e1, hy_cts, hy_ctn, hy_xts, hy_xtn, c_need0, c_need1, x_need0, x_need1, hy_jn, hy_lm, hy_lt', hy_gt, if_true, if_false, hy_f10]
      · simp only [f_X11_set, r_in_ok _ (show (6 : Int32) ≤ 6 by decide) (show (6 : Int32) ≤ 8 by decide), hy_e6_7, hy_e6_8, r_in_no _ (show b < 1 ∨ 9 < b from Or.inl e1), r_right0, hy_cts, hy_ctn, hy_xts, hy_xtn, c_need0, c_need1, x_need0, x_need1, hy_jn, hy_lm, hy_lt', hy_gt, if_true, if_false, hy_f10]
    by_cases e2 : 9 < b
    · refine g_no (r := 0) I ?_ ?_ ?_
      · simp only [f_X10_set, f_X10_isSetting, hy_e6_7, hy_e6_8, e1, e2, hy_cts, hy_ctn, hy_xts, hy_xtn, c_need0, c_need1, x_need0, x_need1, hy_jn, hy_lm, hy_lt', hy_gt, if_true, if_false, hy_f10]
      · simp only [fx_X10_set, f_X10_isSetting, hy_e6_7, hy_e6_8, e1, e2, hy_cts, hy_ctn, hy_xts, hy_xtn, c_need0, c_need1, x_need0, x_need1, hy_jn, hy_lm, hy_lt', hy_gt, if_true, if_false, hy_f10]
      · simp only [f_X11_set, r_in_ok _ (show (6 : Int32) ≤ 6 by decide) (show (6 : Int32) ≤ 8 by decide), hy_e6_7, hy_e6_8, r_in_no _ (show b < 1 ∨ 9 < b from Or.inr e2), r_right0, hy_cts, hy_ctn, hy_xts, hy_xtn, c_need0, c_need1, x_need0, x_need1, hy_jn, hy_lm, hy_lt', hy_gt, if_true, if_false, hy_f10]
    · obtain ⟨k, hk, rfl⟩ := hy_ex' (x := b) (n := 9) (by grind) (by rw [show nI 9 = (9 : Int32) from rfl]; grind) (by omega)
      exact set_6 I (by rw [show (1 : Int32) = nI 1 from rfl, hy_lt (by omega) (by omega)] at e1; omega) hk
  by_cases a7 : a = 7
  · subst a7
    by_cases e1 : b < 2
    · refine g_no (r := 0) I ?_ ?_ ?_
      · simp only [f_X10_set, f_X10_isSetting, hy_e7_6, hy_e7_8, e1, hy_cts, hy_ctn, hy_xts, hy_xtn, c_need0, c_need1, x_need0, x_need1, hy_jn, hy_lm, hy_lt', hy_gt, if_true, if_false, hy_f10]
      · simp only [fx_X10_set, f_X10_isSetting, hy_e7_6, hy_e7_8, e1, hy_cts, hy_ctn, hy_xts, hy_xtn, c_need0, c_need1, x_need0, x_need1, hy_jn, hy_lm, hy_lt', hy_gt, if_true, if_false, hy_f10]
      · simp only [f_X11_set, r_in_ok _ (show (6 : Int32) ≤ 7 by decide) (show (7 : Int32) ≤ 8 by decide), hy_e7_6, hy_e7_8, r_in_no _ (show b < 2 ∨ 60 < b from Or.inl e1), r_right0, hy_cts, hy_ctn, hy_xts, hy_xtn, c_need0, c_need1, x_need0, x_need1, hy_jn, hy_lm, hy_lt', hy_gt, if_true, if_false, hy_f10]
    by_cases e2 : 60 < b
    · refine g_no (r := 0) I ?_ ?_ ?_
      · simp only [f_X10_set, f_X10_isSetting, hy_e7_6, hy_e7_8, e1, e2, hy_cts, hy_ctn, hy_xts, hy_xtn, c_need0, c_need1, x_need0, x_need1, hy_jn, hy_lm, hy_lt', hy_gt, if_true, if_false, hy_f10]
      · simp only [fx_X10_set, f_X10_isSetting, hy_e7_6, hy_e7_8, e1, e2, hy_cts, hy_ctn, hy_xts, hy_xtn, c_need0, c_need1, x_need0, x_need1, hy_jn, hy_lm, hy_lt', hy_gt, if_true, if_false, hy_f10]
      · simp only [f_X11_set, r_in_ok _ (show (6 : Int32) ≤ 7 by decide) (show (7 : Int32) ≤ 8 by decide), hy_e7_6, hy_e7_8, r_in_no _ (show b < 2 ∨ 60 < b from Or.inr e2), r_right0, hy_cts, hy_ctn, hy_xts, hy_xtn, c_need0, c_need1, x_need0, x_need1, hy_jn, hy_lm, hy_lt', hy_gt, if_true, if_false, hy_f10]
    · obtain ⟨k, hk, rfl⟩ := hy_ex' (x := b) (n := 60) (by grind) (by rw [show nI 60 = (60 : Int32) from rfl]; grind) (by omega)
      exact set_7 I (by rw [show (2 : Int32) = nI 2 from rfl, hy_lt (by omega) (by omega)] at e1; omega) hk
  by_cases a8 : a = 8
  · subst a8
    by_cases e1 : b < 0
    · refine g_no (r := 0) I ?_ ?_ ?_
      · simp only [f_X10_set, f_X10_isSetting, hy_e8_6, hy_e8_7, e1, hy_cts, hy_ctn, hy_xts, hy_xtn, c_need0, c_need1, x_need0, x_need1, hy_jn, hy_lm, hy_lt', hy_gt, if_true, if_false, hy_f10]
      · simp only [fx_X10_set, f_X10_isSetting, hy_e8_6, hy_e8_7, e1, hy_cts, hy_ctn, hy_xts, hy_xtn, c_need0, c_need1, x_need0, x_need1, hy_jn, hy_lm, hy_lt', hy_gt, if_true, if_false, hy_f10]
      · simp only [f_X11_set, r_in_ok _ (show (6 : Int32) ≤ 8 by decide) (show (8 : Int32) ≤ 8 by decide), hy_e8_6, hy_e8_7, r_in_no _ (show b < 0 ∨ 30 < b from Or.inl e1), r_right0, hy_cts, hy_ctn, hy_xts, hy_xtn, c_need0, c_need1, x_need0, x_need1, hy_jn, hy_lm, hy_lt', hy_gt, if_true, if_false, hy_f10]
    by_cases e2 : 30 < b
    · refine g_no (r := 0) I ?_ ?_ ?_
      · simp only [f_X10_set, f_X10_isSetting, hy_e8_6, hy_e8_7, e1, e2, hy_cts, hy_ctn, hy_xts, hy_xtn, c_need0, c_need1, x_need0, x_need1, hy_jn, hy_lm, hy_lt', hy_gt, if_true, if_false, hy_f10]
      · simp only [fx_X10_set, f_X10_isSetting, hy_e8_6, hy_e8_7, e1, e2, hy_cts, hy_ctn, hy_xts, hy_xtn, c_need0, c_need1, x_need0, x_need1, hy_jn, hy_lm, hy_lt', hy_gt, if_true, if_false, hy_f10]
      · simp only [f_X11_set, r_in_ok _ (show (6 : Int32) ≤ 8 by decide) (show (8 : Int32) ≤ 8 by decide), hy_e8_6, hy_e8_7, r_in_no _ (show b < 0 ∨ 30 < b from Or.inr e2), r_right0, hy_cts, hy_ctn, hy_xts, hy_xtn, c_need0, c_need1, x_need0, x_need1, hy_jn, hy_lm, hy_lt', hy_gt, if_true, if_false, hy_f10]
    · obtain ⟨k, hk, rfl⟩ := hy_ex' (x := b) (n := 30) (by grind) (by rw [show nI 30 = (30 : Int32) from rfl]; grind) (by omega)
      exact set_8 I (by rw [show (0 : Int32) = nI 0 from rfl, hy_lt (by omega) (by omega)] at e1; omega) hk
  · refine g_no (r := 0) I ?_ ?_ ?_
    · simp only [f_X10_set, f_X10_isSetting, a6, a7, a8, hy_cts, hy_ctn, hy_xts, hy_xtn, c_need0, c_need1, x_need0, x_need1, hy_jn, hy_lm, hy_lt', hy_gt, if_true, if_false, hy_f10]
    · simp only [fx_X10_set, f_X10_isSetting, a6, a7, a8, hy_cts, hy_ctn, hy_xts, hy_xtn, c_need0, c_need1, x_need0, x_need1, hy_jn, hy_lm, hy_lt', hy_gt, if_true, if_false, hy_f10]
    · simp only [f_X11_set, r_in_no _ (show a < 6 ∨ 8 < a by grind), r_right0, hy_cts, hy_ctn, hy_xts, hy_xtn, c_need0, c_need1, x_need0, x_need1, hy_jn, hy_lm, hy_lt', hy_gt, if_true, if_false, hy_f10]
theorem I_mk2 {M : hz_M} {q : Nat → Int32} (s : Snap 11 M q) (e : M 179 = q) (H : Hist M) (S : Save M) (h1 : M 26 3 = M 178 7) (h2 : M 0 9 = M 178 12) (t : Txt M) (r : Rep M) (h3 : M 178 24 = 0) : Inv M := by
  subst e
  exact ⟨s, H, S, h1, h2, t, r, h3⟩
theorem g_38 {M : hz_M} (I : Inv M) : ∃ M', fs_38 M = some (0, M') ∧ Inv M' := by
  show ∃ M', hy_ge (f_X10_undo M) f_X11_undo = some (0, M') ∧ Inv M'
  have hX := (I_W I).2.2
  have I0 := I
  obtain ⟨i1, ⟨u, w, hu, hw, h6, h4, h3, hS⟩, i3, i4, i5, i6, i7, i8⟩ := I
  by_cases u0 : u = 0
  · subst u0
    refine g_eq I0 (r := -1) ?_ ?_
    · simp (disch := omega) only [f_X10_undo, f_X2_stepBack, h3, hy_in, hy_gt, h4, show (nI 0 = 0) = True from eq_true rfl, if_true, hy_cts]
    · simp (disch := omega) only [f_X11_undo, hy_lm, hy_setn, h6, show (nI 0 = 0) = True from eq_true rfl, if_true]
  · have nu : ¬ nI u = 0 := by rw [hy_0, hy_eq (by omega) (by omega)]; exact u0
    have us : nI u - 1 = nI (u - 1) := by rw [hy_1, hy_sub (by omega)]
    have s := hS (u - 1) (by omega)
    rw [show (w + 9 + (u - 1) - u) % 8 = w by omega] at s
    have sn := cp_Snap (b1 := 11) (by omega) (by omega) s
    have ew : (if nI w ≤ 0 then (7 : Int32) else nI w - 1) = nI ((w + 7) % 8) := by
      by_cases e : w = 0
      · subst e; rfl
      · rw [if_neg (by rw [hy_0, hy_le (by omega) (by omega)]; omega), hy_1, hy_sub (by omega)]; congr 1; omega
    have key : f_X10_undo M = some (nI (u - 1), hz_set (hz_set (cpM 11 (36 + 14 * w) M) 32 3 (nI ((w + 7) % 8))) 32 4 (nI (u - 1))) := by
      have kx : ∀ x, x = nI ((w + 7) % 8) → (hz_lm (hz_set (cpM 11 (36 + 14 * w) M) 32 3 x) fun M9 => hz_lm (hz_set M9 32 4 ((M9 32 4) - (1 : Int32))) fun M10 => some ((M10 32 4), M10)) = some (nI (u - 1), hz_set (hz_set (cpM 11 (36 + 14 * w) M) 32 3 (nI ((w + 7) % 8))) 32 4 (nI (u - 1))) := by
        intro x hx
        subst hx
        simp (disch := omega) only [hy_lm, hy_setn, cp_o, h4, us, hy_setk]
      unfold f_X10_undo f_X2_stepBack
      simp (disch := omega) only [h3, hy_in, hy_gt, h4, nu, if_false, hz_pa, hy_c, cp_eq, hy_cts, hy_jn, cp_o, hy_ctid]
      rw [← kx _ ew]
      split <;> rfl
    generalize hM1 : hz_set (hz_set (cpM 11 (36 + 14 * w) M) 32 3 (nI ((w + 7) % 8))) 32 4 (nI (u - 1)) = M1 at key
    have f0 : ∀ a, (a < 11 ∨ 24 < a) → a ≠ 32 → M1 a = M a := fun a h1 h2 => by subst hM1; simp (disch := omega) only [hy_seto, cp_o]
    have f3 : M1 32 3 = nI ((w + 7) % 8) := by subst hM1; rw [hy_setn _ _ _ (by omega), hy_setk]
    have f4 : M1 32 4 = nI (u - 1) := by subst hM1; rw [hy_setk]
    have s1 : Snap 11 M1 (fun k => if k < 185 then M 182 (185 * (u - 1) + k) else 0) := Snap_fr (fun a ha => by subst hM1; simp (disch := omega) only [hy_seto]) sn
    have h6' : hz_set (hz_set M1 178 8 0) 178 6 (nI (u - 1)) 178 6 = nI (u - 1) := hy_setk _ _ _ _
    have und := k_undo (fun (M4 : hz_M) => some ((M4 178 6), M4)) 185 0 hz_FU (hz_set (hz_set M1 178 8 0) 178 6 (nI (u - 1))) (u - 1) (by omega) h6' (by omega) (hy_FU (by omega))
    have er : (fun b => if 0 + 0 ≤ b ∧ b < 0 + 185 then hz_set (hz_set M1 178 8 0) 178 6 (nI (u - 1)) 182 (b - 0 + 185 * (u - 1)) else hz_set (hz_set M1 178 8 0) 178 6 (nI (u - 1)) 179 b) = (fun k => if k < 185 then M 182 (185 * (u - 1) + k) else 0) := by
      funext b
      rw [hy_seto _ _ _ (by omega), hy_seto _ _ _ (by omega), hy_seto _ _ _ (by omega), hy_seto _ _ _ (by omega), f0 182 (by omega) (by omega), f0 179 (by omega) (by omega)]
      by_cases hb : b < 185
      · rw [if_pos (by omega), if_pos hb]; congr 1; omega
      · rw [if_neg (by omega), if_neg hb]; exact hX b (by omega)
    rw [er] at und
    generalize hM3 : hy_row (hz_set (hz_set M1 178 8 0) 178 6 (nI (u - 1))) 179 (fun k => if k < 185 then M 182 (185 * (u - 1) + k) else 0) = M3 at und
    have g6 : M3 178 6 = nI (u - 1) := by subst hM3; rw [hy_ro _ _ (by omega), hy_setk]
    have g0 : ∀ a, a ≠ 178 → a ≠ 179 → M3 a = M1 a := fun a h1 h2 => by subst hM3; rw [hy_ro _ _ h2, hy_seto _ _ _ h1, hy_seto _ _ _ h1]
    have g8 : ∀ b, b ≠ 6 → b ≠ 8 → M3 178 b = M 178 b := fun b h1 h2 => by subst hM3; rw [hy_ro _ _ (by omega), hy_setn _ _ _ h1, hy_setn _ _ _ h2, f0 178 (by omega) (by omega)]
    have g9 : M3 179 = (fun k => if k < 185 then M 182 (185 * (u - 1) + k) else 0) := by subst hM3; rw [hy_rs]
    refine ⟨M3, hy_gec key ?_, I_mk2 (Snap_fr (fun a ha => g0 a (by omega) (by omega)) s1) g9 ?_ (Save_fr (fun a ha => by rw [g0 a (by omega) (by omega), f0 a (by omega) (by omega)]) i3) ?_ ?_ (Txt_fr (fun a ha => by rw [g0 a (by omega) (by omega), f0 a (by omega) (by omega)]) (g8 11 (by omega) (by omega)) i6) (Rep_fr (fun a ha => by rw [g0 a (by omega) (by omega), f0 a (by omega) (by omega)]) (g8 27 (by omega) (by omega)) i7) ?_⟩
    · have e1 : hz_set M1 178 8 0 178 6 = nI u := by rw [hy_setn _ _ _ (by omega), f0 178 (by omega) (by omega)]; exact h6
      simp only [f_X11_undo, hy_lm, e1, nu, if_false, us, hy_jn]
      refine und.trans ?_
      show some (M3 178 6, M3) = _
      rw [g6]
    · refine ⟨u - 1, (w + 7) % 8, by omega, by omega, g6, by rw [g0 32 (by omega) (by omega)]; exact f4, by rw [g0 32 (by omega) (by omega)]; exact f3, fun j hj => ?_⟩
      rw [g0 182 (by omega) (by omega), f0 182 (by omega) (by omega), show ((w + 7) % 8 + 9 + j - (u - 1)) % 8 = (w + 9 + j - u) % 8 by omega]
      exact Snap_fr (fun a ha => by rw [g0 a (by omega) (by omega), f0 a (by omega) (by omega)]) (hS j (by omega))
    · rw [g0 26 (by omega) (by omega), f0 26 (by omega) (by omega), g8 7 (by omega) (by omega)]; exact i4
    · rw [g0 0 (by omega) (by omega), f0 0 (by omega) (by omega), g8 12 (by omega) (by omega)]; exact i5
    · rw [g8 24 (by omega) (by omega)]; exact i8
theorem c_slot (M : hz_M) (a : Int32) : (f_X2_isSlot a M = some (0, M) ∧ (a < 0 ∨ nI 2 ≤ a)) ∨ (f_X2_isSlot a M = some (1, M) ∧ ∃ k, k < 2 ∧ a = nI k) := by
  unfold f_X2_isSlot
  rcases hy_two a (n := 2) (by omega) with h | ⟨k, hk, rfl⟩
  · refine Or.inl ⟨?_, h⟩
    by_cases e : a < 0
    · rw [if_pos e]
    · rw [if_neg e]
      rcases h with h | h
      · exact absurd h e
      · rw [if_pos (show (2 : Int32) ≤ a from h)]
  · refine Or.inr ⟨?_, k, hk, rfl⟩
    rw [if_neg (by rw [hy_0, hy_lt (by omega) (by omega)]; omega), if_neg (by rw [show (2 : Int32) = nI 2 from rfl, hy_le (by omega) (by omega)]; omega)]
theorem slot_o {a : Int32} (h : a < 0 ∨ nI 2 ≤ a) : a < 0 ∨ 1 < a := by
  rcases h with h | h
  · exact Or.inl h
  · exact Or.inr (by rw [show nI 2 = (2 : Int32) from rfl] at h; grind)
theorem g_39 {M : hz_M} (I : Inv M) (a : Int32) : ∃ M', fs_39 a M = some (0, M') ∧ Inv M' := by
  show ∃ M', hy_go (f_X10_save a M) (fx_X10_save a M) (f_X11_save a) = some (0, M') ∧ Inv M'
  have hX := (I_W I).2.2
  have hC := I_C I
  rcases c_slot M a with ⟨h1, h2⟩ | ⟨h1, s, hs, rfl⟩
  · refine g_no (r := 0) I ?_ ?_ ?_
    · simp only [f_X10_save, h1, hy_cts, hy_ctn, hy_xts, hy_xtn, c_need0, c_need1, x_need0, x_need1, hy_jn, hy_lm, hy_lt', hy_gt, if_true, if_false, hy_f10]
    · simp only [fx_X10_save, h1, hy_cts, hy_ctn, hy_xts, hy_xtn, c_need0, c_need1, x_need0, x_need1, hy_jn, hy_lm, hy_lt', hy_gt, if_true, if_false, hy_f10]
    · simp only [f_X11_save, r_in_no _ (slot_o h2), r_right0, hy_cts, hy_ctn, hy_xts, hy_xtn, c_need0, c_need1, x_need0, x_need1, hy_jn, hy_lm, hy_lt', hy_gt, if_true, if_false, hy_f10]
  · obtain ⟨i1, i2, i3, i4, i5, i6, i7, i8⟩ := I
    have t8 := (c_rows hC.2.2).1.1
    have key : f_X10_save (nI s) M = some (M 179 8, hz_set (cpM (148 + 14 * s) 11 M) 35 s 1) := by
      simp (disch := omega) only [f_X10_save, h1, f_X2_keep, hy_in, hz_ka, hy_c, cp_eq, hy_seto, cp_o, t8, hy_cts, hy_ctn, hy_xts, hy_xtn, c_need0, c_need1, x_need0, x_need1, hy_jn, hy_lm, hy_lt', hy_gt, if_true, if_false, hy_f10]
    generalize hM1 : hz_set (cpM (148 + 14 * s) 11 M) 35 s 1 = M1 at key
    have f0 : ∀ a, a ≠ 35 → (a < 148 + 14 * s ∨ 148 + 14 * s + 13 < a) → M1 a = M a := fun a h1 h2 => by subst hM1; simp (disch := omega) only [hy_seto, cp_o]
    have f35 : ∀ b, M1 35 b = if b = s then 1 else M 35 b := fun b => by
      subst hM1
      rw [hy_srow]; unfold hy_st
      rw [cp_o _ (by omega)]
    have sn : Snap (148 + 14 * s) M1 (M 179) := Snap_fr (fun a ha => by subst hM1; simp (disch := omega) only [hy_seto]) (cp_Snap (b1 := 148 + 14 * s) (by omega) (by omega) i1)
    have sav := k_save (fun (v1_9 : Int32) (M10 : hz_M) => hz_gd (hz_in v1_9 2) <| hz_lm (hz_set M10 184 (Int32.toNatClampNeg v1_9) (1 : Int32)) fun M12 => some ((M12 179 (Int32.toNatClampNeg (8 : Int32))), M12)) 185 0 hz_FU (hz_set (hz_set M1 193 0 (M 179 8)) 178 8 0) s hs (by omega) (hy_FU (by omega))
    generalize hR : (fun b => if 185 * s + 0 ≤ b ∧ b < 185 * s + 185 then hz_set (hz_set M1 193 0 (M 179 8)) 178 8 0 179 (b - 185 * s + 0) else hz_set (hz_set M1 193 0 (M 179 8)) 178 8 0 183 b) = R at sav
    have hRb : ∀ b, R b = if 185 * s ≤ b ∧ b < 185 * s + 185 then M 179 (b - 185 * s) else M 183 b := fun b => by
      subst hR
      rw [hy_seto _ _ _ (by omega), hy_seto _ _ _ (by omega), hy_seto _ _ _ (by omega), hy_seto _ _ _ (by omega), f0 179 (by omega) (by omega), f0 183 (by omega) (by omega)]; rfl
    generalize hM3 : hz_set (hy_row (hz_set (hz_set M1 193 0 (M 179 8)) 178 8 0) 183 R) 184 s 1 = M3
    have g0 : ∀ a, a ≠ 178 → a ≠ 183 → a ≠ 184 → a ≠ 193 → M3 a = M1 a := fun a h1 h2 h3 h4 => by subst hM3; rw [hy_seto _ _ _ h3, hy_ro _ _ h2, hy_seto _ _ _ h1, hy_seto _ _ _ h4]
    have g8 : ∀ b, b ≠ 8 → M3 178 b = M 178 b := fun b h1 => by subst hM3; rw [hy_seto _ _ _ (by omega), hy_ro _ _ (by omega), hy_setn _ _ _ h1, hy_seto _ _ _ (by omega), f0 178 (by omega) (by omega)]
    have g183 : M3 183 = R := by subst hM3; rw [hy_seto _ _ _ (by omega), hy_rs]
    have g184 : ∀ b, M3 184 b = if b = s then 1 else M 184 b := fun b => by
      subst hM3
      rw [hy_srow]; unfold hy_st
      rw [hy_ro _ _ (by omega), hy_seto _ _ _ (by omega), hy_seto _ _ _ (by omega), f0 184 (by omega) (by omega)]
    refine ⟨M3, hy_okc key ?_ (by subst hM3; rw [hy_seto _ _ _ (by omega), hy_ro _ _ (by omega), hy_setk]) (by subst hM3; rw [hy_seto _ _ _ (by omega), hy_ro _ _ (by omega), hy_seto _ _ _ (by omega), hy_setk]), I_mk2 (q := M 179) (Snap_fr (fun a ha => by rw [g0 a (by omega) (by omega) (by omega) (by omega), f0 a (by omega) (by omega)]) i1) (by rw [g0 179 (by omega) (by omega) (by omega) (by omega), f0 179 (by omega) (by omega)]) (Hist_fr (fun a ha => by rw [g0 a (by omega) (by omega) (by omega) (by omega), f0 a (by omega) (by omega)]) (g8 6 (by omega)) i2) ?_ ?_ ?_ (Txt_fr (fun a ha => by rw [g0 a (by omega) (by omega) (by omega) (by omega), f0 a (by omega) (by omega)]) (g8 11 (by omega)) i6) (Rep_fr (fun a ha => by rw [g0 a (by omega) (by omega) (by omega) (by omega), f0 a (by omega) (by omega)]) (g8 27 (by omega)) i7) ?_⟩
    · simp only [f_X11_save, r_in_ok _ (hy_nn (a := s) (by omega)) (show nI s ≤ 1 by rw [hy_1, hy_le (by omega) (by omega)]; omega), r_right1, hy_cts, hy_ctn, hy_xts, hy_xtn, c_need0, c_need1, x_need0, x_need1, hy_jn, hy_lm, hy_lt', hy_gt, if_true, if_false, hy_f10]
      refine Eq.trans sav ?_
      simp (disch := omega) only [hy_in, hy_c, hy_k8, hy_cts, hy_ctn, hy_xts, hy_xtn, c_need0, c_need1, x_need0, x_need1, hy_jn, hy_lm, hy_lt', hy_gt, if_true, if_false, hy_f10]
      rw [hM3, g0 179 (by omega) (by omega) (by omega) (by omega), f0 179 (by omega) (by omega)]
    · intro s' hs'
      rw [g0 35 (by omega) (by omega) (by omega) (by omega), f35, g184, g183]
      by_cases e : s' = s
      · subst e
        rw [if_pos rfl, if_pos rfl]
        refine ⟨rfl, Or.inr ⟨rfl, ?_⟩⟩
        have er : (fun k => if k < 185 then R (185 * s' + k) else 0) = M 179 := by
          funext k
          by_cases hk : k < 185
          · rw [if_pos hk, hRb, if_pos (by omega)]; congr 1; omega
          · rw [if_neg hk]; exact (hX k (by omega)).symm
        rw [er]
        exact Snap_fr (fun a ha => g0 a (by omega) (by omega) (by omega) (by omega)) sn
      · rw [if_neg e, if_neg e]
        obtain ⟨e1, e2⟩ := i3 s' hs'
        refine ⟨e1, ?_⟩
        rcases e2 with e2 | ⟨e2, e3⟩
        · exact Or.inl e2
        · refine Or.inr ⟨e2, ?_⟩
          have er : (fun k => if k < 185 then R (185 * s' + k) else 0) = (fun k => if k < 185 then M 183 (185 * s' + k) else 0) := by
            funext k
            by_cases hk : k < 185
            · rw [if_pos hk, if_pos hk, hRb, if_neg (by omega)]
            · rw [if_neg hk, if_neg hk]
          rw [er]
          exact Snap_fr (fun a ha => by rw [g0 a (by omega) (by omega) (by omega) (by omega), f0 a (by omega) (by omega)]) e3
    · rw [g0 26 (by omega) (by omega) (by omega) (by omega), f0 26 (by omega) (by omega), g8 7 (by omega)]; exact i4
    · rw [g0 0 (by omega) (by omega) (by omega) (by omega), f0 0 (by omega) (by omega), g8 12 (by omega)]; exact i5
    · rw [g8 24 (by omega)]; exact i8

