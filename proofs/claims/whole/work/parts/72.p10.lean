theorem c_silence {M : hz_M} {q : Nat → Int32} (hC : hy_C M q) : f_X7_isSilence M = some (if q 10 = -1 then 0 else if q 10 + q 7 ≤ q 8 then 0 else 1, M) := by
  have hC0 := hC
  obtain ⟨hZ, ⟨b3, b4, b5, b6, b7, b8, bag, bnm⟩, hRR⟩ := hC
  have hZ0 := hZ
  obtain ⟨⟨s1, s2, s3, s4, s5, s6⟩, ra, ro, rp, rl, rt, rs, rw', rd, rwt, rpg, rk, rh, rtw⟩ := c_rows hRR
  obtain ⟨⟨z1, z2⟩, ⟨z3, z4, z5⟩, ⟨z6, z7, z8⟩, ⟨z9, z10⟩, ⟨z11, z12, z13⟩, ⟨z14, z15, z16⟩⟩ := hZ
  rw [z1] at b3; rw [z3] at b4; rw [z6] at b5; rw [z9] at b6; rw [z11] at b7; rw [z14] at b8
  simp only [f_X7_isSilence, s1, s3, s6]
  repeat (first | rfl | split)
theorem c_frLs {q : Nat → Int32} (hZ : hy_Z q) : q 0 - inUse q = frLs q := by
  rw [← inUse_eq hZ]
  generalize q 0 = x
  generalize frLs q = y
  grind
theorem I_u {M : hz_M} (I : Inv M) : M 32 4 = M 178 6 := by
  obtain ⟨u, w, _, _, h3, h4, _⟩ := I.2.1
  rw [h3, h4]

theorem c_size {M : hz_M} (I : Inv M) (a : Int32) : (∃ r, f_X10_size a M = some (r, M) ∧ f_X11_size a (hz_set M 193 0 r) = some (r, hz_set (hz_set M 193 0 r) 178 8 0) ∧ ∀ v : Int32, a = 6 ∨ a = 7 ∨ a = 8 → r = M 179 (Int32.toNatClampNeg (a - 1))) ∨ ((a < 0 ∨ nI 17 ≤ a) ∧ f_X10_size a M = none ∧ fx_X10_size a M = some (1, M) ∧ f_X11_size a M = some (0, hz_set (hz_set M 178 8 0) 178 8 1)) := by
  have hC := I_C I
  have hQ := I_Q I
  have hq := fun r => q_1 M r 0
  have hq2 := q_2 M 0
  have hC0 := hC
  obtain ⟨hZ, ⟨b3, b4, b5, b6, b7, b8, bag, bnm⟩, hRR⟩ := hC
  have hZ0 := hZ
  obtain ⟨⟨s1, s2, s3, s4, s5, s6⟩, ra, ro, rp, rl, rt, rs, rw', rd, rwt, rpg, rk, rh, rtw⟩ := c_rows hRR
  obtain ⟨⟨z1, z2⟩, ⟨z3, z4, z5⟩, ⟨z6, z7, z8⟩, ⟨z9, z10⟩, ⟨z11, z12, z13⟩, ⟨z14, z15, z16⟩⟩ := hZ
  rw [z1] at b3; rw [z3] at b4; rw [z6] at b5; rw [z9] at b6; rw [z11] at b7; rw [z14] at b8
  rcases hy_lit17 a with h | rfl | rfl | rfl | rfl | rfl | rfl | rfl | rfl | rfl | rfl | rfl | rfl | rfl | rfl | rfl | rfl | rfl
  · obtain ⟨n0, n1, n2, n3, n4, n5, n6, n7, n8, n9, n10, n11, n12, n13, n14, n15, n16⟩ := hy_lit17n h
    refine Or.inr ⟨h, ?_, ?_, ?_⟩
    · simp only [f_X10_size, n0, n1, n2, n3, n4, n5, n6, n7, n8, n9, n10, n11, n12, n13, n14, n15, n16, hy_cts, hy_ctn, hy_xts, hy_xtn, c_need0, c_need1, x_need0, x_need1, hy_jn, hy_lm, hy_lt', hy_gt, if_true, if_false, hy_f10]
    · simp only [fx_X10_size, n0, n1, n2, n3, n4, n5, n6, n7, n8, n9, n10, n11, n12, n13, n14, n15, n16, hy_cts, hy_ctn, hy_xts, hy_xtn, c_need0, c_need1, x_need0, x_need1, hy_jn, hy_lm, hy_lt', hy_gt, if_true, if_false, hy_f10]
    · simp only [f_X11_size, r_in_no _ (hy_lit17o h), r_right0, hy_cts, hy_ctn, hy_xts, hy_xtn, c_need0, c_need1, x_need0, x_need1, hy_jn, hy_lm, hy_lt', hy_gt, if_true, if_false, hy_f10]
  · refine Or.inl ⟨M 179 11, ?_, ?_, ?_⟩
    · simp (disch := omega) only [f_X10_size, hy_e0_1, hy_e0_2, hy_e0_3, hy_e0_4, hy_e0_5, hy_e0_6, hy_e0_7, hy_e0_8, hy_e0_9, hy_e0_10, hy_e0_11, hy_e0_12, hy_e0_13, hy_e0_14, hy_e0_15, hy_e0_16, c_hIns hC0, c_hAt hC0, c_bsk hC0, c_inUse hC0, c_silence hC0, c_frLs hZ0, s1, s2, s4, s5, s6, b3, b4, b5, b6, b7, b8, z1, z6, z9, z11, z14, I_u I, hy_cts, hy_ctn, hy_xts, hy_xtn, c_need0, c_need1, x_need0, x_need1, hy_jn, hy_lm, hy_lt', hy_gt, if_true, if_false, hy_f10]
    · simp (disch := omega) only [f_X11_size, r_in_ok _ (show (0 : Int32) ≤ 0 by decide) (show (0 : Int32) ≤ 16 by decide), r_right1, hy_e0_1, hy_e0_2, hy_e0_3, hy_e0_4, hy_e0_5, hy_e0_6, hy_e0_7, hy_e0_8, hy_e0_9, hy_e0_10, hy_e0_11, hy_e0_12, hy_e0_13, hy_e0_14, hy_e0_15, hy_e0_16, r_inside (hq _) hZ0, r_hAt (hq _) hZ0, r_bsk (hq _) hZ0, r_frLs (hq _) hZ0, r_silence (hq _), hq, hy_k0, hy_k1, hy_k2, hy_k3, hy_k4, hy_k5, hy_k6, hy_k7, hy_k8, hy_k9, hy_k10, hy_k11, hy_k12, hy_k13, show (1 : Int32) - 1 = 0 from rfl, show (2 : Int32) - 1 = 1 from rfl, show (3 : Int32) - 1 = 2 from rfl, show (4 : Int32) - 1 = 3 from rfl, show (5 : Int32) - 1 = 4 from rfl, show (6 : Int32) - 1 = 5 from rfl, show (7 : Int32) - 1 = 6 from rfl, show (8 : Int32) - 1 = 7 from rfl, show hz_in (0 : Int32) 185 = true from by decide, show hz_in (1 : Int32) 185 = true from by decide, show hz_in (2 : Int32) 185 = true from by decide, show hz_in (3 : Int32) 185 = true from by decide, show hz_in (4 : Int32) 185 = true from by decide, show hz_in (5 : Int32) 185 = true from by decide, show hz_in (6 : Int32) 185 = true from by decide, show hz_in (7 : Int32) 185 = true from by decide, hy_cts, hy_ctn, hy_xts, hy_xtn, c_need0, c_need1, x_need0, x_need1, hy_jn, hy_lm, hy_lt', hy_gt, if_true, if_false, hy_f10]
    · intro v h; exact absurd h (by decide)
  · refine Or.inl ⟨M 179 0, ?_, ?_, ?_⟩
    · simp (disch := omega) only [f_X10_size, hy_e1_0, hy_e1_2, hy_e1_3, hy_e1_4, hy_e1_5, hy_e1_6, hy_e1_7, hy_e1_8, hy_e1_9, hy_e1_10, hy_e1_11, hy_e1_12, hy_e1_13, hy_e1_14, hy_e1_15, hy_e1_16, c_hIns hC0, c_hAt hC0, c_bsk hC0, c_inUse hC0, c_silence hC0, c_frLs hZ0, s1, s2, s4, s5, s6, b3, b4, b5, b6, b7, b8, z1, z6, z9, z11, z14, I_u I, hy_cts, hy_ctn, hy_xts, hy_xtn, c_need0, c_need1, x_need0, x_need1, hy_jn, hy_lm, hy_lt', hy_gt, if_true, if_false, hy_f10] <;> rw [z3]
    · simp (disch := omega) only [f_X11_size, r_in_ok _ (show (0 : Int32) ≤ 1 by decide) (show (1 : Int32) ≤ 16 by decide), r_right1, hy_e1_0, hy_e1_2, hy_e1_3, hy_e1_4, hy_e1_5, hy_e1_6, hy_e1_7, hy_e1_8, hy_e1_9, hy_e1_10, hy_e1_11, hy_e1_12, hy_e1_13, hy_e1_14, hy_e1_15, hy_e1_16, r_inside (hq _) hZ0, r_hAt (hq _) hZ0, r_bsk (hq _) hZ0, r_frLs (hq _) hZ0, r_silence (hq _), hq, hy_k0, hy_k1, hy_k2, hy_k3, hy_k4, hy_k5, hy_k6, hy_k7, hy_k8, hy_k9, hy_k10, hy_k11, hy_k12, hy_k13, show (1 : Int32) - 1 = 0 from rfl, show (2 : Int32) - 1 = 1 from rfl, show (3 : Int32) - 1 = 2 from rfl, show (4 : Int32) - 1 = 3 from rfl, show (5 : Int32) - 1 = 4 from rfl, show (6 : Int32) - 1 = 5 from rfl, show (7 : Int32) - 1 = 6 from rfl, show (8 : Int32) - 1 = 7 from rfl, show hz_in (0 : Int32) 185 = true from by decide, show hz_in (1 : Int32) 185 = true from by decide, show hz_in (2 : Int32) 185 = true from by decide, show hz_in (3 : Int32) 185 = true from by decide, show hz_in (4 : Int32) 185 = true from by decide, show hz_in (5 : Int32) 185 = true from by decide, show hz_in (6 : Int32) 185 = true from by decide, show hz_in (7 : Int32) 185 = true from by decide, hy_cts, hy_ctn, hy_xts, hy_xtn, c_need0, c_need1, x_need0, x_need1, hy_jn, hy_lm, hy_lt', hy_gt, if_true, if_false, hy_f10]
    · intro v h; exact absurd h (by decide)
  · refine Or.inl ⟨M 179 1, ?_, ?_, ?_⟩
    · simp (disch := omega) only [f_X10_size, hy_e2_0, hy_e2_1, hy_e2_3, hy_e2_4, hy_e2_5, hy_e2_6, hy_e2_7, hy_e2_8, hy_e2_9, hy_e2_10, hy_e2_11, hy_e2_12, hy_e2_13, hy_e2_14, hy_e2_15, hy_e2_16, c_hIns hC0, c_hAt hC0, c_bsk hC0, c_inUse hC0, c_silence hC0, c_frLs hZ0, s1, s2, s4, s5, s6, b3, b4, b5, b6, b7, b8, z1, z6, z9, z11, z14, I_u I, hy_cts, hy_ctn, hy_xts, hy_xtn, c_need0, c_need1, x_need0, x_need1, hy_jn, hy_lm, hy_lt', hy_gt, if_true, if_false, hy_f10]
    · simp (disch := omega) only [f_X11_size, r_in_ok _ (show (0 : Int32) ≤ 2 by decide) (show (2 : Int32) ≤ 16 by decide), r_right1, hy_e2_0, hy_e2_1, hy_e2_3, hy_e2_4, hy_e2_5, hy_e2_6, hy_e2_7, hy_e2_8, hy_e2_9, hy_e2_10, hy_e2_11, hy_e2_12, hy_e2_13, hy_e2_14, hy_e2_15, hy_e2_16, r_inside (hq _) hZ0, r_hAt (hq _) hZ0, r_bsk (hq _) hZ0, r_frLs (hq _) hZ0, r_silence (hq _), hq, hy_k0, hy_k1, hy_k2, hy_k3, hy_k4, hy_k5, hy_k6, hy_k7, hy_k8, hy_k9, hy_k10, hy_k11, hy_k12, hy_k13, show (1 : Int32) - 1 = 0 from rfl, show (2 : Int32) - 1 = 1 from rfl, show (3 : Int32) - 1 = 2 from rfl, show (4 : Int32) - 1 = 3 from rfl, show (5 : Int32) - 1 = 4 from rfl, show (6 : Int32) - 1 = 5 from rfl, show (7 : Int32) - 1 = 6 from rfl, show (8 : Int32) - 1 = 7 from rfl, show hz_in (0 : Int32) 185 = true from by decide, show hz_in (1 : Int32) 185 = true from by decide, show hz_in (2 : Int32) 185 = true from by decide, show hz_in (3 : Int32) 185 = true from by decide, show hz_in (4 : Int32) 185 = true from by decide, show hz_in (5 : Int32) 185 = true from by decide, show hz_in (6 : Int32) 185 = true from by decide, show hz_in (7 : Int32) 185 = true from by decide, hy_cts, hy_ctn, hy_xts, hy_xtn, c_need0, c_need1, x_need0, x_need1, hy_jn, hy_lm, hy_lt', hy_gt, if_true, if_false, hy_f10]
    · intro v h; exact absurd h (by decide)
  · refine Or.inl ⟨M 179 2, ?_, ?_, ?_⟩
    · simp (disch := omega) only [f_X10_size, hy_e3_0, hy_e3_1, hy_e3_2, hy_e3_4, hy_e3_5, hy_e3_6, hy_e3_7, hy_e3_8, hy_e3_9, hy_e3_10, hy_e3_11, hy_e3_12, hy_e3_13, hy_e3_14, hy_e3_15, hy_e3_16, c_hIns hC0, c_hAt hC0, c_bsk hC0, c_inUse hC0, c_silence hC0, c_frLs hZ0, s1, s2, s4, s5, s6, b3, b4, b5, b6, b7, b8, z1, z6, z9, z11, z14, I_u I, hy_cts, hy_ctn, hy_xts, hy_xtn, c_need0, c_need1, x_need0, x_need1, hy_jn, hy_lm, hy_lt', hy_gt, if_true, if_false, hy_f10]
    · simp (disch := omega) only [f_X11_size, r_in_ok _ (show (0 : Int32) ≤ 3 by decide) (show (3 : Int32) ≤ 16 by decide), r_right1, hy_e3_0, hy_e3_1, hy_e3_2, hy_e3_4, hy_e3_5, hy_e3_6, hy_e3_7, hy_e3_8, hy_e3_9, hy_e3_10, hy_e3_11, hy_e3_12, hy_e3_13, hy_e3_14, hy_e3_15, hy_e3_16, r_inside (hq _) hZ0, r_hAt (hq _) hZ0, r_bsk (hq _) hZ0, r_frLs (hq _) hZ0, r_silence (hq _), hq, hy_k0, hy_k1, hy_k2, hy_k3, hy_k4, hy_k5, hy_k6, hy_k7, hy_k8, hy_k9, hy_k10, hy_k11, hy_k12, hy_k13, show (1 : Int32) - 1 = 0 from rfl, show (2 : Int32) - 1 = 1 from rfl, show (3 : Int32) - 1 = 2 from rfl, show (4 : Int32) - 1 = 3 from rfl, show (5 : Int32) - 1 = 4 from rfl, show (6 : Int32) - 1 = 5 from rfl, show (7 : Int32) - 1 = 6 from rfl, show (8 : Int32) - 1 = 7 from rfl, show hz_in (0 : Int32) 185 = true from by decide, show hz_in (1 : Int32) 185 = true from by decide, show hz_in (2 : Int32) 185 = true from by decide, show hz_in (3 : Int32) 185 = true from by decide, show hz_in (4 : Int32) 185 = true from by decide, show hz_in (5 : Int32) 185 = true from by decide, show hz_in (6 : Int32) 185 = true from by decide, show hz_in (7 : Int32) 185 = true from by decide, hy_cts, hy_ctn, hy_xts, hy_xtn, c_need0, c_need1, x_need0, x_need1, hy_jn, hy_lm, hy_lt', hy_gt, if_true, if_false, hy_f10]
    · intro v h; exact absurd h (by decide)
  · refine Or.inl ⟨M 179 3, ?_, ?_, ?_⟩
    · simp (disch := omega) only [f_X10_size, hy_e4_0, hy_e4_1, hy_e4_2, hy_e4_3, hy_e4_5, hy_e4_6, hy_e4_7, hy_e4_8, hy_e4_9, hy_e4_10, hy_e4_11, hy_e4_12, hy_e4_13, hy_e4_14, hy_e4_15, hy_e4_16, c_hIns hC0, c_hAt hC0, c_bsk hC0, c_inUse hC0, c_silence hC0, c_frLs hZ0, s1, s2, s4, s5, s6, b3, b4, b5, b6, b7, b8, z1, z6, z9, z11, z14, I_u I, hy_cts, hy_ctn, hy_xts, hy_xtn, c_need0, c_need1, x_need0, x_need1, hy_jn, hy_lm, hy_lt', hy_gt, if_true, if_false, hy_f10]
    · simp (disch := omega) only [f_X11_size, r_in_ok _ (show (0 : Int32) ≤ 4 by decide) (show (4 : Int32) ≤ 16 by decide), r_right1, hy_e4_0, hy_e4_1, hy_e4_2, hy_e4_3, hy_e4_5, hy_e4_6, hy_e4_7, hy_e4_8, hy_e4_9, hy_e4_10, hy_e4_11, hy_e4_12, hy_e4_13, hy_e4_14, hy_e4_15, hy_e4_16, r_inside (hq _) hZ0, r_hAt (hq _) hZ0, r_bsk (hq _) hZ0, r_frLs (hq _) hZ0, r_silence (hq _), hq, hy_k0, hy_k1, hy_k2, hy_k3, hy_k4, hy_k5, hy_k6, hy_k7, hy_k8, hy_k9, hy_k10, hy_k11, hy_k12, hy_k13, show (1 : Int32) - 1 = 0 from rfl, show (2 : Int32) - 1 = 1 from rfl, show (3 : Int32) - 1 = 2 from rfl, show (4 : Int32) - 1 = 3 from rfl, show (5 : Int32) - 1 = 4 from rfl, show (6 : Int32) - 1 = 5 from rfl, show (7 : Int32) - 1 = 6 from rfl, show (8 : Int32) - 1 = 7 from rfl, show hz_in (0 : Int32) 185 = true from by decide, show hz_in (1 : Int32) 185 = true from by decide, show hz_in (2 : Int32) 185 = true from by decide, show hz_in (3 : Int32) 185 = true from by decide, show hz_in (4 : Int32) 185 = true from by decide, show hz_in (5 : Int32) 185 = true from by decide, show hz_in (6 : Int32) 185 = true from by decide, show hz_in (7 : Int32) 185 = true from by decide, hy_cts, hy_ctn, hy_xts, hy_xtn, c_need0, c_need1, x_need0, x_need1, hy_jn, hy_lm, hy_lt', hy_gt, if_true, if_false, hy_f10]
    · intro v h; exact absurd h (by decide)
  · refine Or.inl ⟨M 179 4, ?_, ?_, ?_⟩
    · simp (disch := omega) only [f_X10_size, hy_e5_0, hy_e5_1, hy_e5_2, hy_e5_3, hy_e5_4, hy_e5_6, hy_e5_7, hy_e5_8, hy_e5_9, hy_e5_10, hy_e5_11, hy_e5_12, hy_e5_13, hy_e5_14, hy_e5_15, hy_e5_16, c_hIns hC0, c_hAt hC0, c_bsk hC0, c_inUse hC0, c_silence hC0, c_frLs hZ0, s1, s2, s4, s5, s6, b3, b4, b5, b6, b7, b8, z1, z6, z9, z11, z14, I_u I, hy_cts, hy_ctn, hy_xts, hy_xtn, c_need0, c_need1, x_need0, x_need1, hy_jn, hy_lm, hy_lt', hy_gt, if_true, if_false, hy_f10]
    · simp (disch := omega) only [f_X11_size, r_in_ok _ (show (0 : Int32) ≤ 5 by decide) (show (5 : Int32) ≤ 16 by decide), r_right1, hy_e5_0, hy_e5_1, hy_e5_2, hy_e5_3, hy_e5_4, hy_e5_6, hy_e5_7, hy_e5_8, hy_e5_9, hy_e5_10, hy_e5_11, hy_e5_12, hy_e5_13, hy_e5_14, hy_e5_15, hy_e5_16, r_inside (hq _) hZ0, r_hAt (hq _) hZ0, r_bsk (hq _) hZ0, r_frLs (hq _) hZ0, r_silence (hq _), hq, hy_k0, hy_k1, hy_k2, hy_k3, hy_k4, hy_k5, hy_k6, hy_k7, hy_k8, hy_k9, hy_k10, hy_k11, hy_k12, hy_k13, show (1 : Int32) - 1 = 0 from rfl, show (2 : Int32) - 1 = 1 from rfl, show (3 : Int32) - 1 = 2 from rfl, show (4 : Int32) - 1 = 3 from rfl, show (5 : Int32) - 1 = 4 from rfl, show (6 : Int32) - 1 = 5 from rfl, show (7 : Int32) - 1 = 6 from rfl, show (8 : Int32) - 1 = 7 from rfl, show hz_in (0 : Int32) 185 = true from by decide, show hz_in (1 : Int32) 185 = true from by decide, show hz_in (2 : Int32) 185 = true from by decide, show hz_in (3 : Int32) 185 = true from by decide, show hz_in (4 : Int32) 185 = true from by decide, show hz_in (5 : Int32) 185 = true from by decide, show hz_in (6 : Int32) 185 = true from by decide, show hz_in (7 : Int32) 185 = true from by decide, hy_cts, hy_ctn, hy_xts, hy_xtn, c_need0, c_need1, x_need0, x_need1, hy_jn, hy_lm, hy_lt', hy_gt, if_true, if_false, hy_f10]
    · intro v h; exact absurd h (by decide)
  · refine Or.inl ⟨M 179 5, ?_, ?_, ?_⟩
    · simp (disch := omega) only [f_X10_size, hy_e6_0, hy_e6_1, hy_e6_2, hy_e6_3, hy_e6_4, hy_e6_5, hy_e6_7, hy_e6_8, hy_e6_9, hy_e6_10, hy_e6_11, hy_e6_12, hy_e6_13, hy_e6_14, hy_e6_15, hy_e6_16, c_hIns hC0, c_hAt hC0, c_bsk hC0, c_inUse hC0, c_silence hC0, c_frLs hZ0, s1, s2, s4, s5, s6, b3, b4, b5, b6, b7, b8, z1, z6, z9, z11, z14, I_u I, hy_cts, hy_ctn, hy_xts, hy_xtn, c_need0, c_need1, x_need0, x_need1, hy_jn, hy_lm, hy_lt', hy_gt, if_true, if_false, hy_f10]
    · simp (disch := omega) only [f_X11_size, r_in_ok _ (show (0 : Int32) ≤ 6 by decide) (show (6 : Int32) ≤ 16 by decide), r_right1, hy_e6_0, hy_e6_1, hy_e6_2, hy_e6_3, hy_e6_4, hy_e6_5, hy_e6_7, hy_e6_8, hy_e6_9, hy_e6_10, hy_e6_11, hy_e6_12, hy_e6_13, hy_e6_14, hy_e6_15, hy_e6_16, r_inside (hq _) hZ0, r_hAt (hq _) hZ0, r_bsk (hq _) hZ0, r_frLs (hq _) hZ0, r_silence (hq _), hq, hy_k0, hy_k1, hy_k2, hy_k3, hy_k4, hy_k5, hy_k6, hy_k7, hy_k8, hy_k9, hy_k10, hy_k11, hy_k12, hy_k13, show (1 : Int32) - 1 = 0 from rfl, show (2 : Int32) - 1 = 1 from rfl, show (3 : Int32) - 1 = 2 from rfl, show (4 : Int32) - 1 = 3 from rfl, show (5 : Int32) - 1 = 4 from rfl, show (6 : Int32) - 1 = 5 from rfl, show (7 : Int32) - 1 = 6 from rfl, show (8 : Int32) - 1 = 7 from rfl, show hz_in (0 : Int32) 185 = true from by decide, show hz_in (1 : Int32) 185 = true from by decide, show hz_in (2 : Int32) 185 = true from by decide, show hz_in (3 : Int32) 185 = true from by decide, show hz_in (4 : Int32) 185 = true from by decide, show hz_in (5 : Int32) 185 = true from by decide, show hz_in (6 : Int32) 185 = true from by decide, show hz_in (7 : Int32) 185 = true from by decide, hy_cts, hy_ctn, hy_xts, hy_xtn, c_need0, c_need1, x_need0, x_need1, hy_jn, hy_lm, hy_lt', hy_gt, if_true, if_false, hy_f10]
    · intro v h; rfl
  · refine Or.inl ⟨M 179 6, ?_, ?_, ?_⟩
    · simp (disch := omega) only [f_X10_size, hy_e7_0, hy_e7_1, hy_e7_2, hy_e7_3, hy_e7_4, hy_e7_5, hy_e7_6, hy_e7_8, hy_e7_9, hy_e7_10, hy_e7_11, hy_e7_12, hy_e7_13, hy_e7_14, hy_e7_15, hy_e7_16, c_hIns hC0, c_hAt hC0, c_bsk hC0, c_inUse hC0, c_silence hC0, c_frLs hZ0, s1, s2, s4, s5, s6, b3, b4, b5, b6, b7, b8, z1, z6, z9, z11, z14, I_u I, hy_cts, hy_ctn, hy_xts, hy_xtn, c_need0, c_need1, x_need0, x_need1, hy_jn, hy_lm, hy_lt', hy_gt, if_true, if_false, hy_f10]
    · simp (disch := omega) only [f_X11_size, r_in_ok _ (show (0 : Int32) ≤ 7 by decide) (show (7 : Int32) ≤ 16 by decide), r_right1, hy_e7_0, hy_e7_1, hy_e7_2, hy_e7_3, hy_e7_4, hy_e7_5, hy_e7_6, hy_e7_8, hy_e7_9, hy_e7_10, hy_e7_11, hy_e7_12, hy_e7_13, hy_e7_14, hy_e7_15, hy_e7_16, r_inside (hq _) hZ0, r_hAt (hq _) hZ0, r_bsk (hq _) hZ0, r_frLs (hq _) hZ0, r_silence (hq _), hq, hy_k0, hy_k1, hy_k2, hy_k3, hy_k4, hy_k5, hy_k6, hy_k7, hy_k8, hy_k9, hy_k10, hy_k11, hy_k12, hy_k13, show (1 : Int32) - 1 = 0 from rfl, show (2 : Int32) - 1 = 1 from rfl, show (3 : Int32) - 1 = 2 from rfl, show (4 : Int32) - 1 = 3 from rfl, show (5 : Int32) - 1 = 4 from rfl, show (6 : Int32) - 1 = 5 from rfl, show (7 : Int32) - 1 = 6 from rfl, show (8 : Int32) - 1 = 7 from rfl, show hz_in (0 : Int32) 185 = true from by decide, show hz_in (1 : Int32) 185 = true from by decide, show hz_in (2 : Int32) 185 = true from by decide, show hz_in (3 : Int32) 185 = true from by decide, show hz_in (4 : Int32) 185 = true from by decide, show hz_in (5 : Int32) 185 = true from by decide, show hz_in (6 : Int32) 185 = true from by decide, show hz_in (7 : Int32) 185 = true from by decide, hy_cts, hy_ctn, hy_xts, hy_xtn, c_need0, c_need1, x_need0, x_need1, hy_jn, hy_lm, hy_lt', hy_gt, if_true, if_false, hy_f10]
    · intro v h; rfl
  · refine Or.inl ⟨M 179 7, ?_, ?_, ?_⟩
    · simp (disch := omega) only [f_X10_size, hy_e8_0, hy_e8_1, hy_e8_2, hy_e8_3, hy_e8_4, hy_e8_5, hy_e8_6, hy_e8_7, hy_e8_9, hy_e8_10, hy_e8_11, hy_e8_12, hy_e8_13, hy_e8_14, hy_e8_15, hy_e8_16, c_hIns hC0, c_hAt hC0, c_bsk hC0, c_inUse hC0, c_silence hC0, c_frLs hZ0, s1, s2, s4, s5, s6, b3, b4, b5, b6, b7, b8, z1, z6, z9, z11, z14, I_u I, hy_cts, hy_ctn, hy_xts, hy_xtn, c_need0, c_need1, x_need0, x_need1, hy_jn, hy_lm, hy_lt', hy_gt, if_true, if_false, hy_f10]
    · simp (disch := omega) only [f_X11_size, r_in_ok _ (show (0 : Int32) ≤ 8 by decide) (show (8 : Int32) ≤ 16 by decide), r_right1, hy_e8_0, hy_e8_1, hy_e8_2, hy_e8_3, hy_e8_4, hy_e8_5, hy_e8_6, hy_e8_7, hy_e8_9, hy_e8_10, hy_e8_11, hy_e8_12, hy_e8_13, hy_e8_14, hy_e8_15, hy_e8_16, r_inside (hq _) hZ0, r_hAt (hq _) hZ0, r_bsk (hq _) hZ0, r_frLs (hq _) hZ0, r_silence (hq _), hq, hy_k0, hy_k1, hy_k2, hy_k3, hy_k4, hy_k5, hy_k6, hy_k7, hy_k8, hy_k9, hy_k10, hy_k11, hy_k12, hy_k13, show (1 : Int32) - 1 = 0 from rfl, show (2 : Int32) - 1 = 1 from rfl, show (3 : Int32) - 1 = 2 from rfl, show (4 : Int32) - 1 = 3 from rfl, show (5 : Int32) - 1 = 4 from rfl, show (6 : Int32) - 1 = 5 from rfl, show (7 : Int32) - 1 = 6 from rfl, show (8 : Int32) - 1 = 7 from rfl, show hz_in (0 : Int32) 185 = true from by decide, show hz_in (1 : Int32) 185 = true from by decide, show hz_in (2 : Int32) 185 = true from by decide, show hz_in (3 : Int32) 185 = true from by decide, show hz_in (4 : Int32) 185 = true from by decide, show hz_in (5 : Int32) 185 = true from by decide, show hz_in (6 : Int32) 185 = true from by decide, show hz_in (7 : Int32) 185 = true from by decide, hy_cts, hy_ctn, hy_xts, hy_xtn, c_need0, c_need1, x_need0, x_need1, hy_jn, hy_lm, hy_lt', hy_gt, if_true, if_false, hy_f10]
    · intro v h; rfl
  · refine Or.inl ⟨M 179 8, ?_, ?_, ?_⟩
    · simp (disch := omega) only [f_X10_size, hy_e9_0, hy_e9_1, hy_e9_2, hy_e9_3, hy_e9_4, hy_e9_5, hy_e9_6, hy_e9_7, hy_e9_8, hy_e9_10, hy_e9_11, hy_e9_12, hy_e9_13, hy_e9_14, hy_e9_15, hy_e9_16, c_hIns hC0, c_hAt hC0, c_bsk hC0, c_inUse hC0, c_silence hC0, c_frLs hZ0, s1, s2, s4, s5, s6, b3, b4, b5, b6, b7, b8, z1, z6, z9, z11, z14, I_u I, hy_cts, hy_ctn, hy_xts, hy_xtn, c_need0, c_need1, x_need0, x_need1, hy_jn, hy_lm, hy_lt', hy_gt, if_true, if_false, hy_f10]
    · simp (disch := omega) only [f_X11_size, r_in_ok _ (show (0 : Int32) ≤ 9 by decide) (show (9 : Int32) ≤ 16 by decide), r_right1, hy_e9_0, hy_e9_1, hy_e9_2, hy_e9_3, hy_e9_4, hy_e9_5, hy_e9_6, hy_e9_7, hy_e9_8, hy_e9_10, hy_e9_11, hy_e9_12, hy_e9_13, hy_e9_14, hy_e9_15, hy_e9_16, r_inside (hq _) hZ0, r_hAt (hq _) hZ0, r_bsk (hq _) hZ0, r_frLs (hq _) hZ0, r_silence (hq _), hq, hy_k0, hy_k1, hy_k2, hy_k3, hy_k4, hy_k5, hy_k6, hy_k7, hy_k8, hy_k9, hy_k10, hy_k11, hy_k12, hy_k13, show (1 : Int32) - 1 = 0 from rfl, show (2 : Int32) - 1 = 1 from rfl, show (3 : Int32) - 1 = 2 from rfl, show (4 : Int32) - 1 = 3 from rfl, show (5 : Int32) - 1 = 4 from rfl, show (6 : Int32) - 1 = 5 from rfl, show (7 : Int32) - 1 = 6 from rfl, show (8 : Int32) - 1 = 7 from rfl, show hz_in (0 : Int32) 185 = true from by decide, show hz_in (1 : Int32) 185 = true from by decide, show hz_in (2 : Int32) 185 = true from by decide, show hz_in (3 : Int32) 185 = true from by decide, show hz_in (4 : Int32) 185 = true from by decide, show hz_in (5 : Int32) 185 = true from by decide, show hz_in (6 : Int32) 185 = true from by decide, show hz_in (7 : Int32) 185 = true from by decide, hy_cts, hy_ctn, hy_xts, hy_xtn, c_need0, c_need1, x_need0, x_need1, hy_jn, hy_lm, hy_lt', hy_gt, if_true, if_false, hy_f10]
    · intro v h; exact absurd h (by decide)
  · refine Or.inl ⟨M 179 9, ?_, ?_, ?_⟩
    · simp (disch := omega) only [f_X10_size, hy_e10_0, hy_e10_1, hy_e10_2, hy_e10_3, hy_e10_4, hy_e10_5, hy_e10_6, hy_e10_7, hy_e10_8, hy_e10_9, hy_e10_11, hy_e10_12, hy_e10_13, hy_e10_14, hy_e10_15, hy_e10_16, c_hIns hC0, c_hAt hC0, c_bsk hC0, c_inUse hC0, c_silence hC0, c_frLs hZ0, s1, s2, s4, s5, s6, b3, b4, b5, b6, b7, b8, z1, z6, z9, z11, z14, I_u I, hy_cts, hy_ctn, hy_xts, hy_xtn, c_need0, c_need1, x_need0, x_need1, hy_jn, hy_lm, hy_lt', hy_gt, if_true, if_false, hy_f10]
    · simp (disch := omega) only [f_X11_size, r_in_ok _ (show (0 : Int32) ≤ 10 by decide) (show (10 : Int32) ≤ 16 by decide), r_right1, hy_e10_0, hy_e10_1, hy_e10_2, hy_e10_3, hy_e10_4, hy_e10_5, hy_e10_6, hy_e10_7, hy_e10_8, hy_e10_9, hy_e10_11, hy_e10_12, hy_e10_13, hy_e10_14, hy_e10_15, hy_e10_16, r_inside (hq _) hZ0, r_hAt (hq _) hZ0, r_bsk (hq _) hZ0, r_frLs (hq _) hZ0, r_silence (hq _), hq, hy_k0, hy_k1, hy_k2, hy_k3, hy_k4, hy_k5, hy_k6, hy_k7, hy_k8, hy_k9, hy_k10, hy_k11, hy_k12, hy_k13, show (1 : Int32) - 1 = 0 from rfl, show (2 : Int32) - 1 = 1 from rfl, show (3 : Int32) - 1 = 2 from rfl, show (4 : Int32) - 1 = 3 from rfl, show (5 : Int32) - 1 = 4 from rfl, show (6 : Int32) - 1 = 5 from rfl, show (7 : Int32) - 1 = 6 from rfl, show (8 : Int32) - 1 = 7 from rfl, show hz_in (0 : Int32) 185 = true from by decide, show hz_in (1 : Int32) 185 = true from by decide, show hz_in (2 : Int32) 185 = true from by decide, show hz_in (3 : Int32) 185 = true from by decide, show hz_in (4 : Int32) 185 = true from by decide, show hz_in (5 : Int32) 185 = true from by decide, show hz_in (6 : Int32) 185 = true from by decide, show hz_in (7 : Int32) 185 = true from by decide, hy_cts, hy_ctn, hy_xts, hy_xtn, c_need0, c_need1, x_need0, x_need1, hy_jn, hy_lm, hy_lt', hy_gt, if_true, if_false, hy_f10]
    · intro v h; exact absurd h (by decide)
  · refine Or.inl ⟨hIns (M 179), ?_, ?_, ?_⟩
    · simp (disch := omega) only [f_X10_size, hy_e11_0, hy_e11_1, hy_e11_2, hy_e11_3, hy_e11_4, hy_e11_5, hy_e11_6, hy_e11_7, hy_e11_8, hy_e11_9, hy_e11_10, hy_e11_12, hy_e11_13, hy_e11_14, hy_e11_15, hy_e11_16, c_hIns hC0, c_hAt hC0, c_bsk hC0, c_inUse hC0, c_silence hC0, c_frLs hZ0, s1, s2, s4, s5, s6, b3, b4, b5, b6, b7, b8, z1, z6, z9, z11, z14, I_u I, hy_cts, hy_ctn, hy_xts, hy_xtn, c_need0, c_need1, x_need0, x_need1, hy_jn, hy_lm, hy_lt', hy_gt, if_true, if_false, hy_f10]
    · simp (disch := omega) only [f_X11_size, r_in_ok _ (show (0 : Int32) ≤ 11 by decide) (show (11 : Int32) ≤ 16 by decide), r_right1, hy_e11_0, hy_e11_1, hy_e11_2, hy_e11_3, hy_e11_4, hy_e11_5, hy_e11_6, hy_e11_7, hy_e11_8, hy_e11_9, hy_e11_10, hy_e11_12, hy_e11_13, hy_e11_14, hy_e11_15, hy_e11_16, r_inside (hq _) hZ0, r_hAt (hq _) hZ0, r_bsk (hq _) hZ0, r_frLs (hq _) hZ0, r_silence (hq _), hq, hy_k0, hy_k1, hy_k2, hy_k3, hy_k4, hy_k5, hy_k6, hy_k7, hy_k8, hy_k9, hy_k10, hy_k11, hy_k12, hy_k13, show (1 : Int32) - 1 = 0 from rfl, show (2 : Int32) - 1 = 1 from rfl, show (3 : Int32) - 1 = 2 from rfl, show (4 : Int32) - 1 = 3 from rfl, show (5 : Int32) - 1 = 4 from rfl, show (6 : Int32) - 1 = 5 from rfl, show (7 : Int32) - 1 = 6 from rfl, show (8 : Int32) - 1 = 7 from rfl, show hz_in (0 : Int32) 185 = true from by decide, show hz_in (1 : Int32) 185 = true from by decide, show hz_in (2 : Int32) 185 = true from by decide, show hz_in (3 : Int32) 185 = true from by decide, show hz_in (4 : Int32) 185 = true from by decide, show hz_in (5 : Int32) 185 = true from by decide, show hz_in (6 : Int32) 185 = true from by decide, show hz_in (7 : Int32) 185 = true from by decide, hy_cts, hy_ctn, hy_xts, hy_xtn, c_need0, c_need1, x_need0, x_need1, hy_jn, hy_lm, hy_lt', hy_gt, if_true, if_false, hy_f10]
    · intro v h; exact absurd h (by decide)
  · refine Or.inl ⟨hIns (M 179) - hAt (M 179) 0, ?_, ?_, ?_⟩
    · simp (disch := omega) only [f_X10_size, hy_e12_0, hy_e12_1, hy_e12_2, hy_e12_3, hy_e12_4, hy_e12_5, hy_e12_6, hy_e12_7, hy_e12_8, hy_e12_9, hy_e12_10, hy_e12_11, hy_e12_13, hy_e12_14, hy_e12_15, hy_e12_16, c_hIns hC0, c_hAt hC0, c_bsk hC0, c_inUse hC0, c_silence hC0, c_frLs hZ0, s1, s2, s4, s5, s6, b3, b4, b5, b6, b7, b8, z1, z6, z9, z11, z14, I_u I, hy_cts, hy_ctn, hy_xts, hy_xtn, c_need0, c_need1, x_need0, x_need1, hy_jn, hy_lm, hy_lt', hy_gt, if_true, if_false, hy_f10]
    · simp (disch := omega) only [f_X11_size, r_in_ok _ (show (0 : Int32) ≤ 12 by decide) (show (12 : Int32) ≤ 16 by decide), r_right1, hy_e12_0, hy_e12_1, hy_e12_2, hy_e12_3, hy_e12_4, hy_e12_5, hy_e12_6, hy_e12_7, hy_e12_8, hy_e12_9, hy_e12_10, hy_e12_11, hy_e12_13, hy_e12_14, hy_e12_15, hy_e12_16, r_inside (hq _) hZ0, r_hAt (hq _) hZ0, r_bsk (hq _) hZ0, r_frLs (hq _) hZ0, r_silence (hq _), hq, hy_k0, hy_k1, hy_k2, hy_k3, hy_k4, hy_k5, hy_k6, hy_k7, hy_k8, hy_k9, hy_k10, hy_k11, hy_k12, hy_k13, show (1 : Int32) - 1 = 0 from rfl, show (2 : Int32) - 1 = 1 from rfl, show (3 : Int32) - 1 = 2 from rfl, show (4 : Int32) - 1 = 3 from rfl, show (5 : Int32) - 1 = 4 from rfl, show (6 : Int32) - 1 = 5 from rfl, show (7 : Int32) - 1 = 6 from rfl, show (8 : Int32) - 1 = 7 from rfl, show hz_in (0 : Int32) 185 = true from by decide, show hz_in (1 : Int32) 185 = true from by decide, show hz_in (2 : Int32) 185 = true from by decide, show hz_in (3 : Int32) 185 = true from by decide, show hz_in (4 : Int32) 185 = true from by decide, show hz_in (5 : Int32) 185 = true from by decide, show hz_in (6 : Int32) 185 = true from by decide, show hz_in (7 : Int32) 185 = true from by decide, hy_cts, hy_ctn, hy_xts, hy_xtn, c_need0, c_need1, x_need0, x_need1, hy_jn, hy_lm, hy_lt', hy_gt, if_true, if_false, hy_f10]
    · intro v h; exact absurd h (by decide)
  · refine Or.inl ⟨bsk (M 179), ?_, ?_, ?_⟩
    · simp (disch := omega) only [f_X10_size, hy_e13_0, hy_e13_1, hy_e13_2, hy_e13_3, hy_e13_4, hy_e13_5, hy_e13_6, hy_e13_7, hy_e13_8, hy_e13_9, hy_e13_10, hy_e13_11, hy_e13_12, hy_e13_14, hy_e13_15, hy_e13_16, c_hIns hC0, c_hAt hC0, c_bsk hC0, c_inUse hC0, c_silence hC0, c_frLs hZ0, s1, s2, s4, s5, s6, b3, b4, b5, b6, b7, b8, z1, z6, z9, z11, z14, I_u I, hy_cts, hy_ctn, hy_xts, hy_xtn, c_need0, c_need1, x_need0, x_need1, hy_jn, hy_lm, hy_lt', hy_gt, if_true, if_false, hy_f10]
    · simp (disch := omega) only [f_X11_size, r_in_ok _ (show (0 : Int32) ≤ 13 by decide) (show (13 : Int32) ≤ 16 by decide), r_right1, hy_e13_0, hy_e13_1, hy_e13_2, hy_e13_3, hy_e13_4, hy_e13_5, hy_e13_6, hy_e13_7, hy_e13_8, hy_e13_9, hy_e13_10, hy_e13_11, hy_e13_12, hy_e13_14, hy_e13_15, hy_e13_16, r_inside (hq _) hZ0, r_hAt (hq _) hZ0, r_bsk (hq _) hZ0, r_frLs (hq _) hZ0, r_silence (hq _), hq, hy_k0, hy_k1, hy_k2, hy_k3, hy_k4, hy_k5, hy_k6, hy_k7, hy_k8, hy_k9, hy_k10, hy_k11, hy_k12, hy_k13, show (1 : Int32) - 1 = 0 from rfl, show (2 : Int32) - 1 = 1 from rfl, show (3 : Int32) - 1 = 2 from rfl, show (4 : Int32) - 1 = 3 from rfl, show (5 : Int32) - 1 = 4 from rfl, show (6 : Int32) - 1 = 5 from rfl, show (7 : Int32) - 1 = 6 from rfl, show (8 : Int32) - 1 = 7 from rfl, show hz_in (0 : Int32) 185 = true from by decide, show hz_in (1 : Int32) 185 = true from by decide, show hz_in (2 : Int32) 185 = true from by decide, show hz_in (3 : Int32) 185 = true from by decide, show hz_in (4 : Int32) 185 = true from by decide, show hz_in (5 : Int32) 185 = true from by decide, show hz_in (6 : Int32) 185 = true from by decide, show hz_in (7 : Int32) 185 = true from by decide, hy_cts, hy_ctn, hy_xts, hy_xtn, c_need0, c_need1, x_need0, x_need1, hy_jn, hy_lm, hy_lt', hy_gt, if_true, if_false, hy_f10]
    · intro v h; exact absurd h (by decide)
  · refine Or.inl ⟨frLs (M 179), ?_, ?_, ?_⟩
    · simp (disch := omega) only [f_X10_size, hy_e14_0, hy_e14_1, hy_e14_2, hy_e14_3, hy_e14_4, hy_e14_5, hy_e14_6, hy_e14_7, hy_e14_8, hy_e14_9, hy_e14_10, hy_e14_11, hy_e14_12, hy_e14_13, hy_e14_15, hy_e14_16, c_hIns hC0, c_hAt hC0, c_bsk hC0, c_inUse hC0, c_silence hC0, c_frLs hZ0, s1, s2, s4, s5, s6, b3, b4, b5, b6, b7, b8, z1, z6, z9, z11, z14, I_u I, hy_cts, hy_ctn, hy_xts, hy_xtn, c_need0, c_need1, x_need0, x_need1, hy_jn, hy_lm, hy_lt', hy_gt, if_true, if_false, hy_f10]; rw [← z3, c_frLs hZ0]
    · simp (disch := omega) only [f_X11_size, r_in_ok _ (show (0 : Int32) ≤ 14 by decide) (show (14 : Int32) ≤ 16 by decide), r_right1, hy_e14_0, hy_e14_1, hy_e14_2, hy_e14_3, hy_e14_4, hy_e14_5, hy_e14_6, hy_e14_7, hy_e14_8, hy_e14_9, hy_e14_10, hy_e14_11, hy_e14_12, hy_e14_13, hy_e14_15, hy_e14_16, r_inside (hq _) hZ0, r_hAt (hq _) hZ0, r_bsk (hq _) hZ0, r_frLs (hq _) hZ0, r_silence (hq _), hq, hy_k0, hy_k1, hy_k2, hy_k3, hy_k4, hy_k5, hy_k6, hy_k7, hy_k8, hy_k9, hy_k10, hy_k11, hy_k12, hy_k13, show (1 : Int32) - 1 = 0 from rfl, show (2 : Int32) - 1 = 1 from rfl, show (3 : Int32) - 1 = 2 from rfl, show (4 : Int32) - 1 = 3 from rfl, show (5 : Int32) - 1 = 4 from rfl, show (6 : Int32) - 1 = 5 from rfl, show (7 : Int32) - 1 = 6 from rfl, show (8 : Int32) - 1 = 7 from rfl, show hz_in (0 : Int32) 185 = true from by decide, show hz_in (1 : Int32) 185 = true from by decide, show hz_in (2 : Int32) 185 = true from by decide, show hz_in (3 : Int32) 185 = true from by decide, show hz_in (4 : Int32) 185 = true from by decide, show hz_in (5 : Int32) 185 = true from by decide, show hz_in (6 : Int32) 185 = true from by decide, show hz_in (7 : Int32) 185 = true from by decide, hy_cts, hy_ctn, hy_xts, hy_xtn, c_need0, c_need1, x_need0, x_need1, hy_jn, hy_lm, hy_lt', hy_gt, if_true, if_false, hy_f10]
    · intro v h; exact absurd h (by decide)
  · refine Or.inl ⟨(if M 179 10 = -1 then 0 else if M 179 10 + M 179 7 ≤ M 179 8 then 0 else 1), ?_, ?_, ?_⟩
    · simp (disch := omega) only [f_X10_size, hy_e15_0, hy_e15_1, hy_e15_2, hy_e15_3, hy_e15_4, hy_e15_5, hy_e15_6, hy_e15_7, hy_e15_8, hy_e15_9, hy_e15_10, hy_e15_11, hy_e15_12, hy_e15_13, hy_e15_14, hy_e15_16, c_hIns hC0, c_hAt hC0, c_bsk hC0, c_inUse hC0, c_silence hC0, c_frLs hZ0, s1, s2, s4, s5, s6, b3, b4, b5, b6, b7, b8, z1, z6, z9, z11, z14, I_u I, hy_cts, hy_ctn, hy_xts, hy_xtn, c_need0, c_need1, x_need0, x_need1, hy_jn, hy_lm, hy_lt', hy_gt, if_true, if_false, hy_f10] <;> (repeat (first | rfl | split))
    · simp (disch := omega) only [f_X11_size, r_in_ok _ (show (0 : Int32) ≤ 15 by decide) (show (15 : Int32) ≤ 16 by decide), r_right1, hy_e15_0, hy_e15_1, hy_e15_2, hy_e15_3, hy_e15_4, hy_e15_5, hy_e15_6, hy_e15_7, hy_e15_8, hy_e15_9, hy_e15_10, hy_e15_11, hy_e15_12, hy_e15_13, hy_e15_14, hy_e15_16, r_inside (hq _) hZ0, r_hAt (hq _) hZ0, r_bsk (hq _) hZ0, r_frLs (hq _) hZ0, r_silence (hq _), hq, hy_k0, hy_k1, hy_k2, hy_k3, hy_k4, hy_k5, hy_k6, hy_k7, hy_k8, hy_k9, hy_k10, hy_k11, hy_k12, hy_k13, show (1 : Int32) - 1 = 0 from rfl, show (2 : Int32) - 1 = 1 from rfl, show (3 : Int32) - 1 = 2 from rfl, show (4 : Int32) - 1 = 3 from rfl, show (5 : Int32) - 1 = 4 from rfl, show (6 : Int32) - 1 = 5 from rfl, show (7 : Int32) - 1 = 6 from rfl, show (8 : Int32) - 1 = 7 from rfl, show hz_in (0 : Int32) 185 = true from by decide, show hz_in (1 : Int32) 185 = true from by decide, show hz_in (2 : Int32) 185 = true from by decide, show hz_in (3 : Int32) 185 = true from by decide, show hz_in (4 : Int32) 185 = true from by decide, show hz_in (5 : Int32) 185 = true from by decide, show hz_in (6 : Int32) 185 = true from by decide, show hz_in (7 : Int32) 185 = true from by decide, hy_cts, hy_ctn, hy_xts, hy_xtn, c_need0, c_need1, x_need0, x_need1, hy_jn, hy_lm, hy_lt', hy_gt, if_true, if_false, hy_f10] <;> (repeat (first | rfl | split))
    · intro v h; exact absurd h (by decide)
  · refine Or.inl ⟨M 178 6, ?_, ?_, ?_⟩
    · simp (disch := omega) only [f_X10_size, hy_e16_0, hy_e16_1, hy_e16_2, hy_e16_3, hy_e16_4, hy_e16_5, hy_e16_6, hy_e16_7, hy_e16_8, hy_e16_9, hy_e16_10, hy_e16_11, hy_e16_12, hy_e16_13, hy_e16_14, hy_e16_15, c_hIns hC0, c_hAt hC0, c_bsk hC0, c_inUse hC0, c_silence hC0, c_frLs hZ0, s1, s2, s4, s5, s6, b3, b4, b5, b6, b7, b8, z1, z6, z9, z11, z14, I_u I, hy_cts, hy_ctn, hy_xts, hy_xtn, c_need0, c_need1, x_need0, x_need1, hy_jn, hy_lm, hy_lt', hy_gt, if_true, if_false, hy_f10]
    · simp (disch := omega) only [f_X11_size, r_in_ok _ (show (0 : Int32) ≤ 16 by decide) (show (16 : Int32) ≤ 16 by decide), r_right1, hy_e16_0, hy_e16_1, hy_e16_2, hy_e16_3, hy_e16_4, hy_e16_5, hy_e16_6, hy_e16_7, hy_e16_8, hy_e16_9, hy_e16_10, hy_e16_11, hy_e16_12, hy_e16_13, hy_e16_14, hy_e16_15, r_inside (hq _) hZ0, r_hAt (hq _) hZ0, r_bsk (hq _) hZ0, r_frLs (hq _) hZ0, r_silence (hq _), hq, hy_k0, hy_k1, hy_k2, hy_k3, hy_k4, hy_k5, hy_k6, hy_k7, hy_k8, hy_k9, hy_k10, hy_k11, hy_k12, hy_k13, show (1 : Int32) - 1 = 0 from rfl, show (2 : Int32) - 1 = 1 from rfl, show (3 : Int32) - 1 = 2 from rfl, show (4 : Int32) - 1 = 3 from rfl, show (5 : Int32) - 1 = 4 from rfl, show (6 : Int32) - 1 = 5 from rfl, show (7 : Int32) - 1 = 6 from rfl, show (8 : Int32) - 1 = 7 from rfl, show hz_in (0 : Int32) 185 = true from by decide, show hz_in (1 : Int32) 185 = true from by decide, show hz_in (2 : Int32) 185 = true from by decide, show hz_in (3 : Int32) 185 = true from by decide, show hz_in (4 : Int32) 185 = true from by decide, show hz_in (5 : Int32) 185 = true from by decide, show hz_in (6 : Int32) 185 = true from by decide, show hz_in (7 : Int32) 185 = true from by decide, hy_cts, hy_ctn, hy_xts, hy_xtn, c_need0, c_need1, x_need0, x_need1, hy_jn, hy_lm, hy_lt', hy_gt, if_true, if_false, hy_f10]; rfl
    · intro v h; exact absurd h (by decide)
theorem g_4 {M : hz_M} (I : Inv M) (a : Int32) : ∃ M', fs_4 a M = some (0, M') ∧ Inv M' := by
  show ∃ M', hy_go (f_X10_size a M) (fx_X10_size a M) (f_X11_size a) = some (0, M') ∧ Inv M'
  rcases c_size I a with ⟨r, h1, h2, _⟩ | ⟨_, h1, h2, h3⟩
  · exact g_ok I h1 h2
  · exact g_no I h1 h2 h3
theorem g_3 {M : hz_M} (I : Inv M) : ∃ M', fs_3 M = some (0, M') ∧ Inv M' := by
  show ∃ M', hy_ge (f_X10_errorPosition M) f_X11_errorPosition = some (0, M') ∧ Inv M'
  refine g_eq I (r := M 0 9) rfl ?_
  simp only [f_X11_errorPosition, hy_lm]
  rw [hy_setn _ _ _ (by omega), I.2.2.2.2.1]
theorem g_11 {M : hz_M} (I : Inv M) : ∃ M', fs_11 M = some (0, M') ∧ Inv M' := by
  have hC := I_C I
  have hQ := I_Q I
  have hq := fun r => q_1 M r 0
  have hq2 := q_2 M 0
  have hC0 := hC
  obtain ⟨hZ, ⟨b3, b4, b5, b6, b7, b8, bag, bnm⟩, hRR⟩ := hC
  have hZ0 := hZ
  obtain ⟨⟨s1, s2, s3, s4, s5, s6⟩, ra, ro, rp, rl, rt, rs, rw', rd, rwt, rpg, rk, rh, rtw⟩ := c_rows hRR
  obtain ⟨⟨z1, z2⟩, ⟨z3, z4, z5⟩, ⟨z6, z7, z8⟩, ⟨z9, z10⟩, ⟨z11, z12, z13⟩, ⟨z14, z15, z16⟩⟩ := hZ
  rw [z1] at b3; rw [z3] at b4; rw [z6] at b5; rw [z9] at b6; rw [z11] at b7; rw [z14] at b8
  show ∃ M', hy_ge (f_X10_driest M) f_X11_driest = some (0, M') ∧ Inv M'
  refine g_eq I (r := dry (M 179)) ?_ ?_
  · simp only [f_X10_driest, c_dry hC0, hy_cts, hy_ctn, hy_xts, hy_xtn, c_need0, c_need1, x_need0, x_need1, hy_jn, hy_lm, hy_lt', hy_gt, if_true, if_false, hy_f10]
  · simp only [f_X11_driest, r_dry hq2 hZ0, hy_cts, hy_ctn, hy_xts, hy_xtn, c_need0, c_need1, x_need0, x_need1, hy_jn, hy_lm, hy_lt', hy_gt, if_true, if_false, hy_f10]
theorem g_17 {M : hz_M} (I : Inv M) : ∃ M', fs_17 M = some (0, M') ∧ Inv M' := by
  have hC := I_C I
  have hQ := I_Q I
  have hq := fun r => q_1 M r 0
  have hq2 := q_2 M 0
  have hC0 := hC
  obtain ⟨hZ, ⟨b3, b4, b5, b6, b7, b8, bag, bnm⟩, hRR⟩ := hC
  have hZ0 := hZ
  obtain ⟨⟨s1, s2, s3, s4, s5, s6⟩, ra, ro, rp, rl, rt, rs, rw', rd, rwt, rpg, rk, rh, rtw⟩ := c_rows hRR
  obtain ⟨⟨z1, z2⟩, ⟨z3, z4, z5⟩, ⟨z6, z7, z8⟩, ⟨z9, z10⟩, ⟨z11, z12, z13⟩, ⟨z14, z15, z16⟩⟩ := hZ
  rw [z1] at b3; rw [z3] at b4; rw [z6] at b5; rw [z9] at b6; rw [z11] at b7; rw [z14] at b8
  show ∃ M', hy_ge (f_X10_gap M) f_X11_gap = some (0, M') ∧ Inv M'
  exact g_eq I (r := gapv (M 179)) (c_gap hC0) (r_gap rfl hZ0)
theorem g_16 {M : hz_M} (I : Inv M) (a : Int32) : ∃ M', fs_16 a M = some (0, M') ∧ Inv M' := by
  have hC := I_C I
  have hQ := I_Q I
  have hq := fun r => q_1 M r 0
  have hq2 := q_2 M 0
  have hC0 := hC
  obtain ⟨hZ, ⟨b3, b4, b5, b6, b7, b8, bag, bnm⟩, hRR⟩ := hC
  have hZ0 := hZ
  obtain ⟨⟨s1, s2, s3, s4, s5, s6⟩, ra, ro, rp, rl, rt, rs, rw', rd, rwt, rpg, rk, rh, rtw⟩ := c_rows hRR
  obtain ⟨⟨z1, z2⟩, ⟨z3, z4, z5⟩, ⟨z6, z7, z8⟩, ⟨z9, z10⟩, ⟨z11, z12, z13⟩, ⟨z14, z15, z16⟩⟩ := hZ
  rw [z1] at b3; rw [z3] at b4; rw [z6] at b5; rw [z9] at b6; rw [z11] at b7; rw [z14] at b8
  show ∃ M', hy_go (f_X10_account a M) (fx_X10_account a M) (f_X11_account a) = some (0, M') ∧ Inv M'
  rcases hy_lit10 a with h | rfl | rfl | rfl | rfl | rfl | rfl | rfl | rfl | rfl | rfl
  · have h' := hy_lit10o h
    by_cases e : a < 0
    · refine g_no (r := 0) I ?_ ?_ ?_
      · simp only [f_X10_account, e, hy_cts, hy_ctn, hy_xts, hy_xtn, c_need0, c_need1, x_need0, x_need1, hy_jn, hy_lm, hy_lt', hy_gt, if_true, if_false, hy_f10]
      · simp only [fx_X10_account, e, hy_cts, hy_ctn, hy_xts, hy_xtn, c_need0, c_need1, x_need0, x_need1, hy_jn, hy_lm, hy_lt', hy_gt, if_true, if_false, hy_f10]
      · simp only [f_X11_account, r_in_no _ h', r_right0, hy_cts, hy_ctn, hy_xts, hy_xtn, c_need0, c_need1, x_need0, x_need1, hy_jn, hy_lm, hy_lt', hy_gt, if_true, if_false, hy_f10]
    · have e2 : (9 : Int32) < a := by rcases h' with h' | h' <;> grind
      refine g_no (r := 0) I ?_ ?_ ?_
      · simp only [f_X10_account, e, e2, hy_cts, hy_ctn, hy_xts, hy_xtn, c_need0, c_need1, x_need0, x_need1, hy_jn, hy_lm, hy_lt', hy_gt, if_true, if_false, hy_f10]
      · simp only [fx_X10_account, e, e2, hy_cts, hy_ctn, hy_xts, hy_xtn, c_need0, c_need1, x_need0, x_need1, hy_jn, hy_lm, hy_lt', hy_gt, if_true, if_false, hy_f10]
      · simp only [f_X11_account, r_in_no _ h', r_right0, hy_cts, hy_ctn, hy_xts, hy_xtn, c_need0, c_need1, x_need0, x_need1, hy_jn, hy_lm, hy_lt', hy_gt, if_true, if_false, hy_f10]
  · refine g_ok I (r := M 179 (12 + 0)) ?_ ?_
    · simp (disch := omega) only [f_X10_account, show ((0 : Int32) < 0) = False from eq_false (by decide), show ((9 : Int32) < 0) = False from eq_false (by decide), show ((9 : Int32) ≤ 0) = False from eq_false (by decide), show hz_in (0 : Int32) 9 = true from by decide, hy_k0, hy_k1, hy_k2, hy_k3, hy_k4, hy_k5, hy_k6, hy_k7, hy_k8, hy_k9, hy_k10, hy_k11, hy_k12, hy_k13, ra 0 (by omega), hy_cts, hy_ctn, hy_xts, hy_xtn, c_need0, c_need1, x_need0, x_need1, hy_jn, hy_lm, hy_lt', hy_gt, if_true, if_false, hy_f10]
    · simp (disch := omega) only [f_X11_account, r_in_ok _ (show (0 : Int32) ≤ 0 by decide) (show (0 : Int32) ≤ 9 by decide), r_right1, hy_e0_9, hq, show (12 : Int32) + 0 = 12 from rfl, show hz_in (12 : Int32) 185 = true from by decide, show Int32.toNatClampNeg (12 : Int32) = 12 from by decide, hy_seto, hy_setn, I.2.2.2.1, ne_eq, hy_cts, hy_ctn, hy_xts, hy_xtn, c_need0, c_need1, x_need0, x_need1, hy_jn, hy_lm, hy_lt', hy_gt, if_true, if_false, hy_f10]
  · refine g_ok I (r := M 179 (12 + 1)) ?_ ?_
    · simp (disch := omega) only [f_X10_account, show ((1 : Int32) < 0) = False from eq_false (by decide), show ((9 : Int32) < 1) = False from eq_false (by decide), show ((9 : Int32) ≤ 1) = False from eq_false (by decide), show hz_in (1 : Int32) 9 = true from by decide, hy_k0, hy_k1, hy_k2, hy_k3, hy_k4, hy_k5, hy_k6, hy_k7, hy_k8, hy_k9, hy_k10, hy_k11, hy_k12, hy_k13, ra 1 (by omega), hy_cts, hy_ctn, hy_xts, hy_xtn, c_need0, c_need1, x_need0, x_need1, hy_jn, hy_lm, hy_lt', hy_gt, if_true, if_false, hy_f10]
    · simp (disch := omega) only [f_X11_account, r_in_ok _ (show (0 : Int32) ≤ 1 by decide) (show (1 : Int32) ≤ 9 by decide), r_right1, hy_e1_9, hq, show (12 : Int32) + 1 = 13 from rfl, show hz_in (13 : Int32) 185 = true from by decide, show Int32.toNatClampNeg (13 : Int32) = 13 from by decide, hy_seto, hy_setn, I.2.2.2.1, ne_eq, hy_cts, hy_ctn, hy_xts, hy_xtn, c_need0, c_need1, x_need0, x_need1, hy_jn, hy_lm, hy_lt', hy_gt, if_true, if_false, hy_f10]
  · refine g_ok I (r := M 179 (12 + 2)) ?_ ?_
    · simp (disch := omega) only [f_X10_account, show ((2 : Int32) < 0) = False from eq_false (by decide), show ((9 : Int32) < 2) = False from eq_false (by decide), show ((9 : Int32) ≤ 2) = False from eq_false (by decide), show hz_in (2 : Int32) 9 = true from by decide, hy_k0, hy_k1, hy_k2, hy_k3, hy_k4, hy_k5, hy_k6, hy_k7, hy_k8, hy_k9, hy_k10, hy_k11, hy_k12, hy_k13, ra 2 (by omega), hy_cts, hy_ctn, hy_xts, hy_xtn, c_need0, c_need1, x_need0, x_need1, hy_jn, hy_lm, hy_lt', hy_gt, if_true, if_false, hy_f10]
    · simp (disch := omega) only [f_X11_account, r_in_ok _ (show (0 : Int32) ≤ 2 by decide) (show (2 : Int32) ≤ 9 by decide), r_right1, hy_e2_9, hq, show (12 : Int32) + 2 = 14 from rfl, show hz_in (14 : Int32) 185 = true from by decide, show Int32.toNatClampNeg (14 : Int32) = 14 from by decide, hy_seto, hy_setn, I.2.2.2.1, ne_eq, hy_cts, hy_ctn, hy_xts, hy_xtn, c_need0, c_need1, x_need0, x_need1, hy_jn, hy_lm, hy_lt', hy_gt, if_true, if_false, hy_f10]
  · refine g_ok I (r := M 179 (12 + 3)) ?_ ?_
    · simp (disch := omega) only [f_X10_account, show ((3 : Int32) < 0) = False from eq_false (by decide), show ((9 : Int32) < 3) = False from eq_false (by decide), show ((9 : Int32) ≤ 3) = False from eq_false (by decide), show hz_in (3 : Int32) 9 = true from by decide, hy_k0, hy_k1, hy_k2, hy_k3, hy_k4, hy_k5, hy_k6, hy_k7, hy_k8, hy_k9, hy_k10, hy_k11, hy_k12, hy_k13, ra 3 (by omega), hy_cts, hy_ctn, hy_xts, hy_xtn, c_need0, c_need1, x_need0, x_need1, hy_jn, hy_lm, hy_lt', hy_gt, if_true, if_false, hy_f10]
    · simp (disch := omega) only [f_X11_account, r_in_ok _ (show (0 : Int32) ≤ 3 by decide) (show (3 : Int32) ≤ 9 by decide), r_right1, hy_e3_9, hq, show (12 : Int32) + 3 = 15 from rfl, show hz_in (15 : Int32) 185 = true from by decide, show Int32.toNatClampNeg (15 : Int32) = 15 from by decide, hy_seto, hy_setn, I.2.2.2.1, ne_eq, hy_cts, hy_ctn, hy_xts, hy_xtn, c_need0, c_need1, x_need0, x_need1, hy_jn, hy_lm, hy_lt', hy_gt, if_true, if_false, hy_f10]
  · refine g_ok I (r := M 179 (12 + 4)) ?_ ?_
    · simp (disch := omega) only [f_X10_account, show ((4 : Int32) < 0) = False from eq_false (by decide), show ((9 : Int32) < 4) = False from eq_false (by decide), show ((9 : Int32) ≤ 4) = False from eq_false (by decide), show hz_in (4 : Int32) 9 = true from by decide, hy_k0, hy_k1, hy_k2, hy_k3, hy_k4, hy_k5, hy_k6, hy_k7, hy_k8, hy_k9, hy_k10, hy_k11, hy_k12, hy_k13, ra 4 (by omega), hy_cts, hy_ctn, hy_xts, hy_xtn, c_need0, c_need1, x_need0, x_need1, hy_jn, hy_lm, hy_lt', hy_gt, if_true, if_false, hy_f10]
    · simp (disch := omega) only [f_X11_account, r_in_ok _ (show (0 : Int32) ≤ 4 by decide) (show (4 : Int32) ≤ 9 by decide), r_right1, hy_e4_9, hq, show (12 : Int32) + 4 = 16 from rfl, show hz_in (16 : Int32) 185 = true from by decide, show Int32.toNatClampNeg (16 : Int32) = 16 from by decide, hy_seto, hy_setn, I.2.2.2.1, ne_eq, hy_cts, hy_ctn, hy_xts, hy_xtn, c_need0, c_need1, x_need0, x_need1, hy_jn, hy_lm, hy_lt', hy_gt, if_true, if_false, hy_f10]
  · refine g_ok I (r := M 179 (12 + 5)) ?_ ?_
    · simp (disch := omega) only [f_X10_account, show ((5 : Int32) < 0) = False from eq_false (by decide), show ((9 : Int32) < 5) = False from eq_false (by decide), show ((9 : Int32) ≤ 5) = False from eq_false (by decide), show hz_in (5 : Int32) 9 = true from by decide, hy_k0, hy_k1, hy_k2, hy_k3, hy_k4, hy_k5, hy_k6, hy_k7, hy_k8, hy_k9, hy_k10, hy_k11, hy_k12, hy_k13, ra 5 (by omega), hy_cts, hy_ctn, hy_xts, hy_xtn, c_need0, c_need1, x_need0, x_need1, hy_jn, hy_lm, hy_lt', hy_gt, if_true, if_false, hy_f10]
    · simp (disch := omega) only [f_X11_account, r_in_ok _ (show (0 : Int32) ≤ 5 by decide) (show (5 : Int32) ≤ 9 by decide), r_right1, hy_e5_9, hq, show (12 : Int32) + 5 = 17 from rfl, show hz_in (17 : Int32) 185 = true from by decide, show Int32.toNatClampNeg (17 : Int32) = 17 from by decide, hy_seto, hy_setn, I.2.2.2.1, ne_eq, hy_cts, hy_ctn, hy_xts, hy_xtn, c_need0, c_need1, x_need0, x_need1, hy_jn, hy_lm, hy_lt', hy_gt, if_true, if_false, hy_f10]
  · refine g_ok I (r := M 179 (12 + 6)) ?_ ?_
    · simp (disch := omega) only [f_X10_account, show ((6 : Int32) < 0) = False from eq_false (by decide), show ((9 : Int32) < 6) = False from eq_false (by decide), show ((9 : Int32) ≤ 6) = False from eq_false (by decide), show hz_in (6 : Int32) 9 = true from by decide, hy_k0, hy_k1, hy_k2, hy_k3, hy_k4, hy_k5, hy_k6, hy_k7, hy_k8, hy_k9, hy_k10, hy_k11, hy_k12, hy_k13, ra 6 (by omega), hy_cts, hy_ctn, hy_xts, hy_xtn, c_need0, c_need1, x_need0, x_need1, hy_jn, hy_lm, hy_lt', hy_gt, if_true, if_false, hy_f10]
    · simp (disch := omega) only [f_X11_account, r_in_ok _ (show (0 : Int32) ≤ 6 by decide) (show (6 : Int32) ≤ 9 by decide), r_right1, hy_e6_9, hq, show (12 : Int32) + 6 = 18 from rfl, show hz_in (18 : Int32) 185 = true from by decide, show Int32.toNatClampNeg (18 : Int32) = 18 from by decide, hy_seto, hy_setn, I.2.2.2.1, ne_eq, hy_cts, hy_ctn, hy_xts, hy_xtn, c_need0, c_need1, x_need0, x_need1, hy_jn, hy_lm, hy_lt', hy_gt, if_true, if_false, hy_f10]
  · refine g_ok I (r := M 179 (12 + 7)) ?_ ?_
    · simp (disch := omega) only [f_X10_account, show ((7 : Int32) < 0) = False from eq_false (by decide), show ((9 : Int32) < 7) = False from eq_false (by decide), show ((9 : Int32) ≤ 7) = False from eq_false (by decide), show hz_in (7 : Int32) 9 = true from by decide, hy_k0, hy_k1, hy_k2, hy_k3, hy_k4, hy_k5, hy_k6, hy_k7, hy_k8, hy_k9, hy_k10, hy_k11, hy_k12, hy_k13, ra 7 (by omega), hy_cts, hy_ctn, hy_xts, hy_xtn, c_need0, c_need1, x_need0, x_need1, hy_jn, hy_lm, hy_lt', hy_gt, if_true, if_false, hy_f10]
    · simp (disch := omega) only [f_X11_account, r_in_ok _ (show (0 : Int32) ≤ 7 by decide) (show (7 : Int32) ≤ 9 by decide), r_right1, hy_e7_9, hq, show (12 : Int32) + 7 = 19 from rfl, show hz_in (19 : Int32) 185 = true from by decide, show Int32.toNatClampNeg (19 : Int32) = 19 from by decide, hy_seto, hy_setn, I.2.2.2.1, ne_eq, hy_cts, hy_ctn, hy_xts, hy_xtn, c_need0, c_need1, x_need0, x_need1, hy_jn, hy_lm, hy_lt', hy_gt, if_true, if_false, hy_f10]
  · refine g_ok I (r := M 179 (12 + 8)) ?_ ?_
    · simp (disch := omega) only [f_X10_account, show ((8 : Int32) < 0) = False from eq_false (by decide), show ((9 : Int32) < 8) = False from eq_false (by decide), show ((9 : Int32) ≤ 8) = False from eq_false (by decide), show hz_in (8 : Int32) 9 = true from by decide, hy_k0, hy_k1, hy_k2, hy_k3, hy_k4, hy_k5, hy_k6, hy_k7, hy_k8, hy_k9, hy_k10, hy_k11, hy_k12, hy_k13, ra 8 (by omega), hy_cts, hy_ctn, hy_xts, hy_xtn, c_need0, c_need1, x_need0, x_need1, hy_jn, hy_lm, hy_lt', hy_gt, if_true, if_false, hy_f10]
    · simp (disch := omega) only [f_X11_account, r_in_ok _ (show (0 : Int32) ≤ 8 by decide) (show (8 : Int32) ≤ 9 by decide), r_right1, hy_e8_9, hq, show (12 : Int32) + 8 = 20 from rfl, show hz_in (20 : Int32) 185 = true from by decide, show Int32.toNatClampNeg (20 : Int32) = 20 from by decide, hy_seto, hy_setn, I.2.2.2.1, ne_eq, hy_cts, hy_ctn, hy_xts, hy_xtn, c_need0, c_need1, x_need0, x_need1, hy_jn, hy_lm, hy_lt', hy_gt, if_true, if_false, hy_f10]
  · refine g_ok I (r := M 26 3) ?_ ?_
    · simp (disch := omega) only [f_X10_account, show ((9 : Int32) < 0) = False from eq_false (by decide), show ((9 : Int32) < 9) = False from eq_false (by decide), show ((9 : Int32) ≤ 9) = True from eq_true (by decide), show hz_in (9 : Int32) 9 = false from by decide, hy_k0, hy_k1, hy_k2, hy_k3, hy_k4, hy_k5, hy_k6, hy_k7, hy_k8, hy_k9, hy_k10, hy_k11, hy_k12, hy_k13,  hy_cts, hy_ctn, hy_xts, hy_xtn, c_need0, c_need1, x_need0, x_need1, hy_jn, hy_lm, hy_lt', hy_gt, if_true, if_false, hy_f10]
    · simp (disch := omega) only [f_X11_account, r_in_ok _ (show (0 : Int32) ≤ 9 by decide) (show (9 : Int32) ≤ 9 by decide), r_right1,  hq, show (12 : Int32) + 9 = 21 from rfl, show hz_in (21 : Int32) 185 = true from by decide, show Int32.toNatClampNeg (21 : Int32) = 21 from by decide, hy_seto, hy_setn, I.2.2.2.1, ne_eq, hy_cts, hy_ctn, hy_xts, hy_xtn, c_need0, c_need1, x_need0, x_need1, hy_jn, hy_lm, hy_lt', hy_gt, if_true, if_false, hy_f10]
theorem g_14 {M : hz_M} (I : Inv M) (a b c : Int32) : ∃ M', fs_14 a b c M = some (0, M') ∧ Inv M' := by
  have hC := I_C I
  have hQ := I_Q I
  have hq := fun r => q_1 M r 0
  have hq2 := q_2 M 0
  have hC0 := hC
  obtain ⟨hZ, ⟨b3, b4, b5, b6, b7, b8, bag, bnm⟩, hRR⟩ := hC
  have hZ0 := hZ
  obtain ⟨⟨s1, s2, s3, s4, s5, s6⟩, ra, ro, rp, rl, rt, rs, rw', rd, rwt, rpg, rk, rh, rtw⟩ := c_rows hRR
  obtain ⟨⟨z1, z2⟩, ⟨z3, z4, z5⟩, ⟨z6, z7, z8⟩, ⟨z9, z10⟩, ⟨z11, z12, z13⟩, ⟨z14, z15, z16⟩⟩ := hZ
  rw [z1] at b3; rw [z3] at b4; rw [z6] at b5; rw [z9] at b6; rw [z11] at b7; rw [z14] at b8
  show ∃ M', hy_go (f_X10_why a b c M) (fx_X10_why a b c M) (f_X11_why a b c) = some (0, M') ∧ Inv M'
  rcases hy_two a (n := gz (M 179)) (by omega) with h | ⟨g, hg, rfl⟩
  · refine g_no (r := 0) I ?_ ?_ ?_
    · simp only [f_X10_why, c_isGuestO hC0 h, hy_cts, hy_ctn, hy_xts, hy_xtn, c_need0, c_need1, x_need0, x_need1, hy_jn, hy_lm, hy_lt', hy_gt, if_true, if_false, hy_f10]
    · simp only [fx_X10_why, c_isGuestO hC0 h, hy_cts, hy_ctn, hy_xts, hy_xtn, c_need0, c_need1, x_need0, x_need1, hy_jn, hy_lm, hy_lt', hy_gt, if_true, if_false, hy_f10]
    · simp only [f_X11_why, r_isGuestO hq2 hZ0 h, r_right0, hy_cts, hy_ctn, hy_xts, hy_xtn, c_need0, c_need1, x_need0, x_need1, hy_jn, hy_lm, hy_lt', hy_gt, if_true, if_false, hy_f10]
  rcases c_isDeed hC0 b with ⟨hd, hd1⟩ | ⟨hd, hd1⟩
  · by_cases c0 : c = 0
    · subst c0
      refine g_ok I (r := rsn (M 179) g b) ?_ ?_
      · simp only [f_X10_why, c_isGuest hC0 hg, hd1, c_rsn hC0 hQ hg hd, hy_cts, hy_ctn, hy_xts, hy_xtn, c_need0, c_need1, x_need0, x_need1, hy_jn, hy_lm, hy_lt', hy_gt, if_true, if_false, hy_f10]
      · simp only [f_X11_why, r_isGuest (hq _) hZ0 hg, r_isDeed (hq _) hZ0 hd, r_in_ok _ (show (0 : Int32) ≤ 0 by decide) (show (0 : Int32) ≤ 1 by decide), r_rsn (hq _) hZ0 hg hd, r_right1, hy_cts, hy_ctn, hy_xts, hy_xtn, c_need0, c_need1, x_need0, x_need1, hy_jn, hy_lm, hy_lt', hy_gt, if_true, if_false, hy_f10]
    · by_cases c1 : c = 1
      · subst c1
        refine g_ok I (r := csn (M 179) g b (rsn (M 179) g b)) ?_ ?_
        · simp only [f_X10_why, c_isGuest hC0 hg, hd1, c_csn hC0 hQ hg hd, hy_cts, hy_ctn, hy_xts, hy_xtn, c_need0, c_need1, x_need0, x_need1, hy_jn, hy_lm, hy_lt', hy_gt, if_true, if_false, hy_f10]
        · simp only [f_X11_why, r_isGuest (hq _) hZ0 hg, r_isDeed (hq _) hZ0 hd, r_in_ok _ (show (0 : Int32) ≤ 1 by decide) (show (1 : Int32) ≤ 1 by decide), r_csn (hq _) hZ0 hg hd, r_right1, hy_cts, hy_ctn, hy_xts, hy_xtn, c_need0, c_need1, x_need0, x_need1, hy_jn, hy_lm, hy_lt', hy_gt, if_true, if_false, hy_f10]
      · have h1 : c < 0 ∨ 1 < c := by grind
        refine g_no (r := 0) I ?_ ?_ ?_
        · simp only [f_X10_why, c_isGuest hC0 hg, hd1, c0, c1, hy_cts, hy_ctn, hy_xts, hy_xtn, c_need0, c_need1, x_need0, x_need1, hy_jn, hy_lm, hy_lt', hy_gt, if_true, if_false, hy_f10]
        · simp only [fx_X10_why, c_isGuest hC0 hg, hd1, c0, c1, hy_cts, hy_ctn, hy_xts, hy_xtn, c_need0, c_need1, x_need0, x_need1, hy_jn, hy_lm, hy_lt', hy_gt, if_true, if_false, hy_f10]
        · simp only [f_X11_why, r_isGuest hq2 hZ0 hg, r_isDeed hq2 hZ0 hd, r_in_no _ h1, r_right0, hy_cts, hy_ctn, hy_xts, hy_xtn, c_need0, c_need1, x_need0, x_need1, hy_jn, hy_lm, hy_lt', hy_gt, if_true, if_false, hy_f10]
  · refine g_no (r := 0) I ?_ ?_ ?_
    · simp only [f_X10_why, c_isGuest hC0 hg, hd1, hy_cts, hy_ctn, hy_xts, hy_xtn, c_need0, c_need1, x_need0, x_need1, hy_jn, hy_lm, hy_lt', hy_gt, if_true, if_false, hy_f10]
    · simp only [fx_X10_why, c_isGuest hC0 hg, hd1, hy_cts, hy_ctn, hy_xts, hy_xtn, c_need0, c_need1, x_need0, x_need1, hy_jn, hy_lm, hy_lt', hy_gt, if_true, if_false, hy_f10]
    · simp only [f_X11_why, r_isGuest hq2 hZ0 hg, r_isDeedN hq2 hZ0 hd, r_right0, hy_cts, hy_ctn, hy_xts, hy_xtn, c_need0, c_need1, x_need0, x_need1, hy_jn, hy_lm, hy_lt', hy_gt, if_true, if_false, hy_f10]
/-- the highest step -/
def hgh (q : Nat → Int32) (g : Nat) : Nat → Int32
  | 0 => 0
  | k + 1 => if nSit q g (nI (k + 1)) = 0 then nI (k + 1) else hgh q g k
theorem hy_dec (k : Nat) : nI (k + 1) + -1 = nI k := by
  rw [← Int32.sub_eq_add_neg, hy_1, hy_sub (by omega)]; rfl
theorem r_hgh {M : hz_M} {q : Nat → Int32} (hq : M 179 = q) (hZ : hy_Z q) {g : Nat} (hg : g < gz q) : ∀ k f, k ≤ 6 → k < f → f_X11_highest_L26 f (nI g) (nI k) M = some (hgh q g k, M)
  | 0, f, _, hf => by
    obtain ⟨f, rfl⟩ : ∃ e, f = e + 1 := ⟨f - 1, by omega⟩
    simp only [f_X11_highest_L26, hgh, hy_0, hy_le (show 0 < 2 ^ 31 by omega) (show 0 < 2 ^ 31 by omega), Nat.le_refl, if_true]
  | k + 1, f, hk, hf => by
    obtain ⟨f, rfl⟩ : ∃ e, f = e + 1 := ⟨f - 1, by omega⟩
    have e : ¬ nI (k + 1) ≤ 0 := by rw [hy_0, hy_le (by omega) (by omega)]; omega
    simp only [f_X11_highest_L26, hgh, e, if_false, r_nSit hq hZ hg, hy_cts, hy_lt', hy_dec]
    by_cases e2 : nSit q g (nI (k + 1)) = 0
    · simp only [e2, if_true]
    · simp only [e2, if_false]
      exact r_hgh hq hZ hg k f (by omega) (by omega)
theorem c_hgh {M : hz_M} {q : Nat → Int32} (hC : hy_C M q) (hQ : hy_Q q) {g : Nat} (hg : g < gz q) : ∀ k f, k ≤ sz q → k < f → f_X10_highest_L19 f (nI g) (nI k) M = some (hgh q g k, M)
  | 0, f, _, hf => by
    obtain ⟨f, rfl⟩ : ∃ e, f = e + 1 := ⟨f - 1, by omega⟩
    have e : nI 0 < 1 := by decide
    simp only [f_X10_highest_L19, hgh, e, if_true]
  | k + 1, f, hk, hf => by
    obtain ⟨f, rfl⟩ : ∃ e, f = e + 1 := ⟨f - 1, by omega⟩
    have h6 : sz q ≤ 6 := hC.1.2.2.2.2.2.2.2
    have e : ¬ nI (k + 1) < 1 := by rw [hy_1, hy_lt (by omega) (by omega)]; omega
    simp only [f_X10_highest_L19, hgh, e, if_false, show (10 : Int32) = nI 10 from rfl, hy_add, c_rsn hC hQ hg (d := nI (10 + (k + 1))) (Or.inr (Or.inr (Or.inl ⟨k + 1, by omega, hk, rfl⟩))), rsn_sit q g (s := k + 1) (by omega) (by omega), hy_cts, hy_lt', hy_dec]
    by_cases e2 : nSit q g (nI (k + 1)) = 0
    · simp only [e2, if_true]
    · simp only [e2, if_false]
      exact c_hgh hC hQ hg k f (by omega) (by omega)
theorem g_15 {M : hz_M} (I : Inv M) (a : Int32) : ∃ M', fs_15 a M = some (0, M') ∧ Inv M' := by
  have hC := I_C I
  have hQ := I_Q I
  have hq := fun r => q_1 M r 0
  have hq2 := q_2 M 0
  have hC0 := hC
  obtain ⟨hZ, ⟨b3, b4, b5, b6, b7, b8, bag, bnm⟩, hRR⟩ := hC
  have hZ0 := hZ
  obtain ⟨⟨s1, s2, s3, s4, s5, s6⟩, ra, ro, rp, rl, rt, rs, rw', rd, rwt, rpg, rk, rh, rtw⟩ := c_rows hRR
  obtain ⟨⟨z1, z2⟩, ⟨z3, z4, z5⟩, ⟨z6, z7, z8⟩, ⟨z9, z10⟩, ⟨z11, z12, z13⟩, ⟨z14, z15, z16⟩⟩ := hZ
  rw [z1] at b3; rw [z3] at b4; rw [z6] at b5; rw [z9] at b6; rw [z11] at b7; rw [z14] at b8
  show ∃ M', hy_go (f_X10_highest a M) (fx_X10_highest a M) (f_X11_highest a) = some (0, M') ∧ Inv M'
  rcases hy_two a (n := gz (M 179)) (by omega) with h | ⟨p, hp, rfl⟩
  · refine g_no (r := 0) I ?_ ?_ ?_
    · simp only [f_X10_highest, c_isGuestO hC0 h, hy_cts, hy_ctn, hy_xts, hy_xtn, c_need0, c_need1, x_need0, x_need1, hy_jn, hy_lm, hy_lt', hy_gt, if_true, if_false, hy_f10]
    · simp only [fx_X10_highest, c_isGuestO hC0 h, hy_cts, hy_ctn, hy_xts, hy_xtn, c_need0, c_need1, x_need0, x_need1, hy_jn, hy_lm, hy_lt', hy_gt, if_true, if_false, hy_f10]
    · simp only [f_X11_highest, r_isGuestO hq2 hZ0 h, r_right0, hy_cts, hy_ctn, hy_xts, hy_xtn, c_need0, c_need1, x_need0, x_need1, hy_jn, hy_lm, hy_lt', hy_gt, if_true, if_false, hy_f10]
  · refine g_ok I (r := hgh (M 179) p (sz (M 179))) ?_ ?_
    · simp (disch := omega) only [f_X10_highest, c_isGuest hC0 hp, b8, c_hgh hC0 hQ hp (sz (M 179)) hz_FU (Nat.le_refl _) (hy_FU (by omega)), hy_cts, hy_ctn, hy_xts, hy_xtn, c_need0, c_need1, x_need0, x_need1, hy_jn, hy_lm, hy_lt', hy_gt, if_true, if_false, hy_f10]
    · simp (disch := omega) only [f_X11_highest, r_isGuest (hq _) hZ0 hp, hq, hy_k4, z14, r_hgh (hq _) hZ0 hp (sz (M 179)) hz_FU (by omega) (hy_FU (by omega)), r_right1, hy_cts, hy_ctn, hy_xts, hy_xtn, c_need0, c_need1, x_need0, x_need1, hy_jn, hy_lm, hy_lt', hy_gt, if_true, if_false, hy_f10]

