
theorem g_40 {M : hz_M} (I : Inv M) (a : Int32) : ∃ M', fs_40 a M = some (0, M') ∧ Inv M' := by
  have hX := (I_W I).2.2
  have hC := I_C I
  have I0 := I
  unfold fs_40 f_L_restore
  rcases c_slot M a with ⟨h1, h2⟩ | ⟨h1, s, hs, rfl⟩
  · refine ⟨_, ?_, Inv_2 0 1 I⟩
    have e1 : f_X10_restore a M = none := by simp only [f_X10_restore, h1, hy_cts, hy_ctn, hy_xts, hy_xtn, c_need0, c_need1, x_need0, x_need1, hy_jn, hy_lm, hy_lt', hy_gt, if_true, if_false, hy_f10]
    have e2 : fx_X10_restore a M = some (1, M) := by simp only [fx_X10_restore, h1, hy_cts, hy_ctn, hy_xts, hy_xtn, c_need0, c_need1, x_need0, x_need1, hy_jn, hy_lm, hy_lt', hy_gt, if_true, if_false, hy_f10]
    have e3 : f_X11_restore a M = some (0, hz_set (hz_set M 178 8 0) 178 8 1) := by simp only [f_X11_restore, r_in_no _ (slot_o h2), r_right0, hy_cts, hy_ctn, hy_xts, hy_xtn, c_need0, c_need1, x_need0, x_need1, hy_jn, hy_lm, hy_lt', hy_gt, if_true, if_false, hy_f10]
    rw [e1, e2, hy_xtn, hy_cts]
    simp only [if_true, hy_cts, e3, f_X11_thrown, hy_setk]
    rfl
  · obtain ⟨i1, i2, i3, i4, i5, i6, i7, i8⟩ := I
    obtain ⟨e35, e3⟩ := i3 s hs
    have rin : ∀ X : hz_M, f_X11_in (nI s) 0 1 X = some (1, X) := fun X => r_in_ok X (hy_nn (a := s) (by omega)) (show nI s ≤ 1 by rw [hy_1, hy_le (by omega) (by omega)]; omega)
    rcases e3 with e3 | ⟨e3, sn⟩
    · refine ⟨_, ?_, Inv_2 0 2 I0⟩
      have e1 : f_X10_restore (nI s) M = none := by simp (disch := omega) only [f_X10_restore, h1, f_X2_bringBack, hy_in, hy_c, e3, hy_cts, hy_ctn, hy_xts, hy_xtn, c_need0, c_need1, x_need0, x_need1, hy_jn, hy_lm, hy_lt', hy_gt, if_true, if_false, hy_f10]
      have e2 : fx_X10_restore (nI s) M = some (2, M) := by simp (disch := omega) only [fx_X10_restore, h1, f_X2_bringBack, hy_in, hy_c, e3, hy_cts, hy_ctn, hy_xts, hy_xtn, c_need0, c_need1, x_need0, x_need1, hy_jn, hy_lm, hy_lt', hy_gt, if_true, if_false, hy_f10]
      have e4 : f_X11_restore (nI s) M = some (0, hz_set (hz_set M 178 8 0) 178 8 2) := by
        have : M 184 s = 0 := by rw [← e35]; exact e3
        simp (disch := omega) only [f_X11_restore, rin, r_right1, hy_in, hy_c, hy_seto, this, hy_cts, hy_ctn, hy_xts, hy_xtn, c_need0, c_need1, x_need0, x_need1, hy_jn, hy_lm, hy_lt', hy_gt, if_true, if_false, hy_f10]
      rw [e1, e2, hy_xtn, hy_cts]
      rw [show (if (2 : Int32) = 1 then (1 : Int32) else 2) = 2 from by decide]
      simp only [hy_cts, e4, f_X11_thrown, hy_setk]
      rfl
    · have e184 : M 184 s = 1 := by rw [← e35]; exact e3
      have sn1 := cp_Snap (b1 := 11) (by omega) (by omega) sn
      generalize hq : (fun k => if k < 185 then M 183 (185 * s + k) else 0) = q at sn sn1
      have t8 := sn1.2.2.1.1.1
      have key : f_X10_restore (nI s) M = some (q 8, hz_set (cpM 11 (148 + 14 * s) M) 32 4 0) := by
        simp (disch := omega) only [f_X10_restore, h1, f_X2_bringBack, hy_in, hy_c, e3, hz_ka, cp_eq, hy_seto, hy_cts, hy_ctn, hy_xts, hy_xtn, c_need0, c_need1, x_need0, x_need1, hy_jn, hy_lm, hy_lt', hy_gt, if_true, if_false, hy_f10]
        rw [t8]
      generalize hM1 : hz_set (cpM 11 (148 + 14 * s) M) 32 4 0 = M1 at key
      have f0 : ∀ a, (a < 11 ∨ 24 < a) → a ≠ 32 → M1 a = M a := fun a h1 h2 => by subst hM1; simp (disch := omega) only [hy_seto, cp_o]
      have f32 : M1 32 4 = 0 := by subst hM1; rw [hy_setk]
      have f3 : M1 32 3 = M 32 3 := by subst hM1; rw [hy_setn _ _ _ (by omega), cp_o _ (by omega)]
      have s1 : Snap 11 M1 q := Snap_fr (fun a ha => by subst hM1; simp (disch := omega) only [hy_seto]) sn1
      have res := k_restore (fun (M11 : hz_M) => hz_lm (hz_set M11 178 6 (0 : Int32)) fun M12 => some ((M12 179 (Int32.toNatClampNeg (8 : Int32))), M12)) 185 0 hz_FU (hz_set (hz_set M1 193 0 (q 8)) 178 8 0) s hs (by omega) (hy_FU (by omega))
      have er : (fun b => if 0 + 0 ≤ b ∧ b < 0 + 185 then hz_set (hz_set M1 193 0 (q 8)) 178 8 0 183 (b - 0 + 185 * s) else hz_set (hz_set M1 193 0 (q 8)) 178 8 0 179 b) = q := by
        subst hq
        funext b
        rw [hy_seto _ _ _ (by omega), hy_seto _ _ _ (by omega), hy_seto _ _ _ (by omega), hy_seto _ _ _ (by omega), f0 183 (by omega) (by omega), f0 179 (by omega) (by omega)]
        by_cases hb : b < 185
        · rw [if_pos (by omega), if_pos hb]; congr 1; omega
        · rw [if_neg (by omega), if_neg hb]; exact hX b (by omega)
      rw [er] at res
      generalize hM3 : hz_set (hy_row (hz_set (hz_set M1 193 0 (q 8)) 178 8 0) 179 q) 178 6 0 = M3
      have g0 : ∀ a, a ≠ 178 → a ≠ 179 → a ≠ 193 → M3 a = M1 a := fun a h1 h2 h3 => by subst hM3; rw [hy_seto _ _ _ h1, hy_ro _ _ h2, hy_seto _ _ _ h1, hy_seto _ _ _ h3]
      have g8 : ∀ b, b ≠ 6 → b ≠ 8 → M3 178 b = M 178 b := fun b h1 h2 => by subst hM3; rw [hy_setn _ _ _ h1, hy_ro _ _ (by omega), hy_setn _ _ _ h2, hy_seto _ _ _ (by omega), f0 178 (by omega) (by omega)]
      have g6 : M3 178 6 = 0 := by subst hM3; rw [hy_setk]
      have g7 : M3 178 8 = 0 := by subst hM3; rw [hy_setn _ _ _ (by omega), hy_ro _ _ (by omega), hy_setk]
      have g9 : M3 179 = q := by subst hM3; rw [hy_seto _ _ _ (by omega), hy_rs]
      have g193 : M3 193 0 = q 8 := by subst hM3; rw [hy_seto _ _ _ (by omega), hy_ro _ _ (by omega), hy_seto _ _ _ (by omega), hy_setk]
      refine ⟨M3, ?_, I_mk2 (Snap_fr (fun a ha => g0 a (by omega) (by omega) (by omega)) s1) g9 ?_ (Save_fr (fun a ha => by rw [g0 a (by omega) (by omega) (by omega), f0 a (by omega) (by omega)]) i3) ?_ ?_ (Txt_fr (fun a ha => by rw [g0 a (by omega) (by omega) (by omega), f0 a (by omega) (by omega)]) (g8 11 (by omega) (by omega)) i6) (Rep_fr (fun a ha => by rw [g0 a (by omega) (by omega) (by omega), f0 a (by omega) (by omega)]) (g8 27 (by omega) (by omega)) i7) ?_⟩
      · rw [key, hy_xts, hy_cts]
        have e4 : f_X11_restore (nI s) (hz_set M1 193 0 (q 8)) = some (q 8, M3) := by
          have e5 : hz_set (hz_set M1 193 0 (q 8)) 178 8 0 184 s = 1 := by rw [hy_seto _ _ _ (by omega), hy_seto _ _ _ (by omega), f0 184 (by omega) (by omega)]; exact e184
          simp (disch := omega) only [f_X11_restore, rin, r_right1, hy_in, hy_c, e5, hy_cts, hy_ctn, hy_xts, hy_xtn, c_need0, c_need1, x_need0, x_need1, hy_jn, hy_lm, hy_lt', hy_gt, if_true, if_false, hy_f10]
          refine Eq.trans res ?_
          simp only [hy_lm, hM3, hy_k8, g9]
        rw [e4, hy_cts, f_X11_thrown, hy_cts, g7, g193]
        simp [hz_gd]
      · obtain ⟨u, w, hu, hw, h6, h4, h3, hS⟩ := i2
        exact ⟨0, w, by omega, hw, g6, by rw [g0 32 (by omega) (by omega) (by omega)]; exact f32, by rw [g0 32 (by omega) (by omega) (by omega), f3]; exact h3, fun j hj => by omega⟩
      · rw [g0 26 (by omega) (by omega) (by omega), f0 26 (by omega) (by omega), g8 7 (by omega) (by omega)]; exact i4
      · rw [g0 0 (by omega) (by omega) (by omega), f0 0 (by omega) (by omega), g8 12 (by omega) (by omega)]; exact i5
      · rw [g8 24 (by omega) (by omega)]; exact i8
theorem g_37 {M : hz_M} (I : Inv M) (a : Int32) : ∃ M', fs_37 a M = some (0, M') ∧ Inv M' := by
  show ∃ M', hy_ge (f_X10_reportByte a M) (f_X11_reportByte a) = some (0, M') ∧ Inv M'
  obtain ⟨n, hn, p1, p2, p3⟩ := I.2.2.2.2.2.2.1
  have e27 : hz_set M 178 8 0 178 27 = nI n := by rw [hy_setn _ _ _ (by omega)]; exact p2
  rcases hy_two a (n := n) (by omega) with h | ⟨k, hk, rfl⟩
  · refine g_eq I (r := -1) ?_ ?_
    · simp only [f_X10_reportByte, f_X5_byteAt, p1]
      by_cases e : a < 0
      · rw [if_pos e, hy_cts]
      · rw [if_neg e]
        rcases h with h | h
        · exact absurd h e
        · rw [if_pos h, hy_cts]
    · simp only [f_X11_reportByte, hy_lm, e27, r_in_no _ (hy_pre (n := n) (by omega) h), hy_cts, if_true]
  · refine g_eq I (r := M 177 k) ?_ ?_
    · have e1 : ¬ nI k < 0 := by rw [hy_0, hy_lt (by omega) (by omega)]; omega
      have e2 : ¬ n ≤ k := by omega
      simp (disch := omega) only [f_X10_reportByte, f_X5_byteAt, p1, e1, hy_le, e2, if_false, hy_in, hy_gt, hy_c, hy_cts]
    · simp (disch := omega) only [f_X11_reportByte, hy_lm, e27, r_in_ok _ (hy_nn (a := k) (by omega)) (hy_pre' (n := n) (by omega) hk), hy_cts, hy_f10, if_false, hy_in, hy_gt, hy_c, hy_seto, p3 k hk]
theorem wts_rg {q : Nat → Int32} (hQ : hy_Q q) : ∀ (k i c : Nat), i + k ≤ tz q → ∃ d, d ≤ c + 9 * k ∧ hy_fold (fun t c => c + q (153 + 2 * t)) k i (nI c) = nI d
  | 0, _, c, _ => ⟨c, by omega, rfl⟩
  | k + 1, i, c, h => by
    obtain ⟨w, hw, ew⟩ := hQ.2.2.2.2.2.2.1 i (by omega)
    show ∃ d, d ≤ c + 9 * (k + 1) ∧ hy_fold (fun t c => c + q (153 + 2 * t)) k (i + 1) (nI c + q (153 + 2 * i)) = nI d
    rw [ew, hy_add]
    obtain ⟨d, h1, h2⟩ := wts_rg hQ k (i + 1) (c + w) (by omega)
    exact ⟨d, by omega, h2⟩
theorem mw_ok : ∀ t, t < 17 → ∀ s, s < 145 → t = 0 ∨ (hz_n64 (FP.ddiv (FP.i2d (nI s)) (FP.i2d (nI t))) && ((FP.ddiv (FP.i2d (nI s)) (FP.i2d (nI t))) == hz_dd (nI s * 32 + nI t))) = true := by decide +kernel
theorem r_mwL (kk : Int32 → hz_M → hz_O) {M : hz_M} {q : Nat → Int32} (hq : M 179 = q) (hZ : hy_Z q) : f_X11_meanWet_L9 kk hz_FU 0 0 M = kk (wts q) M := by
  obtain ⟨⟨z1, z2⟩, ⟨z3, z4, z5⟩, ⟨z6, z7, z8⟩, ⟨z9, z10⟩, ⟨z11, z12, z13⟩, ⟨z14, z15, z16⟩⟩ := hZ
  refine hy_for0 (fun f c i => f_X11_meanWet_L9 kk f c (nI i) M) (tz q) (fun t c => c + q (153 + 2 * t)) (fun r => kk r M) ?_ ?_ hz_FU 0 (hy_FU (by omega))
  · intro f c
    simp (disch := omega) only [f_X11_meanWet_L9, hq, z9, hy_cts, hy_gt, hy_lt', hy_lm, hy_jn, hy_c, hy_in, hy_le, hy_add1, hy_k0, hy_k1, hy_k2, hy_k3, hy_k4, hy_k5, hy_k6, hy_k7, hy_k8, hy_k9, hy_k10, hy_k11, hy_k12, hy_k13, r_of0, r_of1, r_of2, r_of3, r_of4, r_of5, r_of6, r_of7, r_ofT0, r_ofT1, Nat.le_refl, if_true]
  · intro f c i hi
    have hi' : ¬ tz q ≤ i := by omega
    simp (disch := omega) only [f_X11_meanWet_L9, hq, z9, hi', if_false, hy_cts, hy_gt, hy_lt', hy_lm, hy_jn, hy_c, hy_in, hy_le, hy_add1, hy_k0, hy_k1, hy_k2, hy_k3, hy_k4, hy_k5, hy_k6, hy_k7, hy_k8, hy_k9, hy_k10, hy_k11, hy_k12, hy_k13, r_of0, r_of1, r_of2, r_of3, r_of4, r_of5, r_of6, r_of7, r_ofT0, r_ofT1]
theorem g_18 {M : hz_M} (I : Inv M) : ∃ M', fs_18 M = some (0, M') ∧ Inv M' := by
  have hC := I_C I
  have hQ := I_Q I
  have hq := fun r => q_1 M r 0
  have hq2 := q_2 M 0
  have hC0 := hC
  obtain ⟨hZ, ⟨b3, b4, b5, b6, b7, b8, bag, bnm⟩, hRR⟩ := hC
  have hZ0 := hZ
  obtain ⟨⟨s1, s2, s3, s4, s5, s6⟩, ra, ro, rp, rl, rt, rs, rw', rd, rwt, rpg, rk, rh, rtw⟩ := c_rows hRR
  obtain ⟨⟨z1, z2⟩, ⟨z3, z4, z5⟩, ⟨z6, z7, z8⟩, ⟨z9, z10⟩, ⟨z11, z12, z13⟩, ⟨z14, z15, z16⟩⟩ := hZ
  rw [z1] at b3; rw [z3] at b4; rw [z6] at b5; rw [z9] at b6; rw [z11] at b7; rw [z14] at b8
  show ∃ M', hy_ge (f_X10_meanWet M) f_X11_meanWet = some (0, M') ∧ Inv M'
  obtain ⟨s, hs, es⟩ := wts_rg hQ (tz (M 179)) 0 0 (by omega)
  have ew : wts (M 179) = nI s := es
  have cw := c_wts hC0
  rw [ew] at cw
  have rmw := fun kk => r_mwL kk hq2 hZ0
  by_cases t0 : tz (M 179) = 0
  · rw [t0] at b6 z9
    have e0 : (FP.dconst0 == hz_dd 0) = true := by decide +kernel
    refine g_eq I (r := 0) ?_ ?_
    · have e1 : ¬ 0 < M 1 6 := by rw [b6]; decide
      simp only [f_X10_meanWet, e1, if_false, e0, hy_gt]
    · simp only [f_X11_meanWet, hy_lm, hy_jn, rmw, hq2, hy_k2, z9, show (nI 0 = 0) = True from eq_true rfl, if_true, e0, hy_gt]
  · have ok := mw_ok (tz (M 179)) (by omega) s (by omega)
    rcases ok with ok | ok
    · exact absurd ok t0
    · rw [Bool.and_eq_true] at ok
      refine g_eq I (r := nI s * 32 + nI (tz (M 179))) ?_ ?_
      · have e1 : 0 < nI (tz (M 179)) := by rw [hy_0, hy_lt (by omega) (by omega)]; omega
        simp only [f_X10_meanWet, e1, if_true, cw, hy_cts, b6, ok.1, ok.2, hy_gt]
      · have e1 : ¬ nI (tz (M 179)) = 0 := by rw [hy_0, hy_eq (by omega) (by omega)]; exact t0
        simp only [f_X11_meanWet, hy_lm, hy_jn, rmw, hq2, hy_k2, z9, ew, e1, if_false, ok.1, ok.2, hy_gt]
def bl : Nat → Int32 → UInt32 → Int32 → Option (Int32 × UInt32)
  | 0, _, _, _ => none
  | n + 1, e, m, i => if (126 : Int32) ≤ i then some (e, m) else if 0 ≤ (Op.cmpValue (FP.fcmp m FP.fconst1) .g) then some (e, m) else if hz_n32 (FP.fmul m FP.fconst2) = true then bl n (e + -1) (FP.fmul m FP.fconst2) (i + 1) else none
theorem bl_eq (kk : Int32 → UInt32 → hz_M → hz_O) (M : hz_M) : ∀ (n : Nat) (e : Int32) (m : UInt32) (i : Int32), f_X10_bitsOf_L15 kk n e m i M = (match bl n e m i with | none => none | some p => kk p.1 p.2 M)
  | 0, _, _, _ => rfl
  | n + 1, e, m, i => by
    unfold f_X10_bitsOf_L15 bl
    by_cases h1 : (126 : Int32) ≤ i
    · rw [if_pos h1, if_pos h1]
    · rw [if_neg h1, if_neg h1]
      by_cases h2 : 0 ≤ (Op.cmpValue (FP.fcmp m FP.fconst1) .g)
      · rw [if_pos h2, if_pos h2]
      · rw [if_neg h2, if_neg h2]
        cases h3 : hz_n32 (FP.fmul m FP.fconst2)
        · rfl
        · exact bl_eq kk M n (e + -1) (FP.fmul m FP.fconst2) (i + 1)
def hb1 (x : UInt32) : Option Int32 := if 0 < (Op.cmpValue (FP.fcmp x FP.fconst0) .l) then (match bl hz_FU 127 x 0 with
  | none => none
  | some p => if hz_n32 (FP.fsub p.2 FP.fconst1) = true then (if hz_n32 (FP.fmul (FP.fsub p.2 FP.fconst1) 1258291200) = true then some (((p.1 <<< ((23 : Int32) &&& 31)) ||| (FP.f2i (FP.fmul (FP.fsub p.2 FP.fconst1) 1258291200)))) else none) else none) else some 0
def hb2 (h : Int32) : Bool := hz_n32 (FP.fdiv (FP.i2f h) 1120403456) && (Op.cmpValue (FP.fcmp (FP.fdiv (FP.i2f h) 1120403456) (FP.fdiv (FP.i2f h) 1120403456)) .l == 0) && (hb1 (FP.fdiv (FP.i2f h) 1120403456) == some (UInt32.toInt32 (FP.fdiv (FP.i2f h) 1120403456)))
theorem hb2_ok : ∀ k, k < 101 → hb2 (nI k) = true := by decide +kernel
theorem hb1_eq (x : UInt32) (M : hz_M) (v : Int32) (h : hb1 x = some v) : f_X10_bitsOf x M = some (v, M) := by
  unfold f_X10_bitsOf
  unfold hb1 at h
  by_cases e : 0 < (Op.cmpValue (FP.fcmp x FP.fconst0) .l)
  · rw [if_pos e] at h ⊢
    rw [hy_jn, bl_eq]
    cases hb : bl hz_FU 127 x 0 with
    | none => rw [hb] at h; cases h
    | some p =>
      rw [hb] at h
      show hz_gd (hz_n32 (FP.fsub p.2 FP.fconst1)) (hz_gd (hz_n32 (FP.fmul (FP.fsub p.2 FP.fconst1) 1258291200)) (some ((p.1 <<< ((23 : Int32) &&& 31)) ||| (FP.f2i (FP.fmul (FP.fsub p.2 FP.fconst1) 1258291200)), M))) = _
      cases h1 : hz_n32 (FP.fsub p.2 FP.fconst1)
      · simp only [h1] at h; cases h
      · cases h2 : hz_n32 (FP.fmul (FP.fsub p.2 FP.fconst1) 1258291200)
        · simp only [h1, h2] at h; cases h
        · simp only [h1, h2, if_true] at h
          injection h with h
          rw [hy_gt, hy_gt, h]
  · rw [if_neg e] at h ⊢
    injection h with h
    rw [h]
theorem g_19 {M : hz_M} (I : Inv M) : ∃ M', fs_19 M = some (0, M') ∧ Inv M' := by
  have hC := I_C I
  have hQ := I_Q I
  have hq := fun r => q_1 M r 0
  have hq2 := q_2 M 0
  have hC0 := hC
  obtain ⟨hZ, ⟨b3, b4, b5, b6, b7, b8, bag, bnm⟩, hRR⟩ := hC
  have hZ0 := hZ
  obtain ⟨⟨s1, s2, s3, s4, s5, s6⟩, ra, ro, rp, rl, rt, rs, rw', rd, rwt, rpg, rk, rh, rtw⟩ := c_rows hRR
  obtain ⟨⟨z1, z2⟩, ⟨z3, z4, z5⟩, ⟨z6, z7, z8⟩, ⟨z9, z10⟩, ⟨z11, z12, z13⟩, ⟨z14, z15, z16⟩⟩ := hZ
  rw [z1] at b3; rw [z3] at b4; rw [z6] at b5; rw [z9] at b6; rw [z11] at b7; rw [z14] at b8
  show ∃ M', hy_ge (f_X10_heatBits M) f_X11_heatBits = some (0, M') ∧ Inv M'
  obtain ⟨k, hk, ek⟩ := hQ.2.2.2.2.2.2.2.2.2.2.2.2.2.2.1
  have ok := hb2_ok k (by omega)
  unfold hb2 at ok
  rw [Bool.and_eq_true, Bool.and_eq_true] at ok
  obtain ⟨⟨o1, o2⟩, o3⟩ := ok
  have o3' := eq_of_beq o3
  refine g_eq I (r := UInt32.toInt32 (FP.fdiv (FP.i2f (nI k)) 1120403456)) ?_ ?_
  · simp only [f_X10_heatBits, s2, ek, o1, hy_gt, hb1_eq _ M _ o3', hy_cts]
  · simp only [f_X11_heatBits, hy_lm, hq2, hy_k9, ek, o1, o2, hy_gt]

