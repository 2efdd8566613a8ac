
theorem gst_16 (q : Nat → Int32) (g : Nat) : ∃ d, d ≤ 1 ∧ gst q g 16 = q 16 + nI d := by
  have z : ∀ x : Int32, x = x + nI 0 := fun x => (Int32.add_zero x).symm
  unfold gst
  by_cases e1 : q (25 + 8 * g + 2) = -1
  · rw [if_pos e1]; exact ⟨0, by omega, z _⟩
  · rw [if_neg e1]
    by_cases e2 : q (25 + 8 * g + 2) = 0
    · rw [if_pos e2, hy_so _ _ (by omega)]; exact ⟨0, by omega, z _⟩
    · rw [if_neg e2]
      by_cases e3 : 10 ≤ sbh q g
      · rw [if_pos e3, hy_ss]; exact ⟨1, by omega, rfl⟩
      · rw [if_neg e3, hy_so _ _ (by omega)]; exact ⟨0, by omega, z _⟩
theorem gstN_16 : ∀ (k : Nat) (q : Nat → Int32) (i : Nat), ∃ d, d ≤ k ∧ gstN q k i 16 = q 16 + nI d
  | 0, q, _ => ⟨0, by omega, by unfold gstN; rw [show nI 0 = (0 : Int32) from rfl, Int32.add_zero]⟩
  | k + 1, q, i => by
    obtain ⟨d, h1, h2⟩ := gst_16 q i
    obtain ⟨e, h3, h4⟩ := gstN_16 k (gst q i) (i + 1)
    refine ⟨d + e, by omega, ?_⟩
    unfold gstN
    rw [h4, h2, Int32.add_assoc, hy_add]
theorem minute_16 {q : Nat → Int32} (hg : gz q ≤ 16) : ∃ d, d ≤ 16 ∧ minute q 16 = q 16 + nI d := by
  obtain ⟨d, h1, h2⟩ := gstN_16 (gz q) (mC q) 0
  refine ⟨d, by omega, ?_⟩
  unfold minute
  rw [h2, mC_o (by omega) (by omega) (by omega) (by omega) (by omega) (by omega) (by omega)]
theorem minute_gz {q : Nat → Int32} : gz (minute q) = gz q := gz_cg (minute_o (by omega) (by omega) (by omega) (by omega) (by omega) (by omega) (by omega) (by omega) (by omega))
theorem minN_16 : ∀ (k : Nat) (q : Nat → Int32), gz q ≤ 16 → ∃ d, d ≤ 16 * k ∧ minN k q 16 = q 16 + nI d
  | 0, q, _ => ⟨0, by omega, by unfold minN; rw [show nI 0 = (0 : Int32) from rfl, Int32.add_zero]⟩
  | k + 1, q, h => by
    obtain ⟨d, h1, h2⟩ := minute_16 h
    obtain ⟨e, h3, h4⟩ := minN_16 k (minute q) (by rw [minute_gz]; exact h)
    refine ⟨d + e, by omega, ?_⟩
    unfold minN
    rw [h4, h2, Int32.add_assoc, hy_add]
theorem T_min : ∀ (k : Nat) (q : Nat → Int32) (t : Nat), gz q ≤ 16 → q 8 = nI t → t + k ≤ 9999 → hy_T q → hy_T (minN k q)
  | 0, _, _, _, _, _, T => T
  | k + 1, q, t, hg, h8, ht, T => by
    unfold minN
    have m8 : minute q 8 = nI (t + 1) := by rw [minute_8 hg, h8, hy_add1]
    refine T_min k (minute q) (t + 1) (by rw [minute_gz]; exact hg) m8 (by omega) ?_
    obtain ⟨t', h1, h2, h3⟩ := T
    have et : t' = t := by
      rw [h8, hy_eq (by omega) (by omega)] at h2; exact h2.symm
    subst et
    refine ⟨t' + 1, by omega, m8, ?_⟩
    rw [minute_10 hg]
    split
    · exact Or.inr ⟨t' + 1, by omega, by rw [h8, hy_add1]⟩
    · rcases h3 with h3 | ⟨j, h4, h5⟩
      · exact Or.inl h3
      · exact Or.inr ⟨j, by omega, h5⟩
theorem r_minN (kk : Int32 → hz_M → hz_O) (x : Int32) : ∀ (k i f n : Nat) (M Mw : hz_M), hy_W Mw (M 179) → i + k = n → n ≤ 1000 → k < f → ∃ M', f_X11_waiting_L36 kk f (nI n) x (nI i) M = kk x M' ∧ M' 179 = minN k (M 179) ∧ ∀ a, a ≠ 179 → a ≠ 185 → M' a = M a
  | 0, i, f, n, M, Mw, W, hi, hn, hf => by
    obtain ⟨f, rfl⟩ : ∃ e, f = e + 1 := ⟨f - 1, by omega⟩
    have e : n ≤ i := by omega
    refine ⟨M, ?_, rfl, fun _ _ _ => rfl⟩
    simp (disch := omega) only [f_X11_waiting_L36, hy_le, e, if_true]
  | k + 1, i, f, n, M, Mw, W, hi, hn, hf => by
    obtain ⟨f, rfl⟩ : ∃ e, f = e + 1 := ⟨f - 1, by omega⟩
    have e : ¬ n ≤ i := by omega
    obtain ⟨Mw1, _, _, W1⟩ := c_min (fun _ _ => none) 0 (f := 0) (n := 1) (i := 0) W (by omega) (by omega)
    obtain ⟨M1, a1, a2, _, a4⟩ := r_min W rfl
    obtain ⟨M2, b1, b2, b3⟩ := r_minN kk x k (i + 1) f n M1 Mw1 (by rw [a2]; exact W1) (by omega) hn (by omega)
    refine ⟨M2, ?_, by rw [b2, a2]; rfl, fun a h1 h2 => by rw [b3 a h1 h2, a4 a h1 h2]⟩
    simp (disch := omega) only [f_X11_waiting_L36, hy_le, e, if_false, a1, hy_cts, hy_lt', hy_add1, b1]
theorem op_wait {M0 : hz_M} {q : Nat → Int32} {n : Nat} (a : Int32) (W : hy_W M0 q) (T : hy_T q) (hn : n ≤ 60) : opair (f_X1_refusal 10 a (nI n)) (f_X1_perform 10 a (nI n)) (f_X11_waiting (nI n)) q := by
  have hZ := W.1.1
  obtain ⟨z1, z2⟩ := hZ.1
  have T0 := T
  obtain ⟨t, h1, h2, h3⟩ := T
  have key : (9999 < q 8 + nI n) = (9999 < t + n) := by
    rw [h2, hy_add, show (9999 : Int32) = nI 9999 from rfl, hy_lt (by omega) (by omega)]
  have key2 : (q 8 + nI n ≤ 9999) = (t + n ≤ 9999) := by
    rw [h2, hy_add, show (9999 : Int32) = nI 9999 from rfl, hy_le (by omega) (by omega)]
  by_cases e : 9999 < t + n
  · refine Or.inl ⟨-5, by decide, fun M WM => ?_, fun Mr a1 => ?_⟩
    · have s1 := (c_rows WM.1.2.2).1.1
      rw [cR_10, s1, if_pos (by rw [key]; exact e)]
    · have e' : ¬ t + n ≤ 9999 := by omega
      simp only [f_X11_waiting, hy_k8, a1, key2, e', if_false, r_refuse, hy_cts]
  · obtain ⟨d, d1, d2⟩ := minN_16 n q z2
    have dd : minN n q 16 - q 16 = nI d := by
      rw [d2]
      generalize q 16 = x
      generalize nI d = y
      grind
    refine Or.inr ⟨fun M WM => ?_, nI d, minN n q, hy_nn (by omega), T_min n q t z2 h2 (by omega) T0, fun M WM => ?_, fun Mr Mr1 a1 a2 a3 => ?_⟩
    · have s1 := (c_rows WM.1.2.2).1.1
      rw [cR_10, s1, if_neg (by rw [key]; exact e)]
    · have ra4 := (c_rows WM.1.2.2).2.1 4 (by omega)
      obtain ⟨M', b1, b2, b3⟩ := c_minN (fun (v2_2 : Int32) (M3 : hz_M) => some (((M3 24 (Int32.toNatClampNeg (4 : Int32))) - v2_2), M3)) (q 16) n 0 hz_FU n M q WM (by omega) (by omega) (hy_FU (by omega))
      refine ⟨M', ?_, b2, b3⟩
      have ra4' := (c_rows b3.1.2.2).2.1 4 (by omega)
      rw [cP_10]
      unfold f_X7_pass
      simp only [hy_lt', hy_jn, hy_k4, ra4]
      rw [show (0 : Int32) = nI 0 from rfl]
      simp only [hy_k4] at b1
      rw [b1, ra4', dd]
    · obtain ⟨M', b1, b2, b3⟩ := r_minN (fun (v2_6 : Int32) (M7 : hz_M) => some (((M7 179 (Int32.toNatClampNeg (16 : Int32))) - v2_6), M7)) (q 16) n 0 hz_FU n Mr1 M0 (by rw [a3]; exact W) (by omega) (by omega) (hy_FU (by omega))
      refine ⟨M', ?_, by rw [b2, a3], b3⟩
      have e' : t + n ≤ 9999 := by omega
      simp only [f_X11_waiting, hy_k8, hy_k16, a1, key2, e', if_true, a2, hy_cts, hy_lt', hy_jn, a3]
      rw [show (0 : Int32) = nI 0 from rfl]
      simp only [hy_k16] at b1
      rw [b1, b2, a3, dd]
theorem hy_ctid (o : hz_O) : hz_ct o (fun r M => some (r, M)) = o := by cases o <;> rfl
theorem g_chg {M : hz_M} {A X : hz_O} {B R : hz_M → hz_O} {c g n : Int32} (I : Inv M) (op : opair (f_X1_refusal c g n) (f_X1_perform c g n) R (M 179)) (hA : A = f_X10_change c g n M) (hB : ∀ M2 : hz_M, M2 179 = M 179 → B M2 = R (hz_set M2 178 8 0)) : ∃ M', hy_go A X B = some (0, M') ∧ Inv M' := by
  obtain ⟨r, M1, h1, h0, h2⟩ := c_change I op
  obtain ⟨M3, a1, a2, a3, a4⟩ := h2 (hz_set (hz_set M1 193 0 r) 178 8 0) (fun a ha hb => by simp (disch := omega) only [hy_seto]) (fun b hb => by rw [hy_setn _ _ _ hb, hy_seto _ _ _ (by omega)])
  refine ⟨M3, hy_okc (M1 := M1) (r := r) (by rw [hA, h1]) ?_ (by rw [a3, hy_setk]) (by rw [a4, hy_seto _ _ _ (by omega), hy_setk]), a2⟩
  rw [hB _ (by rw [hy_seto _ _ _ (by omega)]; exact h0)]
  exact a1
theorem g_che {M : hz_M} {A : hz_O} {B R : hz_M → hz_O} {c g n : Int32} (I : Inv M) (op : opair (f_X1_refusal c g n) (f_X1_perform c g n) R (M 179)) (hA : A = f_X10_change c g n M) (hB : ∀ M2 : hz_M, M2 179 = M 179 → B M2 = R (hz_set M2 178 8 0)) : ∃ M', hy_ge A B = some (0, M') ∧ Inv M' := by
  obtain ⟨r, M1, h1, h0, h2⟩ := c_change I op
  obtain ⟨M3, a1, a2, a3, a4⟩ := h2 (hz_set M1 178 8 0) (fun a ha hb => by simp (disch := omega) only [hy_seto]) (fun b hb => by rw [hy_setn _ _ _ hb])
  refine ⟨M3, hy_gec (M1 := M1) (r := r) (by rw [hA, h1]) ?_, a2⟩
  rw [hB M1 h0]
  exact a1

theorem g_25 {M : hz_M} (I : Inv M) (a : Int32) : ∃ M', fs_25 a M = some (0, M') ∧ Inv M' := by
  have hC := I_C I
  have hQ := I_Q I
  have hq := fun r => q_1 M r 0
  have hq2 := q_2 M 0
  have hC0 := hC
  obtain ⟨hZ, ⟨b3, b4, b5, b6, b7, b8, bag, bnm⟩, hRR⟩ := hC
  have hZ0 := hZ
  obtain ⟨⟨s1, s2, s3, s4, s5, s6⟩, ra, ro, rp, rl, rt, rs, rw', rd, rwt, rpg, rk, rh, rtw⟩ := c_rows hRR
  obtain ⟨⟨z1, z2⟩, ⟨z3, z4, z5⟩, ⟨z6, z7, z8⟩, ⟨z9, z10⟩, ⟨z11, z12, z13⟩, ⟨z14, z15, z16⟩⟩ := hZ
  rw [z1] at b3; rw [z3] at b4; rw [z6] at b5; rw [z9] at b6; rw [z11] at b7; rw [z14] at b8
  show ∃ M', hy_go (f_X10_enter a M) (fx_X10_enter a M) (f_X11_enter a) = some (0, M') ∧ Inv M'
  rcases hy_two a (n := gz (M 179)) (by omega) with h | ⟨g, hg, rfl⟩
  · refine g_no (r := 0) I ?_ ?_ ?_
    · simp only [f_X10_enter, c_isGuestO hC0 h, hy_cts, hy_ctn, hy_xts, hy_xtn, c_need0, c_need1, x_need0, x_need1, hy_jn, hy_lm, hy_lt', hy_gt, if_true, if_false, hy_f10]
    · simp only [fx_X10_enter, c_isGuestO hC0 h, hy_cts, hy_ctn, hy_xts, hy_xtn, c_need0, c_need1, x_need0, x_need1, hy_jn, hy_lm, hy_lt', hy_gt, if_true, if_false, hy_f10]
    · simp only [f_X11_enter, r_isGuestO hq2 hZ0 h, r_right0, hy_cts, hy_ctn, hy_xts, hy_xtn, c_need0, c_need1, x_need0, x_need1, hy_jn, hy_lm, hy_lt', hy_gt, if_true, if_false, hy_f10]
  · refine g_chg I (op_enter 0 (I_W I) (I_T I) hg) ?_ (fun M2 h2 => ?_)
    · simp only [f_X10_enter, c_isGuest hC0 hg, hy_cts, hy_ctn, hy_xts, hy_xtn, c_need0, c_need1, x_need0, x_need1, hy_jn, hy_lm, hy_lt', hy_gt, if_true, if_false, hy_f10, hy_ctid]
    · simp only [f_X11_enter, r_isGuest (M := hz_set M2 178 8 0) (by rw [hy_seto _ _ _ (by omega)]; exact h2) hZ0 hg, r_right1, hy_cts, hy_ctn, hy_xts, hy_xtn, c_need0, c_need1, x_need0, x_need1, hy_jn, hy_lm, hy_lt', hy_gt, if_true, if_false, hy_f10, hy_ctid]
theorem g_27 {M : hz_M} (I : Inv M) (a : Int32) : ∃ M', fs_27 a M = some (0, M') ∧ Inv M' := by
  have hC := I_C I
  have hQ := I_Q I
  have hq := fun r => q_1 M r 0
  have hq2 := q_2 M 0
  have hC0 := hC
  obtain ⟨hZ, ⟨b3, b4, b5, b6, b7, b8, bag, bnm⟩, hRR⟩ := hC
  have hZ0 := hZ
  obtain ⟨⟨s1, s2, s3, s4, s5, s6⟩, ra, ro, rp, rl, rt, rs, rw', rd, rwt, rpg, rk, rh, rtw⟩ := c_rows hRR
  obtain ⟨⟨z1, z2⟩, ⟨z3, z4, z5⟩, ⟨z6, z7, z8⟩, ⟨z9, z10⟩, ⟨z11, z12, z13⟩, ⟨z14, z15, z16⟩⟩ := hZ
  rw [z1] at b3; rw [z3] at b4; rw [z6] at b5; rw [z9] at b6; rw [z11] at b7; rw [z14] at b8
  show ∃ M', hy_go (f_X10_hall a M) (fx_X10_hall a M) (f_X11_hall a) = some (0, M') ∧ Inv M'
  rcases hy_two a (n := gz (M 179)) (by omega) with h | ⟨g, hg, rfl⟩
  · refine g_no (r := 0) I ?_ ?_ ?_
    · simp only [f_X10_hall, c_isGuestO hC0 h, hy_cts, hy_ctn, hy_xts, hy_xtn, c_need0, c_need1, x_need0, x_need1, hy_jn, hy_lm, hy_lt', hy_gt, if_true, if_false, hy_f10]
    · simp only [fx_X10_hall, c_isGuestO hC0 h, hy_cts, hy_ctn, hy_xts, hy_xtn, c_need0, c_need1, x_need0, x_need1, hy_jn, hy_lm, hy_lt', hy_gt, if_true, if_false, hy_f10]
    · simp only [f_X11_hall, r_isGuestO hq2 hZ0 h, r_right0, hy_cts, hy_ctn, hy_xts, hy_xtn, c_need0, c_need1, x_need0, x_need1, hy_jn, hy_lm, hy_lt', hy_gt, if_true, if_false, hy_f10]
  · refine g_chg I (op_hall 0 (I_W I) (I_T I) hg) ?_ (fun M2 h2 => ?_)
    · simp only [f_X10_hall, c_isGuest hC0 hg, hy_cts, hy_ctn, hy_xts, hy_xtn, c_need0, c_need1, x_need0, x_need1, hy_jn, hy_lm, hy_lt', hy_gt, if_true, if_false, hy_f10, hy_ctid]
    · simp only [f_X11_hall, r_isGuest (M := hz_set M2 178 8 0) (by rw [hy_seto _ _ _ (by omega)]; exact h2) hZ0 hg, r_right1, hy_cts, hy_ctn, hy_xts, hy_xtn, c_need0, c_need1, x_need0, x_need1, hy_jn, hy_lm, hy_lt', hy_gt, if_true, if_false, hy_f10, hy_ctid]
theorem g_30 {M : hz_M} (I : Inv M) (a : Int32) : ∃ M', fs_30 a M = some (0, M') ∧ Inv M' := by
  have hC := I_C I
  have hQ := I_Q I
  have hq := fun r => q_1 M r 0
  have hq2 := q_2 M 0
  have hC0 := hC
  obtain ⟨hZ, ⟨b3, b4, b5, b6, b7, b8, bag, bnm⟩, hRR⟩ := hC
  have hZ0 := hZ
  obtain ⟨⟨s1, s2, s3, s4, s5, s6⟩, ra, ro, rp, rl, rt, rs, rw', rd, rwt, rpg, rk, rh, rtw⟩ := c_rows hRR
  obtain ⟨⟨z1, z2⟩, ⟨z3, z4, z5⟩, ⟨z6, z7, z8⟩, ⟨z9, z10⟩, ⟨z11, z12, z13⟩, ⟨z14, z15, z16⟩⟩ := hZ
  rw [z1] at b3; rw [z3] at b4; rw [z6] at b5; rw [z9] at b6; rw [z11] at b7; rw [z14] at b8
  show ∃ M', hy_go (f_X10_leave a M) (fx_X10_leave a M) (f_X11_leave a) = some (0, M') ∧ Inv M'
  rcases hy_two a (n := gz (M 179)) (by omega) with h | ⟨g, hg, rfl⟩
  · refine g_no (r := 0) I ?_ ?_ ?_
    · simp only [f_X10_leave, c_isGuestO hC0 h, hy_cts, hy_ctn, hy_xts, hy_xtn, c_need0, c_need1, x_need0, x_need1, hy_jn, hy_lm, hy_lt', hy_gt, if_true, if_false, hy_f10]
    · simp only [fx_X10_leave, c_isGuestO hC0 h, hy_cts, hy_ctn, hy_xts, hy_xtn, c_need0, c_need1, x_need0, x_need1, hy_jn, hy_lm, hy_lt', hy_gt, if_true, if_false, hy_f10]
    · simp only [f_X11_leave, r_isGuestO hq2 hZ0 h, r_right0, hy_cts, hy_ctn, hy_xts, hy_xtn, c_need0, c_need1, x_need0, x_need1, hy_jn, hy_lm, hy_lt', hy_gt, if_true, if_false, hy_f10]
  · refine g_chg I (op_leave 0 (I_W I) (I_T I) hg) ?_ (fun M2 h2 => ?_)
    · simp only [f_X10_leave, c_isGuest hC0 hg, hy_cts, hy_ctn, hy_xts, hy_xtn, c_need0, c_need1, x_need0, x_need1, hy_jn, hy_lm, hy_lt', hy_gt, if_true, if_false, hy_f10, hy_ctid]
    · simp only [f_X11_leave, r_isGuest (M := hz_set M2 178 8 0) (by rw [hy_seto _ _ _ (by omega)]; exact h2) hZ0 hg, r_right1, hy_cts, hy_ctn, hy_xts, hy_xtn, c_need0, c_need1, x_need0, x_need1, hy_jn, hy_lm, hy_lt', hy_gt, if_true, if_false, hy_f10, hy_ctid]
theorem g_31 {M : hz_M} (I : Inv M) (a : Int32) : ∃ M', fs_31 a M = some (0, M') ∧ Inv M' := by
  have hC := I_C I
  have hQ := I_Q I
  have hq := fun r => q_1 M r 0
  have hq2 := q_2 M 0
  have hC0 := hC
  obtain ⟨hZ, ⟨b3, b4, b5, b6, b7, b8, bag, bnm⟩, hRR⟩ := hC
  have hZ0 := hZ
  obtain ⟨⟨s1, s2, s3, s4, s5, s6⟩, ra, ro, rp, rl, rt, rs, rw', rd, rwt, rpg, rk, rh, rtw⟩ := c_rows hRR
  obtain ⟨⟨z1, z2⟩, ⟨z3, z4, z5⟩, ⟨z6, z7, z8⟩, ⟨z9, z10⟩, ⟨z11, z12, z13⟩, ⟨z14, z15, z16⟩⟩ := hZ
  rw [z1] at b3; rw [z3] at b4; rw [z6] at b5; rw [z9] at b6; rw [z11] at b7; rw [z14] at b8
  show ∃ M', hy_go (f_X10_speak a M) (fx_X10_speak a M) (f_X11_speak a) = some (0, M') ∧ Inv M'
  rcases hy_two a (n := gz (M 179)) (by omega) with h | ⟨g, hg, rfl⟩
  · refine g_no (r := 0) I ?_ ?_ ?_
    · simp only [f_X10_speak, c_isGuestO hC0 h, hy_cts, hy_ctn, hy_xts, hy_xtn, c_need0, c_need1, x_need0, x_need1, hy_jn, hy_lm, hy_lt', hy_gt, if_true, if_false, hy_f10]
    · simp only [fx_X10_speak, c_isGuestO hC0 h, hy_cts, hy_ctn, hy_xts, hy_xtn, c_need0, c_need1, x_need0, x_need1, hy_jn, hy_lm, hy_lt', hy_gt, if_true, if_false, hy_f10]
    · simp only [f_X11_speak, r_isGuestO hq2 hZ0 h, r_right0, hy_cts, hy_ctn, hy_xts, hy_xtn, c_need0, c_need1, x_need0, x_need1, hy_jn, hy_lm, hy_lt', hy_gt, if_true, if_false, hy_f10]
  · refine g_chg I (op_speak 0 (I_W I) (I_T I) hg) ?_ (fun M2 h2 => ?_)
    · simp only [f_X10_speak, c_isGuest hC0 hg, hy_cts, hy_ctn, hy_xts, hy_xtn, c_need0, c_need1, x_need0, x_need1, hy_jn, hy_lm, hy_lt', hy_gt, if_true, if_false, hy_f10, hy_ctid]
    · simp only [f_X11_speak, r_isGuest (M := hz_set M2 178 8 0) (by rw [hy_seto _ _ _ (by omega)]; exact h2) hZ0 hg, r_right1, hy_cts, hy_ctn, hy_xts, hy_xtn, c_need0, c_need1, x_need0, x_need1, hy_jn, hy_lm, hy_lt', hy_gt, if_true, if_false, hy_f10, hy_ctid]
theorem g_26 {M : hz_M} (I : Inv M) (a b : Int32) : ∃ M', fs_26 a b M = some (0, M') ∧ Inv M' := by
  have hC := I_C I
  have hQ := I_Q I
  have hq := fun r => q_1 M r 0
  have hq2 := q_2 M 0
  have hC0 := hC
  obtain ⟨hZ, ⟨b3, b4, b5, b6, b7, b8, bag, bnm⟩, hRR⟩ := hC
  have hZ0 := hZ
  obtain ⟨⟨_, _, s3, s4, s5, s6⟩, ra, ro, rp, rl, rt, rs, rw', rd, rwt, rpg, rk, rh, rtw⟩ := c_rows hRR
  obtain ⟨⟨z1, z2⟩, ⟨z3, z4, z5⟩, ⟨z6, z7, z8⟩, ⟨z9, z10⟩, ⟨z11, z12, z13⟩, ⟨z14, z15, z16⟩⟩ := hZ
  rw [z1] at b3; rw [z3] at b4; rw [z6] at b5; rw [z9] at b6; rw [z11] at b7; rw [z14] at b8
  show ∃ M', hy_go (f_X10_sit a b M) (fx_X10_sit a b M) (f_X11_sit a b) = some (0, M') ∧ Inv M'
  rcases hy_two a (n := gz (M 179)) (by omega) with h | ⟨g, hg, rfl⟩
  · refine g_no (r := 0) I ?_ ?_ ?_
    · simp only [f_X10_sit, c_isGuestO hC0 h, hy_cts, hy_ctn, hy_xts, hy_xtn, c_need0, c_need1, x_need0, x_need1, hy_jn, hy_lm, hy_lt', hy_gt, if_true, if_false, hy_f10]
    · simp only [fx_X10_sit, c_isGuestO hC0 h, hy_cts, hy_ctn, hy_xts, hy_xtn, c_need0, c_need1, x_need0, x_need1, hy_jn, hy_lm, hy_lt', hy_gt, if_true, if_false, hy_f10]
    · simp only [f_X11_sit, r_isGuestO hq2 hZ0 h, r_right0, hy_cts, hy_ctn, hy_xts, hy_xtn, c_need0, c_need1, x_need0, x_need1, hy_jn, hy_lm, hy_lt', hy_gt, if_true, if_false, hy_f10]
  rcases hy_two1 b (n := sz (M 179)) (by omega) with h' | ⟨s, s1, s2, rfl⟩
  · refine g_no (r := 0) I ?_ ?_ ?_
    · simp only [f_X10_sit, c_isGuest hC0 hg, c_isStepN hC0 h', hy_cts, hy_ctn, hy_xts, hy_xtn, c_need0, c_need1, x_need0, x_need1, hy_jn, hy_lm, hy_lt', hy_gt, if_true, if_false, hy_f10]
    · simp only [fx_X10_sit, c_isGuest hC0 hg, c_isStepN hC0 h', hy_cts, hy_ctn, hy_xts, hy_xtn, c_need0, c_need1, x_need0, x_need1, hy_jn, hy_lm, hy_lt', hy_gt, if_true, if_false, hy_f10]
    · simp only [f_X11_sit, r_isGuest hq2 hZ0 hg, r_isStepO hq2 hZ0 h', r_right0, hy_cts, hy_ctn, hy_xts, hy_xtn, c_need0, c_need1, x_need0, x_need1, hy_jn, hy_lm, hy_lt', hy_gt, if_true, if_false, hy_f10]
  · refine g_chg I (op_sit (I_W I) (I_T I) hg s1 s2) ?_ (fun M2 h2 => ?_)
    · simp only [f_X10_sit, c_isGuest hC0 hg, c_isStep hC0 s1 s2, hy_cts, hy_ctn, hy_xts, hy_xtn, c_need0, c_need1, x_need0, x_need1, hy_jn, hy_lm, hy_lt', hy_gt, if_true, if_false, hy_f10, hy_ctid]
    · have h3 : hz_set M2 178 8 0 179 = M 179 := by rw [hy_seto _ _ _ (by omega)]; exact h2
      simp only [f_X11_sit, r_isGuest h3 hZ0 hg, r_isStep h3 hZ0 s1 s2, r_right1, hy_cts, hy_ctn, hy_xts, hy_xtn, c_need0, c_need1, x_need0, x_need1, hy_jn, hy_lm, hy_lt', hy_gt, if_true, if_false, hy_f10, hy_ctid]
theorem g_28 {M : hz_M} (I : Inv M) (a b : Int32) : ∃ M', fs_28 a b M = some (0, M') ∧ Inv M' := by
  have hC := I_C I
  have hQ := I_Q I
  have hq := fun r => q_1 M r 0
  have hq2 := q_2 M 0
  have hC0 := hC
  obtain ⟨hZ, ⟨b3, b4, b5, b6, b7, b8, bag, bnm⟩, hRR⟩ := hC
  have hZ0 := hZ
  obtain ⟨⟨_, _, s3, s4, s5, s6⟩, ra, ro, rp, rl, rt, rs, rw', rd, rwt, rpg, rk, rh, rtw⟩ := c_rows hRR
  obtain ⟨⟨z1, z2⟩, ⟨z3, z4, z5⟩, ⟨z6, z7, z8⟩, ⟨z9, z10⟩, ⟨z11, z12, z13⟩, ⟨z14, z15, z16⟩⟩ := hZ
  rw [z1] at b3; rw [z3] at b4; rw [z6] at b5; rw [z9] at b6; rw [z11] at b7; rw [z14] at b8
  show ∃ M', hy_go (f_X10_hang a b M) (fx_X10_hang a b M) (f_X11_hang a b) = some (0, M') ∧ Inv M'
  rcases hy_two a (n := gz (M 179)) (by omega) with h | ⟨g, hg, rfl⟩
  · refine g_no (r := 0) I ?_ ?_ ?_
    · simp only [f_X10_hang, c_isGuestO hC0 h, hy_cts, hy_ctn, hy_xts, hy_xtn, c_need0, c_need1, x_need0, x_need1, hy_jn, hy_lm, hy_lt', hy_gt, if_true, if_false, hy_f10]
    · simp only [fx_X10_hang, c_isGuestO hC0 h, hy_cts, hy_ctn, hy_xts, hy_xtn, c_need0, c_need1, x_need0, x_need1, hy_jn, hy_lm, hy_lt', hy_gt, if_true, if_false, hy_f10]
    · simp only [f_X11_hang, r_isGuestO hq2 hZ0 h, r_right0, hy_cts, hy_ctn, hy_xts, hy_xtn, c_need0, c_need1, x_need0, x_need1, hy_jn, hy_lm, hy_lt', hy_gt, if_true, if_false, hy_f10]
  rcases hy_two b (n := pz (M 179)) (by omega) with h' | ⟨s, s1, rfl⟩
  · refine g_no (r := 0) I ?_ ?_ ?_
    · simp only [f_X10_hang, c_isGuest hC0 hg, c_isPegO hC0 h', hy_cts, hy_ctn, hy_xts, hy_xtn, c_need0, c_need1, x_need0, x_need1, hy_jn, hy_lm, hy_lt', hy_gt, if_true, if_false, hy_f10]
    · simp only [fx_X10_hang, c_isGuest hC0 hg, c_isPegO hC0 h', hy_cts, hy_ctn, hy_xts, hy_xtn, c_need0, c_need1, x_need0, x_need1, hy_jn, hy_lm, hy_lt', hy_gt, if_true, if_false, hy_f10]
    · simp only [f_X11_hang, r_isGuest hq2 hZ0 hg, r_isPegO hq2 hZ0 h', r_right0, hy_cts, hy_ctn, hy_xts, hy_xtn, c_need0, c_need1, x_need0, x_need1, hy_jn, hy_lm, hy_lt', hy_gt, if_true, if_false, hy_f10]
  · refine g_chg I (op_hang (I_W I) (I_T I) hg s1) ?_ (fun M2 h2 => ?_)
    · simp only [f_X10_hang, c_isGuest hC0 hg, c_isPeg hC0 s1, hy_cts, hy_ctn, hy_xts, hy_xtn, c_need0, c_need1, x_need0, x_need1, hy_jn, hy_lm, hy_lt', hy_gt, if_true, if_false, hy_f10, hy_ctid]
    · have h3 : hz_set M2 178 8 0 179 = M 179 := by rw [hy_seto _ _ _ (by omega)]; exact h2
      simp only [f_X11_hang, r_isGuest h3 hZ0 hg, r_isPeg h3 hZ0 s1, r_right1, hy_cts, hy_ctn, hy_xts, hy_xtn, c_need0, c_need1, x_need0, x_need1, hy_jn, hy_lm, hy_lt', hy_gt, if_true, if_false, hy_f10, hy_ctid]
theorem g_29 {M : hz_M} (I : Inv M) (a b : Int32) : ∃ M', fs_29 a b M = some (0, M') ∧ Inv M' := by
  have hC := I_C I
  have hQ := I_Q I
  have hq := fun r => q_1 M r 0
  have hq2 := q_2 M 0
  have hC0 := hC
  obtain ⟨hZ, ⟨b3, b4, b5, b6, b7, b8, bag, bnm⟩, hRR⟩ := hC
  have hZ0 := hZ
  obtain ⟨⟨_, _, s3, s4, s5, s6⟩, ra, ro, rp, rl, rt, rs, rw', rd, rwt, rpg, rk, rh, rtw⟩ := c_rows hRR
  obtain ⟨⟨z1, z2⟩, ⟨z3, z4, z5⟩, ⟨z6, z7, z8⟩, ⟨z9, z10⟩, ⟨z11, z12, z13⟩, ⟨z14, z15, z16⟩⟩ := hZ
  rw [z1] at b3; rw [z3] at b4; rw [z6] at b5; rw [z9] at b6; rw [z11] at b7; rw [z14] at b8
  show ∃ M', hy_go (f_X10_take a b M) (fx_X10_take a b M) (f_X11_take a b) = some (0, M') ∧ Inv M'
  rcases hy_two a (n := gz (M 179)) (by omega) with h | ⟨g, hg, rfl⟩
  · refine g_no (r := 0) I ?_ ?_ ?_
    · simp only [f_X10_take, c_isGuestO hC0 h, hy_cts, hy_ctn, hy_xts, hy_xtn, c_need0, c_need1, x_need0, x_need1, hy_jn, hy_lm, hy_lt', hy_gt, if_true, if_false, hy_f10]
    · simp only [fx_X10_take, c_isGuestO hC0 h, hy_cts, hy_ctn, hy_xts, hy_xtn, c_need0, c_need1, x_need0, x_need1, hy_jn, hy_lm, hy_lt', hy_gt, if_true, if_false, hy_f10]
    · simp only [f_X11_take, r_isGuestO hq2 hZ0 h, r_right0, hy_cts, hy_ctn, hy_xts, hy_xtn, c_need0, c_need1, x_need0, x_need1, hy_jn, hy_lm, hy_lt', hy_gt, if_true, if_false, hy_f10]
  rcases hy_two b (n := pz (M 179)) (by omega) with h' | ⟨s, s1, rfl⟩
  · refine g_no (r := 0) I ?_ ?_ ?_
    · simp only [f_X10_take, c_isGuest hC0 hg, c_isPegO hC0 h', hy_cts, hy_ctn, hy_xts, hy_xtn, c_need0, c_need1, x_need0, x_need1, hy_jn, hy_lm, hy_lt', hy_gt, if_true, if_false, hy_f10]
    · simp only [fx_X10_take, c_isGuest hC0 hg, c_isPegO hC0 h', hy_cts, hy_ctn, hy_xts, hy_xtn, c_need0, c_need1, x_need0, x_need1, hy_jn, hy_lm, hy_lt', hy_gt, if_true, if_false, hy_f10]
    · simp only [f_X11_take, r_isGuest hq2 hZ0 hg, r_isPegO hq2 hZ0 h', r_right0, hy_cts, hy_ctn, hy_xts, hy_xtn, c_need0, c_need1, x_need0, x_need1, hy_jn, hy_lm, hy_lt', hy_gt, if_true, if_false, hy_f10]
  · refine g_chg I (op_take (I_W I) (I_T I) hg s1) ?_ (fun M2 h2 => ?_)
    · simp only [f_X10_take, c_isGuest hC0 hg, c_isPeg hC0 s1, hy_cts, hy_ctn, hy_xts, hy_xtn, c_need0, c_need1, x_need0, x_need1, hy_jn, hy_lm, hy_lt', hy_gt, if_true, if_false, hy_f10, hy_ctid]
    · have h3 : hz_set M2 178 8 0 179 = M 179 := by rw [hy_seto _ _ _ (by omega)]; exact h2
      simp only [f_X11_take, r_isGuest h3 hZ0 hg, r_isPeg h3 hZ0 s1, r_right1, hy_cts, hy_ctn, hy_xts, hy_xtn, c_need0, c_need1, x_need0, x_need1, hy_jn, hy_lm, hy_lt', hy_gt, if_true, if_false, hy_f10, hy_ctid]
theorem g_32 {M : hz_M} (I : Inv M) : ∃ M', fs_32 M = some (0, M') ∧ Inv M' := by
  show ∃ M', hy_ge (f_X10_wash M) f_X11_wash = some (0, M') ∧ Inv M'
  refine g_che I (op_wash 0 0 (I_W I) (I_T I)) ?_ (fun M2 h2 => ?_)
  · simp only [f_X10_wash, hy_ctid]
  · simp only [f_X11_wash, hy_lm, hy_ctid]
theorem c_isOpen (M : hz_M) (a : Int32) : (f_X10_isOpening a M = some (0, M) ∧ (a < 0 ∨ 9 < a)) ∨ (f_X10_isOpening a M = some (1, M) ∧ ∃ k, k ≤ 9 ∧ a = nI k) := by
  unfold f_X10_isOpening
  by_cases e1 : a < 0
  · exact Or.inl ⟨by rw [if_pos e1], Or.inl e1⟩
  · by_cases e2 : 9 < a
    · exact Or.inl ⟨by rw [if_neg e1, if_pos e2], Or.inr e2⟩
    · refine Or.inr ⟨by rw [if_neg e1, if_neg e2], ?_⟩
      exact hy_ex' (n := 9) (by grind) (by rw [show nI 9 = (9 : Int32) from rfl]; grind) (by omega)
theorem g_33 {M : hz_M} (I : Inv M) (a b : Int32) : ∃ M', fs_33 a b M = some (0, M') ∧ Inv M' := by
  have hC := I_C I
  have hQ := I_Q I
  have hq := fun r => q_1 M r 0
  have hq2 := q_2 M 0
  have hC0 := hC
  obtain ⟨hZ, ⟨b3, b4, b5, b6, b7, b8, bag, bnm⟩, hRR⟩ := hC
  have hZ0 := hZ
  obtain ⟨⟨s1, s2, s3, s4, s5, s6⟩, ra, ro, rp, rl, rt, rs, rw', rd, rwt, rpg, rk, rh, rtw⟩ := c_rows hRR
  obtain ⟨⟨z1, z2⟩, ⟨z3, z4, z5⟩, ⟨z6, z7, z8⟩, ⟨z9, z10⟩, ⟨z11, z12, z13⟩, ⟨z14, z15, z16⟩⟩ := hZ
  rw [z1] at b3; rw [z3] at b4; rw [z6] at b5; rw [z9] at b6; rw [z11] at b7; rw [z14] at b8
  show ∃ M', hy_go (f_X10_valve a b M) (fx_X10_valve a b M) (f_X11_valve a b) = some (0, M') ∧ Inv M'
  rcases hy_two a (n := vz (M 179)) (by omega) with h | ⟨g, hg, rfl⟩
  · refine g_no (r := 0) I ?_ ?_ ?_
    · simp only [f_X10_valve, c_isValveO hC0 h, hy_cts, hy_ctn, hy_xts, hy_xtn, c_need0, c_need1, x_need0, x_need1, hy_jn, hy_lm, hy_lt', hy_gt, if_true, if_false, hy_f10]
    · simp only [fx_X10_valve, c_isValveO hC0 h, hy_cts, hy_ctn, hy_xts, hy_xtn, c_need0, c_need1, x_need0, x_need1, hy_jn, hy_lm, hy_lt', hy_gt, if_true, if_false, hy_f10]
    · simp only [f_X11_valve, r_isValveO hq2 hZ0 h, r_right0, hy_cts, hy_ctn, hy_xts, hy_xtn, c_need0, c_need1, x_need0, x_need1, hy_jn, hy_lm, hy_lt', hy_gt, if_true, if_false, hy_f10]
  rcases c_isOpen M b with ⟨h1, h2⟩ | ⟨h1, k, hk, rfl⟩
  · refine g_no (r := 0) I ?_ ?_ ?_
    · simp only [f_X10_valve, c_isValve hC0 hg, h1, hy_cts, hy_ctn, hy_xts, hy_xtn, c_need0, c_need1, x_need0, x_need1, hy_jn, hy_lm, hy_lt', hy_gt, if_true, if_false, hy_f10]
    · simp only [fx_X10_valve, c_isValve hC0 hg, h1, hy_cts, hy_ctn, hy_xts, hy_xtn, c_need0, c_need1, x_need0, x_need1, hy_jn, hy_lm, hy_lt', hy_gt, if_true, if_false, hy_f10]
    · simp only [f_X11_valve, r_isValve hq2 hZ0 hg, r_in_no _ h2, r_right0, hy_cts, hy_ctn, hy_xts, hy_xtn, c_need0, c_need1, x_need0, x_need1, hy_jn, hy_lm, hy_lt', hy_gt, if_true, if_false, hy_f10]
  · refine g_chg I (op_valve (I_W I) (I_T I) hg hk) ?_ (fun M2 h2 => ?_)
    · simp only [f_X10_valve, c_isValve hC0 hg, h1, hy_cts, hy_ctn, hy_xts, hy_xtn, c_need0, c_need1, x_need0, x_need1, hy_jn, hy_lm, hy_lt', hy_gt, if_true, if_false, hy_f10, hy_ctid]
    · have h3 : hz_set M2 178 8 0 179 = M 179 := by rw [hy_seto _ _ _ (by omega)]; exact h2
      simp only [f_X11_valve, r_isValve h3 hZ0 hg, r_in_ok _ (hy_nn (a := k) (by omega)) (show nI k ≤ 9 by rw [show (9 : Int32) = nI 9 from rfl, hy_le (by omega) (by omega)]; exact hk), r_right1, hy_cts, hy_ctn, hy_xts, hy_xtn, c_need0, c_need1, x_need0, x_need1, hy_jn, hy_lm, hy_lt', hy_gt, if_true, if_false, hy_f10, hy_ctid]
theorem g_34 {M : hz_M} (I : Inv M) (a : Int32) : ∃ M', fs_34 a M = some (0, M') ∧ Inv M' := by
  have hC := I_C I
  have hQ := I_Q I
  have hq := fun r => q_1 M r 0
  have hq2 := q_2 M 0
  have hC0 := hC
  obtain ⟨hZ, ⟨b3, b4, b5, b6, b7, b8, bag, bnm⟩, hRR⟩ := hC
  have hZ0 := hZ
  obtain ⟨⟨s1, s2, s3, s4, s5, s6⟩, ra, ro, rp, rl, rt, rs, rw', rd, rwt, rpg, rk, rh, rtw⟩ := c_rows hRR
  obtain ⟨⟨z1, z2⟩, ⟨z3, z4, z5⟩, ⟨z6, z7, z8⟩, ⟨z9, z10⟩, ⟨z11, z12, z13⟩, ⟨z14, z15, z16⟩⟩ := hZ
  rw [z1] at b3; rw [z3] at b4; rw [z6] at b5; rw [z9] at b6; rw [z11] at b7; rw [z14] at b8
  show ∃ M', hy_go (f_X10_waits a M) (fx_X10_waits a M) (f_X11_waits a) = some (0, M') ∧ Inv M'
  by_cases e1 : a < 1
  · refine g_no (r := 0) I ?_ ?_ ?_
    · simp only [f_X10_waits, e1, hy_cts, hy_ctn, hy_xts, hy_xtn, c_need0, c_need1, x_need0, x_need1, hy_jn, hy_lm, hy_lt', hy_gt, if_true, if_false, hy_f10]
    · simp only [fx_X10_waits, e1, hy_cts, hy_ctn, hy_xts, hy_xtn, c_need0, c_need1, x_need0, x_need1, hy_jn, hy_lm, hy_lt', hy_gt, if_true, if_false, hy_f10]
    · simp only [f_X11_waits, r_in_no _ (Or.inl e1), r_right0, hy_cts, hy_ctn, hy_xts, hy_xtn, c_need0, c_need1, x_need0, x_need1, hy_jn, hy_lm, hy_lt', hy_gt, if_true, if_false, hy_f10]
  by_cases e2 : 60 < a
  · refine g_no (r := 0) I ?_ ?_ ?_
    · simp only [f_X10_waits, e1, e2, hy_cts, hy_ctn, hy_xts, hy_xtn, c_need0, c_need1, x_need0, x_need1, hy_jn, hy_lm, hy_lt', hy_gt, if_true, if_false, hy_f10]
    · simp only [fx_X10_waits, e1, e2, hy_cts, hy_ctn, hy_xts, hy_xtn, c_need0, c_need1, x_need0, x_need1, hy_jn, hy_lm, hy_lt', hy_gt, if_true, if_false, hy_f10]
    · simp only [f_X11_waits, r_in_no _ (Or.inr e2), r_right0, hy_cts, hy_ctn, hy_xts, hy_xtn, c_need0, c_need1, x_need0, x_need1, hy_jn, hy_lm, hy_lt', hy_gt, if_true, if_false, hy_f10]
  · obtain ⟨n, hn, rfl⟩ := hy_ex' (x := a) (n := 60) (by grind) (by rw [show nI 60 = (60 : Int32) from rfl]; grind) (by omega)
    refine g_chg I (op_wait 0 (I_W I) (I_T I) hn) ?_ (fun M2 h2 => ?_)
    · simp only [f_X10_waits, e1, e2, hy_cts, hy_ctn, hy_xts, hy_xtn, c_need0, c_need1, x_need0, x_need1, hy_jn, hy_lm, hy_lt', hy_gt, if_true, if_false, hy_f10, hy_ctid]
    · simp only [f_X11_waits, r_in_ok _ (show (1 : Int32) ≤ nI n by grind) (show nI n ≤ 60 by grind), r_right1, hy_cts, hy_ctn, hy_xts, hy_xtn, c_need0, c_need1, x_need0, x_need1, hy_jn, hy_lm, hy_lt', hy_gt, if_true, if_false, hy_f10, hy_ctid]

