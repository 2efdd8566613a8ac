
theorem hy_inj2 {r r' : Int32} {M : hz_M} {o : hz_O} (h1 : o = some (r, M)) (h2 : o = some (r', M)) : r' = r := by
  rw [h1] at h2; injection h2 with e; injection e with e1 e2; exact e1.symm
theorem gstN_sp : ∀ (a b : Nat) (q : Nat → Int32) (i : Nat), gstN q (a + b) i = gstN (gstN q a i) b (i + a)
  | 0, b, q, i => by rw [Nat.zero_add]; rfl
  | a + 1, b, q, i => by
    have e1 : gstN q ((a + b) + 1) i = gstN (gst q i) (a + b) (i + 1) := rfl
    have e2 : gstN q (a + 1) i = gstN (gst q i) a (i + 1) := rfl
    rw [show a + 1 + b = (a + b) + 1 by omega, e1, e2, gstN_sp a b (gst q i) (i + 1), show i + (a + 1) = i + 1 + a by omega]
theorem towN_sp : ∀ (a b : Nat) (q : Nat → Int32) (i : Nat), towN q (a + b) i = towN (towN q a i) b (i + a)
  | 0, b, q, i => by rw [Nat.zero_add]; rfl
  | a + 1, b, q, i => by
    have e1 : towN q ((a + b) + 1) i = towN (tow q i) (a + b) (i + 1) := rfl
    have e2 : towN q (a + 1) i = towN (tow q i) a (i + 1) := rfl
    rw [show a + 1 + b = (a + b) + 1 by omega, e1, e2, towN_sp a b (tow q i) (i + 1), show i + (a + 1) = i + 1 + a by omega]
theorem towN_o2 : ∀ (k : Nat) (q : Nat → Int32) (i b : Nat), (b < 153 + 2 * i ∨ 153 + 2 * (i + k) ≤ b ∨ b % 2 = 0) → b ≠ 18 → towN q k i b = q b
  | 0, _, _, _, _, _ => rfl
  | k + 1, q, i, b, h, h2 => by unfold towN; rw [towN_o2 k _ _ _ (by omega) h2, tow_o (by omega) h2]
def qg (q : Nat → Int32) (g : Nat) : Nat → Int32 := gstN (mC q) g 0
theorem qg_c {q : Nat → Int32} {g c : Nat} (hg : g < 16) (hc : c < 8) : qg q g (25 + 8 * g + c) = q (25 + 8 * g + c) := by
  unfold qg
  rw [gstN_o _ _ _ _ (by omega) (by omega), mC_o (by omega) (by omega) (by omega) (by omega) (by omega) (by omega) (by omega)]
theorem qg_9 {q : Nat → Int32} {g : Nat} (hv : vz q ≤ 4) : qg q g 9 = nxt (q 9) (stm q) := by
  unfold qg
  rw [gstN_o _ _ _ _ (by omega) (by omega), mC_9 hv]
theorem minute_g {q : Nat → Int32} {g c : Nat} (hg : g < gz q) (hz : gz q ≤ 16) (hc : c < 8) : minute q (25 + 8 * g + c) = gst (qg q g) g (25 + 8 * g + c) := by
  unfold minute
  obtain ⟨d, hd⟩ : ∃ d, gz q = g + (1 + d) := ⟨gz q - g - 1, by omega⟩
  rw [hd, gstN_sp, gstN_sp, gstN_o _ _ _ _ (by omega) (by omega)]
  rw [show 0 + g = g by omega]
  rfl
def sbv (h at_ age s : Int32) : Int32 := if h + 6 * at_ - (60 + age / 4) ≤ 0 then mx s else s + (h + 6 * at_ - (60 + age / 4)) / 5 + 1
theorem sbh_v {q : Nat → Int32} {g : Nat} (hg : g < 16) (hv : vz q ≤ 4) : sbh (qg q g) g = sbv (nxt (q 9) (stm q)) (q (25 + 8 * g + 2)) (q (25 + 8 * g + 1)) (q (25 + 8 * g + 5)) := by
  unfold sbh ovr sbv
  rw [qg_9 hv, qg_c hg (c := 2) (by omega), qg_c hg (c := 1) (by omega), qg_c hg (c := 5) (by omega)]
theorem c_sb (s a : Int32) (M : hz_M) : f_X7_strainBehind s a M = some (if a ≤ 0 then mx s else s + a / 5 + 1, M) := by
  unfold f_X7_strainBehind mx
  split <;> rfl
theorem downL {Mc : hz_M} {q0 : Nat → Int32} (hC : hy_C Mc q0) {g p : Nat} (hg : g < gz q0) (hp1 : 1 ≤ p) (hp6 : p ≤ 6) (k54 : Int32 → hz_M → hz_O) (k66 : hz_M → hz_O) : ∀ (k i f f' : Nat) (M Mw : hz_M), hy_W Mw (M 179) → gz (M 179) = gz q0 → (M 179) (25 + 8 * g + 2) = nI p → (M 179) (25 + 8 * g + 1) = q0 (25 + 8 * g + 1) → stm (M 179) = stm q0 → i + k = 201 → k < f → k < f' →
    ∃ r M' Mw', f_X10_downIn_L56 f' (nI g) (nI p) (M 179 9) (M 179 (25 + 8 * g + 5)) (nI i) Mc = some (r, Mc) ∧ f_X11_downIn_L34 k54 k66 f (nI g) (nI i) M = (if r = -1 then k66 M' else k54 r M') ∧ hy_W Mw' (M' 179) ∧ ∀ a, a ≠ 179 → a ≠ 185 → M' a = M a
  | 0, i, f, f', M, Mw, W, h1, h2, h3, h4, hi, hf, hf' => by
    obtain ⟨f, rfl⟩ : ∃ e, f = e + 1 := ⟨f - 1, by omega⟩
    obtain ⟨f', rfl⟩ : ∃ e, f' = e + 1 := ⟨f' - 1, by omega⟩
    have e : 200 < nI i := by rw [show (200 : Int32) = nI 200 from rfl, hy_lt (by omega) (by omega)]; omega
    refine ⟨-1, M, Mw, ?_, ?_, W, fun _ _ _ => rfl⟩
    · simp only [f_X10_downIn_L56, e, if_true]
    · simp only [f_X11_downIn_L34, e, if_true]
  | k + 1, i, f, f', M, Mw, W, h1, h2, h3, h4, hi, hf, hf' => by
    obtain ⟨f, rfl⟩ : ∃ e, f = e + 1 := ⟨f - 1, by omega⟩
    obtain ⟨f', rfl⟩ : ∃ e, f' = e + 1 := ⟨f' - 1, by omega⟩
    have e : ¬ 200 < nI i := by rw [show (200 : Int32) = nI 200 from rfl, hy_lt (by omega) (by omega)]; omega
    have z2 := W.1.1.1.2
    have z13 := W.1.1.2.2.2.2.1.2.2
    have bag := hC.2.1.2.2.2.2.2.2.1 g hg
    obtain ⟨Mw1, _, _, W1⟩ := c_min (fun _ _ => none) 0 (f := 0) (n := 1) (i := 0) W (by omega) (by omega)
    obtain ⟨M1, a1, a2, a3, a4⟩ := r_min W rfl
    have fl := a3 g (by omega)
    have hsb := sbh_v (q := M 179) (g := g) (by omega) z13
    rw [h2, h3, h4] at hsb
    have hs : f_X7_strainBehind (M 179 (25 + 8 * g + 5)) (nxt (M 179 9) (stm q0) + 6 * nI p - (60 + q0 (25 + 8 * g + 1) / 4)) Mc = some (sbh (qg (M 179) g) g, Mc) := by rw [c_sb, hsb]; rfl
    have cst : f_X10_downIn_L56 (f' + 1) (nI g) (nI p) (M 179 9) (M 179 (25 + 8 * g + 5)) (nI i) Mc = if sbh (qg (M 179) g) g < 10 then f_X10_downIn_L56 f' (nI g) (nI p) (nxt (M 179 9) (stm q0)) (sbh (qg (M 179) g) g) (nI (i + 1)) Mc else some (nI i, Mc) := by
      simp (disch := omega) only [f_X10_downIn_L56, e, if_false, c_stm hC, hy_cts, c_hb, f_X3_bears, hy_in, hy_gt, hy_c, bag, hs, hy_lt', hy_add1]
    have at' : qg (M 179) g (25 + 8 * g + 2) = nI p := by rw [qg_c (by omega) (by omega)]; exact h2
    have pos : 0 < nI p := by rw [hy_0, hy_lt (by omega) (by omega)]; omega
    have np1 : ¬ nI p = -1 := by rw [hy_n1 (by omega)]; exact not_false
    have np0 : ¬ nI p = 0 := by rw [hy_0, hy_eq (by omega) (by omega)]; omega
    have gd : gdn (gstN (mC (M 179)) g 0) g = decide (10 ≤ sbh (qg (M 179) g) g) := by
      show gdn (qg (M 179) g) g = _
      unfold gdn
      rw [at']
      simp only [pos, true_and]
    rw [gd] at fl
    by_cases e3 : 10 ≤ sbh (qg (M 179) g) g
    · have e4 : ¬ sbh (qg (M 179) g) g < 10 := by grind
      refine ⟨nI i, M1, Mw1, by rw [cst, if_neg e4], ?_, by rw [a2]; exact W1, fun a b c => a4 a b c⟩
      simp only [e3, decide_true, if_true] at fl
      simp (disch := omega) only [f_X11_downIn_L34, e, if_false, a1, hy_cts, hy_in, hy_gt, hy_c, fl, hy_f10, hy_n1]
    · have e4 : sbh (qg (M 179) g) g < 10 := by grind
      simp only [e3, decide_false, Bool.false_eq_true, if_false] at fl
      have gs : ∀ c, c < 8 → minute (M 179) (25 + 8 * g + c) = hy_st (qg (M 179) g) (25 + 8 * g + 5) (sbh (qg (M 179) g) g) (25 + 8 * g + c) := by
        intro c hc
        rw [minute_g (by omega) z2 hc]
        unfold gst
        rw [at', if_neg np1, if_neg np0, if_neg e3]
      have n5 : minute (M 179) (25 + 8 * g + 5) = sbh (qg (M 179) g) g := by rw [gs 5 (by omega), hy_ss]
      have n2 : minute (M 179) (25 + 8 * g + 2) = nI p := by rw [gs 2 (by omega), hy_so _ _ (by omega)]; exact at'
      have n1 : minute (M 179) (25 + 8 * g + 1) = q0 (25 + 8 * g + 1) := by rw [gs 1 (by omega), hy_so _ _ (by omega), qg_c (by omega) (by omega)]; exact h3
      obtain ⟨r, M', Mw', b1, b2, b3, b4⟩ := downL hC hg hp1 hp6 k54 k66 k (i + 1) f f' M1 Mw1 (by rw [a2]; exact W1) (by rw [a2, minute_gz]; exact h1) (by rw [a2]; exact n2) (by rw [a2]; exact n1) (by rw [a2, stm_minute z13]; exact h4) (by omega) (by omega) (by omega)
      rw [a2, minute_9 z13, h4, n5] at b1
      refine ⟨r, M', Mw', by rw [cst, if_pos e4, b1], ?_, b3, fun a c d => by rw [b4 a c d, a4 a c d]⟩
      simp (disch := omega) only [f_X11_downIn_L34, e, if_false, a1, hy_cts, hy_in, hy_gt, hy_c, fl, if_true, hy_lt', hy_add1, b2]
theorem g_21 {M : hz_M} (I : Inv M) (a : Int32) : ∃ M', fs_21 a M = some (0, M') ∧ Inv M' := by
  have hC := I_C I
  have hQ := I_Q I
  have hq := fun r => q_1 M r 0
  have hq2 := q_2 M 0
  have hC0 := hC
  obtain ⟨hZ, ⟨b3, b4, b5, b6, b7, b8, bag, bnm⟩, hRR⟩ := hC
  have hZ0 := hZ
  obtain ⟨⟨s1, s2, s3, s4, s5, s6⟩, ra, ro, rp, rl, rt, rs, rw', rd, rwt, rpg, rk, rh, rtw⟩ := c_rows hRR
  obtain ⟨⟨z1, z2⟩, ⟨z3, z4, z5⟩, ⟨z6, z7, z8⟩, ⟨z9, z10⟩, ⟨z11, z12, z13⟩, ⟨z14, z15, z16⟩⟩ := hZ
  rw [z1] at b3; rw [z3] at b4; rw [z6] at b5; rw [z9] at b6; rw [z11] at b7; rw [z14] at b8
  show ∃ M', hy_go (f_X10_downIn a M) (fx_X10_downIn a M) (f_X11_downIn a) = some (0, M') ∧ Inv M'
  rcases hy_two a (n := gz (M 179)) (by omega) with h | ⟨g, hg, rfl⟩
  · refine g_no (r := 0) I ?_ ?_ ?_
    · simp only [f_X10_downIn, c_isGuestO hC0 h, hy_cts, hy_ctn, hy_xts, hy_xtn, c_need0, c_need1, x_need0, x_need1, hy_jn, hy_lm, hy_lt', hy_gt, if_true, if_false, hy_f10]
    · simp only [fx_X10_downIn, c_isGuestO hC0 h, hy_cts, hy_ctn, hy_xts, hy_xtn, c_need0, c_need1, x_need0, x_need1, hy_jn, hy_lm, hy_lt', hy_gt, if_true, if_false, hy_f10]
    · simp only [f_X11_downIn, r_isGuestO hq2 hZ0 h, r_right0, hy_cts, hy_ctn, hy_xts, hy_xtn, c_need0, c_need1, x_need0, x_need1, hy_jn, hy_lm, hy_lt', hy_gt, if_true, if_false, hy_f10]
  have hat := hQ.2.1 g hg
  have r13 := rp g hg
  have r16 := rs g hg
  by_cases e0 : 0 < M 179 (25 + 8 * g + 2)
  · obtain ⟨p, hp, ep⟩ : ∃ k, k ≤ sz (M 179) ∧ M 179 (25 + 8 * g + 2) = nI k := by
      rcases hat with e | e
      · rw [e] at e0; exact absurd e0 (by decide)
      · exact e
    have hp1 : 1 ≤ p := by rw [ep, hy_0, hy_lt (by omega) (by omega)] at e0; omega
    have pos : 0 < nI p := by rw [hy_0, hy_lt (by omega) (by omega)]; omega
    have step : ∀ X1 : hz_M, X1 179 = M 179 → ∃ r M' Mw', f_X10_downIn_L56 hz_FU (nI g) (nI p) (M 179 9) (M 179 (25 + 8 * g + 5)) (nI 1) M = some (r, M) ∧ f_X11_downIn_L34 (fun (v2_21 : Int32) (M22 : hz_M) => hz_ct (f_X11_back v2_21 M22) fun r23 M24 => some (r23, M24)) (fun (M16 : hz_M) => hz_ct (f_X11_back (-1 : Int32) M16) fun r17 M18 => some (r17, M18)) hz_FU (nI g) (nI 1) X1 = (if r = -1 then (fun (M16 : hz_M) => hz_ct (f_X11_back (-1 : Int32) M16) fun r17 M18 => some (r17, M18)) M' else (fun (v2_21 : Int32) (M22 : hz_M) => hz_ct (f_X11_back v2_21 M22) fun r23 M24 => some (r23, M24)) r M') ∧ hy_W Mw' (M' 179) ∧ ∀ a, a ≠ 179 → a ≠ 185 → M' a = X1 a := by
      intro X1 hX1
      have := downL hC0 hg hp1 (by omega) (fun (v2_21 : Int32) (M22 : hz_M) => hz_ct (f_X11_back v2_21 M22) fun r23 M24 => some (r23, M24)) (fun (M16 : hz_M) => hz_ct (f_X11_back (-1 : Int32) M16) fun r17 M18 => some (r17, M18)) 200 1 hz_FU hz_FU X1 M (by rw [hX1]; exact I_W I) (by rw [hX1]) (by rw [hX1]; exact ep) (by rw [hX1]) (by rw [hX1]) (by omega) (hy_FU (by omega)) (hy_FU (by omega))
      rw [hX1] at this
      exact this
    obtain ⟨r, _, _, hr, _, _, _⟩ := step M rfl
    refine g_sim (r := r) I ?_ (fun Y hY => ?_)
    · simp (disch := omega) only [f_X10_downIn, c_isGuest hC0 hg, hy_in, hy_gt, hy_c, r13, ep, c_isStep hC0 hp1 hp, s2, r16, hy_cts, hy_ctn, hy_xts, hy_xtn, c_need0, c_need1, x_need0, x_need1, hy_jn, hy_lm, hy_lt', hy_gt, if_true, if_false, hy_f10]
      rw [show (1 : Int32) = nI 1 from rfl]; exact hr
    · have h0 : hz_set Y 178 8 0 179 = M 179 := by rw [hy_seto _ _ _ (by omega)]; exact hY
      obtain ⟨X1, t1, t2, t3⟩ := r_tries (hz_set Y 178 8 0)
      obtain ⟨r', X2, Mw2, b0, b1, b5, b3⟩ := step X1 (by rw [t3 179 (by omega), h0])
      have er : r' = r := hy_inj2 hr b0
      subst er
      obtain ⟨c1, c2, c3, c4⟩ := r_sim (X := hz_set Y 178 8 0) r' h0 (I_W I).2.2 t2 t3 b3 b5.2.2 (hy_setk _ _ _ _)
      refine ⟨_, ?_, c2, fun b hb => by rw [c3 b, hy_setn _ _ _ hb], fun a a1 a2 a3 => by rw [c4 a a1 a2 a3, hy_seto _ _ _ a1]⟩
      simp (disch := omega) only [f_X11_downIn, r_isGuest h0 hZ0 hg, r_right1, r_of2, h0, ep, pos, t1, hy_cts, hy_ctn, hy_xts, hy_xtn, c_need0, c_need1, x_need0, x_need1, hy_jn, hy_lm, hy_lt', hy_gt, if_true, if_false, hy_f10]
      refine Eq.trans b1 ?_
      by_cases e : r' = -1
      · rw [if_pos e, ← e]; simp only [c1, hy_cts]
      · rw [if_neg e]; simp only [c1, hy_cts]
  · refine g_ok I (r := 0) ?_ ?_
    · have e1 : M 179 (25 + 8 * g + 2) < 1 := by grind
      simp (disch := omega) only [f_X10_downIn, c_isGuest hC0 hg, hy_in, hy_gt, hy_c, r13, c_isStepN hC0 (Or.inl e1), hy_cts, hy_ctn, hy_xts, hy_xtn, c_need0, c_need1, x_need0, x_need1, hy_jn, hy_lm, hy_lt', hy_gt, if_true, if_false, hy_f10]
    · simp (disch := omega) only [f_X11_downIn, r_isGuest (hq _) hZ0 hg, r_right1, r_of2, hq, e0, hy_cts, hy_ctn, hy_xts, hy_xtn, c_need0, c_need1, x_need0, x_need1, hy_jn, hy_lm, hy_lt', hy_gt, if_true, if_false, hy_f10]
def qt (q : Nat → Int32) (t : Nat) : Nat → Int32 := towN (mB q) t 0
theorem qt_c {q : Nat → Int32} {t c : Nat} (hc : c < 2) : qt q t (153 + 2 * t + c) = q (153 + 2 * t + c) := by
  unfold qt
  by_cases e : c = 0
  · subst e
    rw [towN_o2 _ _ _ _ (by omega) (by omega), mB_o (by omega) (by omega) (by omega) (by omega) (by omega)]
  · rw [towN_o2 _ _ _ _ (by omega) (by omega), mB_o (by omega) (by omega) (by omega) (by omega) (by omega)]
theorem qt_9 {q : Nat → Int32} {t : Nat} (hv : vz q ≤ 4) : qt q t 9 = nxt (q 9) (stm q) := by
  unfold qt
  rw [towN_o _ _ _ _ (by omega) (by omega), mB_9 hv]
theorem minute_t {q : Nat → Int32} {t c : Nat} (ht : t < tz q) (hz : gz q ≤ 16) (hc : c < 2) : minute q (153 + 2 * t + c) = tow (qt q t) t (153 + 2 * t + c) := by
  unfold minute
  rw [gstN_o _ _ _ _ (by omega) (by omega)]
  unfold mC
  obtain ⟨d, hd⟩ : ∃ d, tz q = t + (1 + d) := ⟨tz q - t - 1, by omega⟩
  rw [hd, towN_sp, towN_sp]
  rw [show 0 + t = t by omega]
  by_cases e : c = 0
  · subst e
    rw [towN_o2 _ _ _ _ (by omega) (by omega)]; rfl
  · rw [towN_o2 _ _ _ _ (by omega) (by omega)]; rfl
theorem qt_hld {q : Nat → Int32} {t : Nat} (hz : gz q ≤ 16) : hld (qt q t) t = hld q t := by
  rw [hld_fk, hld_fk]
  have e : gz (qt q t) = gz q := gz_cg (by unfold qt; rw [towN_o _ _ _ _ (by omega) (by omega), mB_o (by omega) (by omega) (by omega) (by omega) (by omega)])
  rw [e]
  exact fk_cg t (fun i hi => by show qt q t (25 + 8 * i + 4) = q (25 + 8 * i + 4); unfold qt; rw [towN_o _ _ _ _ (by omega) (by omega), mB_o (by omega) (by omega) (by omega) (by omega) (by omega)])
theorem no_hld {q : Nat → Int32} (hZ : hy_Z q) (hQ : hy_Q q) {t : Nat} (ht : t < tz q) (h : q (153 + 2 * t + 1) ≠ -1) : hld q t = -1 := by
  rcases hld_al hZ t with e | ⟨g, hg, e, e'⟩
  · exact e
  · exact absurd (hQ.2.2.2.2.2.2.2.2.2.2.2.2.2.1 g t hg ht e') h
def wpb (h w : Int32) : Int32 := if 60 ≤ h then w else mx w
theorem c_wpb (w h : Int32) (M : hz_M) : f_X7_wetOnPegBehind w h M = some (wpb h w, M) := by
  unfold f_X7_wetOnPegBehind wpb mx
  split <;> rfl
theorem dryL {Mc : hz_M} {q0 : Nat → Int32} (hC : hy_C Mc q0) {t : Nat} (ht : t < tz q0) (k41 : Int32 → hz_M → hz_O) (k57 : hz_M → hz_O) : ∀ (k i f f' : Nat) (M Mw : hz_M), hy_W Mw (M 179) → tz (M 179) = tz q0 → (M 179) (153 + 2 * t + 1) ≠ -1 → stm (M 179) = stm q0 → i + k = 200 → k + 1 < f → k < f' →
    (∀ d : Int32, d = M 179 (153 + 2 * t) → ¬ d = 0 → ∃ r M' Mw', f_X10_dryIn_L59 f' d (M 179 9) (nI (i + 1)) Mc = some (r, Mc) ∧ f_X11_dryIn_L25 k41 k57 f (nI t) (nI i) M = (if r = -1 then k57 M' else k41 r M') ∧ hy_W Mw' (M' 179) ∧ ∀ a, a ≠ 179 → a ≠ 185 → M' a = M a)
  | k, i, f, f', M, Mw, W, h1, h2, h4, hi, hf, hf' => by
    intro d hd hd0
    obtain ⟨f, rfl⟩ : ∃ e, f = e + 1 := ⟨f - 1, by omega⟩
    obtain ⟨f', rfl⟩ : ∃ e, f' = e + 1 := ⟨f' - 1, by omega⟩
    have e : ¬ 200 < nI i := by rw [show (200 : Int32) = nI 200 from rfl, hy_lt (by omega) (by omega)]; omega
    have z2 := W.1.1.1.2
    have z10 := W.1.1.2.2.2.1.2
    have z8 := W.1.1.2.2.1.2.2
    have z13 := W.1.1.2.2.2.2.1.2.2
    obtain ⟨Mw1, _, _, W1⟩ := c_min (fun _ _ => none) 0 (f := 0) (n := 1) (i := 0) W (by omega) (by omega)
    obtain ⟨M1, a1, a2, a3, a4⟩ := r_min W rfl
    have nw : minute (M 179) (153 + 2 * t) = wpb (nxt (M 179 9) (stm q0)) d := by
      have e1 := minute_t (q := M 179) (t := t) (c := 0) (by omega) z2 (by omega)
      rw [Nat.add_zero] at e1
      rw [e1]
      have p1 := qt_c (q := M 179) (t := t) (c := 1) (by omega)
      have p0 := qt_c (q := M 179) (t := t) (c := 0) (by omega)
      rw [Nat.add_zero] at p0
      unfold tow wpb
      rw [qt_hld z2, no_hld W.1.1 W.2.1 (by omega) h2, if_pos rfl, p1, if_neg h2, qt_9 z13, h4, p0, ← hd]
      split
      · exact p0.trans hd.symm
      · rw [hy_ss]
    have np : minute (M 179) (153 + 2 * t + 1) = M 179 (153 + 2 * t + 1) := by
      rw [minute_t (by omega) z2 (by omega), tow_o (by omega) (by omega), qt_c (by omega)]
    have rst : f_X11_dryIn_L25 k41 k57 (f + 1) (nI t) (nI i) M = f_X11_dryIn_L25 k41 k57 f (nI t) (nI (i + 1)) M1 := by
      simp (disch := omega) only [f_X11_dryIn_L25, e, if_false, r_ofT0, hy_cts, ← hd, hd0, a1, hy_lt', hy_add1]
    match k, hi, hf, hf' with
    | 0, hi, hf, hf' =>
      obtain ⟨f, rfl⟩ : ∃ e, f = e + 1 := ⟨f - 1, by omega⟩
      have e5 : 200 < nI (i + 1) := by rw [show (200 : Int32) = nI 200 from rfl, hy_lt (by omega) (by omega)]; omega
      refine ⟨-1, M1, Mw1, ?_, ?_, by rw [a2]; exact W1, a4⟩
      · simp only [f_X10_dryIn_L59, e5, if_true]
      · rw [rst]
        simp only [f_X11_dryIn_L25, e5, if_true]
    | k + 1, hi, hf, hf' =>
      have e5 : ¬ 200 < nI (i + 1) := by rw [show (200 : Int32) = nI 200 from rfl, hy_lt (by omega) (by omega)]; omega
      by_cases e6 : wpb (nxt (M 179 9) (stm q0)) d = 0
      · obtain ⟨f, rfl⟩ : ∃ e, f = e + 1 := ⟨f - 1, by omega⟩
        refine ⟨nI (i + 1), M1, Mw1, ?_, ?_, by rw [a2]; exact W1, a4⟩
        · simp only [f_X10_dryIn_L59, e5, if_false, c_stm hC, hy_cts, c_hb, c_wpb, e6, if_true]
        · rw [rst]
          simp (disch := omega) only [f_X11_dryIn_L25, e5, if_false, r_ofT0, hy_cts, a2, nw, e6, if_true, hy_n1]
      · obtain ⟨r, M', Mw', b1, b2, b3, b4⟩ := dryL hC ht k41 k57 k (i + 1) f f' M1 Mw1 (by rw [a2]; exact W1) (by rw [a2]; rw [← h1]; exact tz_cg (minute_o (by omega) (by omega) (by omega) (by omega) (by omega) (by omega) (by omega) (by omega) (by omega))) (by rw [a2, np]; exact h2) (by rw [a2, stm_minute z13]; exact h4) (by omega) (by omega) (by omega) (wpb (nxt (M 179 9) (stm q0)) d) (by rw [a2, nw]) e6
        rw [a2, minute_9 z13, h4] at b1
        refine ⟨r, M', Mw', ?_, by rw [rst, b2], b3, fun a c d => by rw [b4 a c d, a4 a c d]⟩
        simp only [f_X10_dryIn_L59, e5, if_false, c_stm hC, hy_cts, c_hb, c_wpb, e6, hy_lt', hy_add1]
        exact b1
theorem dryN (k41 : Int32 → hz_M → hz_O) (k57 : hz_M → hz_O) {t : Nat} : ∀ (k i f : Nat) (M Mw : hz_M), hy_W Mw (M 179) → t < tz (M 179) → (M 179) (153 + 2 * t + 1) = -1 → ¬ (M 179) (153 + 2 * t) = 0 → i + k = 201 → k < f →
    ∃ M' Mw', f_X11_dryIn_L25 k41 k57 f (nI t) (nI i) M = k57 M' ∧ hy_W Mw' (M' 179) ∧ ∀ a, a ≠ 179 → a ≠ 185 → M' a = M a
  | 0, i, f, M, Mw, W, ht, h2, h3, hi, hf => by
    obtain ⟨f, rfl⟩ : ∃ e, f = e + 1 := ⟨f - 1, by omega⟩
    have e : 200 < nI i := by rw [show (200 : Int32) = nI 200 from rfl, hy_lt (by omega) (by omega)]; omega
    refine ⟨M, Mw, ?_, W, fun _ _ _ => rfl⟩
    simp only [f_X11_dryIn_L25, e, if_true]
  | k + 1, i, f, M, Mw, W, ht, h2, h3, hi, hf => by
    obtain ⟨f, rfl⟩ : ∃ e, f = e + 1 := ⟨f - 1, by omega⟩
    have e : ¬ 200 < nI i := by rw [show (200 : Int32) = nI 200 from rfl, hy_lt (by omega) (by omega)]; omega
    have z2 := W.1.1.1.2
    have z10 := W.1.1.2.2.2.1.2
    have z8 := W.1.1.2.2.1.2.2
    obtain ⟨Mw1, _, _, W1⟩ := c_min (fun _ _ => none) 0 (f := 0) (n := 1) (i := 0) W (by omega) (by omega)
    obtain ⟨M1, a1, a2, a3, a4⟩ := r_min W rfl
    obtain ⟨w, hw, ew⟩ := W.2.1.2.2.2.2.2.2.1 t ht
    have p1 := qt_c (q := M 179) (t := t) (c := 1) (by omega)
    have p0 := qt_c (q := M 179) (t := t) (c := 0) (by omega)
    rw [Nat.add_zero] at p0
    have nw : ¬ minute (M 179) (153 + 2 * t) = 0 := by
      have e1 := minute_t (q := M 179) (t := t) (c := 0) (by omega) z2 (by omega)
      rw [Nat.add_zero] at e1
      rw [e1]
      unfold tow
      rw [p1, h2, if_pos rfl]
      split
      · rw [p0]; exact h3
      · split
        · rw [p0]; exact h3
        · split
          · rw [p0]; exact h3
          · rw [hy_so _ _ (by omega), hy_ss, p0, ew, hy_add1, hy_0, hy_eq (by omega) (by omega)]; omega
    have np : minute (M 179) (153 + 2 * t + 1) = -1 := by
      rw [minute_t (by omega) z2 (by omega), tow_o (by omega) (by omega), qt_c (by omega)]; exact h2
    obtain ⟨M', Mw', b1, b2, b3⟩ := dryN k41 k57 (t := t) k (i + 1) f M1 Mw1 (by rw [a2]; exact W1) (by rw [a2, show tz (minute (M 179)) = tz (M 179) from tz_cg (minute_o (by omega) (by omega) (by omega) (by omega) (by omega) (by omega) (by omega) (by omega) (by omega))]; exact ht) (by rw [a2]; exact np) (by rw [a2]; exact nw) (by omega) (by omega)
    refine ⟨M', Mw', ?_, b2, fun a c d => by rw [b3 a c d, a4 a c d]⟩
    simp (disch := omega) only [f_X11_dryIn_L25, e, if_false, r_ofT0, hy_cts, h3, a1, hy_lt', hy_add1, b1]
theorem g_22 {M : hz_M} (I : Inv M) (a : Int32) : ∃ M', fs_22 a M = some (0, M') ∧ Inv M' := by
  have hC := I_C I
  have hQ := I_Q I
  have hq := fun r => q_1 M r 0
  have hq2 := q_2 M 0
  have hC0 := hC
  obtain ⟨hZ, ⟨b3, b4, b5, b6, b7, b8, bag, bnm⟩, hRR⟩ := hC
  have hZ0 := hZ
  obtain ⟨⟨s1, s2, s3, s4, s5, s6⟩, ra, ro, rp, rl, rt, rs, rw', rd, rwt, rpg, rk, rh, rtw⟩ := c_rows hRR
  obtain ⟨⟨z1, z2⟩, ⟨z3, z4, z5⟩, ⟨z6, z7, z8⟩, ⟨z9, z10⟩, ⟨z11, z12, z13⟩, ⟨z14, z15, z16⟩⟩ := hZ
  rw [z1] at b3; rw [z3] at b4; rw [z6] at b5; rw [z9] at b6; rw [z11] at b7; rw [z14] at b8
  show ∃ M', hy_go (f_X10_dryIn a M) (fx_X10_dryIn a M) (f_X11_dryIn a) = some (0, M') ∧ Inv M'
  rcases hy_two a (n := tz (M 179)) (by omega) with h | ⟨t, ht, rfl⟩
  · refine g_no (r := 0) I ?_ ?_ ?_
    · simp only [f_X10_dryIn, c_isTowelO hC0 h, hy_cts, hy_ctn, hy_xts, hy_xtn, c_need0, c_need1, x_need0, x_need1, hy_jn, hy_lm, hy_lt', hy_gt, if_true, if_false, hy_f10]
    · simp only [fx_X10_dryIn, c_isTowelO hC0 h, hy_cts, hy_ctn, hy_xts, hy_xtn, c_need0, c_need1, x_need0, x_need1, hy_jn, hy_lm, hy_lt', hy_gt, if_true, if_false, hy_f10]
    · simp only [f_X11_dryIn, r_isTowelO hq2 hZ0 h, r_right0, hy_cts, hy_ctn, hy_xts, hy_xtn, c_need0, c_need1, x_need0, x_need1, hy_jn, hy_lm, hy_lt', hy_gt, if_true, if_false, hy_f10]
  have r20 := rwt t ht
  have r21 := rpg t ht
  -- the end of each simulation
  have fin : ∀ (r : Int32), (f_X10_dryIn (nI t) M = some (r, M)) → (∀ X1 : hz_M, X1 179 = M 179 → ∃ M' Mw', f_X11_dryIn_L25 (fun (v2_21 : Int32) (M22 : hz_M) => hz_ct (f_X11_back v2_21 M22) fun r23 M24 => some (r23, M24)) (fun (M16 : hz_M) => hz_ct (f_X11_back (-1 : Int32) M16) fun r17 M18 => some (r17, M18)) hz_FU (nI t) (nI 0) X1 = (if r = -1 then (fun (M16 : hz_M) => hz_ct (f_X11_back (-1 : Int32) M16) fun r17 M18 => some (r17, M18)) M' else (fun (v2_21 : Int32) (M22 : hz_M) => hz_ct (f_X11_back v2_21 M22) fun r23 M24 => some (r23, M24)) r M') ∧ hy_W Mw' (M' 179) ∧ ∀ a, a ≠ 179 → a ≠ 185 → M' a = X1 a) → ∃ M', hy_go (f_X10_dryIn (nI t) M) (fx_X10_dryIn (nI t) M) (f_X11_dryIn (nI t)) = some (0, M') ∧ Inv M' := by
    intro r hr step
    refine g_sim (r := r) I hr (fun Y hY => ?_)
    have h0 : hz_set Y 178 8 0 179 = M 179 := by rw [hy_seto _ _ _ (by omega)]; exact hY
    obtain ⟨X1, t1, t2, t3⟩ := r_tries (hz_set Y 178 8 0)
    obtain ⟨X2, Mw2, b1, b5, b3⟩ := step X1 (by rw [t3 179 (by omega), h0])
    obtain ⟨c1, c2, c3, c4⟩ := r_sim (X := hz_set Y 178 8 0) r h0 (I_W I).2.2 t2 t3 b3 b5.2.2 (hy_setk _ _ _ _)
    refine ⟨_, ?_, c2, fun b hb => by rw [c3 b, hy_setn _ _ _ hb], fun a a1 a2 a3 => by rw [c4 a a1 a2 a3, hy_seto _ _ _ a1]⟩
    simp (disch := omega) only [f_X11_dryIn, r_isTowel h0 hZ0 ht, r_right1, t1, hy_cts, hy_ctn, hy_xts, hy_xtn, c_need0, c_need1, x_need0, x_need1, hy_jn, hy_lm, hy_lt', hy_gt, if_true, if_false, hy_f10]
    refine Eq.trans b1 ?_
    by_cases e : r = -1
    · rw [if_pos e, ← e]; simp only [c1, hy_cts]
    · rw [if_neg e]; simp only [c1, hy_cts]
  by_cases w0 : M 179 (153 + 2 * t) = 0
  · refine fin 0 ?_ (fun X1 hX => ⟨X1, M, ?_, by rw [hX]; exact I_W I, fun _ _ _ => rfl⟩)
    · simp (disch := omega) only [f_X10_dryIn, c_isTowel hC0 ht, hy_in, hy_gt, hy_c, r20, w0, hy_cts, hy_ctn, hy_xts, hy_xtn, c_need0, c_need1, x_need0, x_need1, hy_jn, hy_lm, hy_lt', hy_gt, if_true, if_false, hy_f10]
    · obtain ⟨m, hm⟩ := hy_FUs
      have e : ¬ 200 < nI 0 := by decide
      rw [hm]
      simp (disch := omega) only [f_X11_dryIn_L25, e, if_false, r_ofT0, hX, hy_cts, w0, if_true, hy_f01]
      rfl
  · by_cases p0 : M 179 (153 + 2 * t + 1) = -1
    · refine fin (-1) ?_ (fun X1 hX => ?_)
      · simp (disch := omega) only [f_X10_dryIn, c_isTowel hC0 ht, hy_in, hy_gt, hy_c, r20, w0, r21, p0, c_isPegN (M := M) (-1) (by decide), hy_cts, hy_ctn, hy_xts, hy_xtn, c_need0, c_need1, x_need0, x_need1, hy_jn, hy_lm, hy_lt', hy_gt, if_true, if_false, hy_f10]
      · obtain ⟨M', Mw', b1, b2, b3⟩ := dryN (fun (v2_21 : Int32) (M22 : hz_M) => hz_ct (f_X11_back v2_21 M22) fun r23 M24 => some (r23, M24)) (fun (M16 : hz_M) => hz_ct (f_X11_back (-1 : Int32) M16) fun r17 M18 => some (r17, M18)) (t := t) 201 0 hz_FU X1 M (by rw [hX]; exact I_W I) (by rw [hX]; exact ht) (by rw [hX]; exact p0) (by rw [hX]; exact w0) (by omega) (hy_FU (by omega))
        exact ⟨M', Mw', by rw [b1, if_pos rfl], b2, b3⟩
    · obtain ⟨p, hp, ep⟩ : ∃ k, k < pz (M 179) ∧ M 179 (153 + 2 * t + 1) = nI k := by
        rcases hQ.2.2.2.2.2.2.2.1 t ht with e | e
        · exact absurd e p0
        · exact e
      have step : ∀ X1 : hz_M, X1 179 = M 179 → ∃ r M' Mw', f_X10_dryIn_L59 hz_FU (M 179 (153 + 2 * t)) (M 179 9) (nI (0 + 1)) M = some (r, M) ∧ f_X11_dryIn_L25 (fun (v2_21 : Int32) (M22 : hz_M) => hz_ct (f_X11_back v2_21 M22) fun r23 M24 => some (r23, M24)) (fun (M16 : hz_M) => hz_ct (f_X11_back (-1 : Int32) M16) fun r17 M18 => some (r17, M18)) hz_FU (nI t) (nI 0) X1 = (if r = -1 then (fun (M16 : hz_M) => hz_ct (f_X11_back (-1 : Int32) M16) fun r17 M18 => some (r17, M18)) M' else (fun (v2_21 : Int32) (M22 : hz_M) => hz_ct (f_X11_back v2_21 M22) fun r23 M24 => some (r23, M24)) r M') ∧ hy_W Mw' (M' 179) ∧ ∀ a, a ≠ 179 → a ≠ 185 → M' a = X1 a := by
        intro X1 hX1
        have := dryL hC0 ht (fun (v2_21 : Int32) (M22 : hz_M) => hz_ct (f_X11_back v2_21 M22) fun r23 M24 => some (r23, M24)) (fun (M16 : hz_M) => hz_ct (f_X11_back (-1 : Int32) M16) fun r17 M18 => some (r17, M18)) 200 0 hz_FU hz_FU X1 M (by rw [hX1]; exact I_W I) (by rw [hX1]) (by rw [hX1]; exact p0) (by rw [hX1]) (by omega) (hy_FU (by omega)) (hy_FU (by omega)) (M 179 (153 + 2 * t)) (by rw [hX1]) w0
        rw [hX1] at this
        exact this
      obtain ⟨r, _, _, hr, _, _, _⟩ := step M rfl
      refine fin r ?_ (fun X1 hX => ?_)
      · simp (disch := omega) only [f_X10_dryIn, c_isTowel hC0 ht, hy_in, hy_gt, hy_c, r20, w0, r21, ep, c_isPeg hC0 hp, s2, hy_cts, hy_ctn, hy_xts, hy_xtn, c_need0, c_need1, x_need0, x_need1, hy_jn, hy_lm, hy_lt', hy_gt, if_true, if_false, hy_f10]
        exact hr
      · obtain ⟨r', M', Mw', b0, b1, b2, b3⟩ := step X1 hX
        have er : r' = r := hy_inj2 hr b0
        subst er
        exact ⟨M', Mw', b1, b2, b3⟩

