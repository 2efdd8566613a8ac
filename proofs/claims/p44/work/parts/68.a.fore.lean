/-! WHAT WILL BE: the class's answers out of the minutes of a state -/
def fDn (g : Nat) : Nat → Nat → (Nat → Int32) → Int32
  | 0, _, _ => -1
  | k + 1, i, q => if gdn (qg q g) g = true then nI (i + 1) else fDn g k (i + 1) (minute q)
def fDry (t : Nat) : Nat → Nat → (Nat → Int32) → Int32
  | 0, _, _ => -1
  | k + 1, i, q => if q (153 + 2 * t) = 0 then nI i else fDry t k (i + 1) (minute q)
def silv (q : Nat → Int32) : Int32 := if q 10 = -1 then 0 else if q 10 + q 7 ≤ q 8 then 0 else 1
def fSil : Nat → Nat → (Nat → Int32) → Int32
  | 0, _, _ => -1
  | k + 1, i, q => if silv q = 0 then fSil k (i + 1) (minute q) else nI i
theorem downC {Mc : hz_M} {q0 : Nat → Int32} (hC : hy_C Mc q0) {g p : Nat} (hg : g < gz q0) (hp1 : 1 ≤ p) (hp6 : p ≤ 6) : ∀ (k i f : Nat) (q : Nat → Int32) (Mw : hz_M), hy_W Mw q → gz q = gz q0 → q (25 + 8 * g + 2) = nI p → q (25 + 8 * g + 1) = q0 (25 + 8 * g + 1) → stm q = stm q0 → i + k = 200 → k < f → f_X10_downIn_L56 f (nI g) (nI p) (q 9) (q (25 + 8 * g + 5)) (nI (i + 1)) Mc = some (fDn g k i q, Mc)
  | 0, i, f, q, Mw, W, h1, h2, h3, h4, hi, hf => by
    obtain ⟨f, rfl⟩ : ∃ e, f = e + 1 := ⟨f - 1, by omega⟩
    have e : 200 < nI (i + 1) := by rw [show (200 : Int32) = nI 200 from rfl, hy_lt (by omega) (by omega)]; omega
    simp only [f_X10_downIn_L56, e, if_true, fDn]
  | k + 1, i, f, q, Mw, W, h1, h2, h3, h4, hi, hf => by
    obtain ⟨f, rfl⟩ : ∃ e, f = e + 1 := ⟨f - 1, by omega⟩
    have e : ¬ 200 < nI (i + 1) := by rw [show (200 : Int32) = nI 200 from rfl, hy_lt (by omega) (by omega)]; omega
    have z2 := W.1.1.1.2
    have z13 := W.1.1.2.2.2.2.1.2.2
    have bag := hC.2.1.2.2.2.2.2.2.1 g hg
    obtain ⟨Mw1, W1⟩ := W_minute W
    have hsb := sbh_v (q := q) (g := g) (by omega) z13
    rw [h2, h3, h4] at hsb
    have hs : f_X7_strainBehind (q (25 + 8 * g + 5)) (nxt (q 9) (stm q0) + 6 * nI p - (60 + q0 (25 + 8 * g + 1) / 4)) Mc = some (sbh (qg q g) g, Mc) := by rw [c_sb, hsb]; rfl
    have cst : f_X10_downIn_L56 (f + 1) (nI g) (nI p) (q 9) (q (25 + 8 * g + 5)) (nI (i + 1)) Mc = if sbh (qg q g) g < 10 then f_X10_downIn_L56 f (nI g) (nI p) (nxt (q 9) (stm q0)) (sbh (qg q g) g) (nI (i + 1 + 1)) Mc else some (nI (i + 1), Mc) := by
      simp (disch := omega) only [f_X10_downIn_L56, e, if_false, c_stm hC, hy_cts, c_hb, f_X3_bears, hy_in, hy_gt, hy_c, bag, hs, hy_lt', hy_add1]
    have at' : qg q g (25 + 8 * g + 2) = nI p := by rw [qg_c (by omega) (by omega)]; exact h2
    have pos : 0 < nI p := by rw [hy_0, hy_lt (by omega) (by omega)]; omega
    have np1 : ¬ nI p = -1 := by rw [hy_n1 (by omega)]; exact not_false
    have np0 : ¬ nI p = 0 := by rw [hy_0, hy_eq (by omega) (by omega)]; omega
    have gd : gdn (qg q g) g = decide (10 ≤ sbh (qg q g) g) := by
      unfold gdn
      rw [at']
      simp only [pos, true_and]
    rw [cst]
    unfold fDn
    rw [gd]
    by_cases e3 : 10 ≤ sbh (qg q g) g
    · have e4 : ¬ sbh (qg q g) g < 10 := by grind
      rw [if_neg e4, if_pos (decide_eq_true e3)]
    · have e4 : sbh (qg q g) g < 10 := by grind
      rw [if_pos e4, if_neg (by rw [decide_eq_false e3]; decide)]
      have gs : ∀ c, c < 8 → minute q (25 + 8 * g + c) = hy_st (qg q g) (25 + 8 * g + 5) (sbh (qg q g) g) (25 + 8 * g + c) := by
        intro c hc
        rw [minute_g (by omega) z2 hc]
        unfold gst
        rw [at', if_neg np1, if_neg np0, if_neg e3]
      have n5 : minute q (25 + 8 * g + 5) = sbh (qg q g) g := by rw [gs 5 (by omega), hy_ss]
      have n2 : minute q (25 + 8 * g + 2) = nI p := by rw [gs 2 (by omega), hy_so _ _ (by omega)]; exact at'
      have n1 : minute q (25 + 8 * g + 1) = q0 (25 + 8 * g + 1) := by rw [gs 1 (by omega), hy_so _ _ (by omega), qg_c (by omega) (by omega)]; exact h3
      have b1 := downC hC hg hp1 hp6 k (i + 1) f (minute q) Mw1 W1 (by rw [minute_gz]; exact h1) n2 n1 (by rw [stm_minute z13]; exact h4) (by omega) (by omega)
      rw [minute_9 z13, h4, n5] at b1
      exact b1
theorem wet_min {q : Nat → Int32} {Mw : hz_M} (W : hy_W Mw q) {t : Nat} (ht : t < tz q) (h2 : q (153 + 2 * t + 1) ≠ -1) : minute q (153 + 2 * t) = wpb (nxt (q 9) (stm q)) (q (153 + 2 * t)) := by
  have z2 := W.1.1.1.2
  have z13 := W.1.1.2.2.2.2.1.2.2
  have e1 := minute_t (q := q) (t := t) (c := 0) (by omega) z2 (by omega)
  rw [Nat.add_zero] at e1
  rw [e1]
  have p1 := qt_c (q := q) (t := t) (c := 1) (by omega)
  have p0 := qt_c (q := q) (t := t) (c := 0) (by omega)
  rw [Nat.add_zero] at p0
  unfold tow wpb
  rw [qt_hld z2, no_hld W.1.1 W.2.1 (by omega) h2, if_pos rfl, p1, if_neg h2, qt_9 z13, p0]
  split
  · exact p0
  · rw [hy_ss]
theorem tz_min {q : Nat → Int32} : tz (minute q) = tz q := tz_cg (minute_o (by omega) (by omega) (by omega) (by omega) (by omega) (by omega) (by omega) (by omega) (by omega))
theorem peg_min {q : Nat → Int32} (z2 : gz q ≤ 16) {t : Nat} (ht : t < tz q) : minute q (153 + 2 * t + 1) = q (153 + 2 * t + 1) := by
  rw [minute_t (by omega) z2 (by omega), tow_o (by omega) (by omega), qt_c (by omega)]
theorem dryC {Mc : hz_M} {q0 : Nat → Int32} (hC : hy_C Mc q0) {t : Nat} (ht : t < tz q0) : ∀ (k i f : Nat) (q : Nat → Int32) (Mw : hz_M), hy_W Mw q → tz q = tz q0 → q (153 + 2 * t + 1) ≠ -1 → stm q = stm q0 → i + k = 200 → k < f → f_X10_dryIn_L59 f (q (153 + 2 * t)) (q 9) (nI (i + 1)) Mc = some (fDry t k (i + 1) (minute q), Mc)
  | 0, i, f, q, Mw, W, h1, h2, h4, hi, hf => by
    obtain ⟨f, rfl⟩ : ∃ e, f = e + 1 := ⟨f - 1, by omega⟩
    have e : 200 < nI (i + 1) := by rw [show (200 : Int32) = nI 200 from rfl, hy_lt (by omega) (by omega)]; omega
    simp only [f_X10_dryIn_L59, e, if_true, fDry]
  | k + 1, i, f, q, Mw, W, h1, h2, h4, hi, hf => by
    obtain ⟨f, rfl⟩ : ∃ e, f = e + 1 := ⟨f - 1, by omega⟩
    have e : ¬ 200 < nI (i + 1) := by rw [show (200 : Int32) = nI 200 from rfl, hy_lt (by omega) (by omega)]; omega
    have z2 := W.1.1.1.2
    have z13 := W.1.1.2.2.2.2.1.2.2
    obtain ⟨Mw1, W1⟩ := W_minute W
    have nw := wet_min W (t := t) (by omega) h2
    have np := peg_min z2 (t := t) (by omega)
    rw [h4] at nw
    unfold fDry
    rw [nw]
    by_cases e6 : wpb (nxt (q 9) (stm q0)) (q (153 + 2 * t)) = 0
    · rw [if_pos e6]
      simp only [f_X10_dryIn_L59, e, if_false, c_stm hC, hy_cts, c_hb, c_wpb, e6, if_true]
    · rw [if_neg e6]
      have b1 := dryC hC ht k (i + 1) f (minute q) Mw1 W1 (by rw [tz_min]; exact h1) (by rw [np]; exact h2) (by rw [stm_minute z13]; exact h4) (by omega) (by omega)
      rw [nw, minute_9 z13, h4] at b1
      simp only [f_X10_dryIn_L59, e, if_false, c_stm hC, hy_cts, c_hb, c_wpb, e6, hy_lt', hy_add1]
      exact b1
theorem dryNo {t : Nat} : ∀ (k i : Nat) (q : Nat → Int32) (Mw : hz_M), hy_W Mw q → t < tz q → q (153 + 2 * t + 1) = -1 → ¬ q (153 + 2 * t) = 0 → fDry t k i q = -1
  | 0, _, _, _, _, _, _, _ => rfl
  | k + 1, i, q, Mw, W, ht, h2, h3 => by
    have z2 := W.1.1.1.2
    have z10 := W.1.1.2.2.2.1.2
    have z8 := W.1.1.2.2.1.2.2
    obtain ⟨Mw1, W1⟩ := W_minute W
    obtain ⟨w, hw, ew⟩ := W.2.1.2.2.2.2.2.2.1 t ht
    have p1 := qt_c (q := q) (t := t) (c := 1) (by omega)
    have p0 := qt_c (q := q) (t := t) (c := 0) (by omega)
    rw [Nat.add_zero] at p0
    have nw : ¬ minute q (153 + 2 * t) = 0 := by
      have e1 := minute_t (q := q) (t := t) (c := 0) (by omega) z2 (by omega)
      rw [Nat.add_zero] at e1
      rw [e1]
      unfold tow
      rw [p1, h2, if_pos rfl]
      split
      · rw [p0]; exact h3
      · split
        · rw [p0]; exact h3
        · split
          · rw [p0]; exact h3
          · rw [hy_so _ _ (by omega), hy_ss, p0, ew, hy_add1, hy_0, hy_eq (by omega) (by omega)]; omega
    have np := peg_min z2 (t := t) (by omega)
    unfold fDry
    rw [if_neg h3]
    exact dryNo k (i + 1) (minute q) Mw1 W1 (by rw [tz_min]; exact ht) (by rw [np]; exact h2) nw
theorem silYes {g u : Nat} (hu : 1 ≤ u) : ∀ (d i k a : Nat) (q : Nat → Int32) (Mw : hz_M), hy_W Mw q → NS q a g u → a % g + (d + 1) = g → d + 2 ≤ k → a + d ≤ 15000 → fSil k i q = nI (i + (d + 1))
  | d, i, k, a, q, Mw, W, ns, hd, hk, ha => by
    obtain ⟨k, rfl⟩ : ∃ e, k = e + 1 + 1 := ⟨k - 2, by omega⟩
    have z2 := W.1.1.1.2
    have ns0 : silv q = 0 := NS_0 ns
    obtain ⟨h1, h2, h3, h4, h5, h6, h7, h8⟩ := ns
    obtain ⟨Mw1, W1⟩ := W_minute W
    have t1 : minute q 8 = nI (a + 1) := by rw [minute_8 z2, h5, hy_add1]
    have g1 : minute q 6 = nI g := by rw [minute_o (by omega) (by omega) (by omega) (by omega) (by omega) (by omega) (by omega) (by omega) (by omega)]; exact h6
    have u1 : minute q 7 = nI u := by rw [minute_o (by omega) (by omega) (by omega) (by omega) (by omega) (by omega) (by omega) (by omega) (by omega)]; exact h7
    have s1 := min_gong z2 h1 h2 h3 h5 h6
    unfold fSil
    rw [if_pos ns0]
    match d, hd, hk, ha with
    | 0, hd, hk, ha =>
      rw [if_pos (mod_top (by omega))] at s1
      have sl : ¬ silv (minute q) = 0 := by
        unfold silv
        rw [s1, u1, t1, if_neg (by rw [hy_n1 (by omega)]; exact not_false), if_neg (by rw [hy_add, hy_le (by omega) (by omega)]; omega)]
        decide
      unfold fSil
      rw [if_neg sl]
    | d + 1, hd, hk, ha =>
      have up := mod_up (a := a) (g := g) (by omega)
      rw [if_neg (by omega)] at s1
      have ns1 : NS (minute q) (a + 1) g u := by
        refine ⟨by omega, h2, h3, h4, t1, g1, u1, ?_⟩
        rw [s1]
        rcases h8 with h8 | ⟨j, hj, h8⟩
        · exact Or.inl h8
        · exact Or.inr ⟨j, by omega, h8⟩
      rw [silYes hu d (i + 1) (k + 1) (a + 1) (minute q) Mw1 W1 ns1 (by omega) (by omega) (by omega)]
      congr 1
      omega
theorem silNo {g : Nat} : ∀ (k i a : Nat) (q : Nat → Int32) (Mw : hz_M), hy_W Mw q → NS q a g 0 → a + k ≤ 15000 → fSil k i q = -1
  | 0, _, _, _, _, _, _, _ => rfl
  | k + 1, i, a, q, Mw, W, ns, ha => by
    have z2 := W.1.1.1.2
    have ns0 : silv q = 0 := NS_0 ns
    obtain ⟨h1, h2, h3, h4, h5, h6, h7, h8⟩ := ns
    obtain ⟨Mw1, W1⟩ := W_minute W
    have s1 := min_gong z2 h1 h2 h3 h5 h6
    have ns1 : NS (minute q) (a + 1) g 0 := by
      refine ⟨by omega, h2, h3, h4, by rw [minute_8 z2, h5, hy_add1], by rw [minute_o (by omega) (by omega) (by omega) (by omega) (by omega) (by omega) (by omega) (by omega) (by omega)]; exact h6, by rw [minute_o (by omega) (by omega) (by omega) (by omega) (by omega) (by omega) (by omega) (by omega) (by omega)]; exact h7, ?_⟩
      rw [s1]
      split
      · exact Or.inr ⟨a + 1, by omega, rfl⟩
      · rcases h8 with h8 | ⟨j, hj, h8⟩
        · exact Or.inl h8
        · exact Or.inr ⟨j, by omega, h8⟩
    unfold fSil
    rw [if_pos ns0]
    exact silNo k (i + 1) (a + 1) (minute q) Mw1 W1 ns1 (by omega)
theorem fDry_s (t k i : Nat) (q : Nat → Int32) : fDry t (k + 1) i q = if q (153 + 2 * t) = 0 then nI i else fDry t k (i + 1) (minute q) := rfl
theorem fSil_s (k i : Nat) (q : Nat → Int32) : fSil (k + 1) i q = if silv q = 0 then fSil k (i + 1) (minute q) else nI i := rfl
theorem fDn_s (g k i : Nat) (q : Nat → Int32) : fDn g (k + 1) i q = if gdn (qg q g) g = true then nI (i + 1) else fDn g k (i + 1) (minute q) := rfl
theorem cq_heatIn {M : hz_M} {q : Nat → Int32} (W : hy_W M q) {n : Nat} (hn : n ≤ 200) : f_X10_heatIn (nI n) M = some (minN n q 9, M) := by
  have hC := W.1
  have z13 := hC.1.2.2.2.2.1.2.2
  have s2 := (c_rows hC.2.2).1.2.1
  have e := c_heatL hC n 0 hz_FU n (q 9) (by omega) (by omega) (hy_FU (by omega))
  have e1 : ¬ nI n < 0 := by rw [hy_0, hy_lt (by omega) (by omega)]; omega
  have e2 : ¬ 200 < nI n := by rw [show (200 : Int32) = nI 200 from rfl, hy_lt (by omega) (by omega)]; omega
  rw [minN_9 n q z13]
  simp only [f_X10_heatIn, e1, e2, s2, hy_cts, c_need1, hy_jn, hy_lm, hy_lt', hy_gt, if_true, if_false, hy_f10]
  exact e
theorem cq_downIn {M : hz_M} {q : Nat → Int32} (W : hy_W M q) {g : Nat} (hg : g < gz q) : f_X10_downIn (nI g) M = some (if q (25 + 8 * g + 2) ≤ 0 then 0 else fDn g 200 0 q, M) := by
  have hC0 := W.1
  obtain ⟨⟨s1, s2, s3, s4, s5, s6⟩, ra, ro, rp, rl, rt, rs, rw', rd, rwt, rpg, rk, rh, rtw⟩ := c_rows W.1.2.2
  obtain ⟨⟨z1, z2⟩, ⟨z3, z4, z5⟩, ⟨z6, z7, z8⟩, ⟨z9, z10⟩, ⟨z11, z12, z13⟩, ⟨z14, z15, z16⟩⟩ := W.1.1
  have hat := W.2.1.2.1 g hg
  have r13 := rp g hg
  have r16 := rs g hg
  by_cases e0 : q (25 + 8 * g + 2) ≤ 0
  · rw [if_pos e0]
    have e1 : q (25 + 8 * g + 2) < 1 := by grind
    simp (disch := omega) only [f_X10_downIn, c_isGuest hC0 hg, hy_in, hy_gt, hy_c, r13, c_isStepN hC0 (Or.inl e1), hy_cts, c_need1, hy_jn, hy_lm, hy_lt', hy_gt, if_true, if_false, hy_f10]
  · rw [if_neg e0]
    obtain ⟨p, hp, ep⟩ : ∃ k, k ≤ sz q ∧ q (25 + 8 * g + 2) = nI k := by
      rcases hat with e | e
      · rw [e] at e0; exact absurd (show (-1 : Int32) ≤ 0 by decide) e0
      · exact e
    have hp1 : 1 ≤ p := by
      refine Nat.pos_of_ne_zero (fun e => e0 ?_)
      rw [ep, e]
      decide
    have b := downC hC0 hg hp1 (by omega) 200 0 hz_FU q M W rfl ep rfl rfl (by omega) (hy_FU (by omega))
    simp (disch := omega) only [f_X10_downIn, c_isGuest hC0 hg, hy_in, hy_gt, hy_c, r13, ep, c_isStep hC0 hp1 hp, s2, r16, hy_cts, c_need1, hy_jn, hy_lm, hy_lt', hy_gt, if_true, if_false, hy_f10]
    exact b
theorem cq_dryIn {M : hz_M} {q : Nat → Int32} (W : hy_W M q) {t : Nat} (ht : t < tz q) : f_X10_dryIn (nI t) M = some (fDry t 201 0 q, M) := by
  have hC0 := W.1
  obtain ⟨⟨s1, s2, s3, s4, s5, s6⟩, ra, ro, rp, rl, rt, rs, rw', rd, rwt, rpg, rk, rh, rtw⟩ := c_rows W.1.2.2
  obtain ⟨⟨z1, z2⟩, ⟨z3, z4, z5⟩, ⟨z6, z7, z8⟩, ⟨z9, z10⟩, ⟨z11, z12, z13⟩, ⟨z14, z15, z16⟩⟩ := W.1.1
  have r20 := rwt t ht
  have r21 := rpg t ht
  have es : fDry t 201 0 q = if q (153 + 2 * t) = 0 then nI 0 else fDry t 200 (0 + 1) (minute q) := fDry_s t 200 0 q
  rw [es]
  by_cases e0 : q (153 + 2 * t) = 0
  · rw [if_pos e0]
    simp (disch := omega) only [f_X10_dryIn, c_isTowel hC0 ht, hy_in, hy_gt, hy_c, r20, e0, hy_cts, c_need1, hy_jn, hy_lm, hy_lt', hy_gt, if_true, if_false, hy_f10]
    rfl
  · by_cases e1 : q (153 + 2 * t + 1) = -1
    · have d := dryNo 201 0 q M W ht e1 e0
      rw [es] at d
      rw [d]
      simp (disch := omega) only [f_X10_dryIn, c_isTowel hC0 ht, hy_in, hy_gt, hy_c, r20, e0, r21, e1, c_isPegN (M := M) (-1) (by decide), hy_cts, c_need1, hy_jn, hy_lm, hy_lt', hy_gt, if_true, if_false, hy_f10]
    · rw [if_neg e0]
      obtain ⟨p, hp, ep⟩ : ∃ p, p < pz q ∧ q (153 + 2 * t + 1) = nI p := by
        obtain ⟨qa, qat, ql, qh, qs, qw, qwt, qpg, jl, jh, jp, qo, qol, qhp, qht, qrm, qgn, qqt, qop⟩ := W.2.1
        rcases qpg t ht with e | e
        · exact absurd e e1
        · exact e
      have d := dryC hC0 ht 200 0 hz_FU q M W rfl e1 rfl (by omega) (hy_FU (by omega))
      simp (disch := omega) only [f_X10_dryIn, c_isTowel hC0 ht, hy_in, hy_gt, hy_c, r20, e0, r21, ep, c_isPeg hC0 hp, s2, hy_cts, c_need1, hy_jn, hy_lm, hy_lt', hy_gt, if_true, if_false, hy_f10]
      exact d
theorem cq_silenceIn {M : hz_M} {q : Nat → Int32} (W : hy_W M q) (T : hy_T q) : f_X10_silenceIn M = some (fSil 201 0 q, M) := by
  have hC0 := W.1
  obtain ⟨⟨s1, s2, s3, s4, s5, s6⟩, ra, ro, rp, rl, rt, rs, rw', rd, rwt, rpg, rk, rh, rtw⟩ := c_rows W.1.2.2
  obtain ⟨⟨z1, z2⟩, ⟨z3, z4, z5⟩, ⟨z6, z7, z8⟩, ⟨z9, z10⟩, ⟨z11, z12, z13⟩, ⟨z14, z15, z16⟩⟩ := W.1.1
  obtain ⟨a, ha, h8, h10⟩ := T
  obtain ⟨qa, qat, ql, qh, qs, qw, qwt, qpg, jl, jh, jp, qo, qol, qhp, qht, qrm, ⟨g, hg1, hg2, h6⟩, ⟨u, hu, h7⟩, qop⟩ := W.2.1
  have sil : f_X7_isSilence M = some (silv q, M) := c_silence hC0
  have es : fSil 201 0 q = if silv q = 0 then fSil 200 (0 + 1) (minute q) else nI 0 := fSil_s 200 0 q
  by_cases sl : q 10 ≠ -1 ∧ ¬ q 10 + q 7 ≤ q 8
  · have e1 : silv q = 1 := by
      unfold silv
      rw [if_neg sl.1, if_neg sl.2]
    rw [e1] at sil
    rw [es, e1, if_neg (by decide)]
    simp only [f_X10_silenceIn, sil, hy_cts, c_need1, hy_jn, hy_lm, hy_lt', hy_gt, if_true, if_false, hy_f10]
    rfl
  · have ns : NS q a g u := by
      refine ⟨by omega, hg1, hg2, hu, h8, h6, h7, ?_⟩
      rcases h10 with h | ⟨j, hj, h⟩
      · exact Or.inl h
      · refine Or.inr ⟨j, ?_, h⟩
        rcases Nat.lt_or_ge a (j + u) with h' | h'
        · exfalso; apply sl
          refine ⟨by rw [h, ne_eq, hy_n1 (by omega)]; exact not_false, ?_⟩
          rw [h, h7, h8, hy_add, hy_le (by omega) (by omega)]; omega
        · exact h'
    have e1 : silv q = 0 := NS_0 ns
    rw [e1] at sil
    by_cases u0 : u = 0
    · subst u0
      have e : q 7 ≤ 0 := by rw [h7]; decide
      rw [silNo 201 0 a q M W ns (by omega)]
      simp only [f_X10_silenceIn, sil, s6, e, hy_cts, c_need1, hy_jn, hy_lm, hy_lt', hy_gt, if_true, if_false, hy_f10]
    · have hm : a % g < g := Nat.mod_lt _ (by omega)
      obtain ⟨d, hd⟩ : ∃ d, a % g + (d + 1) = g := ⟨g - a % g - 1, by omega⟩
      rw [silYes (by omega) d 0 201 a q M W ns hd (by omega) (by omega)]
      have e : ¬ q 7 ≤ 0 := by rw [h7, hy_0, hy_le (by omega) (by omega)]; omega
      have e2 : ¬ q 6 ≤ 0 := by rw [h6, hy_0, hy_le (by omega) (by omega)]; omega
      have e3 : hz_nz (q 6) = true := by rw [h6]; exact nz_nI (by omega) (by omega)
      have e4 : q 6 - (q 8 - q 8 / q 6 * q 6) = nI (0 + (d + 1)) := by
        rw [h6, h8, hy_mod (by omega) (by omega) (by omega), hy_sub (by omega)]; congr 1; omega
      simp only [f_X10_silenceIn, sil, s6, e, f_X7_minutesToGong, s5, e2, e3, s1, e4, hy_cts, c_need1, hy_jn, hy_lm, hy_lt', hy_gt, if_true, if_false, hy_f10]
theorem cq_ifValve {M : hz_M} {q : Nat → Int32} (W : hy_W M q) {k : Nat} (hk : k ≤ 9) : f_X10_ifValve (0 : Int32) (nI k) M = some (nxt (q 9) (stm (hy_st q 21 (nI k))), M) := by
  have hC0 := W.1
  obtain ⟨⟨s1, s2, s3, s4, s5, s6⟩, ra, ro, rp, rl, rt, rs, rw', rd, rwt, rpg, rk, rh, rtw⟩ := c_rows W.1.2.2
  obtain ⟨⟨z1, z2⟩, ⟨z3, z4, z5⟩, ⟨z6, z7, z8⟩, ⟨z9, z10⟩, ⟨z11, z12, z13⟩, ⟨z14, z15, z16⟩⟩ := W.1.1
  have es : stm (hy_st q (21 + 0) (nI k)) = stm q - q (21 + 0) + nI k := by
    unfold stm
    rw [vz_st _ _ (by omega)]
    exact fold_st _ _ _ (by omega) (by omega)
  have ev : f_X3_isValve (0 : Int32) M = some (1, M) := c_isValve hC0 (t := 0) (by omega)
  have ro0 : M 12 0 = q 21 := ro 0 (by omega)
  have es' : stm (hy_st q 21 (nI k)) = stm q - q 21 + nI k := es
  rw [es']
  simp (disch := omega) only [f_X10_ifValve, ev, c_isOpen44 hk, c_stm hC0, show hz_in (0 : Int32) 4 = true from by decide, hy_gt, hy_k0, ro0, s2, c_hb, hy_cts, c_need1, hy_jn, hy_lm, hy_lt', hy_gt, if_true, if_false, hy_f10]
