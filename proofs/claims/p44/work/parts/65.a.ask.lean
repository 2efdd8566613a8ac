theorem cq_guest0 {M : hz_M} {q : Nat → Int32} (hC : hy_C M q) {g : Nat} (hg : g < gz q) : f_X10_guest (nI g) (0 : Int32) M = some (q (25 + 8 * g + 1), M) := by
  have hC0 := hC
  obtain ⟨hZ, ⟨b3, b4, b5, b6, b7, b8, bag, bnm⟩, hRR⟩ := hC
  have hZ0 := hZ
  obtain ⟨⟨s1, s2, s3, s4, s5, s6⟩, ra, ro, rp, rl, rt, rs, rw', rd, rwt, rpg, rk, rh, rtw⟩ := c_rows hRR
  obtain ⟨⟨z1, z2⟩, ⟨z3, z4, z5⟩, ⟨z6, z7, z8⟩, ⟨z9, z10⟩, ⟨z11, z12, z13⟩, ⟨z14, z15, z16⟩⟩ := hZ
  rw [z1] at b3; rw [z3] at b4; rw [z6] at b5; rw [z9] at b6; rw [z11] at b7; rw [z14] at b8
  simp (disch := omega) only [f_X10_guest, c_isGuest hC0 hg, hy_e0_1, hy_e0_2, hy_e0_3, hy_e0_4, hy_e0_5, hy_e0_6, hy_e0_7, hy_e0_8, bag g hg, rp g hg, rl g hg, rt g hg, rs g hg, rw' g hg, rd g hg, f_X3_bears, hy_in, hy_c, hy_cts, c_need1, hy_jn, hy_lm, hy_lt', hy_gt, if_true, if_false, hy_f10]
theorem cq_guest1 {M : hz_M} {q : Nat → Int32} (hC : hy_C M q) {g : Nat} (hg : g < gz q) : f_X10_guest (nI g) (1 : Int32) M = some (q (25 + 8 * g + 2), M) := by
  have hC0 := hC
  obtain ⟨hZ, ⟨b3, b4, b5, b6, b7, b8, bag, bnm⟩, hRR⟩ := hC
  have hZ0 := hZ
  obtain ⟨⟨s1, s2, s3, s4, s5, s6⟩, ra, ro, rp, rl, rt, rs, rw', rd, rwt, rpg, rk, rh, rtw⟩ := c_rows hRR
  obtain ⟨⟨z1, z2⟩, ⟨z3, z4, z5⟩, ⟨z6, z7, z8⟩, ⟨z9, z10⟩, ⟨z11, z12, z13⟩, ⟨z14, z15, z16⟩⟩ := hZ
  rw [z1] at b3; rw [z3] at b4; rw [z6] at b5; rw [z9] at b6; rw [z11] at b7; rw [z14] at b8
  simp (disch := omega) only [f_X10_guest, c_isGuest hC0 hg, hy_e1_0, hy_e1_2, hy_e1_3, hy_e1_4, hy_e1_5, hy_e1_6, hy_e1_7, hy_e1_8, bag g hg, rp g hg, rl g hg, rt g hg, rs g hg, rw' g hg, rd g hg, f_X3_bears, hy_in, hy_c, hy_cts, c_need1, hy_jn, hy_lm, hy_lt', hy_gt, if_true, if_false, hy_f10]
theorem cq_guest2 {M : hz_M} {q : Nat → Int32} (hC : hy_C M q) {g : Nat} (hg : g < gz q) : f_X10_guest (nI g) (2 : Int32) M = some (q (25 + 8 * g + 3), M) := by
  have hC0 := hC
  obtain ⟨hZ, ⟨b3, b4, b5, b6, b7, b8, bag, bnm⟩, hRR⟩ := hC
  have hZ0 := hZ
  obtain ⟨⟨s1, s2, s3, s4, s5, s6⟩, ra, ro, rp, rl, rt, rs, rw', rd, rwt, rpg, rk, rh, rtw⟩ := c_rows hRR
  obtain ⟨⟨z1, z2⟩, ⟨z3, z4, z5⟩, ⟨z6, z7, z8⟩, ⟨z9, z10⟩, ⟨z11, z12, z13⟩, ⟨z14, z15, z16⟩⟩ := hZ
  rw [z1] at b3; rw [z3] at b4; rw [z6] at b5; rw [z9] at b6; rw [z11] at b7; rw [z14] at b8
  simp (disch := omega) only [f_X10_guest, c_isGuest hC0 hg, hy_e2_0, hy_e2_1, hy_e2_3, hy_e2_4, hy_e2_5, hy_e2_6, hy_e2_7, hy_e2_8, bag g hg, rp g hg, rl g hg, rt g hg, rs g hg, rw' g hg, rd g hg, f_X3_bears, hy_in, hy_c, hy_cts, c_need1, hy_jn, hy_lm, hy_lt', hy_gt, if_true, if_false, hy_f10]
theorem cq_guest3 {M : hz_M} {q : Nat → Int32} (hC : hy_C M q) {g : Nat} (hg : g < gz q) : f_X10_guest (nI g) (3 : Int32) M = some (q (25 + 8 * g + 4), M) := by
  have hC0 := hC
  obtain ⟨hZ, ⟨b3, b4, b5, b6, b7, b8, bag, bnm⟩, hRR⟩ := hC
  have hZ0 := hZ
  obtain ⟨⟨s1, s2, s3, s4, s5, s6⟩, ra, ro, rp, rl, rt, rs, rw', rd, rwt, rpg, rk, rh, rtw⟩ := c_rows hRR
  obtain ⟨⟨z1, z2⟩, ⟨z3, z4, z5⟩, ⟨z6, z7, z8⟩, ⟨z9, z10⟩, ⟨z11, z12, z13⟩, ⟨z14, z15, z16⟩⟩ := hZ
  rw [z1] at b3; rw [z3] at b4; rw [z6] at b5; rw [z9] at b6; rw [z11] at b7; rw [z14] at b8
  simp (disch := omega) only [f_X10_guest, c_isGuest hC0 hg, hy_e3_0, hy_e3_1, hy_e3_2, hy_e3_4, hy_e3_5, hy_e3_6, hy_e3_7, hy_e3_8, bag g hg, rp g hg, rl g hg, rt g hg, rs g hg, rw' g hg, rd g hg, f_X3_bears, hy_in, hy_c, hy_cts, c_need1, hy_jn, hy_lm, hy_lt', hy_gt, if_true, if_false, hy_f10]
theorem cq_guest4 {M : hz_M} {q : Nat → Int32} (hC : hy_C M q) {g : Nat} (hg : g < gz q) : f_X10_guest (nI g) (4 : Int32) M = some (q (25 + 8 * g + 5), M) := by
  have hC0 := hC
  obtain ⟨hZ, ⟨b3, b4, b5, b6, b7, b8, bag, bnm⟩, hRR⟩ := hC
  have hZ0 := hZ
  obtain ⟨⟨s1, s2, s3, s4, s5, s6⟩, ra, ro, rp, rl, rt, rs, rw', rd, rwt, rpg, rk, rh, rtw⟩ := c_rows hRR
  obtain ⟨⟨z1, z2⟩, ⟨z3, z4, z5⟩, ⟨z6, z7, z8⟩, ⟨z9, z10⟩, ⟨z11, z12, z13⟩, ⟨z14, z15, z16⟩⟩ := hZ
  rw [z1] at b3; rw [z3] at b4; rw [z6] at b5; rw [z9] at b6; rw [z11] at b7; rw [z14] at b8
  simp (disch := omega) only [f_X10_guest, c_isGuest hC0 hg, hy_e4_0, hy_e4_1, hy_e4_2, hy_e4_3, hy_e4_5, hy_e4_6, hy_e4_7, hy_e4_8, bag g hg, rp g hg, rl g hg, rt g hg, rs g hg, rw' g hg, rd g hg, f_X3_bears, hy_in, hy_c, hy_cts, c_need1, hy_jn, hy_lm, hy_lt', hy_gt, if_true, if_false, hy_f10]
theorem cq_guest5 {M : hz_M} {q : Nat → Int32} (hC : hy_C M q) {g : Nat} (hg : g < gz q) : f_X10_guest (nI g) (5 : Int32) M = some (q (25 + 8 * g + 6), M) := by
  have hC0 := hC
  obtain ⟨hZ, ⟨b3, b4, b5, b6, b7, b8, bag, bnm⟩, hRR⟩ := hC
  have hZ0 := hZ
  obtain ⟨⟨s1, s2, s3, s4, s5, s6⟩, ra, ro, rp, rl, rt, rs, rw', rd, rwt, rpg, rk, rh, rtw⟩ := c_rows hRR
  obtain ⟨⟨z1, z2⟩, ⟨z3, z4, z5⟩, ⟨z6, z7, z8⟩, ⟨z9, z10⟩, ⟨z11, z12, z13⟩, ⟨z14, z15, z16⟩⟩ := hZ
  rw [z1] at b3; rw [z3] at b4; rw [z6] at b5; rw [z9] at b6; rw [z11] at b7; rw [z14] at b8
  simp (disch := omega) only [f_X10_guest, c_isGuest hC0 hg, hy_e5_0, hy_e5_1, hy_e5_2, hy_e5_3, hy_e5_4, hy_e5_6, hy_e5_7, hy_e5_8, bag g hg, rp g hg, rl g hg, rt g hg, rs g hg, rw' g hg, rd g hg, f_X3_bears, hy_in, hy_c, hy_cts, c_need1, hy_jn, hy_lm, hy_lt', hy_gt, if_true, if_false, hy_f10]
theorem cq_guest6 {M : hz_M} {q : Nat → Int32} (hC : hy_C M q) {g : Nat} (hg : g < gz q) : f_X10_guest (nI g) (6 : Int32) M = some (60 + q (25 + 8 * g + 1) / 4, M) := by
  have hC0 := hC
  obtain ⟨hZ, ⟨b3, b4, b5, b6, b7, b8, bag, bnm⟩, hRR⟩ := hC
  have hZ0 := hZ
  obtain ⟨⟨s1, s2, s3, s4, s5, s6⟩, ra, ro, rp, rl, rt, rs, rw', rd, rwt, rpg, rk, rh, rtw⟩ := c_rows hRR
  obtain ⟨⟨z1, z2⟩, ⟨z3, z4, z5⟩, ⟨z6, z7, z8⟩, ⟨z9, z10⟩, ⟨z11, z12, z13⟩, ⟨z14, z15, z16⟩⟩ := hZ
  rw [z1] at b3; rw [z3] at b4; rw [z6] at b5; rw [z9] at b6; rw [z11] at b7; rw [z14] at b8
  simp (disch := omega) only [f_X10_guest, c_isGuest hC0 hg, hy_e6_0, hy_e6_1, hy_e6_2, hy_e6_3, hy_e6_4, hy_e6_5, hy_e6_7, hy_e6_8, bag g hg, rp g hg, rl g hg, rt g hg, rs g hg, rw' g hg, rd g hg, f_X3_bears, hy_in, hy_c, hy_cts, c_need1, hy_jn, hy_lm, hy_lt', hy_gt, if_true, if_false, hy_f10]
theorem cq_guest8 {M : hz_M} {q : Nat → Int32} (hC : hy_C M q) {g : Nat} (hg : g < gz q) : f_X10_guest (nI g) (8 : Int32) M = some (q (25 + 8 * g + 7), M) := by
  have hC0 := hC
  obtain ⟨hZ, ⟨b3, b4, b5, b6, b7, b8, bag, bnm⟩, hRR⟩ := hC
  have hZ0 := hZ
  obtain ⟨⟨s1, s2, s3, s4, s5, s6⟩, ra, ro, rp, rl, rt, rs, rw', rd, rwt, rpg, rk, rh, rtw⟩ := c_rows hRR
  obtain ⟨⟨z1, z2⟩, ⟨z3, z4, z5⟩, ⟨z6, z7, z8⟩, ⟨z9, z10⟩, ⟨z11, z12, z13⟩, ⟨z14, z15, z16⟩⟩ := hZ
  rw [z1] at b3; rw [z3] at b4; rw [z6] at b5; rw [z9] at b6; rw [z11] at b7; rw [z14] at b8
  simp (disch := omega) only [f_X10_guest, c_isGuest hC0 hg, hy_e8_0, hy_e8_1, hy_e8_2, hy_e8_3, hy_e8_4, hy_e8_5, hy_e8_6, hy_e8_7, bag g hg, rp g hg, rl g hg, rt g hg, rs g hg, rw' g hg, rd g hg, f_X3_bears, hy_in, hy_c, hy_cts, c_need1, hy_jn, hy_lm, hy_lt', hy_gt, if_true, if_false, hy_f10]
theorem cq_guest7 {M : hz_M} {q : Nat → Int32} (hC : hy_C M q) {g : Nat} (hg : g < gz q) : f_X10_guest (nI g) (7 : Int32) M = some ((if q (25 + 8 * g + 1) / 5 + 1 < nI (sz q) then q (25 + 8 * g + 1) / 5 + 1 else nI (sz q)), M) := by
  have hC0 := hC
  obtain ⟨hZ, ⟨b3, b4, b5, b6, b7, b8, bag, bnm⟩, hRR⟩ := hC
  have hZ0 := hZ
  obtain ⟨⟨s1, s2, s3, s4, s5, s6⟩, ra, ro, rp, rl, rt, rs, rw', rd, rwt, rpg, rk, rh, rtw⟩ := c_rows hRR
  obtain ⟨⟨z1, z2⟩, ⟨z3, z4, z5⟩, ⟨z6, z7, z8⟩, ⟨z9, z10⟩, ⟨z11, z12, z13⟩, ⟨z14, z15, z16⟩⟩ := hZ
  rw [z1] at b3; rw [z3] at b4; rw [z6] at b5; rw [z9] at b6; rw [z11] at b7; rw [z14] at b8
  simp (disch := omega) only [f_X10_guest, c_isGuest hC0 hg, hy_e7_0, hy_e7_1, hy_e7_2, hy_e7_3, hy_e7_4, hy_e7_5, hy_e7_6, hy_e7_8, bag g hg, f_X3_highestByAge, b8, hy_in, hy_c, hy_cts, c_need1, hy_jn, hy_lm, hy_lt', hy_gt, if_true, if_false, hy_f10]
  try (congr 2; split <;> split <;> grind)
theorem cq_why0 {M : hz_M} {q : Nat → Int32} (hC : hy_C M q) (hQ : hy_Q q) {g : Nat} (hg : g < gz q) {d : Int32} (hd : deed q d) : f_X10_why (nI g) d (0 : Int32) M = some (rsn q g d, M) := by
  rcases c_isDeed hC d with ⟨_, hd1⟩ | ⟨hd2, _⟩
  · simp only [f_X10_why, c_isGuest hC hg, hd1, c_rsn hC hQ hg hd, c_csn hC hQ hg hd, hy_in, hy_c, hy_cts, c_need1, hy_jn, hy_lm, hy_lt', hy_gt, if_true, if_false, hy_f10]
  · exact absurd hd hd2
theorem cq_why1 {M : hz_M} {q : Nat → Int32} (hC : hy_C M q) (hQ : hy_Q q) {g : Nat} (hg : g < gz q) {d : Int32} (hd : deed q d) : f_X10_why (nI g) d (1 : Int32) M = some (csn q g d (rsn q g d), M) := by
  rcases c_isDeed hC d with ⟨_, hd1⟩ | ⟨hd2, _⟩
  · simp only [f_X10_why, c_isGuest hC hg, hd1, c_rsn hC hQ hg hd, c_csn hC hQ hg hd, hy_in, hy_c, hy_cts, c_need1, hy_jn, hy_lm, hy_lt', hy_gt, if_true, if_false, hy_f10]
  · exact absurd hd hd2
theorem cq_highest {M : hz_M} {q : Nat → Int32} (hC : hy_C M q) (hQ : hy_Q q) {g : Nat} (hg : g < gz q) : f_X10_highest (nI g) M = some (hgh q g (sz q), M) := by
  have hC0 := hC
  obtain ⟨hZ, ⟨b3, b4, b5, b6, b7, b8, bag, bnm⟩, hRR⟩ := hC
  have hZ0 := hZ
  obtain ⟨⟨s1, s2, s3, s4, s5, s6⟩, ra, ro, rp, rl, rt, rs, rw', rd, rwt, rpg, rk, rh, rtw⟩ := c_rows hRR
  obtain ⟨⟨z1, z2⟩, ⟨z3, z4, z5⟩, ⟨z6, z7, z8⟩, ⟨z9, z10⟩, ⟨z11, z12, z13⟩, ⟨z14, z15, z16⟩⟩ := hZ
  rw [z1] at b3; rw [z3] at b4; rw [z6] at b5; rw [z9] at b6; rw [z11] at b7; rw [z14] at b8
  simp only [f_X10_highest, c_isGuest hC0 hg, b8, hy_in, hy_c, hy_cts, c_need1, hy_jn, hy_lm, hy_lt', hy_gt, if_true, if_false, hy_f10]
  exact c_hgh hC0 hQ hg (sz q) hz_FU (Nat.le_refl _) (hy_FU (by omega))
/-- the drawn guests' names -/
def hy_N (q : Nat → Int32) : Prop := gz q ≤ 8 ∧ ∀ g, g < gz q → q (25 + 8 * g) = nI (190 + g)
theorem cq_letter {M : hz_M} {q : Nat → Int32} (hC : hy_C M q) (hN : hy_N q) {g : Nat} (hg : g < gz q) : f_X10_letter (nI g) (1 : Int32) M = some (97 + nI g, M) := by
  obtain ⟨n, c, h1, h2, h3, h4, h5, h6⟩ := c_letter hC hg (1 : Int32)
  have e1 := hN.2 g hg
  have hg8 := hN.1
  rw [h4] at e1
  have hb := pn_b (c := c) h2 (fun i hi => (h3 i hi).2)
  have e2 : pn c n = 190 + g := by
    have := hy_eq (a := pn c n) (b := 190 + g) (by omega) (by omega)
    rw [this] at e1
    exact e1
  have e3 : pn (fun i => if i = 0 then 7 else 1 + g) 2 = 190 + g := by
    show 27 * (27 * 0 + 7) + (1 + g) = 190 + g
    omega
  obtain ⟨e4, e5⟩ := pn_inj (c := c) (d := fun i => if i = 0 then 7 else 1 + g) n 2 h3 (fun i hi => by
    show 1 ≤ (if i = 0 then 7 else 1 + g) ∧ (if i = 0 then 7 else 1 + g) ≤ 26
    split <;> omega) (by rw [e2, e3])
  subst e4
  have e6 := e5 1 (by omega)
  simp only [f_X10_letter, c_isGuest hC hg, h6, hy_in, hy_c, hy_cts, c_need1, hy_jn, hy_lm, hy_lt', hy_gt, if_true, if_false, hy_f10]
  rw [if_neg (by decide), hy_k1, e6]
  show some (nI (96 + (1 + g)), M) = some (nI 97 + nI g, M)
  rw [hy_add, show 96 + (1 + g) = 97 + g by omega]
theorem cq_step0 {M : hz_M} {q : Nat → Int32} (hC : hy_C M q) {k : Nat} (h1 : 1 ≤ k) (h2 : k ≤ sz q) : f_X10_step (nI k) (0 : Int32) M = some (hAt q (nI k), M) := by
  have hC0 := hC
  obtain ⟨hZ, ⟨b3, b4, b5, b6, b7, b8, bag, bnm⟩, hRR⟩ := hC
  have hZ0 := hZ
  obtain ⟨⟨s1, s2, s3, s4, s5, s6⟩, ra, ro, rp, rl, rt, rs, rw', rd, rwt, rpg, rk, rh, rtw⟩ := c_rows hRR
  obtain ⟨⟨z1, z2⟩, ⟨z3, z4, z5⟩, ⟨z6, z7, z8⟩, ⟨z9, z10⟩, ⟨z11, z12, z13⟩, ⟨z14, z15, z16⟩⟩ := hZ
  rw [z1] at b3; rw [z3] at b4; rw [z6] at b5; rw [z9] at b6; rw [z11] at b7; rw [z14] at b8
  simp (disch := omega) only [f_X10_step, c_isStep hC0 h1 h2, hy_e0_1, hy_e0_2, hy_e0_3, hy_e0_4, c_hAt hC0, f_X7_temperature, s2, f_X3_ageFor, c_eld hC0, c_sfr hC0, hy_in, hy_c, hy_cts, c_need1, hy_jn, hy_lm, hy_lt', hy_gt, if_true, if_false, hy_f10]
theorem cq_step1 {M : hz_M} {q : Nat → Int32} (hC : hy_C M q) {k : Nat} (h1 : 1 ≤ k) (h2 : k ≤ sz q) : f_X10_step (nI k) (1 : Int32) M = some (q 9 + 6 * nI k, M) := by
  have hC0 := hC
  obtain ⟨hZ, ⟨b3, b4, b5, b6, b7, b8, bag, bnm⟩, hRR⟩ := hC
  have hZ0 := hZ
  obtain ⟨⟨s1, s2, s3, s4, s5, s6⟩, ra, ro, rp, rl, rt, rs, rw', rd, rwt, rpg, rk, rh, rtw⟩ := c_rows hRR
  obtain ⟨⟨z1, z2⟩, ⟨z3, z4, z5⟩, ⟨z6, z7, z8⟩, ⟨z9, z10⟩, ⟨z11, z12, z13⟩, ⟨z14, z15, z16⟩⟩ := hZ
  rw [z1] at b3; rw [z3] at b4; rw [z6] at b5; rw [z9] at b6; rw [z11] at b7; rw [z14] at b8
  simp (disch := omega) only [f_X10_step, c_isStep hC0 h1 h2, hy_e1_0, hy_e1_2, hy_e1_3, hy_e1_4, c_hAt hC0, f_X7_temperature, s2, f_X3_ageFor, c_eld hC0, c_sfr hC0, hy_in, hy_c, hy_cts, c_need1, hy_jn, hy_lm, hy_lt', hy_gt, if_true, if_false, hy_f10]
theorem cq_step2 {M : hz_M} {q : Nat → Int32} (hC : hy_C M q) {k : Nat} (h1 : 1 ≤ k) (h2 : k ≤ sz q) : f_X10_step (nI k) (2 : Int32) M = some (5 * (nI k - 1), M) := by
  have hC0 := hC
  obtain ⟨hZ, ⟨b3, b4, b5, b6, b7, b8, bag, bnm⟩, hRR⟩ := hC
  have hZ0 := hZ
  obtain ⟨⟨s1, s2, s3, s4, s5, s6⟩, ra, ro, rp, rl, rt, rs, rw', rd, rwt, rpg, rk, rh, rtw⟩ := c_rows hRR
  obtain ⟨⟨z1, z2⟩, ⟨z3, z4, z5⟩, ⟨z6, z7, z8⟩, ⟨z9, z10⟩, ⟨z11, z12, z13⟩, ⟨z14, z15, z16⟩⟩ := hZ
  rw [z1] at b3; rw [z3] at b4; rw [z6] at b5; rw [z9] at b6; rw [z11] at b7; rw [z14] at b8
  simp (disch := omega) only [f_X10_step, c_isStep hC0 h1 h2, hy_e2_0, hy_e2_1, hy_e2_3, hy_e2_4, c_hAt hC0, f_X7_temperature, s2, f_X3_ageFor, c_eld hC0, c_sfr hC0, hy_in, hy_c, hy_cts, c_need1, hy_jn, hy_lm, hy_lt', hy_gt, if_true, if_false, hy_f10]
theorem cq_step3 {M : hz_M} {q : Nat → Int32} (hC : hy_C M q) {k : Nat} (h1 : 1 ≤ k) (h2 : k ≤ sz q) : f_X10_step (nI k) (3 : Int32) M = some (eld q (nI k), M) := by
  have hC0 := hC
  obtain ⟨hZ, ⟨b3, b4, b5, b6, b7, b8, bag, bnm⟩, hRR⟩ := hC
  have hZ0 := hZ
  obtain ⟨⟨s1, s2, s3, s4, s5, s6⟩, ra, ro, rp, rl, rt, rs, rw', rd, rwt, rpg, rk, rh, rtw⟩ := c_rows hRR
  obtain ⟨⟨z1, z2⟩, ⟨z3, z4, z5⟩, ⟨z6, z7, z8⟩, ⟨z9, z10⟩, ⟨z11, z12, z13⟩, ⟨z14, z15, z16⟩⟩ := hZ
  rw [z1] at b3; rw [z3] at b4; rw [z6] at b5; rw [z9] at b6; rw [z11] at b7; rw [z14] at b8
  simp (disch := omega) only [f_X10_step, c_isStep hC0 h1 h2, hy_e3_0, hy_e3_1, hy_e3_2, hy_e3_4, c_hAt hC0, f_X7_temperature, s2, f_X3_ageFor, c_eld hC0, c_sfr hC0, hy_in, hy_c, hy_cts, c_need1, hy_jn, hy_lm, hy_lt', hy_gt, if_true, if_false, hy_f10]
theorem cq_step4 {M : hz_M} {q : Nat → Int32} (hC : hy_C M q) {k : Nat} (h1 : 1 ≤ k) (h2 : k ≤ sz q) : f_X10_step (nI k) (4 : Int32) M = some (sfr q (nI k), M) := by
  have hC0 := hC
  obtain ⟨hZ, ⟨b3, b4, b5, b6, b7, b8, bag, bnm⟩, hRR⟩ := hC
  have hZ0 := hZ
  obtain ⟨⟨s1, s2, s3, s4, s5, s6⟩, ra, ro, rp, rl, rt, rs, rw', rd, rwt, rpg, rk, rh, rtw⟩ := c_rows hRR
  obtain ⟨⟨z1, z2⟩, ⟨z3, z4, z5⟩, ⟨z6, z7, z8⟩, ⟨z9, z10⟩, ⟨z11, z12, z13⟩, ⟨z14, z15, z16⟩⟩ := hZ
  rw [z1] at b3; rw [z3] at b4; rw [z6] at b5; rw [z9] at b6; rw [z11] at b7; rw [z14] at b8
  simp (disch := omega) only [f_X10_step, c_isStep hC0 h1 h2, hy_e4_0, hy_e4_1, hy_e4_2, hy_e4_3, c_hAt hC0, f_X7_temperature, s2, f_X3_ageFor, c_eld hC0, c_sfr hC0, hy_in, hy_c, hy_cts, c_need1, hy_jn, hy_lm, hy_lt', hy_gt, if_true, if_false, hy_f10]
theorem cq_towel0 {M : hz_M} {q : Nat → Int32} (hC : hy_C M q) {t : Nat} (ht : t < tz q) : f_X10_towel (nI t) (0 : Int32) M = some (q (153 + 2 * t), M) := by
  have hC0 := hC
  obtain ⟨hZ, ⟨b3, b4, b5, b6, b7, b8, bag, bnm⟩, hRR⟩ := hC
  have hZ0 := hZ
  obtain ⟨⟨s1, s2, s3, s4, s5, s6⟩, ra, ro, rp, rl, rt, rs, rw', rd, rwt, rpg, rk, rh, rtw⟩ := c_rows hRR
  obtain ⟨⟨z1, z2⟩, ⟨z3, z4, z5⟩, ⟨z6, z7, z8⟩, ⟨z9, z10⟩, ⟨z11, z12, z13⟩, ⟨z14, z15, z16⟩⟩ := hZ
  rw [z1] at b3; rw [z3] at b4; rw [z6] at b5; rw [z9] at b6; rw [z11] at b7; rw [z14] at b8
  simp (disch := omega) only [f_X10_towel, c_isTowel hC0 ht, hy_e0_1, hy_e0_2, hy_e0_3, rwt t ht, rpg t ht, rh t ht, hy_in, hy_c, hy_cts, c_need1, hy_jn, hy_lm, hy_lt', hy_gt, if_true, if_false, hy_f10]
theorem cq_towel1 {M : hz_M} {q : Nat → Int32} (hC : hy_C M q) {t : Nat} (ht : t < tz q) : f_X10_towel (nI t) (1 : Int32) M = some (q (153 + 2 * t + 1), M) := by
  have hC0 := hC
  obtain ⟨hZ, ⟨b3, b4, b5, b6, b7, b8, bag, bnm⟩, hRR⟩ := hC
  have hZ0 := hZ
  obtain ⟨⟨s1, s2, s3, s4, s5, s6⟩, ra, ro, rp, rl, rt, rs, rw', rd, rwt, rpg, rk, rh, rtw⟩ := c_rows hRR
  obtain ⟨⟨z1, z2⟩, ⟨z3, z4, z5⟩, ⟨z6, z7, z8⟩, ⟨z9, z10⟩, ⟨z11, z12, z13⟩, ⟨z14, z15, z16⟩⟩ := hZ
  rw [z1] at b3; rw [z3] at b4; rw [z6] at b5; rw [z9] at b6; rw [z11] at b7; rw [z14] at b8
  simp (disch := omega) only [f_X10_towel, c_isTowel hC0 ht, hy_e1_0, hy_e1_2, hy_e1_3, rwt t ht, rpg t ht, rh t ht, hy_in, hy_c, hy_cts, c_need1, hy_jn, hy_lm, hy_lt', hy_gt, if_true, if_false, hy_f10]
theorem cq_towel2 {M : hz_M} {q : Nat → Int32} (hC : hy_C M q) {t : Nat} (ht : t < tz q) : f_X10_towel (nI t) (2 : Int32) M = some (hld q t, M) := by
  have hC0 := hC
  obtain ⟨hZ, ⟨b3, b4, b5, b6, b7, b8, bag, bnm⟩, hRR⟩ := hC
  have hZ0 := hZ
  obtain ⟨⟨s1, s2, s3, s4, s5, s6⟩, ra, ro, rp, rl, rt, rs, rw', rd, rwt, rpg, rk, rh, rtw⟩ := c_rows hRR
  obtain ⟨⟨z1, z2⟩, ⟨z3, z4, z5⟩, ⟨z6, z7, z8⟩, ⟨z9, z10⟩, ⟨z11, z12, z13⟩, ⟨z14, z15, z16⟩⟩ := hZ
  rw [z1] at b3; rw [z3] at b4; rw [z6] at b5; rw [z9] at b6; rw [z11] at b7; rw [z14] at b8
  simp (disch := omega) only [f_X10_towel, c_isTowel hC0 ht, hy_e2_0, hy_e2_1, hy_e2_3, rwt t ht, rpg t ht, rh t ht, hy_in, hy_c, hy_cts, c_need1, hy_jn, hy_lm, hy_lt', hy_gt, if_true, if_false, hy_f10]
theorem cq_towel3 {M : hz_M} {q : Nat → Int32} (hC : hy_C M q) {t : Nat} (ht : t < tz q) : f_X10_towel (nI t) (3 : Int32) M = some (if isB q t = true then 1 else 0, M) := by
  have hC0 := hC
  obtain ⟨hZ, ⟨b3, b4, b5, b6, b7, b8, bag, bnm⟩, hRR⟩ := hC
  have hZ0 := hZ
  obtain ⟨⟨s1, s2, s3, s4, s5, s6⟩, ra, ro, rp, rl, rt, rs, rw', rd, rwt, rpg, rk, rh, rtw⟩ := c_rows hRR
  obtain ⟨⟨z1, z2⟩, ⟨z3, z4, z5⟩, ⟨z6, z7, z8⟩, ⟨z9, z10⟩, ⟨z11, z12, z13⟩, ⟨z14, z15, z16⟩⟩ := hZ
  rw [z1] at b3; rw [z3] at b4; rw [z6] at b5; rw [z9] at b6; rw [z11] at b7; rw [z14] at b8
  simp (disch := omega) only [f_X10_towel, c_isTowel hC0 ht, hy_e3_0, hy_e3_1, hy_e3_2, f_X7_isInBasket, rpg t ht, rh t ht, isB, decide_eq_true_eq, hy_in, hy_c, hy_cts, c_need1, hy_jn, hy_lm, hy_lt', hy_gt, if_true, if_false, hy_f10]
  by_cases e1 : q (153 + 2 * t + 1) = -1 <;> by_cases e2 : hld q t = -1 <;> simp [e1, e2, hy_cts]
theorem cq_peg {M : hz_M} {q : Nat → Int32} (hC : hy_C M q) {p : Nat} (hp : p < pz q) : f_X10_peg (nI p) M = some (tw q p, M) := by
  have hC0 := hC
  obtain ⟨hZ, ⟨b3, b4, b5, b6, b7, b8, bag, bnm⟩, hRR⟩ := hC
  have hZ0 := hZ
  obtain ⟨⟨s1, s2, s3, s4, s5, s6⟩, ra, ro, rp, rl, rt, rs, rw', rd, rwt, rpg, rk, rh, rtw⟩ := c_rows hRR
  obtain ⟨⟨z1, z2⟩, ⟨z3, z4, z5⟩, ⟨z6, z7, z8⟩, ⟨z9, z10⟩, ⟨z11, z12, z13⟩, ⟨z14, z15, z16⟩⟩ := hZ
  rw [z1] at b3; rw [z3] at b4; rw [z6] at b5; rw [z9] at b6; rw [z11] at b7; rw [z14] at b8
  simp (disch := omega) only [f_X10_peg, c_isPeg hC0 hp, rtw p hp, hy_in, hy_c, hy_cts, c_need1, hy_jn, hy_lm, hy_lt', hy_gt, if_true, if_false, hy_f10]
theorem cq_locker {M : hz_M} {q : Nat → Int32} (hC : hy_C M q) {k : Nat} (hk : k < lz q) : f_X10_locker (nI k) M = some (kpr q k, M) := by
  have hC0 := hC
  obtain ⟨hZ, ⟨b3, b4, b5, b6, b7, b8, bag, bnm⟩, hRR⟩ := hC
  have hZ0 := hZ
  obtain ⟨⟨s1, s2, s3, s4, s5, s6⟩, ra, ro, rp, rl, rt, rs, rw', rd, rwt, rpg, rk, rh, rtw⟩ := c_rows hRR
  obtain ⟨⟨z1, z2⟩, ⟨z3, z4, z5⟩, ⟨z6, z7, z8⟩, ⟨z9, z10⟩, ⟨z11, z12, z13⟩, ⟨z14, z15, z16⟩⟩ := hZ
  rw [z1] at b3; rw [z3] at b4; rw [z6] at b5; rw [z9] at b6; rw [z11] at b7; rw [z14] at b8
  simp (disch := omega) only [f_X10_locker, c_isLocker hC0 hk, rk k hk, hy_in, hy_c, hy_cts, c_need1, hy_jn, hy_lm, hy_lt', hy_gt, if_true, if_false, hy_f10]
theorem cq_opening {M : hz_M} {q : Nat → Int32} (hC : hy_C M q) {v : Nat} (hv : v < vz q) : f_X10_opening (nI v) M = some (q (21 + v), M) := by
  have hC0 := hC
  obtain ⟨hZ, ⟨b3, b4, b5, b6, b7, b8, bag, bnm⟩, hRR⟩ := hC
  have hZ0 := hZ
  obtain ⟨⟨s1, s2, s3, s4, s5, s6⟩, ra, ro, rp, rl, rt, rs, rw', rd, rwt, rpg, rk, rh, rtw⟩ := c_rows hRR
  obtain ⟨⟨z1, z2⟩, ⟨z3, z4, z5⟩, ⟨z6, z7, z8⟩, ⟨z9, z10⟩, ⟨z11, z12, z13⟩, ⟨z14, z15, z16⟩⟩ := hZ
  rw [z1] at b3; rw [z3] at b4; rw [z6] at b5; rw [z9] at b6; rw [z11] at b7; rw [z14] at b8
  simp (disch := omega) only [f_X10_opening, c_isValve hC0 hv, ro v (by omega), hy_in, hy_c, hy_cts, c_need1, hy_jn, hy_lm, hy_lt', hy_gt, if_true, if_false, hy_f10]
theorem cq_account {M : hz_M} {q : Nat → Int32} (hC : hy_C M q) {a : Nat} (ha : a < 9) : f_X10_account (nI a) M = some (q (12 + a), M) := by
  have hC0 := hC
  obtain ⟨hZ, ⟨b3, b4, b5, b6, b7, b8, bag, bnm⟩, hRR⟩ := hC
  have hZ0 := hZ
  obtain ⟨⟨s1, s2, s3, s4, s5, s6⟩, ra, ro, rp, rl, rt, rs, rw', rd, rwt, rpg, rk, rh, rtw⟩ := c_rows hRR
  obtain ⟨⟨z1, z2⟩, ⟨z3, z4, z5⟩, ⟨z6, z7, z8⟩, ⟨z9, z10⟩, ⟨z11, z12, z13⟩, ⟨z14, z15, z16⟩⟩ := hZ
  rw [z1] at b3; rw [z3] at b4; rw [z6] at b5; rw [z9] at b6; rw [z11] at b7; rw [z14] at b8
  have e1 : ¬ nI a < 0 := Int32.not_lt.mpr (hy_nn (by omega))
  have e2 : ¬ (9 : Int32) < nI a := by
    have := hy_lt (a := 9) (b := a) (by omega) (by omega)
    intro e
    have h := this.mp e
    omega
  have e3 : ¬ (9 : Int32) ≤ nI a := by
    have := hy_le (a := 9) (b := a) (by omega) (by omega)
    intro e
    have h := this.mp e
    omega
  simp (disch := omega) only [f_X10_account, e1, e2, e3, ra a ha, hy_in, hy_c, hy_cts, c_need1, hy_jn, hy_lm, hy_lt', hy_gt, if_true, if_false, hy_f10]
theorem cq_refused (M : hz_M) : f_X10_account (9 : Int32) M = some (M 26 3, M) := by
  simp only [f_X10_account, show ((9 : Int32) < 0) = False from eq_false (by decide), show ((9 : Int32) < 9) = False from eq_false (by decide), show ((9 : Int32) ≤ 9) = True from eq_true (by decide), hy_in, hy_c, hy_cts, c_need1, hy_jn, hy_lm, hy_lt', hy_gt, if_true, if_false, hy_f10]
theorem cq_driest {M : hz_M} {q : Nat → Int32} (hC : hy_C M q) : f_X10_driest M = some (dry q, M) := by
  simp only [f_X10_driest, c_dry hC, hy_cts]
theorem cq_size0 {M : hz_M} {q : Nat → Int32} (hC : hy_C M q) : f_X10_size (0 : Int32) M = some (q 11, M) := by
  have hC0 := hC
  obtain ⟨hZ, ⟨b3, b4, b5, b6, b7, b8, bag, bnm⟩, hRR⟩ := hC
  obtain ⟨⟨s1, s2, s3, s4, s5, s6⟩, -⟩ := c_rows hRR
  simp (disch := omega) only [f_X10_size, hy_e0_1, hy_e0_2, hy_e0_3, hy_e0_4, hy_e0_5, hy_e0_6, hy_e0_7, hy_e0_8, hy_e0_9, hy_e0_10, hy_e0_11, hy_e0_12, hy_e0_13, hy_e0_14, hy_e0_15, hy_e0_16, c_hIns hC0, c_hAt hC0, c_bsk hC0, c_inUse hC0, s1, s2, s4, s5, s6, b3, b4, b5, b6, b7, b8, hy_in, hy_c, hy_cts, c_need1, hy_jn, hy_lm, hy_lt', hy_gt, if_true, if_false, hy_f10]
theorem cq_size1 {M : hz_M} {q : Nat → Int32} (hC : hy_C M q) : f_X10_size (1 : Int32) M = some (q 0, M) := by
  have hC0 := hC
  obtain ⟨hZ, ⟨b3, b4, b5, b6, b7, b8, bag, bnm⟩, hRR⟩ := hC
  obtain ⟨⟨s1, s2, s3, s4, s5, s6⟩, -⟩ := c_rows hRR
  simp (disch := omega) only [f_X10_size, hy_e1_0, hy_e1_2, hy_e1_3, hy_e1_4, hy_e1_5, hy_e1_6, hy_e1_7, hy_e1_8, hy_e1_9, hy_e1_10, hy_e1_11, hy_e1_12, hy_e1_13, hy_e1_14, hy_e1_15, hy_e1_16, c_hIns hC0, c_hAt hC0, c_bsk hC0, c_inUse hC0, s1, s2, s4, s5, s6, b3, b4, b5, b6, b7, b8, hy_in, hy_c, hy_cts, c_need1, hy_jn, hy_lm, hy_lt', hy_gt, if_true, if_false, hy_f10]
theorem cq_size2 {M : hz_M} {q : Nat → Int32} (hC : hy_C M q) : f_X10_size (2 : Int32) M = some (q 1, M) := by
  have hC0 := hC
  obtain ⟨hZ, ⟨b3, b4, b5, b6, b7, b8, bag, bnm⟩, hRR⟩ := hC
  obtain ⟨⟨s1, s2, s3, s4, s5, s6⟩, -⟩ := c_rows hRR
  simp (disch := omega) only [f_X10_size, hy_e2_0, hy_e2_1, hy_e2_3, hy_e2_4, hy_e2_5, hy_e2_6, hy_e2_7, hy_e2_8, hy_e2_9, hy_e2_10, hy_e2_11, hy_e2_12, hy_e2_13, hy_e2_14, hy_e2_15, hy_e2_16, c_hIns hC0, c_hAt hC0, c_bsk hC0, c_inUse hC0, s1, s2, s4, s5, s6, b3, b4, b5, b6, b7, b8, hy_in, hy_c, hy_cts, c_need1, hy_jn, hy_lm, hy_lt', hy_gt, if_true, if_false, hy_f10]
theorem cq_size3 {M : hz_M} {q : Nat → Int32} (hC : hy_C M q) : f_X10_size (3 : Int32) M = some (q 2, M) := by
  have hC0 := hC
  obtain ⟨hZ, ⟨b3, b4, b5, b6, b7, b8, bag, bnm⟩, hRR⟩ := hC
  obtain ⟨⟨s1, s2, s3, s4, s5, s6⟩, -⟩ := c_rows hRR
  simp (disch := omega) only [f_X10_size, hy_e3_0, hy_e3_1, hy_e3_2, hy_e3_4, hy_e3_5, hy_e3_6, hy_e3_7, hy_e3_8, hy_e3_9, hy_e3_10, hy_e3_11, hy_e3_12, hy_e3_13, hy_e3_14, hy_e3_15, hy_e3_16, c_hIns hC0, c_hAt hC0, c_bsk hC0, c_inUse hC0, s1, s2, s4, s5, s6, b3, b4, b5, b6, b7, b8, hy_in, hy_c, hy_cts, c_need1, hy_jn, hy_lm, hy_lt', hy_gt, if_true, if_false, hy_f10]
theorem cq_size4 {M : hz_M} {q : Nat → Int32} (hC : hy_C M q) : f_X10_size (4 : Int32) M = some (q 3, M) := by
  have hC0 := hC
  obtain ⟨hZ, ⟨b3, b4, b5, b6, b7, b8, bag, bnm⟩, hRR⟩ := hC
  obtain ⟨⟨s1, s2, s3, s4, s5, s6⟩, -⟩ := c_rows hRR
  simp (disch := omega) only [f_X10_size, hy_e4_0, hy_e4_1, hy_e4_2, hy_e4_3, hy_e4_5, hy_e4_6, hy_e4_7, hy_e4_8, hy_e4_9, hy_e4_10, hy_e4_11, hy_e4_12, hy_e4_13, hy_e4_14, hy_e4_15, hy_e4_16, c_hIns hC0, c_hAt hC0, c_bsk hC0, c_inUse hC0, s1, s2, s4, s5, s6, b3, b4, b5, b6, b7, b8, hy_in, hy_c, hy_cts, c_need1, hy_jn, hy_lm, hy_lt', hy_gt, if_true, if_false, hy_f10]
theorem cq_size5 {M : hz_M} {q : Nat → Int32} (hC : hy_C M q) : f_X10_size (5 : Int32) M = some (q 4, M) := by
  have hC0 := hC
  obtain ⟨hZ, ⟨b3, b4, b5, b6, b7, b8, bag, bnm⟩, hRR⟩ := hC
  obtain ⟨⟨s1, s2, s3, s4, s5, s6⟩, -⟩ := c_rows hRR
  simp (disch := omega) only [f_X10_size, hy_e5_0, hy_e5_1, hy_e5_2, hy_e5_3, hy_e5_4, hy_e5_6, hy_e5_7, hy_e5_8, hy_e5_9, hy_e5_10, hy_e5_11, hy_e5_12, hy_e5_13, hy_e5_14, hy_e5_15, hy_e5_16, c_hIns hC0, c_hAt hC0, c_bsk hC0, c_inUse hC0, s1, s2, s4, s5, s6, b3, b4, b5, b6, b7, b8, hy_in, hy_c, hy_cts, c_need1, hy_jn, hy_lm, hy_lt', hy_gt, if_true, if_false, hy_f10]
theorem cq_size6 {M : hz_M} {q : Nat → Int32} (hC : hy_C M q) : f_X10_size (6 : Int32) M = some (q 5, M) := by
  have hC0 := hC
  obtain ⟨hZ, ⟨b3, b4, b5, b6, b7, b8, bag, bnm⟩, hRR⟩ := hC
  obtain ⟨⟨s1, s2, s3, s4, s5, s6⟩, -⟩ := c_rows hRR
  simp (disch := omega) only [f_X10_size, hy_e6_0, hy_e6_1, hy_e6_2, hy_e6_3, hy_e6_4, hy_e6_5, hy_e6_7, hy_e6_8, hy_e6_9, hy_e6_10, hy_e6_11, hy_e6_12, hy_e6_13, hy_e6_14, hy_e6_15, hy_e6_16, c_hIns hC0, c_hAt hC0, c_bsk hC0, c_inUse hC0, s1, s2, s4, s5, s6, b3, b4, b5, b6, b7, b8, hy_in, hy_c, hy_cts, c_need1, hy_jn, hy_lm, hy_lt', hy_gt, if_true, if_false, hy_f10]
theorem cq_size7 {M : hz_M} {q : Nat → Int32} (hC : hy_C M q) : f_X10_size (7 : Int32) M = some (q 6, M) := by
  have hC0 := hC
  obtain ⟨hZ, ⟨b3, b4, b5, b6, b7, b8, bag, bnm⟩, hRR⟩ := hC
  obtain ⟨⟨s1, s2, s3, s4, s5, s6⟩, -⟩ := c_rows hRR
  simp (disch := omega) only [f_X10_size, hy_e7_0, hy_e7_1, hy_e7_2, hy_e7_3, hy_e7_4, hy_e7_5, hy_e7_6, hy_e7_8, hy_e7_9, hy_e7_10, hy_e7_11, hy_e7_12, hy_e7_13, hy_e7_14, hy_e7_15, hy_e7_16, c_hIns hC0, c_hAt hC0, c_bsk hC0, c_inUse hC0, s1, s2, s4, s5, s6, b3, b4, b5, b6, b7, b8, hy_in, hy_c, hy_cts, c_need1, hy_jn, hy_lm, hy_lt', hy_gt, if_true, if_false, hy_f10]
theorem cq_size8 {M : hz_M} {q : Nat → Int32} (hC : hy_C M q) : f_X10_size (8 : Int32) M = some (q 7, M) := by
  have hC0 := hC
  obtain ⟨hZ, ⟨b3, b4, b5, b6, b7, b8, bag, bnm⟩, hRR⟩ := hC
  obtain ⟨⟨s1, s2, s3, s4, s5, s6⟩, -⟩ := c_rows hRR
  simp (disch := omega) only [f_X10_size, hy_e8_0, hy_e8_1, hy_e8_2, hy_e8_3, hy_e8_4, hy_e8_5, hy_e8_6, hy_e8_7, hy_e8_9, hy_e8_10, hy_e8_11, hy_e8_12, hy_e8_13, hy_e8_14, hy_e8_15, hy_e8_16, c_hIns hC0, c_hAt hC0, c_bsk hC0, c_inUse hC0, s1, s2, s4, s5, s6, b3, b4, b5, b6, b7, b8, hy_in, hy_c, hy_cts, c_need1, hy_jn, hy_lm, hy_lt', hy_gt, if_true, if_false, hy_f10]
theorem cq_size9 {M : hz_M} {q : Nat → Int32} (hC : hy_C M q) : f_X10_size (9 : Int32) M = some (q 8, M) := by
  have hC0 := hC
  obtain ⟨hZ, ⟨b3, b4, b5, b6, b7, b8, bag, bnm⟩, hRR⟩ := hC
  obtain ⟨⟨s1, s2, s3, s4, s5, s6⟩, -⟩ := c_rows hRR
  simp (disch := omega) only [f_X10_size, hy_e9_0, hy_e9_1, hy_e9_2, hy_e9_3, hy_e9_4, hy_e9_5, hy_e9_6, hy_e9_7, hy_e9_8, hy_e9_10, hy_e9_11, hy_e9_12, hy_e9_13, hy_e9_14, hy_e9_15, hy_e9_16, c_hIns hC0, c_hAt hC0, c_bsk hC0, c_inUse hC0, s1, s2, s4, s5, s6, b3, b4, b5, b6, b7, b8, hy_in, hy_c, hy_cts, c_need1, hy_jn, hy_lm, hy_lt', hy_gt, if_true, if_false, hy_f10]
theorem cq_size10 {M : hz_M} {q : Nat → Int32} (hC : hy_C M q) : f_X10_size (10 : Int32) M = some (q 9, M) := by
  have hC0 := hC
  obtain ⟨hZ, ⟨b3, b4, b5, b6, b7, b8, bag, bnm⟩, hRR⟩ := hC
  obtain ⟨⟨s1, s2, s3, s4, s5, s6⟩, -⟩ := c_rows hRR
  simp (disch := omega) only [f_X10_size, hy_e10_0, hy_e10_1, hy_e10_2, hy_e10_3, hy_e10_4, hy_e10_5, hy_e10_6, hy_e10_7, hy_e10_8, hy_e10_9, hy_e10_11, hy_e10_12, hy_e10_13, hy_e10_14, hy_e10_15, hy_e10_16, c_hIns hC0, c_hAt hC0, c_bsk hC0, c_inUse hC0, s1, s2, s4, s5, s6, b3, b4, b5, b6, b7, b8, hy_in, hy_c, hy_cts, c_need1, hy_jn, hy_lm, hy_lt', hy_gt, if_true, if_false, hy_f10]
theorem cq_size11 {M : hz_M} {q : Nat → Int32} (hC : hy_C M q) : f_X10_size (11 : Int32) M = some (hIns q, M) := by
  have hC0 := hC
  obtain ⟨hZ, ⟨b3, b4, b5, b6, b7, b8, bag, bnm⟩, hRR⟩ := hC
  obtain ⟨⟨s1, s2, s3, s4, s5, s6⟩, -⟩ := c_rows hRR
  simp (disch := omega) only [f_X10_size, hy_e11_0, hy_e11_1, hy_e11_2, hy_e11_3, hy_e11_4, hy_e11_5, hy_e11_6, hy_e11_7, hy_e11_8, hy_e11_9, hy_e11_10, hy_e11_12, hy_e11_13, hy_e11_14, hy_e11_15, hy_e11_16, c_hIns hC0, c_hAt hC0, c_bsk hC0, c_inUse hC0, s1, s2, s4, s5, s6, b3, b4, b5, b6, b7, b8, hy_in, hy_c, hy_cts, c_need1, hy_jn, hy_lm, hy_lt', hy_gt, if_true, if_false, hy_f10]
theorem cq_size12 {M : hz_M} {q : Nat → Int32} (hC : hy_C M q) : f_X10_size (12 : Int32) M = some (hIns q - hAt q 0, M) := by
  have hC0 := hC
  obtain ⟨hZ, ⟨b3, b4, b5, b6, b7, b8, bag, bnm⟩, hRR⟩ := hC
  obtain ⟨⟨s1, s2, s3, s4, s5, s6⟩, -⟩ := c_rows hRR
  simp (disch := omega) only [f_X10_size, hy_e12_0, hy_e12_1, hy_e12_2, hy_e12_3, hy_e12_4, hy_e12_5, hy_e12_6, hy_e12_7, hy_e12_8, hy_e12_9, hy_e12_10, hy_e12_11, hy_e12_13, hy_e12_14, hy_e12_15, hy_e12_16, c_hIns hC0, c_hAt hC0, c_bsk hC0, c_inUse hC0, s1, s2, s4, s5, s6, b3, b4, b5, b6, b7, b8, hy_in, hy_c, hy_cts, c_need1, hy_jn, hy_lm, hy_lt', hy_gt, if_true, if_false, hy_f10]
theorem cq_size13 {M : hz_M} {q : Nat → Int32} (hC : hy_C M q) : f_X10_size (13 : Int32) M = some (bsk q, M) := by
  have hC0 := hC
  obtain ⟨hZ, ⟨b3, b4, b5, b6, b7, b8, bag, bnm⟩, hRR⟩ := hC
  obtain ⟨⟨s1, s2, s3, s4, s5, s6⟩, -⟩ := c_rows hRR
  simp (disch := omega) only [f_X10_size, hy_e13_0, hy_e13_1, hy_e13_2, hy_e13_3, hy_e13_4, hy_e13_5, hy_e13_6, hy_e13_7, hy_e13_8, hy_e13_9, hy_e13_10, hy_e13_11, hy_e13_12, hy_e13_14, hy_e13_15, hy_e13_16, c_hIns hC0, c_hAt hC0, c_bsk hC0, c_inUse hC0, s1, s2, s4, s5, s6, b3, b4, b5, b6, b7, b8, hy_in, hy_c, hy_cts, c_need1, hy_jn, hy_lm, hy_lt', hy_gt, if_true, if_false, hy_f10]
theorem cq_size14 {M : hz_M} {q : Nat → Int32} (hC : hy_C M q) : f_X10_size (14 : Int32) M = some (q 0 - inUse q, M) := by
  have hC0 := hC
  obtain ⟨hZ, ⟨b3, b4, b5, b6, b7, b8, bag, bnm⟩, hRR⟩ := hC
  obtain ⟨⟨s1, s2, s3, s4, s5, s6⟩, -⟩ := c_rows hRR
  simp (disch := omega) only [f_X10_size, hy_e14_0, hy_e14_1, hy_e14_2, hy_e14_3, hy_e14_4, hy_e14_5, hy_e14_6, hy_e14_7, hy_e14_8, hy_e14_9, hy_e14_10, hy_e14_11, hy_e14_12, hy_e14_13, hy_e14_15, hy_e14_16, c_hIns hC0, c_hAt hC0, c_bsk hC0, c_inUse hC0, s1, s2, s4, s5, s6, b3, b4, b5, b6, b7, b8, hy_in, hy_c, hy_cts, c_need1, hy_jn, hy_lm, hy_lt', hy_gt, if_true, if_false, hy_f10]
theorem cq_size15 {M : hz_M} {q : Nat → Int32} (hC : hy_C M q) : f_X10_size (15 : Int32) M = some (if q 10 = -1 then 0 else if q 10 + q 7 ≤ q 8 then 0 else 1, M) := by
  simp (disch := omega) only [f_X10_size, hy_e15_0, hy_e15_1, hy_e15_2, hy_e15_3, hy_e15_4, hy_e15_5, hy_e15_6, hy_e15_7, hy_e15_8, hy_e15_9, hy_e15_10, hy_e15_11, hy_e15_12, hy_e15_13, hy_e15_14, hy_e15_16, c_silence hC, hy_in, hy_c, hy_cts, c_need1, hy_jn, hy_lm, hy_lt', hy_gt, if_true, if_false, hy_f10]
  by_cases e1 : q 10 = -1
  · simp [e1]
  · by_cases e2 : q 10 + q 7 ≤ q 8 <;> simp [e1, e2]
theorem cq_size16 (M : hz_M) : f_X10_size (16 : Int32) M = some (M 32 4, M) := by
  simp (disch := omega) only [f_X10_size, hy_e16_0, hy_e16_1, hy_e16_2, hy_e16_3, hy_e16_4, hy_e16_5, hy_e16_6, hy_e16_7, hy_e16_8, hy_e16_9, hy_e16_10, hy_e16_11, hy_e16_12, hy_e16_13, hy_e16_14, hy_e16_15, hy_in, hy_c, hy_cts, c_need1, hy_jn, hy_lm, hy_lt', hy_gt, if_true, if_false, hy_f10]
theorem cq_heat {M : hz_M} {q : Nat → Int32} (hC : hy_C M q) (hQ : hy_Q q) : ∃ v, f_X10_heatBits M = some (v, M) ∧ hz_n32 (FP.fdiv (FP.i2f (q 9)) 1120403456) = true ∧ (Op.cmpValue (FP.fcmp (FP.fdiv (FP.i2f (q 9)) (1120403456 : UInt32)) (FP.fdiv (FP.i2f (q 9)) (1120403456 : UInt32))) .l == 0) = true ∧ v = UInt32.toInt32 (FP.fdiv (FP.i2f (q 9)) 1120403456) := by
  obtain ⟨hZ, -, hRR⟩ := hC
  obtain ⟨⟨s1, s2, s3, s4, s5, s6⟩, -⟩ := c_rows hRR
  obtain ⟨k, hk, ek⟩ := hQ.2.2.2.2.2.2.2.2.2.2.2.2.2.2.1
  have ok := hb2_ok k (by omega)
  unfold hb2 at ok
  rw [Bool.and_eq_true, Bool.and_eq_true] at ok
  obtain ⟨⟨o1, o2⟩, o3⟩ := ok
  have o3' := eq_of_beq o3
  refine ⟨UInt32.toInt32 (FP.fdiv (FP.i2f (q 9)) 1120403456), ?_, by rw [ek]; exact o1, by rw [ek]; exact o2, rfl⟩
  simp only [f_X10_heatBits, s2, ek, o1, hy_gt, hb1_eq _ M _ o3', hy_cts]
theorem mw_cmp : ∀ t, t < 17 → ∀ s, s < 145 → t = 0 ∨ (Op.cmpValue (FP.dcmp (hz_dd (nI s * 32 + nI t)) (hz_dd (nI s * 32 + nI t))) .l == 0) = true := by decide +kernel
theorem mw_cmp0 : Op.cmpValue (FP.dcmp (hz_dd 0) FP.dconst0) .l = 0 := by decide +kernel
theorem cq_mean {M : hz_M} {q : Nat → Int32} (hC : hy_C M q) (hQ : hy_Q q) : (tz q = 0 ∧ f_X10_meanWet M = some (0, M) ∧ FP.dconst0 = hz_dd 0) ∨ (tz q ≠ 0 ∧ ∃ r, f_X10_meanWet M = some (r, M) ∧ hz_n64 (FP.ddiv (FP.i2d (wts q)) (FP.i2d (q 2))) = true ∧ FP.ddiv (FP.i2d (wts q)) (FP.i2d (q 2)) = hz_dd r ∧ Op.cmpValue (FP.dcmp (hz_dd r) (hz_dd r)) .l = 0) := by
  have hC0 := hC
  obtain ⟨hZ, ⟨b3, b4, b5, b6, b7, b8, bag, bnm⟩, hRR⟩ := hC
  have hZ0 := hZ
  obtain ⟨⟨s1, s2, s3, s4, s5, s6⟩, ra, ro, rp, rl, rt, rs, rw', rd, rwt, rpg, rk, rh, rtw⟩ := c_rows hRR
  obtain ⟨⟨z1, z2⟩, ⟨z3, z4, z5⟩, ⟨z6, z7, z8⟩, ⟨z9, z10⟩, ⟨z11, z12, z13⟩, ⟨z14, z15, z16⟩⟩ := hZ
  rw [z1] at b3; rw [z3] at b4; rw [z6] at b5; rw [z9] at b6; rw [z11] at b7; rw [z14] at b8
  obtain ⟨s, hs, es⟩ := wts_rg hQ (tz q) 0 0 (by omega)
  have ew : wts q = nI s := es
  have cw := c_wts hC0
  rw [ew] at cw
  by_cases t0 : tz q = 0
  · left
    rw [t0] at b6
    have e0 : (FP.dconst0 == hz_dd 0) = true := by decide +kernel
    have e1 : ¬ 0 < M 1 6 := by rw [b6]; decide
    refine ⟨t0, ?_, eq_of_beq e0⟩
    simp only [f_X10_meanWet, e1, if_false, e0, hy_gt]
  · right
    rcases mw_ok (tz q) (by omega) s (by omega) with ok | ok
    · exact absurd ok t0
    · rw [Bool.and_eq_true] at ok
      have e1 : 0 < nI (tz q) := by rw [hy_0, hy_lt (by omega) (by omega)]; omega
      refine ⟨t0, nI s * 32 + nI (tz q), ?_, by rw [ew, z9]; exact ok.1, by rw [ew, z9]; exact eq_of_beq ok.2, eq_of_beq ((mw_cmp (tz q) (by omega) s (by omega)).resolve_left t0)⟩
      simp only [f_X10_meanWet, e1, if_true, cw, hy_cts, b6, ok.1, ok.2, hy_gt]
