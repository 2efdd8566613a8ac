theorem hy_pre {n : Nat} {a : Int32} (hn : n ≤ 1000) (h : a < 0 ∨ nI n ≤ a) : a < 0 ∨ nI n - 1 < a := by
  have h1 := hy_nn (a := n) (by omega)
  have h2 : nI n ≤ nI 1000 := by rw [hy_le (by omega) (by omega)]; omega
  rw [show nI 1000 = (1000 : Int32) from rfl] at h2
  generalize nI n = x at *
  rcases h with h | h
  · exact Or.inl h
  · exact Or.inr (by grind)
theorem hy_pre' {n k : Nat} (hn : n ≤ 1000) (h : k < n) : nI k ≤ nI n - 1 := by
  rw [hy_1, hy_sub (by omega), hy_le (by omega) (by omega)]; omega
theorem hy_bt1 : hz_bt (1 : Int32) = true := by decide
theorem hy_bt0 : hz_bt (0 : Int32) = true := by decide

theorem c_isGuestO {M : hz_M} {q : Nat → Int32} (hC : hy_C M q) {a : Int32} (h : a < 0 ∨ nI (gz q) ≤ a) : f_X3_isGuest a M = some (0, M) := by
  have hC0 := hC
  obtain ⟨hZ, ⟨b3, b4, b5, b6, b7, b8, bag, bnm⟩, hRR⟩ := hC
  have hZ0 := hZ
  obtain ⟨⟨s1, s2, s3, s4, s5, s6⟩, ra, ro, rp, rl, rt, rs, rw', rd, rwt, rpg, rk, rh, rtw⟩ := c_rows hRR
  obtain ⟨⟨z1, z2⟩, ⟨z3, z4, z5⟩, ⟨z6, z7, z8⟩, ⟨z9, z10⟩, ⟨z11, z12, z13⟩, ⟨z14, z15, z16⟩⟩ := hZ
  rw [z1] at b3; rw [z3] at b4; rw [z6] at b5; rw [z9] at b6; rw [z11] at b7; rw [z14] at b8
  simp only [f_X3_isGuest, b3]
  rcases h with h | h
  · rw [if_pos h]
  · rw [if_pos h]; split <;> rfl
theorem c_isTowelO {M : hz_M} {q : Nat → Int32} (hC : hy_C M q) {a : Int32} (h : a < 0 ∨ nI (tz q) ≤ a) : f_X3_isTowel a M = some (0, M) := by
  have hC0 := hC
  obtain ⟨hZ, ⟨b3, b4, b5, b6, b7, b8, bag, bnm⟩, hRR⟩ := hC
  have hZ0 := hZ
  obtain ⟨⟨s1, s2, s3, s4, s5, s6⟩, ra, ro, rp, rl, rt, rs, rw', rd, rwt, rpg, rk, rh, rtw⟩ := c_rows hRR
  obtain ⟨⟨z1, z2⟩, ⟨z3, z4, z5⟩, ⟨z6, z7, z8⟩, ⟨z9, z10⟩, ⟨z11, z12, z13⟩, ⟨z14, z15, z16⟩⟩ := hZ
  rw [z1] at b3; rw [z3] at b4; rw [z6] at b5; rw [z9] at b6; rw [z11] at b7; rw [z14] at b8
  simp only [f_X3_isTowel, b6]
  rcases h with h | h
  · rw [if_pos h]
  · rw [if_pos h]; split <;> rfl
theorem c_isValveO {M : hz_M} {q : Nat → Int32} (hC : hy_C M q) {a : Int32} (h : a < 0 ∨ nI (vz q) ≤ a) : f_X3_isValve a M = some (0, M) := by
  have hC0 := hC
  obtain ⟨hZ, ⟨b3, b4, b5, b6, b7, b8, bag, bnm⟩, hRR⟩ := hC
  have hZ0 := hZ
  obtain ⟨⟨s1, s2, s3, s4, s5, s6⟩, ra, ro, rp, rl, rt, rs, rw', rd, rwt, rpg, rk, rh, rtw⟩ := c_rows hRR
  obtain ⟨⟨z1, z2⟩, ⟨z3, z4, z5⟩, ⟨z6, z7, z8⟩, ⟨z9, z10⟩, ⟨z11, z12, z13⟩, ⟨z14, z15, z16⟩⟩ := hZ
  rw [z1] at b3; rw [z3] at b4; rw [z6] at b5; rw [z9] at b6; rw [z11] at b7; rw [z14] at b8
  simp only [f_X3_isValve, b7]
  rcases h with h | h
  · rw [if_pos h]
  · rw [if_pos h]; split <;> rfl
theorem c_isLockerO {M : hz_M} {q : Nat → Int32} (hC : hy_C M q) {a : Int32} (h : a < 0 ∨ nI (lz q) ≤ a) : f_X3_isLocker a M = some (0, M) := by
  have hC0 := hC
  obtain ⟨hZ, ⟨b3, b4, b5, b6, b7, b8, bag, bnm⟩, hRR⟩ := hC
  have hZ0 := hZ
  obtain ⟨⟨s1, s2, s3, s4, s5, s6⟩, ra, ro, rp, rl, rt, rs, rw', rd, rwt, rpg, rk, rh, rtw⟩ := c_rows hRR
  obtain ⟨⟨z1, z2⟩, ⟨z3, z4, z5⟩, ⟨z6, z7, z8⟩, ⟨z9, z10⟩, ⟨z11, z12, z13⟩, ⟨z14, z15, z16⟩⟩ := hZ
  rw [z1] at b3; rw [z3] at b4; rw [z6] at b5; rw [z9] at b6; rw [z11] at b7; rw [z14] at b8
  simp only [f_X3_isLocker, b4]
  rcases h with h | h
  · rw [if_pos h]
  · rw [if_pos h]; split <;> rfl
theorem c_isValve {M : hz_M} {q : Nat → Int32} (hC : hy_C M q) {t : Nat} (ht : t < vz q) : f_X3_isValve (nI t) M = some (1, M) := by
  have hC0 := hC
  obtain ⟨hZ, ⟨b3, b4, b5, b6, b7, b8, bag, bnm⟩, hRR⟩ := hC
  have hZ0 := hZ
  obtain ⟨⟨s1, s2, s3, s4, s5, s6⟩, ra, ro, rp, rl, rt, rs, rw', rd, rwt, rpg, rk, rh, rtw⟩ := c_rows hRR
  obtain ⟨⟨z1, z2⟩, ⟨z3, z4, z5⟩, ⟨z6, z7, z8⟩, ⟨z9, z10⟩, ⟨z11, z12, z13⟩, ⟨z14, z15, z16⟩⟩ := hZ
  rw [z1] at b3; rw [z3] at b4; rw [z6] at b5; rw [z9] at b6; rw [z11] at b7; rw [z14] at b8
  have e1 : ¬ vz q ≤ t := by omega
  have e2 : ¬ t < 0 := by omega
  simp (disch := omega) only [f_X3_isValve, b7, hy_le, hy_0, hy_lt, e1, e2, if_false]
/-- the two sides of a number's range -/
theorem hy_two (a : Int32) {n : Nat} (hn : n < 2 ^ 31) : (a < 0 ∨ nI n ≤ a) ∨ ∃ k, k < n ∧ a = nI k := by
  by_cases h : a < 0
  · exact Or.inl (Or.inl h)
  · by_cases h2 : nI n ≤ a
    · exact Or.inl (Or.inr h2)
    · exact Or.inr (hy_ex (by grind) (by grind) hn)
theorem hy_two1 (a : Int32) {n : Nat} (hn : n < 2 ^ 31) : (a < 1 ∨ nI n < a) ∨ ∃ k, 1 ≤ k ∧ k ≤ n ∧ a = nI k := by
  by_cases h : a < 1
  · exact Or.inl (Or.inl h)
  · by_cases h2 : nI n < a
    · exact Or.inl (Or.inr h2)
    · obtain ⟨k, h3, h4⟩ := hy_ex' (x := a) (n := n) (by grind) (by grind) hn
      refine Or.inr ⟨k, ?_, h3, h4⟩
      rw [h4, hy_1, hy_lt (by omega) (by omega)] at h
      omega
theorem hy_back {a : Int32} {c k : Nat} (h : a - nI c = nI k) : a = nI (c + k) := by
  have : a = a - nI c + nI c := (Int32.sub_add_cancel a (nI c)).symm
  rw [this, h, hy_add]; congr 1; omega
theorem c_isDeed {M : hz_M} {q : Nat → Int32} (hC : hy_C M q) (a : Int32) : (deed q a ∧ f_X9_isDeed a M = some (1, M)) ∨ (¬ deed q a ∧ f_X9_isDeed a M = some (0, M)) := by
  have hC0 := hC
  obtain ⟨hZ, ⟨b3, b4, b5, b6, b7, b8, bag, bnm⟩, hRR⟩ := hC
  have hZ0 := hZ
  obtain ⟨⟨s1, s2, s3, s4, s5, s6⟩, ra, ro, rp, rl, rt, rs, rw', rd, rwt, rpg, rk, rh, rtw⟩ := c_rows hRR
  obtain ⟨⟨z1, z2⟩, ⟨z3, z4, z5⟩, ⟨z6, z7, z8⟩, ⟨z9, z10⟩, ⟨z11, z12, z13⟩, ⟨z14, z15, z16⟩⟩ := hZ
  rw [z1] at b3; rw [z3] at b4; rw [z6] at b5; rw [z9] at b6; rw [z11] at b7; rw [z14] at b8
  unfold f_X9_isDeed
  simp only [hy_jn]
  by_cases d0 : a = 0
  · exact Or.inl ⟨Or.inl d0, by simp only [d0, if_true]⟩
  by_cases d1 : a = 1
  · exact Or.inl ⟨Or.inr (Or.inl d1), by simp only [d1, hy_f10, if_false, if_true]⟩
  simp only [d0, d1, if_false]
  rcases hy_two1 (a - 10) (n := sz q) (by omega) with h | ⟨s, h1, h2, h3⟩
  · rw [c_isStepN hC0 h]
    simp only [hy_cts, if_true]
    rcases hy_two (a - 20) (n := pz q) (by omega) with h' | ⟨p, h1, h3⟩
    · rw [c_isPegO hC0 h']
      simp only [hy_cts, if_true]
      rcases hy_two (a - 40) (n := pz q) (by omega) with h'' | ⟨p, h1, h3⟩
      · rw [c_isPegO hC0 h'']
        simp only [hy_cts, if_true]
        refine Or.inr ⟨?_, trivial⟩
        rintro (e | e | ⟨s, e1, e2, e⟩ | ⟨p, e1, e⟩ | ⟨p, e1, e⟩)
        · exact d0 e
        · exact d1 e
        · subst e
          rw [hy_s10, hy_1, hy_lt (by omega) (by omega), hy_lt (by omega) (by omega)] at h
          omega
        · subst e
          rw [hy_s20, hy_0, hy_lt (by omega) (by omega), hy_le (by omega) (by omega)] at h'
          omega
        · subst e
          rw [hy_s40, hy_0, hy_lt (by omega) (by omega), hy_le (by omega) (by omega)] at h''
          omega
      · have e := hy_back (c := 40) h3
        rw [h3, c_isPeg hC0 h1]
        exact Or.inl ⟨Or.inr (Or.inr (Or.inr (Or.inr ⟨p, h1, e⟩))), by simp only [hy_cts, hy_f10, if_false]⟩
    · have e := hy_back (c := 20) h3
      rw [h3, c_isPeg hC0 h1]
      exact Or.inl ⟨Or.inr (Or.inr (Or.inr (Or.inl ⟨p, h1, e⟩))), by simp only [hy_cts, hy_f10, if_false]⟩
  · have e := hy_back (c := 10) h3
    rw [h3, c_isStep hC0 h1 h2]
    exact Or.inl ⟨Or.inr (Or.inr (Or.inl ⟨s, h1, h2, e⟩)), by simp only [hy_cts, hy_f10, if_false]⟩
/-- causes -/
def csn (q : Nat → Int32) (g : Nat) (d r : Int32) : Int32 := if r = 2 then 700 - (q 8 - q 8 / 600 * 600) else if r = 3 then 200 + q 0 else if r = 7 then 300 + (5 * (d - 10 - 1) - q (25 + 8 * g + 1)) else
  if r = 8 then 400 + fOn q (nI g) (d - 10) else if r = 9 then 500 + q (25 + 8 * g + 2) else if r = 10 then 600 + tw q (Int32.toNatClampNeg (d - 20)) else 0
theorem nHan_10 {q : Nat → Int32} {g p : Nat} : nEnt q g ≠ 10 ∧ nLea q g ≠ 10 ∧ nSit q g (nI p) ≠ 10 ∧ nTak q g p ≠ 10 := by
  refine ⟨?_, ?_, ?_, ?_⟩
  · unfold nEnt; repeat (first | decide | split)
  · unfold nLea; repeat (first | decide | split)
  · unfold nSit; repeat (first | decide | split)
  · unfold nTak nLea; repeat (first | decide | split)
theorem rsn_10 {q : Nat → Int32} (hZ : hy_Z q) {g : Nat} {d : Int32} (hd : deed q d) (h : rsn q g d = 10) : ∃ p, p < pz q ∧ d = nI (20 + p) := by
  obtain ⟨⟨z1, z2⟩, ⟨z3, z4, z5⟩, ⟨z6, z7, z8⟩, ⟨z9, z10⟩, ⟨z11, z12, z13⟩, ⟨z14, z15, z16⟩⟩ := hZ
  rcases hd with rfl | rfl | ⟨s, h1, h2, rfl⟩ | ⟨p, h1, rfl⟩ | ⟨p, h1, rfl⟩
  · exact absurd h (nHan_10 (p := 0)).1
  · exact absurd h (nHan_10 (p := 0)).2.1
  · rw [rsn_sit q g (by omega) h1] at h; exact absurd h nHan_10.2.2.1
  · exact ⟨p, h1, rfl⟩
  · rw [rsn_tak q g (by omega)] at h; exact absurd h nHan_10.2.2.2
theorem c_csn {M : hz_M} {q : Nat → Int32} (hC : hy_C M q) (hQ : hy_Q q) {g : Nat} (hg : g < gz q) {d : Int32} (hd : deed q d) : f_X9_cause (nI g) d M = some (csn q g d (rsn q g d), M) := by
  have cr := c_rsn hC hQ hg hd
  have hC0 := hC
  obtain ⟨hZ, ⟨b3, b4, b5, b6, b7, b8, bag, bnm⟩, hRR⟩ := hC
  have hZ0 := hZ
  obtain ⟨⟨s1, s2, s3, s4, s5, s6⟩, ra, ro, rp, rl, rt, rs, rw', rd, rwt, rpg, rk, rh, rtw⟩ := c_rows hRR
  obtain ⟨⟨z1, z2⟩, ⟨z3, z4, z5⟩, ⟨z6, z7, z8⟩, ⟨z9, z10⟩, ⟨z11, z12, z13⟩, ⟨z14, z15, z16⟩⟩ := hZ
  rw [z1] at b3; rw [z3] at b4; rw [z6] at b5; rw [z9] at b6; rw [z11] at b7; rw [z14] at b8
  unfold f_X9_cause csn
  rw [cr, hy_cts]
  by_cases e10 : rsn q g d = 10
  · obtain ⟨p, hp, rfl⟩ := rsn_10 hZ0 hd e10
    rw [e10]
    simp (disch := omega) only [show ((10 : Int32) = 2) = False from eq_false (by decide), show ((10 : Int32) = 3) = False from eq_false (by decide), show ((10 : Int32) = 7) = False from eq_false (by decide), show ((10 : Int32) = 8) = False from eq_false (by decide), show ((10 : Int32) = 9) = False from eq_false (by decide), if_false, if_true, hy_s20, hy_c, c_isPeg hC0 hp, hy_cts, hy_jn, hy_f10, hy_in, hy_gt, rtw p hp]
  · generalize rsn q g d = r at *
    by_cases e2 : r = 2
    · simp only [e2, if_true, f_X7_minutesLeftToday, s1, hy_cts]
      have e : ∀ x : Int32, 100 + (600 - x) = 700 - x := by
        intro x
        rw [Int32.sub_eq_add_neg, ← Int32.add_assoc, Int32.sub_eq_add_neg]; rfl
      rw [e]
    by_cases e3 : r = 3
    · subst e3
      simp only [e2, if_true, if_false, b4, z3]
    by_cases e7 : r = 7
    · subst e7
      have e : ∀ x y : Int32, 300 + x - y = 300 + (x - y) := by
        intro x y
        rw [Int32.sub_eq_add_neg, Int32.sub_eq_add_neg, Int32.add_assoc]
      simp (disch := omega) only [e2, e3, if_true, if_false, f_X3_ageFor, hy_in, hy_gt, hy_c, bag g hg, hy_cts, e]
    by_cases e8 : r = 8
    · subst e8
      simp only [e2, e3, e7, if_true, if_false, c_fOn hC0, hy_cts]
    by_cases e9 : r = 9
    · subst e9
      simp (disch := omega) only [e2, e3, e7, e8, if_true, if_false, hy_in, hy_c, hy_gt, rp g hg]
    · simp only [e2, e3, e7, e8, e9, e10, if_false]


