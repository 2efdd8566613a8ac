theorem hy_f01 : ((0 : Int32) = -1) = False := eq_false (by decide)
theorem hy_f10 : ((1 : Int32) = 0) = False := eq_false (by decide)
theorem hy_f50 : ((5 : Int32) = 0) = False := eq_false (by decide)
theorem hy_f90 : ((9 : Int32) = 0) = False := eq_false (by decide)
def nEnt (q : Nat → Int32) (g : Nat) : Int32 := if q (25 + 8 * g + 2) = -1 then (if q (25 + 8 * g + 7) = q 8 / 600 then 2 else if frL q = -1 then 3 else if dry q = -1 then 4 else 0) else 1
def nLea (q : Nat → Int32) (g : Nat) : Int32 := if q (25 + 8 * g + 2) = -1 then 5 else if q (25 + 8 * g + 2) = 0 then 0 else 9
def nSit (q : Nat → Int32) (g : Nat) (a : Int32) : Int32 := if q (25 + 8 * g + 2) = -1 then 5 else if q (25 + 8 * g + 4) = -1 then 6 else
  if 5 * (a - 1) - q (25 + 8 * g + 1) ≤ 0 then (if (if q (25 + 8 * g + 2) = a then hAt q a - 1 else hAt q a - 0) < q 5 then 0 else 8) else 7
def nHan (q : Nat → Int32) (g p : Nat) : Int32 := if nLea q g = 0 then (if q (25 + 8 * g + 4) = -1 then 6 else if tw q p = -1 then 0 else 10) else nLea q g
def nTak (q : Nat → Int32) (g p : Nat) : Int32 := if nLea q g = 0 then (if q (25 + 8 * g + 4) = -1 then (if tw q p = -1 then 12 else 0) else 11) else nLea q g
/-- a deed that there is -/
def deed (q : Nat → Int32) (d : Int32) : Prop := d = 0 ∨ d = 1 ∨ (∃ s, 1 ≤ s ∧ s ≤ sz q ∧ d = nI (10 + s)) ∨ (∃ p, p < pz q ∧ d = nI (20 + p)) ∨ ∃ p, p < pz q ∧ d = nI (40 + p)
def rsn (q : Nat → Int32) (g : Nat) (d : Int32) : Int32 := if d = 0 then nEnt q g else if d = 1 then nLea q g else if 20 ≤ d then (if 40 ≤ d then nTak q g (Int32.toNatClampNeg (d - 40)) else nHan q g (Int32.toNatClampNeg (d - 20))) else nSit q g (d - 10)
theorem hy_s40 (p : Nat) : nI (40 + p) - 40 = nI p := by
  rw [show (40 : Int32) = nI 40 from rfl, hy_sub (by omega)]; congr 1; omega
theorem hy_s20 (p : Nat) : nI (20 + p) - 20 = nI p := by
  rw [show (20 : Int32) = nI 20 from rfl, hy_sub (by omega)]; congr 1; omega
theorem hy_s10 (p : Nat) : nI (10 + p) - 10 = nI p := by
  rw [show (10 : Int32) = nI 10 from rfl, hy_sub (by omega)]; congr 1; omega
theorem hy_L20 : (20 : Int32) = nI 20 := rfl
theorem hy_L40 : (40 : Int32) = nI 40 := rfl
theorem rsn_sit (q : Nat → Int32) (g : Nat) {s : Nat} (h : s ≤ 6) (h1 : 1 ≤ s) : rsn q g (nI (10 + s)) = nSit q g (nI s) := by
  unfold rsn
  rw [hy_s10]
  have e1 : ¬ nI (10 + s) = 0 := by rw [hy_0, hy_eq (by omega) (by omega)]; omega
  have e2 : ¬ nI (10 + s) = 1 := by rw [hy_1, hy_eq (by omega) (by omega)]; omega
  have e3 : ¬ (20 : Int32) ≤ nI (10 + s) := by rw [hy_L20, hy_le (by omega) (by omega)]; omega
  simp only [e1, e2, e3, if_false]
theorem rsn_han (q : Nat → Int32) (g : Nat) {p : Nat} (h : p < 16) : rsn q g (nI (20 + p)) = nHan q g p := by
  unfold rsn
  rw [hy_s20, hy_c (by omega)]
  have e1 : ¬ nI (20 + p) = 0 := by rw [hy_0, hy_eq (by omega) (by omega)]; omega
  have e2 : ¬ nI (20 + p) = 1 := by rw [hy_1, hy_eq (by omega) (by omega)]; omega
  have e3 : (20 : Int32) ≤ nI (20 + p) := by rw [hy_L20, hy_le (by omega) (by omega)]; omega
  have e4 : ¬ (40 : Int32) ≤ nI (20 + p) := by rw [hy_L40, hy_le (by omega) (by omega)]; omega
  simp only [e1, e2, e3, e4, if_false, if_true]
theorem rsn_tak (q : Nat → Int32) (g : Nat) {p : Nat} (h : p < 16) : rsn q g (nI (40 + p)) = nTak q g p := by
  unfold rsn
  rw [hy_s40, hy_c (by omega)]
  have e1 : ¬ nI (40 + p) = 0 := by rw [hy_0, hy_eq (by omega) (by omega)]; omega
  have e2 : ¬ nI (40 + p) = 1 := by rw [hy_1, hy_eq (by omega) (by omega)]; omega
  have e3 : (20 : Int32) ≤ nI (40 + p) := by rw [hy_L20, hy_le (by omega) (by omega)]; omega
  have e4 : (40 : Int32) ≤ nI (40 + p) := by rw [hy_L40, hy_le (by omega) (by omega)]; omega
  simp only [e1, e2, e3, e4, if_false, if_true]
theorem c_isStep {M : hz_M} {q : Nat → Int32} (hC : hy_C M q) {t : Nat} (h1 : 1 ≤ t) (ht : t ≤ sz q) : f_X3_isStep (nI t) M = some (1, M) := by
  have hC0 := hC
  obtain ⟨hZ, ⟨b3, b4, b5, b6, b7, b8, bag, bnm⟩, hRR⟩ := hC
  have hZ0 := hZ
  obtain ⟨⟨s1, s2, s3, s4, s5, s6⟩, ra, ro, rp, rl, rt, rs, rw', rd, rwt, rpg, rk, rh, rtw⟩ := c_rows hRR
  obtain ⟨⟨z1, z2⟩, ⟨z3, z4, z5⟩, ⟨z6, z7, z8⟩, ⟨z9, z10⟩, ⟨z11, z12, z13⟩, ⟨z14, z15, z16⟩⟩ := hZ
  rw [z1] at b3; rw [z3] at b4; rw [z6] at b5; rw [z9] at b6; rw [z11] at b7; rw [z14] at b8
  have e1 : ¬ sz q < t := by omega
  have e2 : ¬ t < 1 := by omega
  simp (disch := omega) only [f_X3_isStep, b8, hy_1, hy_lt, e1, e2, if_false]
theorem c_isStepN {M : hz_M} {q : Nat → Int32} (hC : hy_C M q) {a : Int32} (h : a < 1 ∨ nI (sz q) < a) : f_X3_isStep a M = some (0, M) := by
  have hC0 := hC
  obtain ⟨hZ, ⟨b3, b4, b5, b6, b7, b8, bag, bnm⟩, hRR⟩ := hC
  have hZ0 := hZ
  obtain ⟨⟨s1, s2, s3, s4, s5, s6⟩, ra, ro, rp, rl, rt, rs, rw', rd, rwt, rpg, rk, rh, rtw⟩ := c_rows hRR
  obtain ⟨⟨z1, z2⟩, ⟨z3, z4, z5⟩, ⟨z6, z7, z8⟩, ⟨z9, z10⟩, ⟨z11, z12, z13⟩, ⟨z14, z15, z16⟩⟩ := hZ
  rw [z1] at b3; rw [z3] at b4; rw [z6] at b5; rw [z9] at b6; rw [z11] at b7; rw [z14] at b8
  simp only [f_X3_isStep, b8]
  rcases h with h | h
  · rw [if_pos h]
  · rw [if_pos h]; split <;> rfl
theorem c_isPegO {M : hz_M} {q : Nat → Int32} (hC : hy_C M q) {a : Int32} (h : a < 0 ∨ nI (pz q) ≤ a) : f_X3_isPeg a M = some (0, M) := by
  have hC0 := hC
  obtain ⟨hZ, ⟨b3, b4, b5, b6, b7, b8, bag, bnm⟩, hRR⟩ := hC
  have hZ0 := hZ
  obtain ⟨⟨s1, s2, s3, s4, s5, s6⟩, ra, ro, rp, rl, rt, rs, rw', rd, rwt, rpg, rk, rh, rtw⟩ := c_rows hRR
  obtain ⟨⟨z1, z2⟩, ⟨z3, z4, z5⟩, ⟨z6, z7, z8⟩, ⟨z9, z10⟩, ⟨z11, z12, z13⟩, ⟨z14, z15, z16⟩⟩ := hZ
  rw [z1] at b3; rw [z3] at b4; rw [z6] at b5; rw [z9] at b6; rw [z11] at b7; rw [z14] at b8
  simp only [f_X3_isPeg, b5]
  rcases h with h | h
  · rw [if_pos h]
  · rw [if_pos h]; split <;> rfl
theorem c_rsn {M : hz_M} {q : Nat → Int32} (hC : hy_C M q) (hQ : hy_Q q) {g : Nat} (hg : g < gz q) {d : Int32} (hd : deed q d) : f_X9_reason (nI g) d M = some (rsn q g d, M) := by
  obtain ⟨k, hk, hag⟩ := hQ.1 g hg
  have hC0 := hC
  obtain ⟨hZ, ⟨b3, b4, b5, b6, b7, b8, bag, bnm⟩, hRR⟩ := hC
  have hZ0 := hZ
  obtain ⟨⟨s1, s2, s3, s4, s5, s6⟩, ra, ro, rp, rl, rt, rs, rw', rd, rwt, rpg, rk, rh, rtw⟩ := c_rows hRR
  obtain ⟨⟨z1, z2⟩, ⟨z3, z4, z5⟩, ⟨z6, z7, z8⟩, ⟨z9, z10⟩, ⟨z11, z12, z13⟩, ⟨z14, z15, z16⟩⟩ := hZ
  rw [z1] at b3; rw [z3] at b4; rw [z6] at b5; rw [z9] at b6; rw [z11] at b7; rw [z14] at b8
  rcases hd with rfl | rfl | ⟨s, h1, h2, rfl⟩ | ⟨p, h1, rfl⟩ | ⟨p, h1, rfl⟩
  · simp (disch := omega) only [f_X9_reason, rsn, if_true, f_X9_reasonToStayOut, f_X7_day, c_frL hC0, c_dry hC0, rp g hg, rd g hg, s1, hy_in, hy_c, hy_gt, hy_cts]
    unfold nEnt
    by_cases e1 : q (25 + 8 * g + 2) = -1 <;> by_cases e2 : q (25 + 8 * g + 7) = q 8 / 600 <;> by_cases e3 : frL q = -1 <;> by_cases e4 : dry q = -1 <;> simp only [e1, e2, e3, e4, if_true, if_false, hy_cts]
  · have e10 := c_isStepN hC0 (a := 1 - 10) (Or.inl (by decide))
    have e20 := c_isPegN (M := M) (1 - 20) (by decide)
    have e40 := c_isPegN (M := M) (1 - 40) (by decide)
    simp (disch := omega) only [f_X9_reason, rsn, nLea, e10, e20, e40, show ((1 : Int32) = 0) = False from eq_false (by decide), if_true, if_false, rp g hg, hy_in, hy_c, hy_gt, hy_cts]
    by_cases e1 : q (25 + 8 * g + 2) = -1 <;> by_cases e2 : q (25 + 8 * g + 2) = 0 <;> simp only [e1, e2, if_true, if_false, hy_f01]
  · rw [rsn_sit q g (by omega) h1]
    have e1 : ¬ nI (10 + s) = 0 := by rw [hy_0, hy_eq (by omega) (by omega)]; omega
    have e5 : (5 * (nI s - 1) - q (25 + 8 * g + 1) ≤ 0) = (5 * (nI s - 1) ≤ q (25 + 8 * g + 1)) := by
      rw [hag, hy_1, hy_sub h1, show (5 : Int32) = nI 5 from rfl, hy_mul]
      apply propext
      have a1 := hy_nn (a := 5 * (s - 1)) (by omega)
      have a2 : nI (5 * (s - 1)) ≤ nI 100 := by rw [hy_le (by omega) (by omega)]; omega
      have a3 := hy_nn (a := k) (by omega)
      have a4 : nI k ≤ nI 100 := by rw [hy_le (by omega) (by omega)]; omega
      rw [show nI 100 = (100 : Int32) from rfl] at a2 a4
      generalize nI (5 * (s - 1)) = x at *
      generalize nI k = y at *
      constructor <;> intro h <;> grind
    have e6 : ∀ x : Int32, x + -1 = x - 1 := fun x => (Int32.sub_eq_add_neg x 1).symm
    have e7 : ∀ x : Int32, x - 0 = x := fun x => Int32.sub_zero x
    simp (disch := omega) only [f_X9_reason, nSit, e1, e5, e6, e7, hy_s10, c_isStep hC0 h1 h2, f_X9_reasonNotToSit, f_X3_ageFor, c_hAt hC0, rp g hg, rt g hg, bag g hg, s4, show ((1 : Int32) = 0) = False from eq_false (by decide), if_true, if_false, hy_in, hy_c, hy_gt, hy_cts, hy_lt', hy_jn]
    by_cases g1 : q (25 + 8 * g + 2) = -1
    · simp only [g1, if_true]
    by_cases g2 : q (25 + 8 * g + 4) = -1
    · simp only [g1, g2, if_true, if_false, hy_cts]
    by_cases g3 : 5 * (nI s - 1) ≤ q (25 + 8 * g + 1)
    · by_cases g4 : q (25 + 8 * g + 2) = nI s
      · by_cases g5 : hAt q (nI s) - 1 < q 5 <;> simp (disch := omega) only [g2, g3, g4, g5, hy_n1, if_true, if_false, hy_cts]
      · by_cases g5 : hAt q (nI s) < q 5 <;> simp only [g1, g2, g3, g4, g5, if_true, if_false, hy_cts]
    · simp only [g1, g2, g3, if_true, if_false, hy_cts]
  · rw [rsn_han q g (by omega)]
    have e1 : ¬ nI (20 + p) = 0 := by rw [hy_0, hy_eq (by omega) (by omega)]; omega
    have e10 := c_isStepN hC0 (a := nI (20 + p) - 10) (Or.inr (by rw [show (10 : Int32) = nI 10 from rfl, hy_sub (by omega), hy_lt (by omega) (by omega)]; omega))
    simp (disch := omega) only [f_X9_reason, nHan, nLea, e1, e10, c_isPeg hC0 h1, hy_s20, f_X9_reasonNotToHang, rp g hg, rt g hg, rtw p h1, show ((1 : Int32) = 0) = False from eq_false (by decide), if_true, if_false, hy_in, hy_c, hy_gt, hy_cts]
    by_cases g1 : q (25 + 8 * g + 2) = -1
    · simp only [g1, if_true, show ((5 : Int32) = 0) = False from eq_false (by decide), if_false]
    by_cases g2 : q (25 + 8 * g + 2) = 0
    · by_cases g3 : q (25 + 8 * g + 4) = -1 <;> by_cases g4 : tw q p = -1 <;> simp only [g2, g3, g4, if_true, if_false, show ((0 : Int32) = -1) = False from eq_false (by decide), hy_cts]
    · simp only [g1, g2, if_true, if_false, show ((9 : Int32) = 0) = False from eq_false (by decide)]
  · rw [rsn_tak q g (by omega)]
    have e1 : ¬ nI (40 + p) = 0 := by rw [hy_0, hy_eq (by omega) (by omega)]; omega
    have e10 := c_isStepN hC0 (a := nI (40 + p) - 10) (Or.inr (by rw [show (10 : Int32) = nI 10 from rfl, hy_sub (by omega), hy_lt (by omega) (by omega)]; omega))
    have e20 := c_isPegO hC0 (a := nI (40 + p) - 20) (Or.inr (by rw [show (20 : Int32) = nI 20 from rfl, hy_sub (by omega), hy_le (by omega) (by omega)]; omega))
    simp (disch := omega) only [f_X9_reason, nTak, nLea, e1, e10, e20, c_isPeg hC0 h1, hy_s40, f_X9_reasonNotToTake, rp g hg, rt g hg, rtw p h1, show ((1 : Int32) = 0) = False from eq_false (by decide), if_true, if_false, hy_in, hy_c, hy_gt, hy_cts]
    by_cases g1 : q (25 + 8 * g + 2) = -1
    · simp only [g1, if_true, show ((5 : Int32) = 0) = False from eq_false (by decide), if_false]
    by_cases g2 : q (25 + 8 * g + 2) = 0
    · by_cases g3 : q (25 + 8 * g + 4) = -1 <;> by_cases g4 : tw q p = -1 <;> simp only [g2, g3, g4, if_true, if_false, show ((0 : Int32) = -1) = False from eq_false (by decide), hy_cts]
    · simp only [g1, g2, if_true, if_false, show ((9 : Int32) = 0) = False from eq_false (by decide)]


