def pk (f : Nat → Int32) (n : Nat) : Int32 := hy_fold (fun i a => 27 * a + f i - 96) n 0 0
/-- a name, as letters and as a number -/
def nmd (M : hz_M) (g : Nat) (v : Int32) : Prop := ∃ n : Nat, 1 ≤ n ∧ n ≤ 6 ∧ M 4 g = nI n ∧ (∀ i, i < n → ∃ c, 1 ≤ c ∧ c ≤ 26 ∧ M 3 (6 * g + i) = nI (96 + c)) ∧ v = pk (fun i => M 3 (6 * g + i)) n
def hy_Ho (M : hz_M) (q : Nat → Int32) : Prop := M 1 3 = q 11 ∧ M 1 4 = q 0 ∧ M 1 5 = q 1 ∧ M 1 6 = q 2 ∧ M 1 7 = q 3 ∧ M 1 8 = q 4 ∧ (∀ g, g < gz q → M 2 g = q (25 + 8 * g + 1)) ∧ (∀ g, g < gz q → nmd M g (q (25 + 8 * g)))
def hy_C (M : hz_M) (q : Nat → Int32) : Prop := hy_Z q ∧ hy_Ho M q ∧ hy_RC 11 M q
theorem c_rows {M : hz_M} {q : Nat → Int32} (h : hy_RC 11 M q) : (M 11 14 = q 8 ∧ M 11 15 = q 9 ∧ M 11 16 = q 10 ∧ M 11 17 = q 5 ∧ M 11 18 = q 6 ∧ M 11 19 = q 7) ∧
  (∀ k, k < 9 → M 24 k = q (12 + k)) ∧ (∀ v, v < 4 → M 12 v = q (21 + v)) ∧
  (∀ g, g < gz q → M 13 g = q (25 + 8 * g + 2)) ∧ (∀ g, g < gz q → M 14 g = q (25 + 8 * g + 3)) ∧
  (∀ g, g < gz q → M 15 g = q (25 + 8 * g + 4)) ∧ (∀ g, g < gz q → M 16 g = q (25 + 8 * g + 5)) ∧
  (∀ g, g < gz q → M 17 g = q (25 + 8 * g + 6)) ∧ (∀ g, g < gz q → M 18 g = q (25 + 8 * g + 7)) ∧
  (∀ t, t < tz q → M 20 t = q (153 + 2 * t)) ∧ (∀ t, t < tz q → M 21 t = q (153 + 2 * t + 1)) ∧
  (∀ k, k < lz q → M 19 k = kpr q k) ∧ (∀ t, t < tz q → M 22 t = hld q t) ∧ (∀ p, p < pz q → M 23 p = tw q p) := h

theorem c_hAt {M : hz_M} {q : Nat → Int32} (hC : hy_C M q) (a : Int32) :
    f_X7_guestsAt a M = some (hAt q a, M) := by
  have hC0 := hC
  obtain ⟨hZ, ⟨b3, b4, b5, b6, b7, b8, bag, bnm⟩, hRR⟩ := hC
  have hZ0 := hZ
  obtain ⟨⟨s1, s2, s3, s4, s5, s6⟩, ra, ro, rp, rl, rt, rs, rw', rd, rwt, rpg, rk, rh, rtw⟩ := c_rows hRR
  obtain ⟨⟨z1, z2⟩, ⟨z3, z4, z5⟩, ⟨z6, z7, z8⟩, ⟨z9, z10⟩, ⟨z11, z12, z13⟩, ⟨z14, z15, z16⟩⟩ := hZ
  rw [z1] at b3; rw [z3] at b4; rw [z6] at b5; rw [z9] at b6; rw [z11] at b7; rw [z14] at b8
  unfold f_X7_guestsAt
  refine hy_for0 (fun f c i => f_X7_guestsAt_L4 f a c (nI i) M) (gz q) (fun g c => if q (25 + 8 * g + 2) = a then c + 1 else c) (fun r => some (r, M)) ?_ ?_ hz_FU _ (hy_FU (by omega))
  · intro f c
    simp (disch := omega) [f_X7_guestsAt_L4, b3, hy_cts, hy_gt, hy_lt', hy_lm, hy_jn, hy_c, hy_in, hy_le, hy_add1, hy_k0, hy_k1, hy_k2, hy_k3, hy_k4, hy_k5, hy_k6, hy_k7, hy_k8, hy_k9, hy_k10, hy_k11, hy_k12, hy_k13]
  · intro f c i hi
    have hi' : ¬ (gz q) ≤ i := by omega
    simp (disch := omega) only [f_X7_guestsAt_L4, b3, hi', if_false, hy_cts, hy_gt, hy_lt', hy_lm, hy_jn, hy_c, hy_in, hy_le, hy_add1, hy_k0, hy_k1, hy_k2, hy_k3, hy_k4, hy_k5, hy_k6, hy_k7, hy_k8, hy_k9, hy_k10, hy_k11, hy_k12, hy_k13, rp i hi]
    by_cases e : q (25 + 8 * i + 2) = a <;> simp [e]
theorem c_hIns {M : hz_M} {q : Nat → Int32} (hC : hy_C M q)  :
    f_X7_guestsInside  M = some (hIns q, M) := by
  have hC0 := hC
  obtain ⟨hZ, ⟨b3, b4, b5, b6, b7, b8, bag, bnm⟩, hRR⟩ := hC
  have hZ0 := hZ
  obtain ⟨⟨s1, s2, s3, s4, s5, s6⟩, ra, ro, rp, rl, rt, rs, rw', rd, rwt, rpg, rk, rh, rtw⟩ := c_rows hRR
  obtain ⟨⟨z1, z2⟩, ⟨z3, z4, z5⟩, ⟨z6, z7, z8⟩, ⟨z9, z10⟩, ⟨z11, z12, z13⟩, ⟨z14, z15, z16⟩⟩ := hZ
  rw [z1] at b3; rw [z3] at b4; rw [z6] at b5; rw [z9] at b6; rw [z11] at b7; rw [z14] at b8
  unfold f_X7_guestsInside
  refine hy_for0 (fun f c i => f_X7_guestsInside_L4 f c (nI i) M) (gz q) (fun g c => if q (25 + 8 * g + 2) = -1 then c else c + 1) (fun r => some (r, M)) ?_ ?_ hz_FU _ (hy_FU (by omega))
  · intro f c
    simp (disch := omega) [f_X7_guestsInside_L4, b3, hy_cts, hy_gt, hy_lt', hy_lm, hy_jn, hy_c, hy_in, hy_le, hy_add1, hy_k0, hy_k1, hy_k2, hy_k3, hy_k4, hy_k5, hy_k6, hy_k7, hy_k8, hy_k9, hy_k10, hy_k11, hy_k12, hy_k13]
  · intro f c i hi
    have hi' : ¬ (gz q) ≤ i := by omega
    simp (disch := omega) only [f_X7_guestsInside_L4, b3, hi', if_false, hy_cts, hy_gt, hy_lt', hy_lm, hy_jn, hy_c, hy_in, hy_le, hy_add1, hy_k0, hy_k1, hy_k2, hy_k3, hy_k4, hy_k5, hy_k6, hy_k7, hy_k8, hy_k9, hy_k10, hy_k11, hy_k12, hy_k13, rp i hi]
    by_cases e : q (25 + 8 * i + 2) = -1 <;> simp [e]
theorem c_fOn {M : hz_M} {q : Nat → Int32} (hC : hy_C M q) (a b : Int32) :
    f_X7_lowestBeside a b M = some (fOn q a b, M) := by
  have hC0 := hC
  obtain ⟨hZ, ⟨b3, b4, b5, b6, b7, b8, bag, bnm⟩, hRR⟩ := hC
  have hZ0 := hZ
  obtain ⟨⟨s1, s2, s3, s4, s5, s6⟩, ra, ro, rp, rl, rt, rs, rw', rd, rwt, rpg, rk, rh, rtw⟩ := c_rows hRR
  obtain ⟨⟨z1, z2⟩, ⟨z3, z4, z5⟩, ⟨z6, z7, z8⟩, ⟨z9, z10⟩, ⟨z11, z12, z13⟩, ⟨z14, z15, z16⟩⟩ := hZ
  rw [z1] at b3; rw [z3] at b4; rw [z6] at b5; rw [z9] at b6; rw [z11] at b7; rw [z14] at b8
  unfold f_X7_lowestBeside
  refine hy_first (fun f i => f_X7_lowestBeside_L2 f a b (nI i) M) (gz q) (fun k => decide (¬ nI k = a ∧ q (25 + 8 * k + 2) = b)) (fun r => some (r, M)) ?_ ?_ (gz q) 0 hz_FU (by omega) (hy_FU (by omega))
  · intro f
    simp (disch := omega) [f_X7_lowestBeside_L2, b3, hy_cts, hy_gt, hy_lt', hy_lm, hy_jn, hy_c, hy_in, hy_le, hy_add1, hy_k0, hy_k1, hy_k2, hy_k3, hy_k4, hy_k5, hy_k6, hy_k7, hy_k8, hy_k9, hy_k10, hy_k11, hy_k12, hy_k13]
  · intro f i hi
    have hi' : ¬ (gz q) ≤ i := by omega
    simp (disch := omega) only [f_X7_lowestBeside_L2, b3, hi', if_false, hy_cts, hy_gt, hy_lt', hy_lm, hy_jn, hy_c, hy_in, hy_le, hy_add1, hy_k0, hy_k1, hy_k2, hy_k3, hy_k4, hy_k5, hy_k6, hy_k7, hy_k8, hy_k9, hy_k10, hy_k11, hy_k12, hy_k13, rp i hi]
    by_cases e : nI i = a <;> by_cases e2 : q (25 + 8 * i + 2) = b <;> simp [e, e2]
theorem c_inUse {M : hz_M} {q : Nat → Int32} (hC : hy_C M q)  :
    f_X7_lockersInUse  M = some (inUse q, M) := by
  have hC0 := hC
  obtain ⟨hZ, ⟨b3, b4, b5, b6, b7, b8, bag, bnm⟩, hRR⟩ := hC
  have hZ0 := hZ
  obtain ⟨⟨s1, s2, s3, s4, s5, s6⟩, ra, ro, rp, rl, rt, rs, rw', rd, rwt, rpg, rk, rh, rtw⟩ := c_rows hRR
  obtain ⟨⟨z1, z2⟩, ⟨z3, z4, z5⟩, ⟨z6, z7, z8⟩, ⟨z9, z10⟩, ⟨z11, z12, z13⟩, ⟨z14, z15, z16⟩⟩ := hZ
  rw [z1] at b3; rw [z3] at b4; rw [z6] at b5; rw [z9] at b6; rw [z11] at b7; rw [z14] at b8
  unfold f_X7_lockersInUse
  refine hy_for0 (fun f c i => f_X7_lockersInUse_L4 f c (nI i) M) (lz q) (fun k c => if kpr q k = -1 then c else c + 1) (fun r => some (r, M)) ?_ ?_ hz_FU _ (hy_FU (by omega))
  · intro f c
    simp (disch := omega) [f_X7_lockersInUse_L4, b4, hy_cts, hy_gt, hy_lt', hy_lm, hy_jn, hy_c, hy_in, hy_le, hy_add1, hy_k0, hy_k1, hy_k2, hy_k3, hy_k4, hy_k5, hy_k6, hy_k7, hy_k8, hy_k9, hy_k10, hy_k11, hy_k12, hy_k13]
  · intro f c i hi
    have hi' : ¬ (lz q) ≤ i := by omega
    simp (disch := omega) only [f_X7_lockersInUse_L4, b4, hi', if_false, hy_cts, hy_gt, hy_lt', hy_lm, hy_jn, hy_c, hy_in, hy_le, hy_add1, hy_k0, hy_k1, hy_k2, hy_k3, hy_k4, hy_k5, hy_k6, hy_k7, hy_k8, hy_k9, hy_k10, hy_k11, hy_k12, hy_k13, rk i hi]
    by_cases e : kpr q i = -1 <;> simp [e]
theorem c_frL {M : hz_M} {q : Nat → Int32} (hC : hy_C M q)  :
    f_X7_freeLocker  M = some (frL q, M) := by
  have hC0 := hC
  obtain ⟨hZ, ⟨b3, b4, b5, b6, b7, b8, bag, bnm⟩, hRR⟩ := hC
  have hZ0 := hZ
  obtain ⟨⟨s1, s2, s3, s4, s5, s6⟩, ra, ro, rp, rl, rt, rs, rw', rd, rwt, rpg, rk, rh, rtw⟩ := c_rows hRR
  obtain ⟨⟨z1, z2⟩, ⟨z3, z4, z5⟩, ⟨z6, z7, z8⟩, ⟨z9, z10⟩, ⟨z11, z12, z13⟩, ⟨z14, z15, z16⟩⟩ := hZ
  rw [z1] at b3; rw [z3] at b4; rw [z6] at b5; rw [z9] at b6; rw [z11] at b7; rw [z14] at b8
  unfold f_X7_freeLocker
  refine hy_first (fun f i => f_X7_freeLocker_L2 f (nI i) M) (lz q) (fun k => decide (kpr q k = -1)) (fun r => some (r, M)) ?_ ?_ (lz q) 0 hz_FU (by omega) (hy_FU (by omega))
  · intro f
    simp (disch := omega) [f_X7_freeLocker_L2, b4, hy_cts, hy_gt, hy_lt', hy_lm, hy_jn, hy_c, hy_in, hy_le, hy_add1, hy_k0, hy_k1, hy_k2, hy_k3, hy_k4, hy_k5, hy_k6, hy_k7, hy_k8, hy_k9, hy_k10, hy_k11, hy_k12, hy_k13]
  · intro f i hi
    have hi' : ¬ (lz q) ≤ i := by omega
    simp (disch := omega) only [f_X7_freeLocker_L2, b4, hi', if_false, hy_cts, hy_gt, hy_lt', hy_lm, hy_jn, hy_c, hy_in, hy_le, hy_add1, hy_k0, hy_k1, hy_k2, hy_k3, hy_k4, hy_k5, hy_k6, hy_k7, hy_k8, hy_k9, hy_k10, hy_k11, hy_k12, hy_k13, rk i hi]
    by_cases e : kpr q i = -1 <;> simp [e]
theorem c_frP {M : hz_M} {q : Nat → Int32} (hC : hy_C M q)  :
    f_X7_freePeg  M = some (frP q, M) := by
  have hC0 := hC
  obtain ⟨hZ, ⟨b3, b4, b5, b6, b7, b8, bag, bnm⟩, hRR⟩ := hC
  have hZ0 := hZ
  obtain ⟨⟨s1, s2, s3, s4, s5, s6⟩, ra, ro, rp, rl, rt, rs, rw', rd, rwt, rpg, rk, rh, rtw⟩ := c_rows hRR
  obtain ⟨⟨z1, z2⟩, ⟨z3, z4, z5⟩, ⟨z6, z7, z8⟩, ⟨z9, z10⟩, ⟨z11, z12, z13⟩, ⟨z14, z15, z16⟩⟩ := hZ
  rw [z1] at b3; rw [z3] at b4; rw [z6] at b5; rw [z9] at b6; rw [z11] at b7; rw [z14] at b8
  unfold f_X7_freePeg
  refine hy_first (fun f i => f_X7_freePeg_L2 f (nI i) M) (pz q) (fun k => decide (tw q k = -1)) (fun r => some (r, M)) ?_ ?_ (pz q) 0 hz_FU (by omega) (hy_FU (by omega))
  · intro f
    simp (disch := omega) [f_X7_freePeg_L2, b5, hy_cts, hy_gt, hy_lt', hy_lm, hy_jn, hy_c, hy_in, hy_le, hy_add1, hy_k0, hy_k1, hy_k2, hy_k3, hy_k4, hy_k5, hy_k6, hy_k7, hy_k8, hy_k9, hy_k10, hy_k11, hy_k12, hy_k13]
  · intro f i hi
    have hi' : ¬ (pz q) ≤ i := by omega
    simp (disch := omega) only [f_X7_freePeg_L2, b5, hi', if_false, hy_cts, hy_gt, hy_lt', hy_lm, hy_jn, hy_c, hy_in, hy_le, hy_add1, hy_k0, hy_k1, hy_k2, hy_k3, hy_k4, hy_k5, hy_k6, hy_k7, hy_k8, hy_k9, hy_k10, hy_k11, hy_k12, hy_k13, rtw i hi]
    by_cases e : tw q i = -1 <;> simp [e]
theorem c_isB {M : hz_M} {q : Nat → Int32} (hC : hy_C M q) {t : Nat} (ht : t < tz q) :
    f_X7_isInBasket (nI t) M = some (if isB q t = true then 1 else 0, M) := by
  have hC0 := hC
  obtain ⟨hZ, ⟨b3, b4, b5, b6, b7, b8, bag, bnm⟩, hRR⟩ := hC
  have hZ0 := hZ
  obtain ⟨⟨s1, s2, s3, s4, s5, s6⟩, ra, ro, rp, rl, rt, rs, rw', rd, rwt, rpg, rk, rh, rtw⟩ := c_rows hRR
  obtain ⟨⟨z1, z2⟩, ⟨z3, z4, z5⟩, ⟨z6, z7, z8⟩, ⟨z9, z10⟩, ⟨z11, z12, z13⟩, ⟨z14, z15, z16⟩⟩ := hZ
  rw [z1] at b3; rw [z3] at b4; rw [z6] at b5; rw [z9] at b6; rw [z11] at b7; rw [z14] at b8
  unfold f_X7_isInBasket isB
  simp (disch := omega) only [rpg t ht, rh t ht, hy_cts, hy_gt, hy_lt', hy_lm, hy_jn, hy_c, hy_in, hy_le, hy_add1, hy_k0, hy_k1, hy_k2, hy_k3, hy_k4, hy_k5, hy_k6, hy_k7, hy_k8, hy_k9, hy_k10, hy_k11, hy_k12, hy_k13]
  by_cases e : q (153 + 2 * t + 1) = -1 <;> by_cases e2 : hld q t = -1 <;> simp [e, e2]
theorem c_bsk {M : hz_M} {q : Nat → Int32} (hC : hy_C M q)  :
    f_X7_towelsInBasket  M = some (bsk q, M) := by
  have hC0 := hC
  obtain ⟨hZ, ⟨b3, b4, b5, b6, b7, b8, bag, bnm⟩, hRR⟩ := hC
  have hZ0 := hZ
  obtain ⟨⟨s1, s2, s3, s4, s5, s6⟩, ra, ro, rp, rl, rt, rs, rw', rd, rwt, rpg, rk, rh, rtw⟩ := c_rows hRR
  obtain ⟨⟨z1, z2⟩, ⟨z3, z4, z5⟩, ⟨z6, z7, z8⟩, ⟨z9, z10⟩, ⟨z11, z12, z13⟩, ⟨z14, z15, z16⟩⟩ := hZ
  rw [z1] at b3; rw [z3] at b4; rw [z6] at b5; rw [z9] at b6; rw [z11] at b7; rw [z14] at b8
  unfold f_X7_towelsInBasket
  refine hy_for0 (fun f c i => f_X7_towelsInBasket_L4 f c (nI i) M) (tz q) (fun t c => if isB q t = true then c + 1 else c) (fun r => some (r, M)) ?_ ?_ hz_FU _ (hy_FU (by omega))
  · intro f c
    simp (disch := omega) [f_X7_towelsInBasket_L4, b6, hy_cts, hy_gt, hy_lt', hy_lm, hy_jn, hy_c, hy_in, hy_le, hy_add1, hy_k0, hy_k1, hy_k2, hy_k3, hy_k4, hy_k5, hy_k6, hy_k7, hy_k8, hy_k9, hy_k10, hy_k11, hy_k12, hy_k13]
  · intro f c i hi
    have hi' : ¬ (tz q) ≤ i := by omega
    simp (disch := omega) only [f_X7_towelsInBasket_L4, b6, hi', if_false, hy_cts, hy_gt, hy_lt', hy_lm, hy_jn, hy_c, hy_in, hy_le, hy_add1, hy_k0, hy_k1, hy_k2, hy_k3, hy_k4, hy_k5, hy_k6, hy_k7, hy_k8, hy_k9, hy_k10, hy_k11, hy_k12, hy_k13, c_isB hC0 hi]
    by_cases e : isB q i = true <;> simp [e]
theorem c_onPg {M : hz_M} {q : Nat → Int32} (hC : hy_C M q)  :
    f_X7_towelsOnPegs  M = some (onPg q 0, M) := by
  have hC0 := hC
  obtain ⟨hZ, ⟨b3, b4, b5, b6, b7, b8, bag, bnm⟩, hRR⟩ := hC
  have hZ0 := hZ
  obtain ⟨⟨s1, s2, s3, s4, s5, s6⟩, ra, ro, rp, rl, rt, rs, rw', rd, rwt, rpg, rk, rh, rtw⟩ := c_rows hRR
  obtain ⟨⟨z1, z2⟩, ⟨z3, z4, z5⟩, ⟨z6, z7, z8⟩, ⟨z9, z10⟩, ⟨z11, z12, z13⟩, ⟨z14, z15, z16⟩⟩ := hZ
  rw [z1] at b3; rw [z3] at b4; rw [z6] at b5; rw [z9] at b6; rw [z11] at b7; rw [z14] at b8
  unfold f_X7_towelsOnPegs
  refine hy_for0 (fun f c i => f_X7_towelsOnPegs_L4 f c (nI i) M) (pz q) (fun p c => if tw q p = -1 then c else c + 1) (fun r => some (r, M)) ?_ ?_ hz_FU _ (hy_FU (by omega))
  · intro f c
    simp (disch := omega) [f_X7_towelsOnPegs_L4, b5, hy_cts, hy_gt, hy_lt', hy_lm, hy_jn, hy_c, hy_in, hy_le, hy_add1, hy_k0, hy_k1, hy_k2, hy_k3, hy_k4, hy_k5, hy_k6, hy_k7, hy_k8, hy_k9, hy_k10, hy_k11, hy_k12, hy_k13]
  · intro f c i hi
    have hi' : ¬ (pz q) ≤ i := by omega
    simp (disch := omega) only [f_X7_towelsOnPegs_L4, b5, hi', if_false, hy_cts, hy_gt, hy_lt', hy_lm, hy_jn, hy_c, hy_in, hy_le, hy_add1, hy_k0, hy_k1, hy_k2, hy_k3, hy_k4, hy_k5, hy_k6, hy_k7, hy_k8, hy_k9, hy_k10, hy_k11, hy_k12, hy_k13, rtw i hi]
    by_cases e : tw q i = -1 <;> simp [e]
theorem c_wth {M : hz_M} {q : Nat → Int32} (hC : hy_C M q)  :
    f_X7_towelsWithGuests  M = some (wth q, M) := by
  have hC0 := hC
  obtain ⟨hZ, ⟨b3, b4, b5, b6, b7, b8, bag, bnm⟩, hRR⟩ := hC
  have hZ0 := hZ
  obtain ⟨⟨s1, s2, s3, s4, s5, s6⟩, ra, ro, rp, rl, rt, rs, rw', rd, rwt, rpg, rk, rh, rtw⟩ := c_rows hRR
  obtain ⟨⟨z1, z2⟩, ⟨z3, z4, z5⟩, ⟨z6, z7, z8⟩, ⟨z9, z10⟩, ⟨z11, z12, z13⟩, ⟨z14, z15, z16⟩⟩ := hZ
  rw [z1] at b3; rw [z3] at b4; rw [z6] at b5; rw [z9] at b6; rw [z11] at b7; rw [z14] at b8
  unfold f_X7_towelsWithGuests
  refine hy_for0 (fun f c i => f_X7_towelsWithGuests_L4 f c (nI i) M) (gz q) (fun g c => if q (25 + 8 * g + 4) = -1 then c else c + 1) (fun r => some (r, M)) ?_ ?_ hz_FU _ (hy_FU (by omega))
  · intro f c
    simp (disch := omega) [f_X7_towelsWithGuests_L4, b3, hy_cts, hy_gt, hy_lt', hy_lm, hy_jn, hy_c, hy_in, hy_le, hy_add1, hy_k0, hy_k1, hy_k2, hy_k3, hy_k4, hy_k5, hy_k6, hy_k7, hy_k8, hy_k9, hy_k10, hy_k11, hy_k12, hy_k13]
  · intro f c i hi
    have hi' : ¬ (gz q) ≤ i := by omega
    simp (disch := omega) only [f_X7_towelsWithGuests_L4, b3, hi', if_false, hy_cts, hy_gt, hy_lt', hy_lm, hy_jn, hy_c, hy_in, hy_le, hy_add1, hy_k0, hy_k1, hy_k2, hy_k3, hy_k4, hy_k5, hy_k6, hy_k7, hy_k8, hy_k9, hy_k10, hy_k11, hy_k12, hy_k13, rt i hi]
    by_cases e : q (25 + 8 * i + 4) = -1 <;> simp [e]
theorem c_wts {M : hz_M} {q : Nat → Int32} (hC : hy_C M q)  :
    f_X7_allWet  M = some (wts q, M) := by
  have hC0 := hC
  obtain ⟨hZ, ⟨b3, b4, b5, b6, b7, b8, bag, bnm⟩, hRR⟩ := hC
  have hZ0 := hZ
  obtain ⟨⟨s1, s2, s3, s4, s5, s6⟩, ra, ro, rp, rl, rt, rs, rw', rd, rwt, rpg, rk, rh, rtw⟩ := c_rows hRR
  obtain ⟨⟨z1, z2⟩, ⟨z3, z4, z5⟩, ⟨z6, z7, z8⟩, ⟨z9, z10⟩, ⟨z11, z12, z13⟩, ⟨z14, z15, z16⟩⟩ := hZ
  rw [z1] at b3; rw [z3] at b4; rw [z6] at b5; rw [z9] at b6; rw [z11] at b7; rw [z14] at b8
  unfold f_X7_allWet
  refine hy_for0 (fun f c i => f_X7_allWet_L4 f c (nI i) M) (tz q) (fun t c => c + q (153 + 2 * t)) (fun r => some (r, M)) ?_ ?_ hz_FU _ (hy_FU (by omega))
  · intro f c
    simp (disch := omega) [f_X7_allWet_L4, b6, hy_cts, hy_gt, hy_lt', hy_lm, hy_jn, hy_c, hy_in, hy_le, hy_add1, hy_k0, hy_k1, hy_k2, hy_k3, hy_k4, hy_k5, hy_k6, hy_k7, hy_k8, hy_k9, hy_k10, hy_k11, hy_k12, hy_k13]
  · intro f c i hi
    have hi' : ¬ (tz q) ≤ i := by omega
    simp (disch := omega) only [f_X7_allWet_L4, b6, hi', if_false, hy_cts, hy_gt, hy_lt', hy_lm, hy_jn, hy_c, hy_in, hy_le, hy_add1, hy_k0, hy_k1, hy_k2, hy_k3, hy_k4, hy_k5, hy_k6, hy_k7, hy_k8, hy_k9, hy_k10, hy_k11, hy_k12, hy_k13, rwt i hi]
    
theorem c_stm {M : hz_M} {q : Nat → Int32} (hC : hy_C M q)  :
    f_X7_steam  M = some (stm q, M) := by
  have hC0 := hC
  obtain ⟨hZ, ⟨b3, b4, b5, b6, b7, b8, bag, bnm⟩, hRR⟩ := hC
  have hZ0 := hZ
  obtain ⟨⟨s1, s2, s3, s4, s5, s6⟩, ra, ro, rp, rl, rt, rs, rw', rd, rwt, rpg, rk, rh, rtw⟩ := c_rows hRR
  obtain ⟨⟨z1, z2⟩, ⟨z3, z4, z5⟩, ⟨z6, z7, z8⟩, ⟨z9, z10⟩, ⟨z11, z12, z13⟩, ⟨z14, z15, z16⟩⟩ := hZ
  rw [z1] at b3; rw [z3] at b4; rw [z6] at b5; rw [z9] at b6; rw [z11] at b7; rw [z14] at b8
  unfold f_X7_steam
  refine hy_for0 (fun f c i => f_X7_steam_L4 f c (nI i) M) (vz q) (fun v c => c + q (21 + v)) (fun r => some (r, M)) ?_ ?_ hz_FU _ (hy_FU (by omega))
  · intro f c
    simp (disch := omega) [f_X7_steam_L4, b7, hy_cts, hy_gt, hy_lt', hy_lm, hy_jn, hy_c, hy_in, hy_le, hy_add1, hy_k0, hy_k1, hy_k2, hy_k3, hy_k4, hy_k5, hy_k6, hy_k7, hy_k8, hy_k9, hy_k10, hy_k11, hy_k12, hy_k13]
  · intro f c i hi
    have hi' : ¬ (vz q) ≤ i := by omega
    simp (disch := omega) only [f_X7_steam_L4, b7, hi', if_false, hy_cts, hy_gt, hy_lt', hy_lm, hy_jn, hy_c, hy_in, hy_le, hy_add1, hy_k0, hy_k1, hy_k2, hy_k3, hy_k4, hy_k5, hy_k6, hy_k7, hy_k8, hy_k9, hy_k10, hy_k11, hy_k12, hy_k13, ro i (by omega)]
    
theorem c_isTowel {M : hz_M} {q : Nat → Int32} (hC : hy_C M q) {t : Nat} (ht : t < tz q) : f_X3_isTowel (nI t) M = some (1, M) := by
  have hC0 := hC
  obtain ⟨hZ, ⟨b3, b4, b5, b6, b7, b8, bag, bnm⟩, hRR⟩ := hC
  have hZ0 := hZ
  obtain ⟨⟨s1, s2, s3, s4, s5, s6⟩, ra, ro, rp, rl, rt, rs, rw', rd, rwt, rpg, rk, rh, rtw⟩ := c_rows hRR
  obtain ⟨⟨z1, z2⟩, ⟨z3, z4, z5⟩, ⟨z6, z7, z8⟩, ⟨z9, z10⟩, ⟨z11, z12, z13⟩, ⟨z14, z15, z16⟩⟩ := hZ
  rw [z1] at b3; rw [z3] at b4; rw [z6] at b5; rw [z9] at b6; rw [z11] at b7; rw [z14] at b8
  have e1 : ¬ tz q ≤ t := by omega
  have e2 : ¬ t < 0 := by omega
  simp (disch := omega) only [f_X3_isTowel, b6, hy_le, hy_0, hy_lt, e1, e2, if_false]
theorem c_isTowelN {M : hz_M} (a : Int32) (h : a < 0) : f_X3_isTowel a M = some (0, M) := by
  simp only [f_X3_isTowel, h, if_true]
theorem c_isGuest {M : hz_M} {q : Nat → Int32} (hC : hy_C M q) {t : Nat} (ht : t < gz q) : f_X3_isGuest (nI t) M = some (1, M) := by
  have hC0 := hC
  obtain ⟨hZ, ⟨b3, b4, b5, b6, b7, b8, bag, bnm⟩, hRR⟩ := hC
  have hZ0 := hZ
  obtain ⟨⟨s1, s2, s3, s4, s5, s6⟩, ra, ro, rp, rl, rt, rs, rw', rd, rwt, rpg, rk, rh, rtw⟩ := c_rows hRR
  obtain ⟨⟨z1, z2⟩, ⟨z3, z4, z5⟩, ⟨z6, z7, z8⟩, ⟨z9, z10⟩, ⟨z11, z12, z13⟩, ⟨z14, z15, z16⟩⟩ := hZ
  rw [z1] at b3; rw [z3] at b4; rw [z6] at b5; rw [z9] at b6; rw [z11] at b7; rw [z14] at b8
  have e1 : ¬ gz q ≤ t := by omega
  have e2 : ¬ t < 0 := by omega
  simp (disch := omega) only [f_X3_isGuest, b3, hy_le, hy_0, hy_lt, e1, e2, if_false]
theorem c_isGuestN {M : hz_M} (a : Int32) (h : a < 0) : f_X3_isGuest a M = some (0, M) := by
  simp only [f_X3_isGuest, h, if_true]
theorem c_isPeg {M : hz_M} {q : Nat → Int32} (hC : hy_C M q) {t : Nat} (ht : t < pz q) : f_X3_isPeg (nI t) M = some (1, M) := by
  have hC0 := hC
  obtain ⟨hZ, ⟨b3, b4, b5, b6, b7, b8, bag, bnm⟩, hRR⟩ := hC
  have hZ0 := hZ
  obtain ⟨⟨s1, s2, s3, s4, s5, s6⟩, ra, ro, rp, rl, rt, rs, rw', rd, rwt, rpg, rk, rh, rtw⟩ := c_rows hRR
  obtain ⟨⟨z1, z2⟩, ⟨z3, z4, z5⟩, ⟨z6, z7, z8⟩, ⟨z9, z10⟩, ⟨z11, z12, z13⟩, ⟨z14, z15, z16⟩⟩ := hZ
  rw [z1] at b3; rw [z3] at b4; rw [z6] at b5; rw [z9] at b6; rw [z11] at b7; rw [z14] at b8
  have e1 : ¬ pz q ≤ t := by omega
  have e2 : ¬ t < 0 := by omega
  simp (disch := omega) only [f_X3_isPeg, b5, hy_le, hy_0, hy_lt, e1, e2, if_false]
theorem c_isPegN {M : hz_M} (a : Int32) (h : a < 0) : f_X3_isPeg a M = some (0, M) := by
  simp only [f_X3_isPeg, h, if_true]
theorem c_isLocker {M : hz_M} {q : Nat → Int32} (hC : hy_C M q) {t : Nat} (ht : t < lz q) : f_X3_isLocker (nI t) M = some (1, M) := by
  have hC0 := hC
  obtain ⟨hZ, ⟨b3, b4, b5, b6, b7, b8, bag, bnm⟩, hRR⟩ := hC
  have hZ0 := hZ
  obtain ⟨⟨s1, s2, s3, s4, s5, s6⟩, ra, ro, rp, rl, rt, rs, rw', rd, rwt, rpg, rk, rh, rtw⟩ := c_rows hRR
  obtain ⟨⟨z1, z2⟩, ⟨z3, z4, z5⟩, ⟨z6, z7, z8⟩, ⟨z9, z10⟩, ⟨z11, z12, z13⟩, ⟨z14, z15, z16⟩⟩ := hZ
  rw [z1] at b3; rw [z3] at b4; rw [z6] at b5; rw [z9] at b6; rw [z11] at b7; rw [z14] at b8
  have e1 : ¬ lz q ≤ t := by omega
  have e2 : ¬ t < 0 := by omega
  simp (disch := omega) only [f_X3_isLocker, b4, hy_le, hy_0, hy_lt, e1, e2, if_false]
theorem c_isLockerN {M : hz_M} (a : Int32) (h : a < 0) : f_X3_isLocker a M = some (0, M) := by
  simp only [f_X3_isLocker, h, if_true]
theorem c_eld {M : hz_M} {q : Nat → Int32} (hC : hy_C M q) (a : Int32) : f_X7_eldestAt a M = some (eld q a, M) := by
  have hC0 := hC
  obtain ⟨hZ, ⟨b3, b4, b5, b6, b7, b8, bag, bnm⟩, hRR⟩ := hC
  have hZ0 := hZ
  obtain ⟨⟨s1, s2, s3, s4, s5, s6⟩, ra, ro, rp, rl, rt, rs, rw', rd, rwt, rpg, rk, rh, rtw⟩ := c_rows hRR
  obtain ⟨⟨z1, z2⟩, ⟨z3, z4, z5⟩, ⟨z6, z7, z8⟩, ⟨z9, z10⟩, ⟨z11, z12, z13⟩, ⟨z14, z15, z16⟩⟩ := hZ
  rw [z1] at b3; rw [z3] at b4; rw [z6] at b5; rw [z9] at b6; rw [z11] at b7; rw [z14] at b8
  unfold f_X7_eldestAt eld
  refine (hy_for (fun f c i => f_X7_eldestAt_L4 f a c (nI i) M) (gz q) (eldS q a) (fun r => some (r, M)) (fun i b => b = -1 ∨ ∃ k, k < i ∧ b = nI k) ?_ ?_ (gz q) 0 hz_FU (-1) (by omega) (hy_FU (by omega)) (Or.inl rfl)).1
  · intro f c _
    simp (disch := omega) only [f_X7_eldestAt_L4, b3, hy_le, Nat.le_refl, if_true]
  · intro f c i hi hP
    have hi' : ¬ (gz q) ≤ i := by omega
    refine ⟨?_, eldS_al hP⟩
    rcases hP with rfl | ⟨k, hk, rfl⟩
    · rw [eldS_n]
      simp (disch := omega) only [f_X7_eldestAt_L4, b3, hi', if_false, if_true, hy_cts, hy_gt, hy_lt', hy_jn, hy_le, hy_add1, rp i hi, c_isGuestN (-1) (by decide), hy_in, hy_c (n := i)]
      by_cases e1 : q (25 + 8 * i + 2) = a <;> simp only [e1, if_true, if_false]
    · unfold eldS
      simp (disch := omega) only [f_X7_eldestAt_L4, b3, hi', if_false, hy_n1, rp i hi, c_isGuest hC0 (t := k) (by omega), bag i hi, bag k (by omega), hy_cts, hy_gt, hy_lt', hy_lm, hy_jn, hy_c, hy_in, hy_le, hy_add1, hy_k0, hy_k1, hy_k2, hy_k3, hy_k4, hy_k5, hy_k6, hy_k7, hy_k8, hy_k9, hy_k10, hy_k11, hy_k12, hy_k13]
      by_cases e1 : q (25 + 8 * i + 2) = a <;> by_cases e2 : q (25 + 8 * i + 1) ≤ q (25 + 8 * k + 1) <;> simp [e1, e2]
theorem c_sfr {M : hz_M} {q : Nat → Int32} (hC : hy_C M q) (a : Int32) : f_X7_strainedAt a M = some (sfr q a, M) := by
  have hC0 := hC
  obtain ⟨hZ, ⟨b3, b4, b5, b6, b7, b8, bag, bnm⟩, hRR⟩ := hC
  have hZ0 := hZ
  obtain ⟨⟨s1, s2, s3, s4, s5, s6⟩, ra, ro, rp, rl, rt, rs, rw', rd, rwt, rpg, rk, rh, rtw⟩ := c_rows hRR
  obtain ⟨⟨z1, z2⟩, ⟨z3, z4, z5⟩, ⟨z6, z7, z8⟩, ⟨z9, z10⟩, ⟨z11, z12, z13⟩, ⟨z14, z15, z16⟩⟩ := hZ
  rw [z1] at b3; rw [z3] at b4; rw [z6] at b5; rw [z9] at b6; rw [z11] at b7; rw [z14] at b8
  unfold f_X7_strainedAt
  refine hy_for0 (fun f c i => f_X7_strainedAt_L4 f a c (nI i) M) (gz q) (fun g c => if q (25 + 8 * g + 2) = a then (if q 9 + 6 * a ≤ 60 + q (25 + 8 * g + 1) / 4 then c else c + 1) else c) (fun r => some (r, M)) ?_ ?_ hz_FU _ (hy_FU (by omega))
  · intro f c
    simp (disch := omega) [f_X7_strainedAt_L4, b3, hy_cts, hy_gt, hy_lt', hy_lm, hy_jn, hy_c, hy_in, hy_le, hy_add1, hy_k0, hy_k1, hy_k2, hy_k3, hy_k4, hy_k5, hy_k6, hy_k7, hy_k8, hy_k9, hy_k10, hy_k11, hy_k12, hy_k13]
  · intro f c i hi
    have hi' : ¬ (gz q) ≤ i := by omega
    simp (disch := omega) only [f_X7_strainedAt_L4, b3, hi', if_false, hy_cts, hy_gt, hy_lt', hy_lm, hy_jn, hy_c, hy_in, hy_le, hy_add1, hy_k0, hy_k1, hy_k2, hy_k3, hy_k4, hy_k5, hy_k6, hy_k7, hy_k8, hy_k9, hy_k10, hy_k11, hy_k12, hy_k13, rp i hi, f_X7_temperature, f_X3_bears, bag i hi, s2]
    by_cases e : q (25 + 8 * i + 2) = a <;> by_cases e2 : q 9 + 6 * a ≤ 60 + q (25 + 8 * i + 1) / 4 <;> simp [e, e2]


