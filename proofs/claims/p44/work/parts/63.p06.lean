def hy_Q (q : Nat → Int32) : Prop :=
  (∀ g, g < gz q → ∃ k, k ≤ 99 ∧ q (25 + 8 * g + 1) = nI k) ∧
  (∀ g, g < gz q → q (25 + 8 * g + 2) = -1 ∨ ∃ k, k ≤ sz q ∧ q (25 + 8 * g + 2) = nI k) ∧
  (∀ g, g < gz q → q (25 + 8 * g + 3) = -1 ∨ ∃ k, k < lz q ∧ q (25 + 8 * g + 3) = nI k) ∧
  (∀ g, g < gz q → q (25 + 8 * g + 4) = -1 ∨ ∃ k, k < tz q ∧ q (25 + 8 * g + 4) = nI k) ∧
  (∀ g, g < gz q → ∃ k, k ≤ 9 ∧ q (25 + 8 * g + 5) = nI k) ∧
  (∀ g, g < gz q → ∃ k, k ≤ 2 ∧ q (25 + 8 * g + 6) = nI k) ∧
  (∀ t, t < tz q → ∃ k, k ≤ 9 ∧ q (153 + 2 * t) = nI k) ∧
  (∀ t, t < tz q → q (153 + 2 * t + 1) = -1 ∨ ∃ k, k < pz q ∧ q (153 + 2 * t + 1) = nI k) ∧
  (∀ g h, g < gz q → h < gz q → q (25 + 8 * g + 3) = q (25 + 8 * h + 3) → q (25 + 8 * g + 3) = -1 ∨ g = h) ∧
  (∀ g h, g < gz q → h < gz q → q (25 + 8 * g + 4) = q (25 + 8 * h + 4) → q (25 + 8 * g + 4) = -1 ∨ g = h) ∧
  (∀ g h, g < tz q → h < tz q → q (153 + 2 * g + 1) = q (153 + 2 * h + 1) → q (153 + 2 * g + 1) = -1 ∨ g = h) ∧
  (∀ g, g < gz q → q (25 + 8 * g + 2) = -1 → q (25 + 8 * g + 3) = -1 ∧ q (25 + 8 * g + 4) = -1) ∧
  (∀ g, g < gz q → q (25 + 8 * g + 3) = -1 → q (25 + 8 * g + 2) = -1) ∧
  (∀ g t, g < gz q → t < tz q → q (25 + 8 * g + 4) = nI t → q (153 + 2 * t + 1) = -1) ∧
  (∃ k, k ≤ 100 ∧ q 9 = nI k) ∧ (∃ k, 1 ≤ k ∧ k ≤ 9 ∧ q 5 = nI k) ∧ (∃ k, 2 ≤ k ∧ k ≤ 60 ∧ q 6 = nI k) ∧ (∃ k, k ≤ 30 ∧ q 7 = nI k) ∧
  (∀ v, v < 4 → ∃ k, k ≤ 9 ∧ q (21 + v) = nI k)
def hy_T (q : Nat → Int32) : Prop := ∃ k, k ≤ 9999 ∧ q 8 = nI k ∧ (q 10 = -1 ∨ ∃ j, j ≤ k ∧ q 10 = nI j)
def lst (q : Nat → Int32) (d : Int32) : Int32 := if d = -1 then 3 else q (153 + 2 * Int32.toNatClampNeg d)
theorem lst_n (q : Nat → Int32) : lst q (-1) = 3 := by unfold lst; simp only [if_true]
theorem lst_k (q : Nat → Int32) {k : Nat} (hk : k < 16) : lst q (nI k) = q (153 + 2 * k) := by
  unfold lst
  rw [if_neg (by rw [hy_n1 (by omega)]; exact not_false), hy_c (by omega)]
theorem dryS_n {q : Nat → Int32} {t i : Nat} (ht : t < 16) (e : tw q i = nI t) : dryS q i (-1) = if 2 < q (153 + 2 * t) then -1 else nI t := by
  unfold dryS
  rw [e, if_neg (by rw [hy_n1 (by omega)]; exact not_false), hy_c (by omega)]
  simp only [if_true]
theorem dryS_k {q : Nat → Int32} {t i k : Nat} (ht : t < 16) (hk : k < 16) (e : tw q i = nI t) : dryS q i (nI k) = if 2 < q (153 + 2 * t) then nI k else if q (153 + 2 * k) ≤ q (153 + 2 * t) then nI k else nI t := by
  unfold dryS
  rw [e, if_neg (by rw [hy_n1 (by omega)]; exact not_false), hy_c (by omega)]
  simp (disch := omega) only [hy_n1, if_false, hy_c]
theorem c_dry {M : hz_M} {q : Nat → Int32} (hC : hy_C M q) : f_X7_driestOnPegs M = some (dry q, M) := by
  have hC0 := hC
  obtain ⟨hZ, ⟨b3, b4, b5, b6, b7, b8, bag, bnm⟩, hRR⟩ := hC
  have hZ0 := hZ
  obtain ⟨⟨s1, s2, s3, s4, s5, s6⟩, ra, ro, rp, rl, rt, rs, rw', rd, rwt, rpg, rk, rh, rtw⟩ := c_rows hRR
  obtain ⟨⟨z1, z2⟩, ⟨z3, z4, z5⟩, ⟨z6, z7, z8⟩, ⟨z9, z10⟩, ⟨z11, z12, z13⟩, ⟨z14, z15, z16⟩⟩ := hZ
  rw [z1] at b3; rw [z3] at b4; rw [z6] at b5; rw [z9] at b6; rw [z11] at b7; rw [z14] at b8
  unfold f_X7_driestOnPegs
  refine (hy_for (fun f d i => f_X7_driestOnPegs_L6 f d (lst q d) (nI i) M) (pz q) (dryS q) (fun r => some (r, M)) (fun i b => b = -1 ∨ ∃ k, k < tz q ∧ b = nI k ∧ q (153 + 2 * k) ≤ 2) ?_ ?_ (pz q) 0 hz_FU (-1) (by omega) (hy_FU (by omega)) (Or.inl rfl)).1
  · intro f c _
    simp (disch := omega) only [f_X7_driestOnPegs_L6, b5, hy_le, Nat.le_refl, if_true]
  · intro f c i hi hP
    have hi' : ¬ (pz q) ≤ i := by omega
    rcases tw_al hZ0 i with e | ⟨t, ht, e, _⟩
    · have e2 : dryS q i c = c := by unfold dryS; rw [if_pos e]
      rw [e2]
      refine ⟨?_, hP⟩
      simp (disch := omega) only [f_X7_driestOnPegs_L6, b5, hy_le, hi', if_false, hy_gt, hy_lt', hy_jn, hy_in, hy_c (n := i), rtw i hi, e, show ((-1 : Int32) < 0) = True from eq_true (by decide), if_true, hy_add1]
    · have e3 : ¬ nI t < 0 := by rw [hy_0, hy_lt (by omega) (by omega)]; omega
      have e4 : ¬ (16 : Int32) ≤ nI t := by rw [show (16 : Int32) = nI 16 from rfl, hy_le (by omega) (by omega)]; omega
      rcases hP with rfl | ⟨k, hk, rfl, hw⟩
      · rw [dryS_n (by omega) e, lst_n]
        by_cases e5 : 2 < q (153 + 2 * t)
        · have e6 : 3 ≤ q (153 + 2 * t) := by grind
          rw [if_pos e5]
          refine ⟨?_, Or.inl rfl⟩
          rw [lst_n]
          simp (disch := omega) only [f_X7_driestOnPegs_L6, b5, hy_le, hi', if_false, hy_gt, hy_lt', hy_jn, hy_in, hy_c (n := i), hy_c (n := t), rtw i hi, e, e3, e4, rwt t ht, e6, if_true, hy_add1]
        · have e6 : ¬ 3 ≤ q (153 + 2 * t) := by grind
          rw [if_neg e5]
          refine ⟨?_, Or.inr ⟨t, ht, rfl, by grind⟩⟩
          rw [lst_k q (by omega)]
          simp (disch := omega) only [f_X7_driestOnPegs_L6, b5, hy_le, hi', if_false, hy_gt, hy_lt', hy_jn, hy_in, hy_c (n := i), hy_c (n := t), rtw i hi, e, e3, e4, rwt t ht, e6, hy_add1]
      · rw [dryS_k (by omega) (by omega) e, lst_k q (by omega)]
        by_cases e5 : q (153 + 2 * k) ≤ q (153 + 2 * t)
        · have e7 : (if 2 < q (153 + 2 * t) then nI k else if q (153 + 2 * k) ≤ q (153 + 2 * t) then nI k else nI t) = nI k := by rw [if_pos e5]; split <;> rfl
          rw [e7]
          refine ⟨?_, Or.inr ⟨k, hk, rfl, hw⟩⟩
          rw [lst_k q (by omega)]
          simp (disch := omega) only [f_X7_driestOnPegs_L6, b5, hy_le, hi', if_false, hy_gt, hy_lt', hy_jn, hy_in, hy_c (n := i), hy_c (n := t), rtw i hi, e, e3, e4, rwt t ht, e5, if_true, hy_add1]
        · have e6 : ¬ 2 < q (153 + 2 * t) := by grind
          rw [if_neg e6, if_neg e5]
          refine ⟨?_, Or.inr ⟨t, ht, rfl, by grind⟩⟩
          rw [lst_k q (by omega)]
          simp (disch := omega) only [f_X7_driestOnPegs_L6, b5, hy_le, hi', if_false, hy_gt, hy_lt', hy_jn, hy_in, hy_c (n := i), hy_c (n := t), rtw i hi, e, e3, e4, rwt t ht, e5, hy_add1]
theorem c_unt {M : hz_M} {q : Nat → Int32} (hC : hy_C M q) : f_X7_pegsUntold M = some (unt q 0, M) := by
  have hC0 := hC
  obtain ⟨hZ, ⟨b3, b4, b5, b6, b7, b8, bag, bnm⟩, hRR⟩ := hC
  have hZ0 := hZ
  obtain ⟨⟨s1, s2, s3, s4, s5, s6⟩, ra, ro, rp, rl, rt, rs, rw', rd, rwt, rpg, rk, rh, rtw⟩ := c_rows hRR
  obtain ⟨⟨z1, z2⟩, ⟨z3, z4, z5⟩, ⟨z6, z7, z8⟩, ⟨z9, z10⟩, ⟨z11, z12, z13⟩, ⟨z14, z15, z16⟩⟩ := hZ
  rw [z1] at b3; rw [z3] at b4; rw [z6] at b5; rw [z9] at b6; rw [z11] at b7; rw [z14] at b8
  unfold f_X7_pegsUntold
  refine hy_for0 (fun f c i => f_X7_pegsUntold_L4 f c (nI i) M) (pz q) (fun p c => if tw q p = -1 then c else if q (153 + 2 * Int32.toNatClampNeg (tw q p) + 1) = nI p then c else c + 1) (fun r => some (r, M)) ?_ ?_ hz_FU _ (hy_FU (by omega))
  · intro f c
    simp (disch := omega) only [f_X7_pegsUntold_L4, b5, hy_le, Nat.le_refl, if_true]
  · intro f c i hi
    have hi' : ¬ (pz q) ≤ i := by omega
    rcases tw_al hZ0 i with e | ⟨t, ht, e, _⟩
    · simp (disch := omega) only [f_X7_pegsUntold_L4, b5, hy_le, hi', if_false, hy_gt, hy_cts, hy_lt', hy_jn, hy_in, hy_c (n := i), rtw i hi, e, if_true, hy_add1, c_isTowelN (-1) (by decide)]
    · simp (disch := omega) only [f_X7_pegsUntold_L4, b5, hy_le, hi', if_false, hy_gt, hy_cts, hy_lt', hy_jn, hy_in, hy_c, rtw i hi, e, if_true, hy_add1, c_isTowel hC0 ht, rpg t ht, hy_n1, show ((1 : Int32) = 0) = False from eq_false (by decide)]
      by_cases e2 : q (153 + 2 * t + 1) = nI i <;> simp only [e2, if_true, if_false]
def hy_abs (x : Int32) : Int32 := if 0 ≤ x then x else 0 - x
def gapv (q : Nat → Int32) : Int32 := hy_abs (q 2 - onPg q 0 - wth q - bsk q) + unt q 0 + hy_abs (q 12 - q 13 - hIns q) + hy_abs (inUse q - hIns q)
theorem c_gap {M : hz_M} {q : Nat → Int32} (hC : hy_C M q) : f_X10_gap M = some (gapv q, M) := by
  have c1 := c_hIns hC
  have c2 := c_onPg hC
  have c3 := c_wth hC
  have c4 := c_bsk hC
  have c5 := c_inUse hC
  have c6 := c_unt hC
  have hC0 := hC
  obtain ⟨hZ, ⟨b3, b4, b5, b6, b7, b8, bag, bnm⟩, hRR⟩ := hC
  have hZ0 := hZ
  obtain ⟨⟨s1, s2, s3, s4, s5, s6⟩, ra, ro, rp, rl, rt, rs, rw', rd, rwt, rpg, rk, rh, rtw⟩ := c_rows hRR
  obtain ⟨⟨z1, z2⟩, ⟨z3, z4, z5⟩, ⟨z6, z7, z8⟩, ⟨z9, z10⟩, ⟨z11, z12, z13⟩, ⟨z14, z15, z16⟩⟩ := hZ
  rw [z1] at b3; rw [z3] at b4; rw [z6] at b5; rw [z9] at b6; rw [z11] at b7; rw [z14] at b8
  simp only [f_X10_gap, c1, c2, c3, c4, c5, c6, hy_cts, hy_lt', b6, ← z9, hy_k0, hy_k1, ra 0 (by omega), ra 1 (by omega)]
  rfl
theorem unt_add {q : Nat → Int32} : ∀ (k i : Nat) (a b : Int32), hy_fold (fun p c => if tw q p = -1 then c else if q (153 + 2 * Int32.toNatClampNeg (tw q p) + 1) = nI p then c else c + 1) k i (a + b) = a + hy_fold (fun p c => if tw q p = -1 then c else if q (153 + 2 * Int32.toNatClampNeg (tw q p) + 1) = nI p then c else c + 1) k i b
  | 0, _, _, _ => rfl
  | k + 1, i, a, b => by
    unfold hy_fold
    rw [← unt_add k (i + 1)]
    congr 1
    split
    · rfl
    · split
      · rfl
      · rw [Int32.add_assoc]
