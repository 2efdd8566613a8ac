theorem hy_le0 {x : Int32} {n : Nat} (hn : n ≤ 1000) (h : x = -1 ∨ ∃ k, k < n ∧ x = nI k) (h1 : ¬ x = -1) : (x ≤ 0) = (x = 0) := by
  rcases h with h | ⟨k, hk, h⟩
  · exact absurd h h1
  · subst h
    rw [hy_0, hy_le (by omega) (by omega), hy_eq (by omega) (by omega)]
    simp
theorem hy_stp : ∀ s, s < 7 → ∀ k, k < 100 → (((5 : Int32) * nI s - 5 ≤ nI k) ↔ (5 * (nI s - 1) - nI k ≤ 0)) := by decide +kernel
theorem hy_d9 : ∀ k, k < 70 → 10 ≤ k → ¬ nI k ≤ 9 ∧ ¬ nI k = 0 ∧ ¬ nI k = 1 := by decide +kernel
theorem hy_d20 : ∀ k, k < 70 → ((20 : Int32) ≤ nI k ↔ 20 ≤ k) ∧ ((40 : Int32) ≤ nI k ↔ 40 ≤ k) := by decide +kernel
theorem O_no {b : Nat} {M : hz_M} {q : Nat → Int32} (hR : RO b M q) (hZ : hy_Z q) (hQ : hy_Q q) {g : Nat} (hg : g < gz q) {d : Int32} (hd : deed q d) : f_X11_no b (nI g) d M = some (rsn q g d, M) := by
  have rA : q (25 + 8 * g + 2) = -1 ∨ ∃ k, k < sz q + 1 ∧ q (25 + 8 * g + 2) = nI k := (hQ.2.1 g hg).imp id (fun ⟨k, a, c⟩ => ⟨k, by omega, c⟩)
  have rH := hQ.2.2.2.1 g hg
  have rD : dry q = -1 ∨ ∃ k, k < tz q ∧ dry q = nI k := (fold_cmb hZ (pz q) 0 (-1) (Or.inl rfl)).2.imp id (fun ⟨k, a, c, _⟩ => ⟨k, a, c⟩)
  have rT : ∀ p, tw q p = -1 ∨ ∃ t, t < tz q ∧ tw q p = nI t := fun p => (tw_al hZ p).imp id (fun ⟨t, a, c, _⟩ => ⟨t, a, c⟩)
  have zz := hZ
  obtain ⟨⟨y1, y2⟩, ⟨y3, y4, y5⟩, ⟨y6, y7, y8⟩, ⟨y9, y10⟩, ⟨y11, y12, y13⟩, ⟨y14, y15, y16⟩⟩ := zz
  have eA1 := hy_ltm (n := sz q + 1) (by omega) rA
  have eA2 := hy_0lt (n := sz q + 1) (by omega) rA
  have eH1 := hy_ltm (n := tz q) (by omega) rH
  have eH2 := hy_0lt (n := tz q) (by omega) rH
  have eD2 := hy_0lt (n := tz q) (by omega) rD
  have eT1 := fun p => hy_ltm (n := tz q) (by omega) (rT p)
  have eT2 := fun p => hy_0lt (n := tz q) (by omega) (rT p)
  have hR0 := hR
  have h5 := hR.1.2.2.2.2.2.1
  have hZ0 := hZ
  obtain ⟨⟨b0, b1, b2, b3, b4, b5, b6, b7, b8, b9, b10, b11⟩, rop, rpg, rlk, rwt, rac, rag, rat, rhs, rst, rwn, rsd⟩ := hR
  obtain ⟨⟨z1, z2⟩, ⟨z3, z4, z5⟩, ⟨z6, z7, z8⟩, ⟨z9, z10⟩, ⟨z11, z12, z13⟩, ⟨z14, z15, z16⟩⟩ := hZ
  rw [z1] at b10; rw [z3] at b0; rw [z6] at b1; rw [z9] at b2; rw [z11] at b3; rw [z14] at b4
  rcases hd with rfl | rfl | ⟨s, hs1, hs2, rfl⟩ | ⟨p, hp, rfl⟩ | ⟨p, hp, rfl⟩
  · have hf := frL_ins hZ0 hQ
    rw [z3] at hf
    simp (disch := omega) only [f_X11_no, rsn, nEnt, if_true, hy_cts, hy_gt, hy_lt', hy_lm, hy_jn, hy_c, hy_in, hy_le, hy_add1, hy_k0, hy_k1, hy_k2, hy_k3, hy_k4, hy_k5, hy_k6, hy_k7, hy_k8, hy_k9, hy_k10, hy_k11, hy_k12, hy_k13, rat g hg, rsd g hg, b8, O_inside hR0 hZ0, O_driest hR0 hZ0 hQ, b0, eA1, eD2, hf]
    by_cases e1 : q (25 + 8 * g + 2) = -1 <;> by_cases e2 : q (25 + 8 * g + 7) = q 8 / 600 <;> by_cases e3 : hIns q = nI (lz q) <;> by_cases e4 : dry q = -1 <;> simp [e1, e2, e3, e4]
  · simp (disch := omega) only [f_X11_no, rsn, nLea, if_true, hy_cts, hy_gt, hy_lt', hy_lm, hy_jn, hy_c, hy_in, hy_le, hy_add1, hy_k0, hy_k1, hy_k2, hy_k3, hy_k4, hy_k5, hy_k6, hy_k7, hy_k8, hy_k9, hy_k10, hy_k11, hy_k12, hy_k13, rat g hg, eA2, show ((1 : Int32) = 0) = False from eq_false (by decide), if_false, show ((1 : Int32) ≤ 9) = True from eq_true (by decide)]
    by_cases e1 : q (25 + 8 * g + 2) = -1
    · simp [e1]
    · simp only [e1, not_false_eq_true, if_true, if_false, hy_le0 (n := sz q + 1) (by omega) rA e1]
      by_cases e2 : q (25 + 8 * g + 2) = 0 <;> simp [e2]
  · have hd := hy_d9 (10 + s) (by omega) (by omega)
    have hd2 := hy_d20 (10 + s) (by omega)
    have n20 : ¬ (20 : Int32) ≤ nI (10 + s) := fun e => by have := hd2.1.mp e; omega
    obtain ⟨ka, hka, eka⟩ := hQ.1 g hg
    have hst := hy_stp s (by omega) ka (by omega)
    rw [rsn_sit q g (by omega) hs1]
    simp (disch := omega) only [f_X11_no, hd.1, hd.2.1, n20, if_false, hy_cts, hy_gt, hy_lt', hy_lm, hy_jn, hy_c, hy_in, hy_le, hy_add1, hy_k0, hy_k1, hy_k2, hy_k3, hy_k4, hy_k5, hy_k6, hy_k7, hy_k8, hy_k9, hy_k10, hy_k11, hy_k12, hy_k13, rat g hg, rhs g hg, rag g hg, eA2, eH2, hy_s10, O_on hR0 hZ0, b5, nSit, eka, hst]
    by_cases e1 : q (25 + 8 * g + 2) = -1
    · simp [e1]
    · by_cases e2 : q (25 + 8 * g + 4) = -1
      · simp [e1, e2]
      · simp only [e1, e2, not_false_eq_true, if_true, if_false]
        by_cases e3 : 5 * (nI s - 1) - nI ka ≤ 0
        · simp only [e3, if_true]
          by_cases e4 : q (25 + 8 * g + 2) = nI s
          · simp only [e4, if_true]
            split <;> rfl
          · simp only [e4, if_false]
            split <;> rfl
        · simp only [e3, if_false]
  · have hd := hy_d9 (20 + p) (by omega) (by omega)
    have hd2 := hy_d20 (20 + p) (by omega)
    have n20 : (20 : Int32) ≤ nI (20 + p) := hd2.1.mpr (by omega)
    have n40 : ¬ (40 : Int32) ≤ nI (20 + p) := fun e => by have := hd2.2.mp e; omega
    rw [rsn_han q g (by omega)]
    simp (disch := omega) only [f_X11_no, hd.1, hd.2.1, hd.2.2, n20, n40, if_true, if_false, hy_cts, hy_gt, hy_lt', hy_lm, hy_jn, hy_c, hy_in, hy_le, hy_add1, hy_k0, hy_k1, hy_k2, hy_k3, hy_k4, hy_k5, hy_k6, hy_k7, hy_k8, hy_k9, hy_k10, hy_k11, hy_k12, hy_k13, rat g hg, rhs g hg, eA2, eH2, hy_s20, rpg p hp, eT1, nHan, nLea]
    by_cases e1 : q (25 + 8 * g + 2) = -1
    · simp [e1]
    · simp only [e1, not_false_eq_true, if_true, if_false, hy_le0 (n := sz q + 1) (by omega) rA e1]
      by_cases e2 : q (25 + 8 * g + 2) = 0
      · by_cases e3 : q (25 + 8 * g + 4) = -1 <;> by_cases e4 : tw q p = -1 <;> simp [e2, e3, e4]
      · simp [e2]
  · have hd := hy_d9 (40 + p) (by omega) (by omega)
    have hd2 := hy_d20 (40 + p) (by omega)
    have n20 : (20 : Int32) ≤ nI (40 + p) := hd2.1.mpr (by omega)
    have n40 : (40 : Int32) ≤ nI (40 + p) := hd2.2.mpr (by omega)
    rw [rsn_tak q g (by omega)]
    simp (disch := omega) only [f_X11_no, hd.1, hd.2.1, hd.2.2, n20, n40, if_true, if_false, hy_cts, hy_gt, hy_lt', hy_lm, hy_jn, hy_c, hy_in, hy_le, hy_add1, hy_k0, hy_k1, hy_k2, hy_k3, hy_k4, hy_k5, hy_k6, hy_k7, hy_k8, hy_k9, hy_k10, hy_k11, hy_k12, hy_k13, rat g hg, rhs g hg, eA2, eH1, hy_s40, rpg p hp, eT2, nTak, nLea]
    by_cases e1 : q (25 + 8 * g + 2) = -1
    · simp [e1]
    · simp only [e1, not_false_eq_true, if_true, if_false, hy_le0 (n := sz q + 1) (by omega) rA e1]
      by_cases e2 : q (25 + 8 * g + 2) = 0
      · by_cases e3 : q (25 + 8 * g + 4) = -1 <;> by_cases e4 : tw q p = -1 <;> simp [e2, e3, e4]
      · simp [e2]
theorem O_highestL {b : Nat} {M : hz_M} {q : Nat → Int32} (hR : RO b M q) (hZ : hy_Z q) (hQ : hy_Q q) {g : Nat} (hg : g < gz q) : ∀ k f, k ≤ sz q → k < f → f_X11_highest_L5 b f (nI g) (nI k) M = some (hgh q g k, M)
  | 0, f, _, hf => by
    obtain ⟨f, rfl⟩ : ∃ e, f = e + 1 := ⟨f - 1, by omega⟩
    rw [f_X11_highest_L5, if_pos (by decide)]
    rfl
  | k + 1, f, hk, hf => by
    have ih := O_highestL hR hZ hQ hg k
    have z16 := hZ.2.2.2.2.2.2.2
    obtain ⟨f, rfl⟩ : ∃ e, f = e + 1 := ⟨f - 1, by omega⟩
    have e0 : ¬ nI (k + 1) ≤ 0 := by
      rw [hy_0, hy_le (by omega) (by omega)]
      omega
    have h1 := O_no hR hZ hQ hg (d := nI (10 + (k + 1))) (Or.inr (Or.inr (Or.inl ⟨k + 1, by omega, hk, rfl⟩)))
    rw [rsn_sit q g (by omega) (by omega)] at h1
    simp only [f_X11_highest_L5, e0, if_false, show (10 : Int32) + nI (k + 1) = nI (10 + (k + 1)) from hy_add 10 (k + 1), h1, hy_cts, hy_lt', hy_dec, hgh]
    split
    · rfl
    · exact ih f (by omega) (by omega)
theorem O_highest {b : Nat} {M : hz_M} {q : Nat → Int32} (hR : RO b M q) (hZ : hy_Z q) (hQ : hy_Q q) {g : Nat} (hg : g < gz q) : f_X11_highest b (nI g) M = some (hgh q g (sz q), M) := by
  have z14 := hZ.2.2.2.2.2
  unfold f_X11_highest
  rw [hy_lt', hR.1.2.2.2.2.1, z14.1]
  exact O_highestL hR hZ hQ hg (sz q) hz_FU (Nat.le_refl _) (hy_FU (by omega))
theorem O_nextHeat {b : Nat} {M : hz_M} {q : Nat → Int32} (hR : RO b M q) (hZ : hy_Z q) : f_X11_nextHeat b M = some (nxt (q 9) (stm q), M) := by
  have hZ0 := hZ
  obtain ⟨⟨b0, b1, b2, b3, b4, b5, b6, b7, b8, b9, b10, b11⟩, rop, rpg, rlk, rwt, rac, rag, rat, rhs, rst, rwn, rsd⟩ := hR
  obtain ⟨⟨z1, z2⟩, ⟨z3, z4, z5⟩, ⟨z6, z7, z8⟩, ⟨z9, z10⟩, ⟨z11, z12, z13⟩, ⟨z14, z15, z16⟩⟩ := hZ
  rw [z1] at b10; rw [z3] at b0; rw [z6] at b1; rw [z9] at b2; rw [z11] at b3; rw [z14] at b4
  have e0 : ∀ (k : Nat) (f : Nat) (x : Int32) (i : Nat) (kk : Int32 → hz_M → hz_O), i + k = vz q → k < f → f_X11_nextHeat_L17 b kk f x (nI i) M = kk (hy_fold (fun v c => c + q (21 + v)) k i x) M := by
    intro k
    induction k with
    | zero =>
      intro f x i kk hi hf
      obtain ⟨f, rfl⟩ : ∃ e, f = e + 1 := ⟨f - 1, by omega⟩
      rw [show i = vz q by omega]
      simp (disch := omega) [f_X11_nextHeat_L17, b3, hy_cts, hy_gt, hy_lt', hy_lm, hy_jn, hy_c, hy_in, hy_le, hy_add1, hy_k0, hy_k1, hy_k2, hy_k3, hy_k4, hy_k5, hy_k6, hy_k7, hy_k8, hy_k9, hy_k10, hy_k11, hy_k12, hy_k13, hy_fold]
    | succ k ih =>
      intro f x i kk hi hf
      obtain ⟨f, rfl⟩ : ∃ e, f = e + 1 := ⟨f - 1, by omega⟩
      have hi' : ¬ vz q ≤ i := by omega
      simp (disch := omega) only [f_X11_nextHeat_L17, b3, hi', if_false, hy_cts, hy_gt, hy_lt', hy_lm, hy_jn, hy_c, hy_in, hy_le, hy_add1, hy_k0, hy_k1, hy_k2, hy_k3, hy_k4, hy_k5, hy_k6, hy_k7, hy_k8, hy_k9, hy_k10, hy_k11, hy_k12, hy_k13, rop i (by omega)]
      rw [ih f _ (i + 1) kk (by omega) (by omega)]
      rfl
  have e1 : ∀ (k i : Nat) (x c : Int32), hy_fold (fun v c => c + q (21 + v)) k i (x + c) = x + hy_fold (fun v c => c + q (21 + v)) k i c := by
    intro k
    induction k with
    | zero => intro i x c; rfl
    | succ k ih =>
      intro i x c
      unfold hy_fold
      rw [← ih, Int32.add_assoc]
  unfold f_X11_nextHeat
  simp only [hy_lt', hy_jn, b9]
  rw [hy_0, e0 (vz q) hz_FU _ 0 _ (by omega) (hy_FU (by omega))]
  have e2 : hy_fold (fun v c => c + q (21 + v)) (vz q) 0 (q 9 - 3 - q 9 / 20) = q 9 + stm q - (3 + q 9 / 20) := by
    have h := e1 (vz q) 0 (q 9 - 3 - q 9 / 20) 0
    rw [Int32.add_zero] at h
    rw [h]
    show _ + stm q = _
    generalize q 9 / 20 = y
    generalize stm q = x
    generalize q 9 = w
    grind
  rw [e2]
  rfl
