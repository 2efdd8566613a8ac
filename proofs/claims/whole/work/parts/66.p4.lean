theorem eldS_al {q : Nat → Int32} {a : Int32} {i : Nat} {b : Int32} (h : b = -1 ∨ ∃ k, k < i ∧ b = nI k) : eldS q a i b = -1 ∨ ∃ k, k < i + 1 ∧ eldS q a i b = nI k := by
  unfold eldS
  rcases h with h | ⟨k, hk, h⟩
  · repeat (first | exact Or.inl h | exact Or.inr ⟨i, by omega, rfl⟩ | split)
  · repeat (first | exact Or.inl h | exact Or.inr ⟨i, by omega, rfl⟩ | exact Or.inr ⟨k, by omega, h⟩ | split)
theorem eldS_n {q : Nat → Int32} {a : Int32} {i : Nat} : eldS q a i (-1) = if q (25 + 8 * i + 2) = a then nI i else -1 := by
  unfold eldS
  simp only [if_true]
theorem r_eld {M : hz_M} {q : Nat → Int32} (hq : M 179 = q) (hZ : hy_Z q) (a : Int32) : f_X11_eldest a M = some (eld q a, M) := by
  obtain ⟨⟨z1, z2⟩, ⟨z3, z4, z5⟩, ⟨z6, z7, z8⟩, ⟨z9, z10⟩, ⟨z11, z12, z13⟩, ⟨z14, z15, z16⟩⟩ := hZ
  unfold f_X11_eldest eld
  rw [hy_0]
  generalize hFU : hz_FU = FU
  refine (hy_for (fun f c i => f_X11_eldest_L4 f a c (nI i) M) (gz q) (eldS q a) (fun r => some (r, M)) (fun i b => b = -1 ∨ ∃ k, k < i ∧ b = nI k) ?_ ?_ (gz q) 0 FU (-1) (by omega) (by rw [← hFU]; exact hy_FU (by omega)) (Or.inl rfl)).1
  · intro f c _
    simp (disch := omega) [f_X11_eldest_L4, hq, z1, hy_cts, hy_gt, hy_lt', hy_lm, hy_jn, hy_c, hy_in, hy_le, hy_add1, hy_k0, hy_k1, hy_k2, hy_k3, hy_k4, hy_k5, hy_k6, hy_k7, hy_k8, hy_k9, hy_k10, hy_k11, hy_k12, hy_k13, r_of0, r_of1, r_of2, r_of3, r_of4, r_of5, r_of6, r_of7, r_ofT0, r_ofT1]
  · intro f c i hi hP
    have hi' : ¬ (gz q) ≤ i := by omega
    refine ⟨?_, eldS_al hP⟩
    rcases hP with rfl | ⟨k, hk, rfl⟩
    · rw [eldS_n]
      simp (disch := omega) only [f_X11_eldest_L4, hq, z1, hi', if_false, if_true, hy_cts, hy_gt, hy_lt', hy_lm, hy_jn, hy_k11, hy_le, r_of2, hy_add1]
      by_cases e1 : q (25 + 8 * i + 2) = a <;> simp only [e1, if_true, if_false]
    · unfold eldS
      simp (disch := omega) only [f_X11_eldest_L4, hq, z1, hi', if_false, hy_n1, hy_cts, hy_gt, hy_lt', hy_lm, hy_jn, hy_c, hy_in, hy_le, hy_add1, hy_k0, hy_k1, hy_k2, hy_k3, hy_k4, hy_k5, hy_k6, hy_k7, hy_k8, hy_k9, hy_k10, hy_k11, hy_k12, hy_k13, r_of0, r_of1, r_of2, r_of3, r_of4, r_of5, r_of6, r_of7, r_ofT0, r_ofT1]
      by_cases e1 : q (25 + 8 * i + 2) = a <;> by_cases e2 : q (25 + 8 * i + 1) ≤ q (25 + 8 * k + 1) <;> simp only [e1, e2, if_true, if_false]
theorem dryS_al {q : Nat → Int32} (hZ : hy_Z q) {i : Nat} {b : Int32} (h : b = -1 ∨ ∃ k, k < tz q ∧ b = nI k) : dryS q i b = -1 ∨ ∃ k, k < tz q ∧ dryS q i b = nI k := by
  unfold dryS
  rcases tw_al hZ i with e | ⟨t, ht, e, _⟩
  · rw [if_pos e]; exact h
  · rw [e, if_neg (by rw [hy_n1 (by have := hZ.2.2.2.1.2; have := hZ.2.2.1.2.2; omega)]; exact not_false)]
    rcases h with h | ⟨k, hk, h⟩
    · repeat (first | exact Or.inl h | exact Or.inr ⟨t, ht, rfl⟩ | split)
    · repeat (first | exact Or.inl h | exact Or.inr ⟨t, ht, rfl⟩ | exact Or.inr ⟨k, hk, h⟩ | split)
theorem dry_al {q : Nat → Int32} (hZ : hy_Z q) : ∀ (k i : Nat) (b : Int32), (b = -1 ∨ ∃ k, k < tz q ∧ b = nI k) → (hy_fold (dryS q) k i b = -1 ∨ ∃ j, j < tz q ∧ hy_fold (dryS q) k i b = nI j)
  | 0, _, _, h => h
  | k + 1, i, b, h => dry_al hZ k (i + 1) _ (dryS_al hZ h)
theorem r_dry {M : hz_M} {q : Nat → Int32} (hq : M 179 = q) (hZ : hy_Z q) : f_X11_driestOne M = some (dry q, M) := by
  have hZ0 := hZ
  have htw := fun a => r_tw hq hZ a
  obtain ⟨⟨z1, z2⟩, ⟨z3, z4, z5⟩, ⟨z6, z7, z8⟩, ⟨z9, z10⟩, ⟨z11, z12, z13⟩, ⟨z14, z15, z16⟩⟩ := hZ
  unfold f_X11_driestOne
  refine (hy_for (fun f c i => f_X11_driestOne_L4 f c (nI i) M) (pz q) (dryS q) (fun r => some (r, M)) (fun i b => b = -1 ∨ ∃ k, k < tz q ∧ b = nI k) ?_ ?_ (pz q) 0 hz_FU (-1) (by omega) (hy_FU (by omega)) (Or.inl rfl)).1
  · intro f c _
    simp (disch := omega) [f_X11_driestOne_L4, hq, z6, hy_cts, hy_gt, hy_lt', hy_lm, hy_jn, hy_c, hy_in, hy_le, hy_add1, hy_k0, hy_k1, hy_k2, hy_k3, hy_k4, hy_k5, hy_k6, hy_k7, hy_k8, hy_k9, hy_k10, hy_k11, hy_k12, hy_k13, r_of0, r_of1, r_of2, r_of3, r_of4, r_of5, r_of6, r_of7, r_ofT0, r_ofT1]
  · intro f c i hi hP
    have hi' : ¬ (pz q) ≤ i := by omega
    refine ⟨?_, dryS_al hZ0 hP⟩
    unfold dryS
    simp (disch := omega) only [f_X11_driestOne_L4, hq, z6, hi', if_false, htw, hy_cts, hy_gt, hy_lt', hy_lm, hy_jn, hy_c, hy_in, hy_le, hy_add1, hy_k0, hy_k1, hy_k2, hy_k3, hy_k4, hy_k5, hy_k6, hy_k7, hy_k8, hy_k9, hy_k10, hy_k11, hy_k12, hy_k13, r_of0, r_of1, r_of2, r_of3, r_of4, r_of5, r_of6, r_of7, r_ofT0, r_ofT1]
    rcases tw_al hZ0 i with e | ⟨t, ht, e, _⟩
    · simp only [e, if_true]
    · simp (disch := omega) only [e, hq, hy_n1, if_false, hy_cts, hy_gt, hy_lt', hy_lm, hy_jn, hy_c, hy_in, hy_le, hy_add1, hy_k0, hy_k1, hy_k2, hy_k3, hy_k4, hy_k5, hy_k6, hy_k7, hy_k8, hy_k9, hy_k10, hy_k11, hy_k12, hy_k13, r_of0, r_of1, r_of2, r_of3, r_of4, r_of5, r_of6, r_of7, r_ofT0, r_ofT1]
      rcases hP with rfl | ⟨k, hk, rfl⟩
      · by_cases e1 : 2 < q (153 + 2 * t) <;> simp only [e1, if_true, if_false]
      · simp (disch := omega) only [hy_n1, if_false, hq, hy_cts, hy_gt, hy_lt', hy_lm, hy_jn, hy_c, hy_in, hy_le, hy_add1, hy_k0, hy_k1, hy_k2, hy_k3, hy_k4, hy_k5, hy_k6, hy_k7, hy_k8, hy_k9, hy_k10, hy_k11, hy_k12, hy_k13, r_of0, r_of1, r_of2, r_of3, r_of4, r_of5, r_of6, r_of7, r_ofT0, r_ofT1]
        by_cases e1 : 2 < q (153 + 2 * t) <;> by_cases e2 : q (153 + 2 * k) ≤ q (153 + 2 * t) <;> simp only [e1, e2, if_true, if_false]
theorem r_nxt {M : hz_M} {q : Nat → Int32} (hq : M 179 = q) (hZ : hy_Z q) : f_X11_nextHeat M = some (nxt (q 9) (stm q), M) := by
  obtain ⟨⟨z1, z2⟩, ⟨z3, z4, z5⟩, ⟨z6, z7, z8⟩, ⟨z9, z10⟩, ⟨z11, z12, z13⟩, ⟨z14, z15, z16⟩⟩ := hZ
  unfold f_X11_nextHeat
  simp only [hy_jn]
  refine (hy_for0 (fun f c i => f_X11_nextHeat_L4 _ f c (nI i) M) (vz q) (fun v c => c + q (21 + v)) (fun r => some (nxt (q 9) r, M)) ?_ ?_ hz_FU 0 (hy_FU (by omega)))
  · intro f c
    have e : ∀ x y z : Int32, x + y - 3 - z = x + y - (3 + z) := by
      intro x y z
      simp only [Int32.sub_eq_add_neg, Int32.neg_add, Int32.add_assoc]
    simp (disch := omega) only [f_X11_nextHeat_L4, hq, z11, hy_cts, hy_gt, hy_lt', hy_lm, hy_jn, hy_c, hy_in, hy_le, hy_add1, hy_k0, hy_k1, hy_k2, hy_k3, hy_k4, hy_k5, hy_k6, hy_k7, hy_k8, hy_k9, hy_k10, hy_k11, hy_k12, hy_k13, r_of0, r_of1, r_of2, r_of3, r_of4, r_of5, r_of6, r_of7, r_ofT0, r_ofT1, Nat.le_refl, if_true, nxt, e]
  · intro f c i hi
    have hi' : ¬ (vz q) ≤ i := by omega
    simp (disch := omega) only [f_X11_nextHeat_L4, hq, z11, hi', if_false, show (21 : Int32) = nI 21 from rfl, hy_add, hy_cts, hy_gt, hy_lt', hy_lm, hy_jn, hy_c, hy_in, hy_le, hy_add1, hy_k0, hy_k1, hy_k2, hy_k3, hy_k4, hy_k5, hy_k6, hy_k7, hy_k8, hy_k9, hy_k10, hy_k11, hy_k12, hy_k13, r_of0, r_of1, r_of2, r_of3, r_of4, r_of5, r_of6, r_of7, r_ofT0, r_ofT1]
theorem r_silence {M : hz_M} {q : Nat → Int32} (hq : M 179 = q) : f_X11_isSilence M = some (if q 10 = -1 then 0 else if q 10 + q 7 ≤ q 8 then 0 else 1, M) := by
  simp only [f_X11_isSilence, hq, hy_cts, hy_gt, hy_lt', hy_lm, hy_jn, hy_c, hy_in, hy_le, hy_add1, hy_k0, hy_k1, hy_k2, hy_k3, hy_k4, hy_k5, hy_k6, hy_k7, hy_k8, hy_k9, hy_k10, hy_k11, hy_k12, hy_k13, r_of0, r_of1, r_of2, r_of3, r_of4, r_of5, r_of6, r_of7, r_ofT0, r_ofT1]
  repeat (first | rfl | split)

