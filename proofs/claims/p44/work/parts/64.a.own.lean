/-! THE LAW'S OWN BATHHOUSE: its rows are the state q -/
def RO (b : Nat) (M : hz_M) (q : Nat → Int32) : Prop :=
  (M b 0 = q 0 ∧ M b 1 = q 1 ∧ M b 2 = q 2 ∧ M b 3 = q 3 ∧ M b 4 = q 4 ∧ M b 5 = q 5 ∧ M b 6 = q 6 ∧ M b 7 = q 7 ∧ M b 8 = q 8 ∧ M b 9 = q 9 ∧ M b 10 = q 11 ∧ M b 11 = q 10) ∧
  (∀ v, v < 4 → M (b + 1) v = q (21 + v)) ∧ (∀ p, p < pz q → M (b + 2) p = tw q p) ∧ (∀ k, k < lz q → M (b + 3) k = kpr q k) ∧
  (∀ t, t < tz q → M (b + 4) t = q (153 + 2 * t)) ∧ (∀ k, k < 9 → M (b + 5) k = q (12 + k)) ∧ (∀ g, g < gz q → M (b + 6) g = q (25 + 8 * g + 1)) ∧
  (∀ g, g < gz q → M (b + 7) g = q (25 + 8 * g + 2)) ∧ (∀ g, g < gz q → M (b + 8) g = q (25 + 8 * g + 4)) ∧ (∀ g, g < gz q → M (b + 9) g = q (25 + 8 * g + 5)) ∧
  (∀ g, g < gz q → M (b + 10) g = q (25 + 8 * g + 6)) ∧ (∀ g, g < gz q → M (b + 11) g = q (25 + 8 * g + 7))
theorem RO_fr {b : Nat} {M M' : hz_M} {q : Nat → Int32} (h : ∀ a, b ≤ a → a ≤ b + 11 → M' a = M a) (hR : RO b M q) : RO b M' q := by
  unfold RO
  rw [h b (by omega) (by omega), h (b + 1) (by omega) (by omega), h (b + 2) (by omega) (by omega), h (b + 3) (by omega) (by omega), h (b + 4) (by omega) (by omega), h (b + 5) (by omega) (by omega), h (b + 6) (by omega) (by omega), h (b + 7) (by omega) (by omega), h (b + 8) (by omega) (by omega), h (b + 9) (by omega) (by omega), h (b + 10) (by omega) (by omega), h (b + 11) (by omega) (by omega)]
  exact hR
theorem hQ_l {q : Nat → Int32} (hQ : hy_Q q) : inj (fun g => q (25 + 8 * g + 3)) (gz q) := hQ.2.2.2.2.2.2.2.2.1
theorem hQ_h {q : Nat → Int32} (hQ : hy_Q q) : inj (fun g => q (25 + 8 * g + 4)) (gz q) := hQ.2.2.2.2.2.2.2.2.2.1
theorem hQ_p {q : Nat → Int32} (hQ : hy_Q q) : inj (fun t => q (153 + 2 * t + 1)) (tz q) := hQ.2.2.2.2.2.2.2.2.2.2.1
theorem kpr_is {q : Nat → Int32} (hZ : hy_Z q) (hQ : hy_Q q) {g k : Nat} (hg : g < gz q) (hk : k < lz q) : kpr q k = nI g ↔ q (25 + 8 * g + 3) = nI k := by
  have z2 := hZ.1.2
  have z5 := hZ.2.1.2.2
  rw [kpr_fk]
  constructor
  · intro h
    rcases fk_al (fun g => q (25 + 8 * g + 3)) (gz q) k with ⟨h1, -⟩ | ⟨i, hi, h1, h2⟩
    · rw [h1] at h
      exact absurd h.symm (by have := hy_n1 (a := g) (by omega); intro e; rw [this] at e; exact e)
    · rw [h1] at h
      have e : i = g := by have := hy_eq (a := i) (b := g) (by omega) (by omega); rw [this] at h; exact h
      subst e
      exact h2
  · intro h
    exact fk_is (by omega) hg h (hQ_l hQ)
theorem tw_is {q : Nat → Int32} (hZ : hy_Z q) (hQ : hy_Q q) {t p : Nat} (ht : t < tz q) (hp : p < pz q) : tw q p = nI t ↔ q (153 + 2 * t + 1) = nI p := by
  have z8 := hZ.2.2.1.2.2
  have z10 := hZ.2.2.2.1.2
  rw [tw_fk]
  constructor
  · intro h
    rcases fk_al (fun t => q (153 + 2 * t + 1)) (tz q) p with ⟨h1, -⟩ | ⟨i, hi, h1, h2⟩
    · rw [h1] at h
      exact absurd h.symm (by have := hy_n1 (a := t) (by omega); intro e; rw [this] at e; exact e)
    · rw [h1] at h
      have e : i = t := by have := hy_eq (a := i) (b := t) (by omega) (by omega); rw [this] at h; exact h
      subst e
      exact h2
  · intro h
    exact fk_is (by omega) ht h (hQ_p hQ)
theorem O_lockerOf {b : Nat} {M : hz_M} {q : Nat → Int32} (hR : RO b M q) (hZ : hy_Z q) (hQ : hy_Q q) {g : Nat} (hg : g < gz q) : f_X11_lockerOf b (nI g) M = some (q (25 + 8 * g + 3), M) := by
  have hZ0 := hZ
  obtain ⟨⟨b0, b1, b2, b3, b4, b5, b6, b7, b8, b9, b10, b11⟩, rop, rpg, rlk, rwt, rac, rag, rat, rhs, rst, rwn, rsd⟩ := hR
  obtain ⟨⟨z1, z2⟩, ⟨z3, z4, z5⟩, ⟨z6, z7, z8⟩, ⟨z9, z10⟩, ⟨z11, z12, z13⟩, ⟨z14, z15, z16⟩⟩ := hZ
  rw [z1] at b10; rw [z3] at b0; rw [z6] at b1; rw [z9] at b2; rw [z11] at b3; rw [z14] at b4
  unfold f_X11_lockerOf
  rw [show (0 : Int32) = nI 0 from rfl]
  rw [hy_first (fun f i => f_X11_lockerOf_L2 b f (nI g) (nI i) M) (lz q) (fun k => decide (kpr q k = nI g)) (fun r => some (r, M)) ?_ ?_ (lz q) 0 hz_FU (by omega) (hy_FU (by omega))]
  · congr 2
    rcases hQ.2.2.1 g hg with h | ⟨k, hk, h⟩
    · rw [h]
      refine hy_fnd_none _ _ (fun j _ hj => decide_eq_false (fun e => ?_))
      have e2 := (kpr_is hZ0 hQ hg (by omega)).mp e
      rw [h] at e2
      have := hy_n1' (a := j) (by omega)
      rw [this] at e2
      exact e2
    · rw [h]
      refine hy_fnd_one _ _ (by omega) (by omega) (decide_eq_true ((kpr_is hZ0 hQ hg hk).mpr h)) (fun j _ hj => decide_eq_false (fun e => ?_))
      have e2 := (kpr_is hZ0 hQ hg (by omega)).mp e
      rw [h] at e2
      have := hy_eq (a := k) (b := j) (by omega) (by omega)
      rw [this] at e2
      omega
  · intro f
    simp (disch := omega) [f_X11_lockerOf_L2, hy_cts, hy_gt, hy_lt', hy_lm, hy_jn, hy_c, hy_in, hy_le, hy_add1, hy_k0, hy_k1, hy_k2, hy_k3, hy_k4, hy_k5, hy_k6, hy_k7, hy_k8, hy_k9, hy_k10, hy_k11, hy_k12, hy_k13, b0, b1, b10]
  · intro f i hi
    have hi' : ¬ (lz q) ≤ i := by omega
    simp (disch := omega) only [f_X11_lockerOf_L2, b0, b1, b10, hi', if_false, hy_cts, hy_gt, hy_lt', hy_lm, hy_jn, hy_c, hy_in, hy_le, hy_add1, hy_k0, hy_k1, hy_k2, hy_k3, hy_k4, hy_k5, hy_k6, hy_k7, hy_k8, hy_k9, hy_k10, hy_k11, hy_k12, hy_k13, rlk i hi]
    by_cases e : kpr q i = nI g <;> simp [e]
theorem O_pegOf {b : Nat} {M : hz_M} {q : Nat → Int32} (hR : RO b M q) (hZ : hy_Z q) (hQ : hy_Q q) {g : Nat} (hg : g < tz q) : f_X11_pegOf b (nI g) M = some (q (153 + 2 * g + 1), M) := by
  have hZ0 := hZ
  obtain ⟨⟨b0, b1, b2, b3, b4, b5, b6, b7, b8, b9, b10, b11⟩, rop, rpg, rlk, rwt, rac, rag, rat, rhs, rst, rwn, rsd⟩ := hR
  obtain ⟨⟨z1, z2⟩, ⟨z3, z4, z5⟩, ⟨z6, z7, z8⟩, ⟨z9, z10⟩, ⟨z11, z12, z13⟩, ⟨z14, z15, z16⟩⟩ := hZ
  rw [z1] at b10; rw [z3] at b0; rw [z6] at b1; rw [z9] at b2; rw [z11] at b3; rw [z14] at b4
  unfold f_X11_pegOf
  rw [show (0 : Int32) = nI 0 from rfl]
  rw [hy_first (fun f i => f_X11_pegOf_L2 b f (nI g) (nI i) M) (pz q) (fun k => decide (tw q k = nI g)) (fun r => some (r, M)) ?_ ?_ (pz q) 0 hz_FU (by omega) (hy_FU (by omega))]
  · congr 2
    rcases hQ.2.2.2.2.2.2.2.1 g hg with h | ⟨k, hk, h⟩
    · rw [h]
      refine hy_fnd_none _ _ (fun j _ hj => decide_eq_false (fun e => ?_))
      have e2 := (tw_is hZ0 hQ hg (by omega)).mp e
      rw [h] at e2
      have := hy_n1' (a := j) (by omega)
      rw [this] at e2
      exact e2
    · rw [h]
      refine hy_fnd_one _ _ (by omega) (by omega) (decide_eq_true ((tw_is hZ0 hQ hg hk).mpr h)) (fun j _ hj => decide_eq_false (fun e => ?_))
      have e2 := (tw_is hZ0 hQ hg (by omega)).mp e
      rw [h] at e2
      have := hy_eq (a := k) (b := j) (by omega) (by omega)
      rw [this] at e2
      omega
  · intro f
    simp (disch := omega) [f_X11_pegOf_L2, hy_cts, hy_gt, hy_lt', hy_lm, hy_jn, hy_c, hy_in, hy_le, hy_add1, hy_k0, hy_k1, hy_k2, hy_k3, hy_k4, hy_k5, hy_k6, hy_k7, hy_k8, hy_k9, hy_k10, hy_k11, hy_k12, hy_k13, b0, b1, b10]
  · intro f i hi
    have hi' : ¬ (pz q) ≤ i := by omega
    simp (disch := omega) only [f_X11_pegOf_L2, b0, b1, b10, hi', if_false, hy_cts, hy_gt, hy_lt', hy_lm, hy_jn, hy_c, hy_in, hy_le, hy_add1, hy_k0, hy_k1, hy_k2, hy_k3, hy_k4, hy_k5, hy_k6, hy_k7, hy_k8, hy_k9, hy_k10, hy_k11, hy_k12, hy_k13, rpg i hi]
    by_cases e : tw q i = nI g <;> simp [e]
theorem O_holder {b : Nat} {M : hz_M} {q : Nat → Int32} (hR : RO b M q) (hZ : hy_Z q) (a : Nat) : f_X11_holder b (nI a) M = some (hld q a, M) := by
  have hZ0 := hZ
  obtain ⟨⟨b0, b1, b2, b3, b4, b5, b6, b7, b8, b9, b10, b11⟩, rop, rpg, rlk, rwt, rac, rag, rat, rhs, rst, rwn, rsd⟩ := hR
  obtain ⟨⟨z1, z2⟩, ⟨z3, z4, z5⟩, ⟨z6, z7, z8⟩, ⟨z9, z10⟩, ⟨z11, z12, z13⟩, ⟨z14, z15, z16⟩⟩ := hZ
  rw [z1] at b10; rw [z3] at b0; rw [z6] at b1; rw [z9] at b2; rw [z11] at b3; rw [z14] at b4
  unfold f_X11_holder
  rw [show (0 : Int32) = nI 0 from rfl]
  refine hy_first (fun f i => f_X11_holder_L2 b f (nI a) (nI i) M) (gz q) (fun g => decide (q (25 + 8 * g + 4) = nI a)) (fun r => some (r, M)) ?_ ?_ (gz q) 0 hz_FU (by omega) (hy_FU (by omega))
  · intro f
    simp (disch := omega) [f_X11_holder_L2, hy_cts, hy_gt, hy_lt', hy_lm, hy_jn, hy_c, hy_in, hy_le, hy_add1, hy_k0, hy_k1, hy_k2, hy_k3, hy_k4, hy_k5, hy_k6, hy_k7, hy_k8, hy_k9, hy_k10, hy_k11, hy_k12, hy_k13, b10]
  · intro f i hi
    have hi' : ¬ (gz q) ≤ i := by omega
    simp (disch := omega) only [f_X11_holder_L2, b10, hi', if_false, hy_cts, hy_gt, hy_lt', hy_lm, hy_jn, hy_c, hy_in, hy_le, hy_add1, hy_k0, hy_k1, hy_k2, hy_k3, hy_k4, hy_k5, hy_k6, hy_k7, hy_k8, hy_k9, hy_k10, hy_k11, hy_k12, hy_k13, rhs i hi]
    by_cases e : q (25 + 8 * i + 4) = nI a <;> simp [e]
theorem hy_0lt {x : Int32} {n : Nat} (hn : n ≤ 1000) (h : x = -1 ∨ ∃ k, k < n ∧ x = nI k) : (0 ≤ x) = ¬ x = -1 := by
  rcases h with h | ⟨k, hk, h⟩
  · subst h
    decide
  · subst h
    have := hy_n1 (a := k) (by omega)
    simp [this, hy_nn (a := k) (by omega)]
theorem hy_ltm {x : Int32} {n : Nat} (hn : n ≤ 1000) (h : x = -1 ∨ ∃ k, k < n ∧ x = nI k) : (x < 0) = (x = -1) := by
  rcases h with h | ⟨k, hk, h⟩
  · subst h
    decide
  · subst h
    have := hy_n1 (a := k) (by omega)
    simp only [this, eq_iff_iff, iff_false]
    exact Int32.not_lt.mpr (hy_nn (by omega))
theorem O_isBasket {b : Nat} {M : hz_M} {q : Nat → Int32} (hR : RO b M q) (hZ : hy_Z q) (hQ : hy_Q q) {t : Nat} (ht : t < tz q) : f_X11_isBasket b (nI t) M = some (if isB q t = true then 1 else 0, M) := by
  have z2 := hZ.1.2
  have z8 := hZ.2.2.1.2.2
  have h1 := hQ.2.2.2.2.2.2.2.1 t ht
  have h2 : hld q t = -1 ∨ ∃ k, k < gz q ∧ hld q t = nI k := (hld_al hZ t).imp id (fun ⟨k, a, c, _⟩ => ⟨k, a, c⟩)
  unfold f_X11_isBasket
  simp only [O_pegOf hR hZ hQ ht, O_holder hR hZ t, hy_cts, hy_0lt (n := pz q) (by omega) h1, hy_0lt (n := gz q) (by omega) h2, isB, decide_eq_true_eq]
  by_cases e1 : q (153 + 2 * t + 1) = -1 <;> by_cases e2 : hld q t = -1 <;> simp [e1, e2]
theorem O_on {b : Nat} {M : hz_M} {q : Nat → Int32} (hR : RO b M q) (hZ : hy_Z q) (a : Int32) : f_X11_on b a M = some (hAt q a, M) := by
  have hZ0 := hZ
  obtain ⟨⟨b0, b1, b2, b3, b4, b5, b6, b7, b8, b9, b10, b11⟩, rop, rpg, rlk, rwt, rac, rag, rat, rhs, rst, rwn, rsd⟩ := hR
  obtain ⟨⟨z1, z2⟩, ⟨z3, z4, z5⟩, ⟨z6, z7, z8⟩, ⟨z9, z10⟩, ⟨z11, z12, z13⟩, ⟨z14, z15, z16⟩⟩ := hZ
  rw [z1] at b10; rw [z3] at b0; rw [z6] at b1; rw [z9] at b2; rw [z11] at b3; rw [z14] at b4
  unfold f_X11_on
  refine hy_for0 (fun f c i => f_X11_on_L4 b f a c (nI i) M) (gz q) (fun g c => if q (25 + 8 * g + 2) = a then c + 1 else c) (fun r => some (r, M)) ?_ ?_ hz_FU _ (hy_FU (by omega))
  · intro f c
    simp (disch := omega) [f_X11_on_L4, b10, hy_cts, hy_gt, hy_lt', hy_lm, hy_jn, hy_c, hy_in, hy_le, hy_add1, hy_k0, hy_k1, hy_k2, hy_k3, hy_k4, hy_k5, hy_k6, hy_k7, hy_k8, hy_k9, hy_k10, hy_k11, hy_k12, hy_k13]
  · intro f c i hi
    have hi' : ¬ (gz q) ≤ i := by omega
    simp (disch := omega) only [f_X11_on_L4, b10, hi', if_false, hy_cts, hy_gt, hy_lt', hy_lm, hy_jn, hy_c, hy_in, hy_le, hy_add1, hy_k0, hy_k1, hy_k2, hy_k3, hy_k4, hy_k5, hy_k6, hy_k7, hy_k8, hy_k9, hy_k10, hy_k11, hy_k12, hy_k13, rat i hi]
    by_cases e : q (25 + 8 * i + 2) = a <;> simp [e, Int32.add_comm]
theorem O_inside {b : Nat} {M : hz_M} {q : Nat → Int32} (hR : RO b M q) (hZ : hy_Z q) : f_X11_inside b M = some (hIns q, M) := by
  unfold f_X11_inside
  simp only [O_on hR hZ, hy_cts, hR.1.2.2.2.2.2.2.2.2.2.2.1, hIns_eq hZ]
theorem O_silent {b : Nat} {M : hz_M} {q : Nat → Int32} (hR : RO b M q) (hZ : hy_Z q) (hT : hy_T q) (hQ : hy_Q q) : f_X11_isSilent b M = some (if q 10 = -1 then 0 else if q 10 + q 7 ≤ q 8 then 0 else 1, M) := by
  have hZ0 := hZ
  obtain ⟨⟨b0, b1, b2, b3, b4, b5, b6, b7, b8, b9, b10, b11⟩, rop, rpg, rlk, rwt, rac, rag, rat, rhs, rst, rwn, rsd⟩ := hR
  obtain ⟨⟨z1, z2⟩, ⟨z3, z4, z5⟩, ⟨z6, z7, z8⟩, ⟨z9, z10⟩, ⟨z11, z12, z13⟩, ⟨z14, z15, z16⟩⟩ := hZ
  rw [z1] at b10; rw [z3] at b0; rw [z6] at b1; rw [z9] at b2; rw [z11] at b3; rw [z14] at b4
  obtain ⟨k, hk, e8, h10⟩ := hT
  obtain ⟨u, hu, e7⟩ := hQ.2.2.2.2.2.2.2.2.2.2.2.2.2.2.2.2.2.1
  unfold f_X11_isSilent
  rw [b11, b7, b8]
  rcases h10 with h | ⟨j, hj, h⟩
  · simp [h]
  · have n1 := hy_n1 (a := j) (by omega)
    have n2 : ¬ nI j < 0 := Int32.not_lt.mpr (hy_nn (by omega))
    rw [h, e7, e8, hy_sub hj, hy_add]
    simp only [n1, n2, if_false, hy_le (a := u) (b := k - j) (by omega) (by omega), hy_le (a := j + u) (b := k) (by omega) (by omega), show (u ≤ k - j) = (j + u ≤ k) by simp only [eq_iff_iff]; omega]
    by_cases e : j + u ≤ k <;> simp [e]
theorem O_bears {b : Nat} {M : hz_M} {q : Nat → Int32} (hR : RO b M q) (hZ : hy_Z q) {g : Nat} (hg : g < gz q) : f_X11_bears b (nI g) M = some (60 + q (25 + 8 * g + 1) / 4, M) := by
  have hZ0 := hZ
  obtain ⟨⟨b0, b1, b2, b3, b4, b5, b6, b7, b8, b9, b10, b11⟩, rop, rpg, rlk, rwt, rac, rag, rat, rhs, rst, rwn, rsd⟩ := hR
  obtain ⟨⟨z1, z2⟩, ⟨z3, z4, z5⟩, ⟨z6, z7, z8⟩, ⟨z9, z10⟩, ⟨z11, z12, z13⟩, ⟨z14, z15, z16⟩⟩ := hZ
  rw [z1] at b10; rw [z3] at b0; rw [z6] at b1; rw [z9] at b2; rw [z11] at b3; rw [z14] at b4
  unfold f_X11_bears
  simp (disch := omega) only [hy_cts, hy_gt, hy_lt', hy_lm, hy_jn, hy_c, hy_in, hy_le, hy_add1, hy_k0, hy_k1, hy_k2, hy_k3, hy_k4, hy_k5, hy_k6, hy_k7, hy_k8, hy_k9, hy_k10, hy_k11, hy_k12, hy_k13, rag g hg]
