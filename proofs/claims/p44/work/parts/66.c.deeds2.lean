theorem O_lockerOf0 {b : Nat} {M : hz_M} {q : Nat → Int32} (hR : RO b M q) (hZ : hy_Z q) (hj : inj (fun g => q (25 + 8 * g + 3)) (gz q)) {g : Nat} (hg : g < gz q) {l : Nat} (hl : l < lz q) (h : q (25 + 8 * g + 3) = nI l) : f_X11_lockerOf b (nI g) M = some (nI l, M) := by
  have hZ0 := hZ
  obtain ⟨⟨b0, b1, b2, b3, b4, b5, b6, b7, b8, b9, b10, b11⟩, rop, rpg, rlk, rwt, rac, rag, rat, rhs, rst, rwn, rsd⟩ := hR
  obtain ⟨⟨z1, z2⟩, ⟨z3, z4, z5⟩, ⟨z6, z7, z8⟩, ⟨z9, z10⟩, ⟨z11, z12, z13⟩, ⟨z14, z15, z16⟩⟩ := hZ
  rw [z1] at b10; rw [z3] at b0; rw [z6] at b1; rw [z9] at b2; rw [z11] at b3; rw [z14] at b4
  have his : ∀ p, p < lz q → (kpr q p = nI g ↔ q (25 + 8 * g + 3) = nI p) := by
    intro p hp
    rw [kpr_fk]
    constructor
    · intro h
      rcases fk_al (fun g => q (25 + 8 * g + 3)) (gz q) p with ⟨h1, -⟩ | ⟨i, hi, h1, h2⟩
      · rw [h1] at h
        exact absurd h.symm (by have := hy_n1 (a := g) (by omega); intro e; rw [this] at e; exact e)
      · rw [h1] at h
        have e : i = g := by have := hy_eq (a := i) (b := g) (by omega) (by omega); rw [this] at h; exact h
        subst e
        exact h2
    · intro h
      exact fk_is (by omega) hg h hj
  unfold f_X11_lockerOf
  rw [show (0 : Int32) = nI 0 from rfl]
  rw [hy_first (fun f i => f_X11_lockerOf_L2 b f (nI g) (nI i) M) (lz q) (fun k => decide (kpr q k = nI g)) (fun r => some (r, M)) ?_ ?_ (lz q) 0 hz_FU (by omega) (hy_FU (by omega))]
  · congr 2
    refine hy_fnd_one _ _ (by omega) (by omega) (decide_eq_true ((his l hl).mpr h)) (fun j _ hj => decide_eq_false (fun e => ?_))
    have e2 := (his j (by omega)).mp e
    rw [h] at e2
    have := hy_eq (a := l) (b := j) (by omega) (by omega)
    rw [this] at e2
    omega
  · intro f
    simp (disch := omega) [f_X11_lockerOf_L2, hy_cts, hy_gt, hy_lt', hy_lm, hy_jn, hy_c, hy_in, hy_le, hy_add1, hy_k0, hy_k1, hy_k2, hy_k3, hy_k4, hy_k5, hy_k6, hy_k7, hy_k8, hy_k9, hy_k10, hy_k11, hy_k12, hy_k13, b0, b1, b10]
  · intro f i hi
    have hi' : ¬ (lz q) ≤ i := by omega
    simp (disch := omega) only [f_X11_lockerOf_L2, b0, b1, b10, hi', if_false, hy_cts, hy_gt, hy_lt', hy_lm, hy_jn, hy_c, hy_in, hy_le, hy_add1, hy_k0, hy_k1, hy_k2, hy_k3, hy_k4, hy_k5, hy_k6, hy_k7, hy_k8, hy_k9, hy_k10, hy_k11, hy_k12, hy_k13, rlk i hi]
    by_cases e : kpr q i = nI g <;> simp [e]
theorem O_mute {b : Nat} {M : hz_M} {q : Nat → Int32} (hR : RO b M q) (hZ : hy_Z q) (hT : hy_T q) (hQ : hy_Q q) {g : Nat} (hg : g < gz q) (h : q 10 = -1 ∨ q 10 + q 7 ≤ q 8) : f_X11_speaks b (nI g) M = some (q (25 + 8 * g + 6), M) := by
  have hs := O_silent hR hZ hT hQ
  have z2 := hZ.1.2
  have rwn := hR.2.2.2.2.2.2.2.2.2.2.1
  have e : (if q 10 = -1 then (0 : Int32) else if q 10 + q 7 ≤ q 8 then 0 else 1) = 0 := by
    rcases h with h | h
    · rw [if_pos h]
    · simp only [h, if_true]
      split <;> rfl
  rw [e] at hs
  unfold f_X11_speaks
  simp (disch := omega) only [hs, hy_cts, hy_gt, hy_lt', hy_lm, hy_jn, hy_c, hy_in, hy_le, hy_add1, hy_k0, hy_k1, hy_k2, hy_k3, hy_k4, hy_k5, hy_k6, hy_k7, hy_k8, hy_k9, hy_k10, hy_k11, hy_k12, hy_k13, if_true, rwn g hg]
theorem O_warn {b : Nat} {M : hz_M} {q : Nat → Int32} (hR : RO b M q) (hZ : hy_Z q) (hT : hy_T q) (hQ : hy_Q q) {g k : Nat} (hg : g < gz q) (hk : k ≤ 1) (hw : q (25 + 8 * g + 6) = nI k) (h10 : q 10 ≠ -1) (h11 : ¬ q 10 + q 7 ≤ q 8) : ∃ M', f_X11_speaks b (nI g) M = some (nI (k + 1), M') ∧ (∀ a, (a < b ∨ b + 11 < a) → M' a = M a) ∧ RO b M' (hy_st (hy_st q (25 + 8 * g + 6) (nI (k + 1))) (12 + 3) (q 15 + 1)) := by
  have hs := O_silent hR hZ hT hQ
  have z2 := hZ.1.2
  have rwn := hR.2.2.2.2.2.2.2.2.2.2.1 g hg
  have a15 : M (b + 5) 3 = q 15 := hR.2.2.2.2.2.1 3 (by omega)
  rw [if_neg h10, if_neg h11] at hs
  have R1 := ro_wrn hR hZ (g := g) (v := nI (k + 1)) hg
  have Z1 := Z_st (i := 25 + 8 * g + 6) (nI (k + 1)) (by omega) (by omega) hZ
  have R2 := ro_acc R1 Z1 (a := 3) (v := q 15 + 1) (by omega)
  refine ⟨_, ?_, ?_, R2⟩
  · unfold f_X11_speaks
    have n3 : ¬ (3 : Int32) ≤ nI (k + 1) := by
      have := hy_le (a := 3) (b := k + 1) (by omega) (by omega)
      intro e
      have := this.mp e
      omega
    simp (disch := omega) only [hs, hy_cts, hy_gt, hy_lt', hy_lm, hy_jn, hy_c, hy_in, hy_le, hy_add1, hy_k0, hy_k1, hy_k2, hy_k3, hy_k4, hy_k5, hy_k6, hy_k7, hy_k8, hy_k9, hy_k10, hy_k11, hy_k12, hy_k13, hy_f10, if_false, rwn, hw, a15, hy_seto, hy_setk, n3]
  · intro a ha
    simp (disch := omega) only [hy_seto]
theorem O_out {b : Nat} {M : hz_M} {q : Nat → Int32} (hR : RO b M q) (hZ : hy_Z q) (hT : hy_T q) (hQ : hy_Q q) {g l : Nat} (hg : g < gz q) (hl : l < lz q) (hlg : q (25 + 8 * g + 3) = nI l) (hw : q (25 + 8 * g + 6) = nI 2) (h10 : q 10 ≠ -1) (h11 : ¬ q 10 + q 7 ≤ q 8) : ∃ M', f_X11_speaks b (nI g) M = some (3, M') ∧ (∀ a, (a < b ∨ b + 11 < a) → M' a = M a) ∧ RO b M' (hy_st (hy_st (hy_st (hy_st (hy_st (hy_st (hy_st (hy_st (hy_st q (25 + 8 * g + 6) (nI 3)) (12 + 3) (q 15 + 1)) (25 + 8 * g + 3) (-1)) (25 + 8 * g + 4) (-1)) (25 + 8 * g + 2) (-1)) (12 + 1) (q 13 + 1)) (25 + 8 * g + 6) 0) (25 + 8 * g + 7) (q 8 / 600)) (12 + 2) (q 14 + 1)) := by
  have hs := O_silent hR hZ hT hQ
  have z2 := hZ.1.2
  have z5 := hZ.2.1.2.2
  have rwn := hR.2.2.2.2.2.2.2.2.2.2.1 g hg
  have a15 : M (b + 5) 3 = q 15 := hR.2.2.2.2.2.1 3 (by omega)
  rw [if_neg h10, if_neg h11] at hs
  have R1 := ro_wrn hR hZ (g := g) (v := nI 3) hg
  have Z1 := Z_st (i := 25 + 8 * g + 6) (nI 3) (by omega) (by omega) hZ
  have R2 := ro_acc R1 Z1 (a := 3) (v := q 15 + 1) (by omega)
  have Z2 := Z_st (i := 12 + 3) (q 15 + 1) (by omega) (by omega) Z1
  have g2 : gz (hy_st (hy_st q (25 + 8 * g + 6) (nI 3)) (12 + 3) (q 15 + 1)) = gz q := by rw [gz_st _ _ (by omega), gz_st _ _ (by omega)]
  have l2 : lz (hy_st (hy_st q (25 + 8 * g + 6) (nI 3)) (12 + 3) (q 15 + 1)) = lz q := by rw [lz_st _ _ (by omega), lz_st _ _ (by omega)]
  have v2 : hy_st (hy_st q (25 + 8 * g + 6) (nI 3)) (12 + 3) (q 15 + 1) (25 + 8 * g + 3) = nI l := by rw [hy_so _ _ (by omega), hy_so _ _ (by omega), hlg]
  have J2 : inj (fun h => hy_st (hy_st q (25 + 8 * g + 6) (nI 3)) (12 + 3) (q 15 + 1) (25 + 8 * h + 3)) (gz q) := inj_st (f := fun h => 25 + 8 * h + 3) (fun h _ => by omega) (inj_st (f := fun h => 25 + 8 * h + 3) (fun h _ => by omega) (hQ_l hQ))
  obtain ⟨M3, e3, fr3, R3⟩ := O_goes R2 Z2 (by rw [g2]; exact J2) (by rw [g2]; exact hg) (by rw [l2]; exact hl) (O_lockerOf0 R2 Z2 (by rw [g2]; exact J2) (by rw [g2]; exact hg) (by rw [l2]; exact hl) v2) v2
  rw [show hy_st (hy_st q (25 + 8 * g + 6) (nI 3)) (12 + 3) (q 15 + 1) 13 = q 13 by rw [hy_so _ _ (by omega), hy_so _ _ (by omega)]] at R3
  have Z3 := Z_st (i := 12 + 1) (q 13 + 1) (by omega) (by omega) (Z_st (i := 25 + 8 * g + 2) (-1) (by omega) (by omega) (Z_st (i := 25 + 8 * g + 4) (-1) (by omega) (by omega) (Z_st (i := 25 + 8 * g + 3) (-1) (by omega) (by omega) Z2)))
  have g3 : g < gz (hy_st (hy_st (hy_st (hy_st (hy_st (hy_st q (25 + 8 * g + 6) (nI 3)) (12 + 3) (q 15 + 1)) (25 + 8 * g + 3) (-1)) (25 + 8 * g + 4) (-1)) (25 + 8 * g + 2) (-1)) (12 + 1) (q 13 + 1)) := by
    rw [gz_st _ _ (by omega), gz_st _ _ (by omega), gz_st _ _ (by omega), gz_st _ _ (by omega), g2]
    exact hg
  have R4 := ro_wrn R3 Z3 (g := g) (v := 0) g3
  have Z4 := Z_st (i := 25 + 8 * g + 6) 0 (by omega) (by omega) Z3
  have R5 := ro_snt R4 Z4 (g := g) (v := q 8 / 600) (by rw [gz_st _ _ (by omega)]; exact g3)
  have Z5 := Z_st (i := 25 + 8 * g + 7) (q 8 / 600) (by omega) (by omega) Z4
  have R6 := ro_acc R5 Z5 (a := 2) (v := q 14 + 1) (by omega)
  have a8 : M3 b 8 = q 8 := by
    rw [R3.1.2.2.2.2.2.2.2.2.1]
    simp (disch := omega) only [hy_so]
  have a14 : M3 (b + 5) 2 = q 14 := by
    rw [R3.2.2.2.2.2.1 2 (by omega)]
    simp (disch := omega) only [hy_so]
  refine ⟨_, ?_, ?_, R6⟩
  · unfold f_X11_speaks
    simp (disch := omega) only [hs, hy_cts, hy_gt, hy_lt', hy_lm, hy_jn, hy_c, hy_in, hy_le, hy_add1, hy_k0, hy_k1, hy_k2, hy_k3, hy_k4, hy_k5, hy_k6, hy_k7, hy_k8, hy_k9, hy_k10, hy_k11, hy_k12, hy_k13, hy_f10, if_false, rwn, hw, a15, hy_seto, hy_setk, show nI 2 + 1 = nI 3 from rfl, show ((3 : Int32) ≤ nI 3) = True from eq_true (by decide), if_true, e3, a8, a14]
  · intro a ha
    simp (disch := omega) only [hy_seto, fr3 a ha]
theorem O_washP {b : Nat} {M : hz_M} {q : Nat → Int32} (hR : RO b M q) (hZ : hy_Z q) {p : Nat} (hp : p < pz q) (hf : frP q = nI p) (kk : Int32 → Int32 → Int32 → hz_M → hz_O) (x y : Int32) : ∀ (k i f : Nat), i + k = p → k < f → f_X11_washes_L25 b kk f x y (nI i) M = kk x y (nI p) M
  | 0, i, f, h, hf' => by
    have z8 := hZ.2.2.1.2.2
    have z10 := hZ.2.2.2.1.2
    have rpg := hR.2.2.1
    obtain ⟨f, rfl⟩ : ∃ e, f = e + 1 := ⟨f - 1, by omega⟩
    rcases hy_fnd_all (p := fun k => decide (tw q k = -1)) (pz q) 0 with ⟨h1, -⟩ | ⟨t, h1, h2, h3, h4, h5⟩
    · have e : frP q = -1 := h1
      rw [hf, hy_n1 (by omega)] at e
      exact e.elim
    · have e : frP q = nI t := h3
      rw [hf, hy_eq (by omega) (by omega)] at e
      subst e
      have e2 : tw q p = -1 := of_decide_eq_true h4
      rw [show i = p by omega]
      simp (disch := omega) only [f_X11_washes_L25, hy_cts, hy_gt, hy_lt', hy_lm, hy_jn, hy_c, hy_in, hy_le, hy_add1, hy_k0, hy_k1, hy_k2, hy_k3, hy_k4, hy_k5, hy_k6, hy_k7, hy_k8, hy_k9, hy_k10, hy_k11, hy_k12, hy_k13, rpg p hp, e2]
      rw [if_pos (by decide)]
  | k + 1, i, f, h, hf' => by
    have ih := O_washP hR hZ hp hf kk x y k (i + 1)
    have z8 := hZ.2.2.1.2.2
    have z10 := hZ.2.2.2.1.2
    have rpg := hR.2.2.1
    obtain ⟨f, rfl⟩ : ∃ e, f = e + 1 := ⟨f - 1, by omega⟩
    rcases hy_fnd_all (p := fun k => decide (tw q k = -1)) (pz q) 0 with ⟨h1, -⟩ | ⟨t, h1, h2, h3, h4, h5⟩
    · have e : frP q = -1 := h1
      rw [hf, hy_n1 (by omega)] at e
      exact e.elim
    · have e : frP q = nI t := h3
      rw [hf, hy_eq (by omega) (by omega)] at e
      subst e
      have e2 : ¬ tw q i = -1 := of_decide_eq_false (h5 i (by omega) (by omega))
      have e3 := hy_ltm (n := tz q) (by omega) ((tw_al hZ i).imp id (fun ⟨t, a, c, _⟩ => ⟨t, a, c⟩))
      simp (disch := omega) only [f_X11_washes_L25, hy_cts, hy_gt, hy_lt', hy_lm, hy_jn, hy_c, hy_in, hy_le, hy_add1, hy_k0, hy_k1, hy_k2, hy_k3, hy_k4, hy_k5, hy_k6, hy_k7, hy_k8, hy_k9, hy_k10, hy_k11, hy_k12, hy_k13, rpg i (by omega), e3, e2, if_false]
      exact ih f (by omega) (by omega)
theorem O_washL {b : Nat} (kk : Int32 → hz_M → hz_O) : ∀ (k i f : Nat) (c : Int32) (M Mc : hz_M) (q : Nat → Int32), hy_W Mc q → RO b M q → i + k = tz q → k < f → ∃ M', f_X11_washes_L4 b kk f c (nI i) M = kk (wcn q k i c) M' ∧ (∀ a, (a < b ∨ b + 11 < a) → M' a = M a) ∧ RO b M' (wshN q k i)
  | 0, i, f, c, M, Mc, q, W, hR, hi, hf => by
    have hZ := W.1.1
    have z9 := hZ.2.2.2.1
    have z8 := hZ.2.2.1
    have b2 := hR.1.2.2.1
    rw [z9.1] at b2
    obtain ⟨f, rfl⟩ : ∃ e, f = e + 1 := ⟨f - 1, by omega⟩
    refine ⟨M, ?_, fun _ _ => rfl, hR⟩
    rw [show i = tz q by omega]
    simp (disch := omega) only [f_X11_washes_L4, b2, hy_le, Nat.le_refl, if_true, wcn]
  | k + 1, i, f, c, M, Mc, q, W, hR, hi, hf => by
    have hZ := W.1.1
    have hQ := W.2.1
    have z9 := hZ.2.2.2.1
    have z8 := hZ.2.2.1
    have b2 := hR.1.2.2.1
    rw [z9.1] at b2
    obtain ⟨f, rfl⟩ : ∃ e, f = e + 1 := ⟨f - 1, by omega⟩
    have hi' : ¬ tz q ≤ i := by omega
    have hib := O_isBasket hR hZ hQ (t := i) (by omega)
    cases hb : isB q i
    · have ew : wsh q i = q := by
        unfold wsh
        rw [hb]
        rfl
      rw [hb] at hib
      obtain ⟨M', e1, e2, e3⟩ := O_washL kk k (i + 1) f c M Mc q W hR (by omega) (by omega)
      refine ⟨M', ?_, e2, ?_⟩
      · simp (disch := omega) only [f_X11_washes_L4, b2, hy_le, hi', if_false, hib, hy_cts, hy_jn, hy_lt', hy_add1, Bool.false_eq_true, if_true, wcn, hb, ew]
        exact e1
      · show RO b M' (wshN (wsh q i) k (i + 1))
        rw [ew]
        exact e3
    · have hb2 : q (153 + 2 * i + 1) = -1 ∧ hld q i = -1 := by
        unfold isB at hb
        exact of_decide_eq_true hb
      obtain ⟨p, hp, hf1, htw⟩ := frP_ok hZ (t := i) (by omega) hb2.1
      obtain ⟨Mc', -, -, W'⟩ := o_wsh1 W (by omega) hb hp hf1 htw
      have ew : wsh q i = hy_st (hy_st q (153 + 2 * i + 1) (nI p)) (153 + 2 * i) (nI 0) := by
        unfold wsh
        rw [hb, hf1]
        rfl
      have R1 := ro_pegon hR hZ (hQ_p hQ) (v := nI p) (vr := nI i) rfl rfl (by omega) hp hb2.1 htw
      have Z1 := Z_st (i := 153 + 2 * i + 1) (nI p) (by omega) (by omega) hZ
      have R2 := ro_wet R1 Z1 (t := i) (v := nI 0) (by rw [tz_st _ _ (by omega)]; omega)
      rw [← ew] at R2
      obtain ⟨M', e1, e2, e3⟩ := O_washL kk k (i + 1) f (c + 1) _ Mc' (wsh q i) W' R2 (by rw [wsh_tz]; omega) (by omega)
      rw [hb] at hib
      refine ⟨M', ?_, fun a ha => by rw [e2 a ha, hy_seto _ _ _ (by omega), hy_seto _ _ _ (by omega)], e3⟩
      have wp := fun kk => O_washP hR hZ hp hf1 kk c (nI i) p 0 hz_FU (by omega) (hy_FU (by omega))
      simp (disch := omega) only [f_X11_washes_L4, b2, hy_le, hi', if_false, hib, hy_cts, hy_jn, hy_lt', hy_add1, hy_f10, if_true, wcn, hb]
      rw [show (0 : Int32) = nI 0 from rfl, wp]
      simp (disch := omega) only [hy_cts, hy_gt, hy_lt', hy_lm, hy_jn, hy_c, hy_in, hy_le, hy_add1, hy_k0, hy_k1, hy_k2, hy_k3, hy_k4, hy_k5, hy_k6, hy_k7, hy_k8, hy_k9, hy_k10, hy_k11, hy_k12, hy_k13]
      exact e1
theorem Z_ag {q q' : Nat → Int32} (h : ∀ k, k < 12 → q' k = q k) (hZ : hy_Z q) : hy_Z q' := by
  unfold hy_Z gz lz pz tz vz sz at *
  rw [h 11 (by omega), h 0 (by omega), h 1 (by omega), h 2 (by omega), h 3 (by omega), h 4 (by omega)]
  exact hZ
theorem O_washes {b : Nat} {M Mc : hz_M} {q : Nat → Int32} (W : hy_W Mc q) (hR : RO b M q) : ∃ M', f_X11_washes b M = some (wcn q (tz q) 0 0, M') ∧ (∀ a, (a < b ∨ b + 11 < a) → M' a = M a) ∧ RO b M' (hy_st (wshN q (tz q) 0) (12 + 5) (q 17 + wcn q (tz q) 0 0)) := by
  have hZ := W.1.1
  have z9 := hZ.2.2.2.1
  have z8 := hZ.2.2.1
  obtain ⟨M1, e1, fr, R1⟩ := O_washL (b := b) (fun (v1_1 : Int32) (M2 : hz_M) => hz_lm (hz_set M2 (b + 5) (Int32.toNatClampNeg (5 : Int32)) ((M2 (b + 5) (Int32.toNatClampNeg (5 : Int32))) + v1_1)) fun M3 => some (v1_1, M3)) (tz q) 0 hz_FU 0 M Mc q W hR (by omega) (hy_FU (by omega))
  have h17 : wshN q (tz q) 0 17 = q 17 := wshN_o _ _ _ _ (by omega)
  have a17 : M1 (b + 5) 5 = q 17 := by
    rw [R1.2.2.2.2.2.1 5 (by omega)]
    exact h17
  have Z1 : hy_Z (wshN q (tz q) 0) := Z_ag (fun k hk => wshN_o _ _ _ _ (by omega)) hZ
  have R2 := ro_acc R1 Z1 (a := 5) (v := q 17 + wcn q (tz q) 0 0) (by omega)
  refine ⟨_, ?_, ?_, R2⟩
  · unfold f_X11_washes
    rw [hy_jn]
    rw [show (0 : Int32) = nI 0 from rfl] at e1 ⊢
    rw [e1]
    simp only [hy_lm, hy_k5, a17]
  · intro a ha
    rw [hy_seto _ _ _ (by omega), fr a ha]
