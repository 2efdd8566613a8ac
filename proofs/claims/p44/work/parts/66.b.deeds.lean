theorem Z_st {q : Nat → Int32} {i : Nat} (v : Int32) (h1 : 5 ≤ i) (h2 : i ≠ 11) (hZ : hy_Z q) : hy_Z (hy_st q i v) := by
  unfold hy_Z
  rw [gz_st q v h2, lz_st q v (by omega), pz_st q v (by omega), tz_st q v (by omega), vz_st q v (by omega), sz_st q v (by omega), hy_so q v (by omega), hy_so q v (by omega), hy_so q v (by omega), hy_so q v (by omega), hy_so q v (by omega), hy_so q v (by omega)]
  exact hZ
theorem dry_st {q : Nat → Int32} {i : Nat} (v : Int32) (h : i < 153) (h1 : i ≠ 1) (h2 : i ≠ 2) : dry (hy_st q i v) = dry q := by
  unfold dry
  rw [pz_st q v h1]
  refine hy_fold_congr _ _ _ (fun p _ _ x => ?_)
  unfold dryS
  rw [tw_st v (fun t _ => by omega) h2, hy_so q v (by omega), hy_so q v (by omega)]
theorem inj_st {q : Nat → Int32} {i n : Nat} {v : Int32} {f : Nat → Nat} (h : ∀ t, t < n → f t ≠ i) (hj : inj (fun t => q (f t)) n) : inj (fun t => hy_st q i v (f t)) n := fun g k hg hk e => by
  have e' : hy_st q i v (f g) = hy_st q i v (f k) := e
  show hy_st q i v (f g) = -1 ∨ g = k
  rw [hy_so q v (h g hg)] at e' ⊢
  rw [hy_so q v (h k hk)] at e'
  exact hj g k hg hk e'
theorem O_pegOf0 {b : Nat} {M : hz_M} {q : Nat → Int32} (hR : RO b M q) (hZ : hy_Z q) (hj : inj (fun t => q (153 + 2 * t + 1)) (tz q)) {g : Nat} (hg : g < tz q) (hr : q (153 + 2 * g + 1) = -1 ∨ ∃ k, k < pz q ∧ q (153 + 2 * g + 1) = nI k) : f_X11_pegOf b (nI g) M = some (q (153 + 2 * g + 1), M) := by
  have hZ0 := hZ
  obtain ⟨⟨b0, b1, b2, b3, b4, b5, b6, b7, b8, b9, b10, b11⟩, rop, rpg, rlk, rwt, rac, rag, rat, rhs, rst, rwn, rsd⟩ := hR
  obtain ⟨⟨z1, z2⟩, ⟨z3, z4, z5⟩, ⟨z6, z7, z8⟩, ⟨z9, z10⟩, ⟨z11, z12, z13⟩, ⟨z14, z15, z16⟩⟩ := hZ
  rw [z1] at b10; rw [z3] at b0; rw [z6] at b1; rw [z9] at b2; rw [z11] at b3; rw [z14] at b4
  have his : ∀ p, p < pz q → (tw q p = nI g ↔ q (153 + 2 * g + 1) = nI p) := by
    intro p hp
    rw [tw_fk]
    constructor
    · intro h
      rcases fk_al (fun t => q (153 + 2 * t + 1)) (tz q) p with ⟨h1, -⟩ | ⟨i, hi, h1, h2⟩
      · rw [h1] at h
        exact absurd h.symm (by have := hy_n1 (a := g) (by omega); intro e; rw [this] at e; exact e)
      · rw [h1] at h
        have e : i = g := by have := hy_eq (a := i) (b := g) (by omega) (by omega); rw [this] at h; exact h
        subst e
        exact h2
    · intro h
      exact fk_is (by omega) hg h hj
  unfold f_X11_pegOf
  rw [show (0 : Int32) = nI 0 from rfl]
  rw [hy_first (fun f i => f_X11_pegOf_L2 b f (nI g) (nI i) M) (pz q) (fun k => decide (tw q k = nI g)) (fun r => some (r, M)) ?_ ?_ (pz q) 0 hz_FU (by omega) (hy_FU (by omega))]
  · congr 2
    rcases hr with h | ⟨k, hk, h⟩
    · rw [h]
      refine hy_fnd_none _ _ (fun j _ hj => decide_eq_false (fun e => ?_))
      have e2 := (his j (by omega)).mp e
      rw [h] at e2
      have := hy_n1' (a := j) (by omega)
      rw [this] at e2
      exact e2
    · rw [h]
      refine hy_fnd_one _ _ (by omega) (by omega) (decide_eq_true ((his k hk).mpr h)) (fun j _ hj => decide_eq_false (fun e => ?_))
      have e2 := (his j (by omega)).mp e
      rw [h] at e2
      have := hy_eq (a := k) (b := j) (by omega) (by omega)
      rw [this] at e2
      omega
  · intro f
    simp (disch := omega) [f_X11_pegOf_L2, hy_cts, hy_gt, hy_lt', hy_lm, hy_jn, hy_c, hy_in, hy_le, hy_add1, hy_k0, hy_k1, hy_k2, hy_k3, hy_k4, hy_k5, hy_k6, hy_k7, hy_k8, hy_k9, hy_k10, hy_k11, hy_k12, hy_k13, b0, b1, b10]
  · intro f i hi
    have hi' : ¬ (pz q) ≤ i := by omega
    simp (disch := omega) only [f_X11_pegOf_L2, b0, b1, b10, hi', if_false, hy_cts, hy_gt, hy_lt', hy_lm, hy_jn, hy_c, hy_in, hy_le, hy_add1, hy_k0, hy_k1, hy_k2, hy_k3, hy_k4, hy_k5, hy_k6, hy_k7, hy_k8, hy_k9, hy_k10, hy_k11, hy_k12, hy_k13, rpg i hi]
    by_cases e : tw q i = nI g <;> simp [e]
theorem O_entL {b : Nat} {M : hz_M} {q : Nat → Int32} (hR : RO b M q) (hZ : hy_Z q) {l : Nat} (hl : l < lz q) (hfl : frL q = nI l) (kk : Int32 → Int32 → hz_M → hz_O) (x : Int32) : ∀ (k i f : Nat), i + k = l → k < f → f_X11_enters_L2 b kk f x (nI i) M = kk x (nI l) M
  | 0, i, f, h, hf => by
    have z5 := hZ.2.1.2.2
    have z2 := hZ.1.2
    have rlk := hR.2.2.2.1
    obtain ⟨f, rfl⟩ : ∃ e, f = e + 1 := ⟨f - 1, by omega⟩
    rcases hy_fnd_all (p := fun k => decide (kpr q k = -1)) (lz q) 0 with ⟨h1, -⟩ | ⟨t, h1, h2, h3, h4, h5⟩
    · have e : frL q = -1 := h1
      rw [hfl, hy_n1 (by omega)] at e
      exact e.elim
    · have e : frL q = nI t := h3
      rw [hfl, hy_eq (by omega) (by omega)] at e
      subst e
      have e2 : kpr q l = -1 := of_decide_eq_true h4
      rw [show i = l by omega]
      simp (disch := omega) only [f_X11_enters_L2, hy_cts, hy_gt, hy_lt', hy_lm, hy_jn, hy_c, hy_in, hy_le, hy_add1, hy_k0, hy_k1, hy_k2, hy_k3, hy_k4, hy_k5, hy_k6, hy_k7, hy_k8, hy_k9, hy_k10, hy_k11, hy_k12, hy_k13, rlk l hl, e2]
      rw [if_pos (by decide)]
  | k + 1, i, f, h, hf => by
    have ih := O_entL hR hZ hl hfl kk x k (i + 1)
    have z5 := hZ.2.1.2.2
    have z2 := hZ.1.2
    have rlk := hR.2.2.2.1
    obtain ⟨f, rfl⟩ : ∃ e, f = e + 1 := ⟨f - 1, by omega⟩
    rcases hy_fnd_all (p := fun k => decide (kpr q k = -1)) (lz q) 0 with ⟨h1, -⟩ | ⟨t, h1, h2, h3, h4, h5⟩
    · have e : frL q = -1 := h1
      rw [hfl, hy_n1 (by omega)] at e
      exact e.elim
    · have e : frL q = nI t := h3
      rw [hfl, hy_eq (by omega) (by omega)] at e
      subst e
      have e2 : ¬ kpr q i = -1 := of_decide_eq_false (h5 i (by omega) (by omega))
      have e3 := hy_ltm (n := gz q) (by omega) ((kpr_al hZ i).imp id (fun ⟨t, a, c, _⟩ => ⟨t, a, c⟩))
      simp (disch := omega) only [f_X11_enters_L2, hy_cts, hy_gt, hy_lt', hy_lm, hy_jn, hy_c, hy_in, hy_le, hy_add1, hy_k0, hy_k1, hy_k2, hy_k3, hy_k4, hy_k5, hy_k6, hy_k7, hy_k8, hy_k9, hy_k10, hy_k11, hy_k12, hy_k13, rlk i (by omega), e3, e2, if_false]
      exact ih f (by omega) (by omega)
theorem O_enters {b : Nat} {M : hz_M} {q : Nat → Int32} (hR : RO b M q) (hZ : hy_Z q) (hQ : hy_Q q) {g l t p0 : Nat} (hg : g < gz q) (hl : l < lz q) (hfl : frL q = nI l) (hkl : kpr q l = -1) (hd : dry q = nI t) (ht : t < tz q) (hp0 : p0 < pz q) (hpt : q (153 + 2 * t + 1) = nI p0) (hout : q (25 + 8 * g + 2) = -1) : ∃ M', f_X11_enters b (nI g) M = some (nI l, M') ∧ (∀ a, (a < b ∨ b + 11 < a) → M' a = M a) ∧ RO b M' (hy_st (hy_st (hy_st (hy_st (hy_st (hy_st q (25 + 8 * g + 3) (nI l)) (25 + 8 * g + 4) (nI t)) (153 + 2 * t + 1) (-1)) (25 + 8 * g + 2) 0) (25 + 8 * g + 5) 0) (12 + 0) (q 12 + 1)) := by
  have z2 := hZ.1.2
  have z5 := hZ.2.1.2.2
  have z8 := hZ.2.2.1.2.2
  have z10 := hZ.2.2.2.1.2
  have hlg := (hQ.2.2.2.2.2.2.2.2.2.2.2.1 g hg hout).1
  have R1 := ro_lkon hR hZ (hQ_l hQ) (v := nI l) (vr := nI g) rfl rfl hg hl hlg hkl
  have Z1 := Z_st (i := 25 + 8 * g + 3) (nI l) (by omega) (by omega) hZ
  have d1 := O_driest0 R1 Z1
  rw [dry_st _ (by omega) (by omega) (by omega), hd] at d1
  have R2 := ro_has R1 Z1 (g := g) (v := nI t) (by rw [gz_st _ _ (by omega)]; exact hg)
  have Z2 := Z_st (i := 25 + 8 * g + 4) (nI t) (by omega) (by omega) Z1
  have t2 : tz (hy_st (hy_st q (25 + 8 * g + 3) (nI l)) (25 + 8 * g + 4) (nI t)) = tz q := by rw [tz_st _ _ (by omega), tz_st _ _ (by omega)]
  have p2 : pz (hy_st (hy_st q (25 + 8 * g + 3) (nI l)) (25 + 8 * g + 4) (nI t)) = pz q := by rw [pz_st _ _ (by omega), pz_st _ _ (by omega)]
  have J2 : inj (fun t' => hy_st (hy_st q (25 + 8 * g + 3) (nI l)) (25 + 8 * g + 4) (nI t) (153 + 2 * t' + 1)) (tz q) := inj_st (f := fun t' => 153 + 2 * t' + 1) (fun t' _ => by omega) (inj_st (f := fun t' => 153 + 2 * t' + 1) (fun t' _ => by omega) (hQ_p hQ))
  have v2 : hy_st (hy_st q (25 + 8 * g + 3) (nI l)) (25 + 8 * g + 4) (nI t) (153 + 2 * t + 1) = nI p0 := by rw [hy_so _ _ (by omega), hy_so _ _ (by omega), hpt]
  have g2 := O_pegOf0 R2 Z2 (by rw [t2]; exact J2) (g := t) (by rw [t2]; exact ht) (Or.inr ⟨p0, by rw [p2]; exact hp0, v2⟩)
  rw [v2] at g2
  have R3 := ro_pegoff R2 Z2 (by rw [t2]; exact J2) (v := -1) (vr := -1) rfl rfl (by rw [t2]; exact ht) (by rw [p2]; exact hp0) v2
  have Z3 := Z_st (i := 153 + 2 * t + 1) (-1) (by omega) (by omega) Z2
  have gg : ∀ x : Nat → Int32, gz x = gz q → g < gz x := fun x e => by rw [e]; exact hg
  have R4 := ro_at R3 Z3 (g := g) (v := 0) (gg _ (by rw [gz_st _ _ (by omega), gz_st _ _ (by omega), gz_st _ _ (by omega)]))
  have Z4 := Z_st (i := 25 + 8 * g + 2) 0 (by omega) (by omega) Z3
  have R5 := ro_str R4 Z4 (g := g) (v := 0) (gg _ (by rw [gz_st _ _ (by omega), gz_st _ _ (by omega), gz_st _ _ (by omega), gz_st _ _ (by omega)]))
  have Z5 := Z_st (i := 25 + 8 * g + 5) 0 (by omega) (by omega) Z4
  have R6 := ro_acc R5 Z5 (a := 0) (v := q 12 + 1) (by omega)
  have lp := fun kk => O_entL hR hZ hl hfl kk (nI g) l 0 hz_FU (by omega) (hy_FU (by omega))
  refine ⟨_, ?_, ?_, R6⟩
  · unfold f_X11_enters
    rw [hy_jn, show (0 : Int32) = nI 0 from rfl, lp]
    have a12 : M (b + 5) 0 = q 12 := hR.2.2.2.2.2.1 0 (by omega)
    simp (disch := omega) only [hy_cts, hy_gt, hy_lt', hy_lm, hy_jn, hy_c, hy_in, hy_le, hy_add1, hy_k0, hy_k1, hy_k2, hy_k3, hy_k4, hy_k5, hy_k6, hy_k7, hy_k8, hy_k9, hy_k10, hy_k11, hy_k12, hy_k13, d1, hy_setk, g2, hy_seto, a12, show nI 0 = (0 : Int32) from rfl]
  · intro a ha
    simp (disch := omega) only [hy_seto]
theorem O_goes {b : Nat} {M : hz_M} {q : Nat → Int32} (hR : RO b M q) (hZ : hy_Z q) (hQ : inj (fun g => q (25 + 8 * g + 3)) (gz q)) {g l : Nat} (hg : g < gz q) (hl : l < lz q) (hlk : f_X11_lockerOf b (nI g) M = some (nI l, M)) (hlg : q (25 + 8 * g + 3) = nI l) : ∃ M', f_X11_goes b (nI g) M = some (nI l, M') ∧ (∀ a, (a < b ∨ b + 11 < a) → M' a = M a) ∧ RO b M' (hy_st (hy_st (hy_st (hy_st q (25 + 8 * g + 3) (-1)) (25 + 8 * g + 4) (-1)) (25 + 8 * g + 2) (-1)) (12 + 1) (q 13 + 1)) := by
  have z2 := hZ.1.2
  have z5 := hZ.2.1.2.2
  have R1 := ro_lkoff hR hZ hQ (v := -1) (vr := -1) rfl rfl hg hl hlg
  have Z1 := Z_st (i := 25 + 8 * g + 3) (-1) (by omega) (by omega) hZ
  have gg : ∀ x : Nat → Int32, gz x = gz q → g < gz x := fun x e => by rw [e]; exact hg
  have R2 := ro_has R1 Z1 (g := g) (v := -1) (gg _ (gz_st _ _ (by omega)))
  have Z2 := Z_st (i := 25 + 8 * g + 4) (-1) (by omega) (by omega) Z1
  have R3 := ro_at R2 Z2 (g := g) (v := -1) (gg _ (by rw [gz_st _ _ (by omega), gz_st _ _ (by omega)]))
  have Z3 := Z_st (i := 25 + 8 * g + 2) (-1) (by omega) (by omega) Z2
  have R4 := ro_acc R3 Z3 (a := 1) (v := q 13 + 1) (by omega)
  have a13 : M (b + 5) 1 = q 13 := hR.2.2.2.2.2.1 1 (by omega)
  refine ⟨_, ?_, ?_, R4⟩
  · unfold f_X11_goes
    rw [hlk]
    simp (disch := omega) only [hy_cts, hy_gt, hy_lt', hy_lm, hy_jn, hy_c, hy_in, hy_le, hy_add1, hy_k0, hy_k1, hy_k2, hy_k3, hy_k4, hy_k5, hy_k6, hy_k7, hy_k8, hy_k9, hy_k10, hy_k11, hy_k12, hy_k13, hy_seto, a13]
  · intro a ha
    simp (disch := omega) only [hy_seto]
