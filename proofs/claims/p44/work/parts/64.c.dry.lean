theorem fold_cNb {p : Nat → Bool} : ∀ (k i c : Nat), hy_fold (fun g c => if p g = true then c + 1 else c) k i (nI c) = nI (c + cN p k i)
  | 0, _, _ => rfl
  | k + 1, i, c => by
    unfold hy_fold cN
    by_cases h : p i = true
    · rw [if_pos h, hy_add1, fold_cNb k (i + 1) (c + 1), if_pos h]
      exact congrArg nI (by omega)
    · rw [if_neg h, fold_cNb k (i + 1) c, if_neg h]
      exact congrArg nI (by omega)
theorem fold_id {s : Nat → Int32 → Int32} : ∀ (k i : Nat) (a : Int32), (∀ j, i ≤ j → j < i + k → ∀ c, s j c = c) → hy_fold s k i a = a
  | 0, _, _, _ => rfl
  | k + 1, i, a, h => by
    unfold hy_fold
    rw [h i (by omega) (by omega), fold_id k (i + 1) a (fun j h1 h2 => h j (by omega) (by omega))]
theorem cN3 {a b c : Nat → Bool} : ∀ (k i : Nat), (∀ j, i ≤ j → j < i + k → (if a j = true then 1 else 0) + (if b j = true then 1 else 0) + (if c j = true then 1 else 0) = 1) → cN a k i + cN b k i + cN c k i = k
  | 0, _, _ => rfl
  | k + 1, i, h => by
    have h1 := h i (by omega) (by omega)
    have h2 := cN3 k (i + 1) (fun j x y => h j (by omega) (by omega))
    show (if a i = true then 1 else 0) + cN a k (i + 1) + ((if b i = true then 1 else 0) + cN b k (i + 1)) + ((if c i = true then 1 else 0) + cN c k (i + 1)) = k + 1
    omega
theorem hIns_n (q : Nat → Int32) : hIns q = nI (cN (fun g => decide (q (25 + 8 * g + 2) ≠ -1)) (gz q) 0) := by
  have h := fold_cN (P := fun g => q (25 + 8 * g + 2) = -1) (gz q) 0 0
  rw [Nat.zero_add] at h
  exact h
theorem inUse_n {q : Nat → Int32} (hZ : hy_Z q) (hQ : hy_Q q) : inUse q = nI (cN (fun g => decide (q (25 + 8 * g + 2) ≠ -1)) (gz q) 0) := by
  have h := fold_cN (P := fun k => kpr q k = -1) (lz q) 0 0
  rw [Nat.zero_add] at h
  have z2 := hZ.1.2
  have z5 := hZ.2.1.2.2
  refine Eq.trans h (congrArg nI ?_)
  have e1 := im_cnt (f := fun g => q (25 + 8 * g + 3)) (m := lz q) (by omega) (gz q) (hQ_l hQ) (fun i hi => hQ.2.2.1 i hi)
  rw [cN_cg (lz q) 0 (p := fun j => decide (¬ kpr q j = -1)) (r := imf (fun g => q (25 + 8 * g + 3)) (gz q)) (fun j _ _ => ?_), e1]
  · refine cN_cg (gz q) 0 (fun j _ hj => decide_eq_decide.mpr (not_congr ⟨fun e => ?_, fun e => ?_⟩))
    · exact hQ.2.2.2.2.2.2.2.2.2.2.2.2.1 j (by omega) e
    · exact (hQ.2.2.2.2.2.2.2.2.2.2.2.1 j (by omega) e).1
  · have e2 := fk_im (f := fun g => q (25 + 8 * g + 3)) (n := gz q) (p := j) (by omega)
    rw [kpr_fk]
    cases e3 : imf (fun g => q (25 + 8 * g + 3)) (gz q) j
    · rw [e3] at e2
      exact decide_eq_false (fun e => e (e2.mpr rfl))
    · rw [e3] at e2
      exact decide_eq_true (fun e => by have := e2.mp e; cases this)
theorem inUse_hIns {q : Nat → Int32} (hZ : hy_Z q) (hQ : hy_Q q) : inUse q = hIns q := by rw [inUse_n hZ hQ, hIns_n]
theorem frL_ins {q : Nat → Int32} (hZ : hy_Z q) (hQ : hy_Q q) : frL q = -1 ↔ hIns q = q 0 := by
  have z2 := hZ.1.2
  have z3 := hZ.2.1.1
  have z5 := hZ.2.1.2.2
  have h := fold_cN (P := fun k => kpr q k = -1) (lz q) 0 0
  rw [Nat.zero_add] at h
  have h' : inUse q = nI (cN (fun k => decide (¬ kpr q k = -1)) (lz q) 0) := h
  have hle := cN_le (fun k => decide (¬ kpr q k = -1)) (lz q) 0
  rw [← inUse_hIns hZ hQ, h', z3, hy_eq (by omega) (by omega), cN_all]
  constructor
  · intro hf j h1 h2
    rcases hy_fnd_all (p := fun k => decide (kpr q k = -1)) (lz q) 0 with ⟨-, h3⟩ | ⟨t, ht1, ht2, ht3, ht4, ht5⟩
    · have h4 := h3 j h1 h2
      exact decide_eq_true (of_decide_eq_false h4)
    · have e : frL q = nI t := ht3
      rw [e, hy_n1 (by omega)] at hf
      exact hf.elim
  · intro ha
    exact hy_fnd_none _ _ (fun j h1 h2 => decide_eq_false (of_decide_eq_true (ha j h1 h2)))
/-- who came in, less who left, is who is inside -/
def hy_E (q : Nat → Int32) : Prop := q 12 - q 13 = hIns q
theorem hy_sub0 (x : Int32) : x - x = 0 := by grind
theorem gap0 {q : Nat → Int32} (hZ : hy_Z q) (hQ : hy_Q q) (hE : hy_E q) : gapv q = 0 := by
  have z2 := hZ.1.2
  have z8 := hZ.2.2.1.2.2
  have z9 := hZ.2.2.2.1.1
  have z10 := hZ.2.2.2.1.2
  have e1 : onPg q 0 = nI (cN (fun t => decide (q (153 + 2 * t + 1) ≠ -1)) (tz q) 0) := by
    have h := fold_cN (P := fun p => tw q p = -1) (pz q) 0 0
    rw [Nat.zero_add] at h
    refine Eq.trans h (congrArg nI ?_)
    have e1 := im_cnt (f := fun t => q (153 + 2 * t + 1)) (m := pz q) (by omega) (tz q) (hQ_p hQ) (fun i hi => hQ.2.2.2.2.2.2.2.1 i hi)
    rw [cN_cg (pz q) 0 (p := fun j => decide (¬ tw q j = -1)) (r := imf (fun t => q (153 + 2 * t + 1)) (tz q)) (fun j _ _ => ?_), e1]
    have e2 := fk_im (f := fun t => q (153 + 2 * t + 1)) (n := tz q) (p := j) (by omega)
    rw [tw_fk]
    cases e3 : imf (fun t => q (153 + 2 * t + 1)) (tz q) j
    · rw [e3] at e2
      exact decide_eq_false (fun e => e (e2.mpr rfl))
    · rw [e3] at e2
      exact decide_eq_true (fun e => by have := e2.mp e; cases this)
  have e2 : wth q = nI (cN (fun t => decide (¬ hld q t = -1)) (tz q) 0) := by
    have h := fold_cN (P := fun g => q (25 + 8 * g + 4) = -1) (gz q) 0 0
    rw [Nat.zero_add] at h
    refine Eq.trans h (congrArg nI ?_)
    have e1 := im_cnt (f := fun g => q (25 + 8 * g + 4)) (m := tz q) (by omega) (gz q) (hQ_h hQ) (fun i hi => hQ.2.2.2.1 i hi)
    refine Eq.trans e1.symm ?_
    refine cN_cg (tz q) 0 (fun j _ _ => ?_)
    have e2 := fk_im (f := fun g => q (25 + 8 * g + 4)) (n := gz q) (p := j) (by omega)
    rw [hld_fk]
    cases e3 : imf (fun g => q (25 + 8 * g + 4)) (gz q) j
    · rw [e3] at e2
      refine Eq.symm (decide_eq_false ?_)
      exact fun e => e (e2.mpr rfl)
    · rw [e3] at e2
      refine Eq.symm (decide_eq_true ?_)
      exact fun e => by have := e2.mp e; cases this
  have e3 : bsk q = nI (cN (isB q) (tz q) 0) := by
    have h := fold_cNb (p := isB q) (tz q) 0 0
    rw [Nat.zero_add] at h
    exact h
  have e4 := cN3 (a := fun t => decide (q (153 + 2 * t + 1) ≠ -1)) (b := fun t => decide (¬ hld q t = -1)) (c := isB q) (tz q) 0 (fun j _ hj => by
    have hn := fun c => no_hld hZ hQ (t := j) (by omega) c
    by_cases c1 : q (153 + 2 * j + 1) = -1 <;> by_cases c2 : hld q j = -1
    · simp [c1, c2, isB]
    · simp [c1, c2, isB]
    · simp [c1, c2, isB]
    · exact absurd (hn c1) c2)
  have e5 : unt q 0 = 0 := by
    refine fold_id _ _ _ (fun p _ hp c => ?_)
    rcases tw_al hZ p with h | ⟨t, ht, h1, h2⟩
    · rw [if_pos h]
    · rw [h1, hy_c (by omega), h2]
      simp
  unfold gapv
  rw [e5, e1, e2, e3, z9, show q 12 - q 13 = hIns q from hE, inUse_hIns hZ hQ, hy_sub (by omega), hy_sub (by omega), hy_sub (by omega), hy_sub0]
  rw [show tz q - cN (fun t => decide (q (153 + 2 * t + 1) ≠ -1)) (tz q) 0 - cN (fun t => decide (¬ hld q t = -1)) (tz q) 0 - cN (isB q) (tz q) 0 = 0 by omega]
  decide
/-! the driest towel, from the last peg down -/
def cmb (q : Nat → Int32) (a c : Int32) : Int32 := if lst q a ≤ lst q c then a else c
theorem cmb_as (q : Nat → Int32) (a c d : Int32) : cmb q (cmb q a c) d = cmb q a (cmb q c d) := by
  unfold cmb
  grind
theorem dryS_cmb {q : Nat → Int32} (hZ : hy_Z q) {i : Nat} {x : Int32} (hx : x = -1 ∨ ∃ k, k < tz q ∧ x = nI k ∧ ¬ 2 < q (153 + 2 * k)) : dryS q i x = cmb q x (dryS q i (-1)) := by
  have z8 := hZ.2.2.1.2.2
  have z10 := hZ.2.2.2.1.2
  rcases tw_al hZ i with h | ⟨t, ht, h1, h2⟩
  · unfold dryS cmb
    rw [if_pos h, if_pos h, lst_n]
    rcases hx with rfl | ⟨k, hk, rfl, hw⟩
    · rw [lst_n, if_pos (by decide)]
    · rw [lst_k q (by omega), if_pos (by grind)]
  · rw [dryS_n (by omega) h1]
    rcases hx with rfl | ⟨k, hk, rfl, hw⟩
    · rw [dryS_n (by omega) h1]
      unfold cmb
      split
      · rw [if_pos (Int32.le_refl _)]
      · rw [lst_n, lst_k q (by omega)]
        rw [if_neg (by grind)]
    · rw [dryS_k (by omega) (by omega) h1]
      unfold cmb
      split
      · rw [lst_n, lst_k q (by omega), if_pos (by grind)]
      · rw [lst_k q (by omega), lst_k q (by omega)]
theorem dryS_ok {q : Nat → Int32} (hZ : hy_Z q) (i : Nat) : dryS q i (-1) = -1 ∨ ∃ k, k < tz q ∧ dryS q i (-1) = nI k ∧ ¬ 2 < q (153 + 2 * k) := by
  have z8 := hZ.2.2.1.2.2
  have z10 := hZ.2.2.2.1.2
  rcases tw_al hZ i with h | ⟨t, ht, h1, h2⟩
  · left
    unfold dryS
    rw [if_pos h]
  · rw [dryS_n (by omega) h1]
    by_cases c : 2 < q (153 + 2 * t)
    · left
      rw [if_pos c]
    · right
      rw [if_neg c]
      exact ⟨t, ht, rfl, c⟩
theorem cmb_ok {q : Nat → Int32} {a c : Int32} (ha : a = -1 ∨ ∃ k, k < tz q ∧ a = nI k ∧ ¬ 2 < q (153 + 2 * k)) (hc : c = -1 ∨ ∃ k, k < tz q ∧ c = nI k ∧ ¬ 2 < q (153 + 2 * k)) : cmb q a c = -1 ∨ ∃ k, k < tz q ∧ cmb q a c = nI k ∧ ¬ 2 < q (153 + 2 * k) := by
  unfold cmb
  split
  · exact ha
  · exact hc
theorem fold_cmb {q : Nat → Int32} (hZ : hy_Z q) : ∀ (k i : Nat) (x : Int32), (x = -1 ∨ ∃ k, k < tz q ∧ x = nI k ∧ ¬ 2 < q (153 + 2 * k)) → hy_fold (dryS q) k i x = cmb q x (hy_fold (dryS q) k i (-1)) ∧ (hy_fold (dryS q) k i (-1) = -1 ∨ ∃ j, j < tz q ∧ hy_fold (dryS q) k i (-1) = nI j ∧ ¬ 2 < q (153 + 2 * j))
  | 0, i, x, hx => by
    refine ⟨?_, Or.inl rfl⟩
    show x = cmb q x (-1)
    unfold cmb
    rw [lst_n]
    rcases hx with rfl | ⟨k, hk, rfl, hw⟩
    · rw [lst_n, if_pos (by decide)]
    · by_cases c : lst q (nI k) ≤ 3
      · rw [if_pos c]
      · exfalso
        have z10 := hZ.2.2.2.1.2
        have z8 := hZ.2.2.1.2.2
        rw [lst_k q (by omega)] at c
        grind
  | k + 1, i, x, hx => by
    have hs := dryS_ok hZ i
    have h1 := fold_cmb hZ k (i + 1) (dryS q i x) (by rw [dryS_cmb hZ hx]; exact cmb_ok hx hs)
    have h2 := fold_cmb hZ k (i + 1) (dryS q i (-1)) hs
    have e1 : hy_fold (dryS q) (k + 1) i x = hy_fold (dryS q) k (i + 1) (dryS q i x) := rfl
    have e2 : hy_fold (dryS q) (k + 1) i (-1) = hy_fold (dryS q) k (i + 1) (dryS q i (-1)) := rfl
    rw [e1, e2, h1.1, h2.1, dryS_cmb hZ hx, cmb_as]
    exact ⟨rfl, cmb_ok hs h2.2⟩
theorem O_driestL {b : Nat} {M : hz_M} {q : Nat → Int32} (hR : RO b M q) (hZ : hy_Z q) : ∀ (p f : Nat), p ≤ pz q → p < f → f_X11_driest_L9 b f (hy_fold (dryS q) (pz q - p) p (-1)) (nI p - 1) M = some (dry q, M)
  | 0, f, _, hf => by
    obtain ⟨f, rfl⟩ : ∃ e, f = e + 1 := ⟨f - 1, by omega⟩
    rw [f_X11_driest_L9, if_pos (by decide)]
    rfl
  | p + 1, f, hp, hf => by
    have ih := O_driestL hR hZ p
    have hR0 := hR
    have hZ0 := hZ
    obtain ⟨⟨b0, b1, b2, b3, b4, b5, b6, b7, b8, b9, b10, b11⟩, rop, rpg, rlk, rwt, rac, rag, rat, rhs, rst, rwn, rsd⟩ := hR
    obtain ⟨⟨z1, z2⟩, ⟨z3, z4, z5⟩, ⟨z6, z7, z8⟩, ⟨z9, z10⟩, ⟨z11, z12, z13⟩, ⟨z14, z15, z16⟩⟩ := hZ
    rw [z1] at b10; rw [z3] at b0; rw [z6] at b1; rw [z9] at b2; rw [z11] at b3; rw [z14] at b4
    obtain ⟨f, rfl⟩ : ∃ e, f = e + 1 := ⟨f - 1, by omega⟩
    have e0 : hy_fold (dryS q) (pz q - p) p (-1) = cmb q (dryS q p (-1)) (hy_fold (dryS q) (pz q - (p + 1)) (p + 1) (-1)) := by
      rw [show pz q - p = (pz q - (p + 1)) + 1 by omega]
      exact (fold_cmb hZ0 (pz q - (p + 1)) (p + 1) (dryS q p (-1)) (dryS_ok hZ0 p)).1
    have hU := (fold_cmb hZ0 (pz q - (p + 1)) (p + 1) (-1) (Or.inl rfl)).2
    have ihf := ih f (by omega) (by omega)
    rw [e0] at ihf
    generalize hy_fold (dryS q) (pz q - (p + 1)) (p + 1) (-1) = U at ihf hU ⊢
    rw [show nI (p + 1) - 1 = nI p by rw [hy_1, hy_sub (by omega)]; rfl]
    have np : ¬ nI p < 0 := Int32.not_lt.mpr (hy_nn (by omega))
    have e9 : nI p + -1 = nI p - 1 := by grind
    rcases tw_al hZ0 p with h | ⟨t, ht, h1, h2⟩
    · have e1 : dryS q p (-1) = -1 := by
        unfold dryS
        rw [if_pos h]
      have e2 : cmb q (-1) U = U := by
        unfold cmb
        rw [lst_n]
        rcases hU with rfl | ⟨k, hk, rfl, hw⟩
        · rw [lst_n, if_pos (by decide)]
        · rw [lst_k q (by omega), if_neg (by grind)]
      rw [e1, e2] at ihf
      simp (disch := omega) only [f_X11_driest_L9, np, if_false, hy_cts, hy_gt, hy_lt', hy_lm, hy_jn, hy_c, hy_in, hy_le, hy_add1, hy_k0, hy_k1, hy_k2, hy_k3, hy_k4, hy_k5, hy_k6, hy_k7, hy_k8, hy_k9, hy_k10, hy_k11, hy_k12, hy_k13, rpg p (by omega), h, e9]
      rw [if_pos (by decide)]
      exact ihf
    · have nt : ¬ nI t < 0 := Int32.not_lt.mpr (hy_nn (by omega))
      have e1 := dryS_n (q := q) (i := p) (by omega : t < 16) h1
      by_cases c : 2 < q (153 + 2 * t)
      · have e2 : cmb q (-1) U = U := by
          unfold cmb
          rw [lst_n]
          rcases hU with rfl | ⟨k, hk, rfl, hw⟩
          · rw [lst_n, if_pos (by decide)]
          · rw [lst_k q (by omega), if_neg (by grind)]
        rw [e1, if_pos c, e2] at ihf
        have c3 : (3 : Int32) ≤ q (153 + 2 * t) := by grind
        simp (disch := omega) only [f_X11_driest_L9, np, if_false, hy_cts, hy_gt, hy_lt', hy_lm, hy_jn, hy_c, hy_in, hy_le, hy_add1, hy_k0, hy_k1, hy_k2, hy_k3, hy_k4, hy_k5, hy_k6, hy_k7, hy_k8, hy_k9, hy_k10, hy_k11, hy_k12, hy_k13, rpg p (by omega), h1, e9, nt, rwt t ht, c3, if_true]
        exact ihf
      · have c3 : ¬ (3 : Int32) ≤ q (153 + 2 * t) := by grind
        rw [e1, if_neg c] at ihf
        rcases hU with rfl | ⟨k, hk, rfl, hw⟩
        · have e2 : cmb q (nI t) (-1) = nI t := by
            unfold cmb
            rw [lst_n, lst_k q (by omega), if_pos (by grind)]
          rw [e2] at ihf
          simp (disch := omega) only [f_X11_driest_L9, np, if_false, hy_cts, hy_gt, hy_lt', hy_lm, hy_jn, hy_c, hy_in, hy_le, hy_add1, hy_k0, hy_k1, hy_k2, hy_k3, hy_k4, hy_k5, hy_k6, hy_k7, hy_k8, hy_k9, hy_k10, hy_k11, hy_k12, hy_k13, rpg p (by omega), h1, e9, nt, rwt t ht, c3, if_true, show ((-1 : Int32) < 0) = True from eq_true (by decide)]
          exact ihf
        · have nk : ¬ nI k < 0 := Int32.not_lt.mpr (hy_nn (by omega))
          simp (disch := omega) only [f_X11_driest_L9, np, if_false, hy_cts, hy_gt, hy_lt', hy_lm, hy_jn, hy_c, hy_in, hy_le, hy_add1, hy_k0, hy_k1, hy_k2, hy_k3, hy_k4, hy_k5, hy_k6, hy_k7, hy_k8, hy_k9, hy_k10, hy_k11, hy_k12, hy_k13, rpg p (by omega), h1, e9, nt, rwt t ht, c3, nk, rwt k hk]
          by_cases cc : q (153 + 2 * k) < q (153 + 2 * t)
          · have e2 : cmb q (nI t) (nI k) = nI k := by
              unfold cmb
              rw [lst_k q (by omega), lst_k q (by omega), if_neg (by grind)]
            rw [e2] at ihf
            rw [if_pos cc]
            exact ihf
          · have e2 : cmb q (nI t) (nI k) = nI t := by
              unfold cmb
              rw [lst_k q (by omega), lst_k q (by omega), if_pos (by grind)]
            rw [e2] at ihf
            rw [if_neg cc]
            exact ihf
theorem O_driest0 {b : Nat} {M : hz_M} {q : Nat → Int32} (hR : RO b M q) (hZ : hy_Z q) : f_X11_driest b M = some (dry q, M) := by
  have z8 := hZ.2.2.1
  unfold f_X11_driest
  have h := O_driestL hR hZ (pz q) hz_FU (Nat.le_refl _) (hy_FU (by omega))
  rw [Nat.sub_self] at h
  rw [hR.1.2.1, z8.1]
  exact h
theorem O_driest {b : Nat} {M : hz_M} {q : Nat → Int32} (hR : RO b M q) (hZ : hy_Z q) (_ : hy_Q q) : f_X11_driest b M = some (dry q, M) := O_driest0 hR hZ
