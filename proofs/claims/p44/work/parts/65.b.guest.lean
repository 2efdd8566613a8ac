theorem deed_of {q : Nat → Int32} {d : Nat} (h : d < 2 ∨ (11 ≤ d ∧ d ≤ 10 + sz q) ∨ (20 ≤ d ∧ d < 20 + pz q) ∨ (40 ≤ d ∧ d < 40 + pz q)) : deed q (nI d) := by
  rcases h with h | h | h | h
  · match d, h with
    | 0, _ => exact Or.inl rfl
    | 1, _ => exact Or.inr (Or.inl rfl)
    | d + 2, h => exact absurd h (by omega)
  · exact Or.inr (Or.inr (Or.inl ⟨d - 10, by omega, by omega, by rw [show 10 + (d - 10) = d by omega]⟩))
  · exact Or.inr (Or.inr (Or.inr (Or.inl ⟨d - 20, by omega, by rw [show 20 + (d - 20) = d by omega]⟩)))
  · exact Or.inr (Or.inr (Or.inr (Or.inr ⟨d - 40, by omega, by rw [show 40 + (d - 40) = d by omega]⟩)))
theorem G_loop {b : Nat} {M : hz_M} {q : Nat → Int32} (hC : hy_C M q) (hQ : hy_Q q) (hR : RO b M q) {g : Nat} (hg : g < gz q) (kk : Int32 → hz_M → hz_O) : ∀ (k d f : Nat), d + k = 40 + pz q → k < f → f_L_isGuest_L2 b kk f (nI g) (nI d) M = kk (nI g) M
  | 0, d, f, hd, hf => by
    have b1 := hR.1.2.1
    have z6 := hC.1.2.2.1
    obtain ⟨f, rfl⟩ : ∃ e, f = e + 1 := ⟨f - 1, by omega⟩
    rw [z6.1] at b1
    have c0 : ((40 : Int32) + nI (pz q) ≤ nI d) = True := by
      rw [show (40 : Int32) + nI (pz q) = nI (40 + pz q) from hy_add 40 (pz q), hy_le (by omega) (by omega)]
      exact eq_true (by omega)
    simp only [f_L_isGuest_L2, b1, c0, if_true]
  | k + 1, d, f, hd, hf => by
    have ih := G_loop hC hQ hR hg kk k (d + 1)
    have hZ := hC.1
    have b1 := hR.1.2.1
    have b4 := hR.1.2.2.2.2.1
    have z6 := hZ.2.2.1
    have z14 := hZ.2.2.2.2.2
    rw [z6.1] at b1
    rw [z14.1] at b4
    obtain ⟨f, rfl⟩ : ∃ e, f = e + 1 := ⟨f - 1, by omega⟩
    have ihf := ih f (by omega) (by omega)
    have c0 : ((40 : Int32) + nI (pz q) ≤ nI d) = False := by
      rw [show (40 : Int32) + nI (pz q) = nI (40 + pz q) from hy_add 40 (pz q), hy_le (by omega) (by omega)]
      exact eq_false (by omega)
    have c1 : (nI d < (2 : Int32)) = (d < 2) := hy_lt (b := 2) (by omega) (by omega)
    have c2 : (nI d ≤ (10 : Int32)) = (d ≤ 10) := hy_le (b := 10) (by omega) (by omega)
    have c3 : (nI d ≤ (10 : Int32) + nI (sz q)) = (d ≤ 10 + sz q) := by
      rw [show (10 : Int32) + nI (sz q) = nI (10 + sz q) from hy_add 10 (sz q), hy_le (by omega) (by omega)]
    have c4 : (nI d ≤ (19 : Int32)) = (d ≤ 19) := hy_le (b := 19) (by omega) (by omega)
    have c5 : (nI d < (20 : Int32) + nI (pz q)) = (d < 20 + pz q) := by
      rw [show (20 : Int32) + nI (pz q) = nI (20 + pz q) from hy_add 20 (pz q), hy_lt (by omega) (by omega)]
    have c6 : (nI d ≤ (39 : Int32)) = (d ≤ 39) := hy_le (b := 39) (by omega) (by omega)
    by_cases dd : deed q (nI d)
    · simp only [f_L_isGuest_L2, b1, b4, c0, c1, c2, c3, c4, c5, c6, hy_jn, hy_lt', hy_add1, hy_cts, cq_why0 hC hQ hg dd, O_no hR hZ hQ hg dd, cq_why1 hC hQ hg dd, O_cause hR hZ hQ hg dd, hy_f10, if_true, if_false, ihf, ite_self]
    · have e1 : ¬ d < 2 := fun h => dd (deed_of (Or.inl h))
      have e2 : ¬ (11 ≤ d ∧ d ≤ 10 + sz q) := fun h => dd (deed_of (Or.inr (Or.inl h)))
      have e3 : ¬ (20 ≤ d ∧ d < 20 + pz q) := fun h => dd (deed_of (Or.inr (Or.inr (Or.inl h))))
      have e4 : ¬ 40 ≤ d := fun h => dd (deed_of (Or.inr (Or.inr (Or.inr ⟨h, by omega⟩))))
      simp only [f_L_isGuest_L2, b1, b4, c0, c1, c2, c3, c4, c5, c6, hy_jn, hy_lt', hy_add1, e1, if_true, if_false, show d ≤ 39 from by omega]
      by_cases x2 : d ≤ 10
      · simp only [x2, if_true, show d ≤ 19 from by omega]
        exact ihf
      · simp only [x2, if_false, show ¬ d ≤ 10 + sz q from by omega]
        by_cases x4 : d ≤ 19
        · simp only [x4, if_true]
          exact ihf
        · simp only [x4, if_false, show ¬ d < 20 + pz q from by omega]
          exact ihf
theorem hy_jnI {α : Type} {k : α} {f : α → hz_O} {r : hz_O} (h : ∀ k', k' = k → f k' = r) : hz_jn k f = r := h k rfl
theorem L_isGuest {b : Nat} {M : hz_M} {q : Nat → Int32} (hC : hy_C M q) (hQ : hy_Q q) (hR : RO b M q) (hN : hy_N q) {g : Nat} (hg : g < gz q) : f_L_isGuest b (nI g) M = some (1, M) := by
  have hZ := hC.1
  have hlp := fun kk => G_loop hC hQ hR hg kk (40 + pz q) 0 hz_FU (by omega) (hy_FU (by have := hZ.2.2.1; omega))
  have hlk := O_lockerOf hR hZ hQ hg
  have hbe := O_bears hR hZ hg
  have hhg := O_highest hR hZ hQ hg
  have hZ0 := hZ
  obtain ⟨⟨b0, b1, b2, b3, b4, b5, b6, b7, b8, b9, b10, b11⟩, rop, rpg, rlk, rwt, rac, rag, rat, rhs, rst, rwn, rsd⟩ := hR
  obtain ⟨⟨z1, z2⟩, ⟨z3, z4, z5⟩, ⟨z6, z7, z8⟩, ⟨z9, z10⟩, ⟨z11, z12, z13⟩, ⟨z14, z15, z16⟩⟩ := hZ
  rw [z1] at b10; rw [z3] at b0; rw [z6] at b1; rw [z9] at b2; rw [z11] at b3; rw [z14] at b4
  unfold f_L_isGuest
  refine hy_jnI (fun k71 h71 => ?_)
  rw [show (0 : Int32) = nI 0 from rfl, hlp, h71]
  dsimp only
  rw [cq_guest0 hC hg, hy_cts, hy_in (by omega) (by omega), hy_gt]
  refine hy_jnI (fun k22 h22 => ?_)
  refine hy_jnI (fun k25 h25 => ?_)
  rw [if_pos (by rw [hy_c (by omega), rag g hg])]
  rw [cq_guest1 hC hg, hy_cts, hy_gt, if_pos (by rw [hy_c (by omega), rat g hg])]
  rw [cq_guest2 hC hg, hy_cts, hlk, hy_cts, if_pos rfl]
  rw [cq_guest3 hC hg, hy_cts, hy_gt, if_pos (by rw [hy_c (by omega), rhs g hg])]
  rw [cq_guest4 hC hg, hy_cts, hy_gt, if_pos (by rw [hy_c (by omega), rst g hg])]
  rw [cq_guest5 hC hg, hy_cts, hy_gt, if_pos (by rw [hy_c (by omega), rwn g hg])]
  rw [cq_guest6 hC hg, hy_cts, hbe, hy_cts, if_pos rfl]
  rw [cq_guest7 hC hg, hy_cts, hy_gt, if_pos (by rw [hy_c (by omega), rag g hg, b4])]
  rw [cq_guest8 hC hg, hy_cts, hy_gt, if_pos (by rw [hy_c (by omega), rsd g hg])]
  rw [h22]
  simp (disch := omega) only [cq_highest hC hQ hg, cq_letter hC hN hg, hhg, hy_f10, if_true, if_false, hy_cts]
/-! the eldest, from the last guest down -/
def wx (q : Nat → Int32) (x : Int32) : Int32 := if x = -1 then -1 else q (25 + 8 * Int32.toNatClampNeg x + 1)
theorem wx_n (q : Nat → Int32) : wx q (-1) = -1 := if_pos rfl
theorem wx_k (q : Nat → Int32) {k : Nat} (hk : k < 16) : wx q (nI k) = q (25 + 8 * k + 1) := by
  unfold wx
  rw [if_neg (by rw [hy_n1 (by omega)]; exact not_false), hy_c (by omega)]
def cme (q : Nat → Int32) (a c : Int32) : Int32 := if wx q c ≤ wx q a then a else c
theorem cme_as (q : Nat → Int32) (a c d : Int32) : cme q (cme q a c) d = cme q a (cme q c d) := by
  unfold cme
  grind
def isg (q : Nat → Int32) (x : Int32) : Prop := x = -1 ∨ ∃ k, k < gz q ∧ x = nI k
theorem eldS_cme {q : Nat → Int32} (hZ : hy_Z q) (hQ : hy_Q q) {a : Int32} {i : Nat} (hi : i < gz q) {x : Int32} (hx : isg q x) : eldS q a i x = cme q x (eldS q a i (-1)) := by
  have z2 := hZ.1.2
  obtain ⟨w, hw, ew⟩ := hQ.1 i hi
  rw [eldS_n]
  unfold eldS cme
  by_cases c : q (25 + 8 * i + 2) = a
  · rw [if_pos c, if_pos c]
    rcases hx with rfl | ⟨k, hk, rfl⟩
    · rw [if_pos rfl, wx_n, wx_k q (by omega), ew, if_neg]
      have := hy_nn (a := w) (by omega)
      grind
    · rw [if_neg (by rw [hy_n1 (by omega)]; exact not_false), hy_c (by omega), wx_k q (by omega), wx_k q (by omega)]
  · rw [if_neg c, if_neg c]
    rcases hx with rfl | ⟨k, hk, rfl⟩
    · rw [wx_n, if_pos (Int32.le_refl _)]
    · obtain ⟨w2, hw2, ew2⟩ := hQ.1 k hk
      have := hy_nn (a := w2) (by omega)
      rw [wx_n, wx_k q (by omega), ew2, if_pos (by grind)]
theorem eldS_g {q : Nat → Int32} {a : Int32} {i : Nat} (hi : i < gz q) : isg q (eldS q a i (-1)) := by
  rw [eldS_n]
  split
  · exact Or.inr ⟨i, hi, rfl⟩
  · exact Or.inl rfl
theorem cme_g {q : Nat → Int32} {a c : Int32} (ha : isg q a) (hc : isg q c) : isg q (cme q a c) := by
  unfold cme
  split
  · exact ha
  · exact hc
theorem fold_cme {q : Nat → Int32} (hZ : hy_Z q) (hQ : hy_Q q) {a : Int32} : ∀ (k i : Nat) (x : Int32), i + k ≤ gz q → isg q x → hy_fold (eldS q a) k i x = cme q x (hy_fold (eldS q a) k i (-1)) ∧ isg q (hy_fold (eldS q a) k i (-1))
  | 0, i, x, _, hx => by
    refine ⟨?_, Or.inl rfl⟩
    show x = cme q x (-1)
    unfold cme
    rw [wx_n]
    rcases hx with rfl | ⟨k, hk, rfl⟩
    · rw [wx_n, if_pos (Int32.le_refl _)]
    · obtain ⟨w2, hw2, ew2⟩ := hQ.1 k hk
      have z2 := hZ.1.2
      have := hy_nn (a := w2) (by omega)
      rw [wx_k q (by omega), ew2, if_pos (by grind)]
  | k + 1, i, x, hi, hx => by
    have hs := eldS_g (q := q) (a := a) (i := i) (by omega)
    have h1 := fold_cme hZ hQ (a := a) k (i + 1) (eldS q a i x) (by omega) (by rw [eldS_cme hZ hQ (by omega) hx]; exact cme_g hx hs)
    have h2 := fold_cme hZ hQ (a := a) k (i + 1) (eldS q a i (-1)) (by omega) hs
    have e1 : hy_fold (eldS q a) (k + 1) i x = hy_fold (eldS q a) k (i + 1) (eldS q a i x) := rfl
    have e2 : hy_fold (eldS q a) (k + 1) i (-1) = hy_fold (eldS q a) k (i + 1) (eldS q a i (-1)) := rfl
    rw [e1, e2, h1.1, h2.1, eldS_cme hZ hQ (by omega) hx, cme_as]
    exact ⟨rfl, cme_g hs h2.2⟩
def sfS (q : Nat → Int32) (a : Int32) (g : Nat) (c : Int32) : Int32 := if q (25 + 8 * g + 2) = a then (if q 9 + 6 * a ≤ 60 + q (25 + 8 * g + 1) / 4 then c else c + 1) else c
theorem sfS_ad {q : Nat → Int32} {a : Int32} : ∀ (k i : Nat) (x c : Int32), hy_fold (sfS q a) k i (x + c) = x + hy_fold (sfS q a) k i c
  | 0, _, _, _ => rfl
  | k + 1, i, x, c => by
    unfold hy_fold
    have e : sfS q a i (x + c) = x + sfS q a i c := by
      unfold sfS
      split
      · split
        · rfl
        · rw [Int32.add_assoc]
      · rfl
    rw [e, sfS_ad k (i + 1)]
theorem O_stepL {b : Nat} {M : hz_M} {q : Nat → Int32} (hC : hy_C M q) (hQ : hy_Q q) (hR : RO b M q) {a : Int32} (kk : Int32 → Int32 → Int32 → hz_M → hz_O) : ∀ (p f : Nat), p ≤ gz q → p < f → f_L_isStep_L13 b kk f a (hy_fold (eldS q a) (gz q - p) p (-1)) (hy_fold (sfS q a) (gz q - p) p 0) (nI p - 1) M = kk a (eld q a) (sfr q a) M
  | 0, f, _, hf => by
    obtain ⟨f, rfl⟩ : ∃ e, f = e + 1 := ⟨f - 1, by omega⟩
    rw [f_L_isStep_L13, if_pos (by decide)]
    rfl
  | p + 1, f, hp, hf => by
    have ih := O_stepL hC hQ hR (a := a) kk p
    have hZ := hC.1
    have hZ1 := hZ
    have hbe := O_bears hR hZ (g := p) (by omega)
    have hZ0 := hZ
    obtain ⟨⟨b0, b1, b2, b3, b4, b5, b6, b7, b8, b9, b10, b11⟩, rop, rpg, rlk, rwt, rac, rag, rat, rhs, rst, rwn, rsd⟩ := hR
    obtain ⟨⟨z1, z2⟩, ⟨z3, z4, z5⟩, ⟨z6, z7, z8⟩, ⟨z9, z10⟩, ⟨z11, z12, z13⟩, ⟨z14, z15, z16⟩⟩ := hZ
    rw [z1] at b10; rw [z3] at b0; rw [z6] at b1; rw [z9] at b2; rw [z11] at b3; rw [z14] at b4
    obtain ⟨f, rfl⟩ : ∃ e, f = e + 1 := ⟨f - 1, by omega⟩
    have e0 : hy_fold (eldS q a) (gz q - p) p (-1) = cme q (eldS q a p (-1)) (hy_fold (eldS q a) (gz q - (p + 1)) (p + 1) (-1)) := by
      rw [show gz q - p = (gz q - (p + 1)) + 1 by omega]
      exact (fold_cme hZ1 hQ (gz q - (p + 1)) (p + 1) (eldS q a p (-1)) (by omega) (eldS_g (by omega))).1
    have e00 : hy_fold (sfS q a) (gz q - p) p 0 = sfS q a p 0 + hy_fold (sfS q a) (gz q - (p + 1)) (p + 1) 0 := by
      rw [show gz q - p = (gz q - (p + 1)) + 1 by omega]
      have h := sfS_ad (q := q) (a := a) (gz q - (p + 1)) (p + 1) (sfS q a p 0) 0
      rw [Int32.add_zero] at h
      exact h
    have hU := (fold_cme hZ1 hQ (a := a) (gz q - (p + 1)) (p + 1) (-1) (by omega) (Or.inl rfl)).2
    have ihf := ih f (by omega) (by omega)
    rw [e0, e00] at ihf
    generalize hy_fold (eldS q a) (gz q - (p + 1)) (p + 1) (-1) = U at ihf hU ⊢
    generalize hy_fold (sfS q a) (gz q - (p + 1)) (p + 1) 0 = V at ihf ⊢
    rw [show nI (p + 1) - 1 = nI p by rw [hy_1, hy_sub (by omega)]; rfl]
    have np : ¬ nI p < 0 := Int32.not_lt.mpr (hy_nn (by omega))
    have e9 : nI p + -1 = nI p - 1 := by grind
    obtain ⟨w, hw, ew⟩ := hQ.1 p (by omega)
    have hwn := hy_nn (a := w) (by omega)
    by_cases c : q (25 + 8 * p + 2) = a
    · have e1 : eldS q a p (-1) = nI p := by rw [eldS_n, if_pos c]
      have e2 : sfS q a p 0 = if q 9 + 6 * a ≤ 60 + q (25 + 8 * p + 1) / 4 then 0 else 1 := by
        unfold sfS
        rw [if_pos c]
        split <;> rfl
      rw [e1, e2] at ihf
      have e3 : (if U < 0 then nI p else if q (25 + 8 * p + 1) < (if U = -1 then -1 else q (25 + 8 * Int32.toNatClampNeg U + 1)) then U else nI p) = cme q (nI p) U := by
        unfold cme
        rw [wx_k q (by omega)]
        unfold wx
        rcases hU with rfl | ⟨k, hk, rfl⟩
        · rw [if_pos (by decide), if_pos rfl, if_pos (by rw [ew]; grind)]
        · have nk : ¬ nI k < 0 := Int32.not_lt.mpr (hy_nn (by omega))
          have n1 := hy_n1 (a := k) (by omega)
          rw [if_neg nk]
          simp only [n1, if_false]
          split
          · rw [if_neg (by grind)]
          · rw [if_pos (by grind)]
      rw [← e3] at ihf
      rcases hU with rfl | ⟨k, hk, rfl⟩
      · rw [if_pos (by decide)] at ihf
        simp (disch := omega) only [f_L_isStep_L13, np, if_false, if_true, hy_cts, hy_gt, hy_lt', hy_lm, hy_jn, hy_c, hy_in, hy_le, hy_add1, hy_k0, hy_k1, hy_k2, hy_k3, hy_k4, hy_k5, hy_k6, hy_k7, hy_k8, hy_k9, hy_k10, hy_k11, hy_k12, hy_k13, rat p (by omega), c, e9, show ((-1 : Int32) < 0) = True from eq_true (by decide), hbe, b9]
        by_cases x : q 9 + 6 * a ≤ 60 + q (25 + 8 * p + 1) / 4
        · simp only [x, if_true] at ihf ⊢
          rw [Int32.add_comm V 0]
          exact ihf
        · simp only [x, if_false] at ihf ⊢
          rw [Int32.add_comm V 1]
          exact ihf
      · have nk : ¬ nI k < 0 := Int32.not_lt.mpr (hy_nn (by omega))
        have n1 := hy_n1 (a := k) (by omega)
        simp only [nk, n1, if_false] at ihf
        rw [hy_c (by omega)] at ihf
        simp (disch := omega) only [f_L_isStep_L13, np, if_false, if_true, hy_cts, hy_gt, hy_lt', hy_lm, hy_jn, hy_c, hy_in, hy_le, hy_add1, hy_k0, hy_k1, hy_k2, hy_k3, hy_k4, hy_k5, hy_k6, hy_k7, hy_k8, hy_k9, hy_k10, hy_k11, hy_k12, hy_k13, rat p (by omega), c, e9, nk, rag p (by omega), rag k hk, hbe, b9]
        by_cases y : q (25 + 8 * p + 1) < q (25 + 8 * k + 1)
        · simp only [y, if_true] at ihf ⊢
          by_cases x : q 9 + 6 * a ≤ 60 + q (25 + 8 * p + 1) / 4
          · simp only [x, if_true] at ihf ⊢
            rw [Int32.add_comm V 0]
            exact ihf
          · simp only [x, if_false] at ihf ⊢
            rw [Int32.add_comm V 1]
            exact ihf
        · simp only [y, if_false] at ihf ⊢
          by_cases x : q 9 + 6 * a ≤ 60 + q (25 + 8 * p + 1) / 4
          · simp only [x, if_true] at ihf ⊢
            rw [Int32.add_comm V 0]
            exact ihf
          · simp only [x, if_false] at ihf ⊢
            rw [Int32.add_comm V 1]
            exact ihf
    · have e1 : eldS q a p (-1) = -1 := by rw [eldS_n, if_neg c]
      have e2 : sfS q a p 0 = 0 := by
        unfold sfS
        rw [if_neg c]
      have e3 : cme q (-1) U = U := by
        unfold cme
        rw [wx_n]
        rcases hU with rfl | ⟨k, hk, rfl⟩
        · rw [wx_n, if_pos (Int32.le_refl _)]
        · obtain ⟨w2, hw2, ew2⟩ := hQ.1 k hk
          have := hy_nn (a := w2) (by omega)
          rw [wx_k q (by omega), ew2, if_neg (by grind)]
      rw [e1, e2, e3, Int32.zero_add] at ihf
      simp (disch := omega) only [f_L_isStep_L13, np, if_false, hy_cts, hy_gt, hy_lt', hy_lm, hy_jn, hy_c, hy_in, hy_le, hy_add1, hy_k0, hy_k1, hy_k2, hy_k3, hy_k4, hy_k5, hy_k6, hy_k7, hy_k8, hy_k9, hy_k10, hy_k11, hy_k12, hy_k13, rat p (by omega), c, e9]
      exact ihf
theorem L_isStep {b : Nat} {M : hz_M} {q : Nat → Int32} (hC : hy_C M q) (hQ : hy_Q q) (hR : RO b M q) {k : Nat} (h1 : 1 ≤ k) (h2 : k ≤ sz q) : f_L_isStep b (nI k) M = some (1, M) := by
  have hZ := hC.1
  have hL := fun kk => O_stepL hC hQ hR (a := nI k) kk (gz q) hz_FU (Nat.le_refl _) (hy_FU (by have := hZ.1.2; omega))
  have hon := O_on hR hZ
  rw [Nat.sub_self] at hL
  have b10 := hR.1.2.2.2.2.2.2.2.2.2.2.1
  have b9 := hR.1.2.2.2.2.2.2.2.2.2.1
  rw [hZ.1.1] at b10
  unfold f_L_isStep
  rw [hy_lt', hy_jn, b10]
  refine Eq.trans (hL _) ?_
  have e5 : (5 : Int32) * (nI k - 1) = 5 * nI k - 5 := by grind
  simp only [cq_step0 hC h1 h2, cq_step1 hC h1 h2, cq_step2 hC h1 h2, cq_step3 hC h1 h2, cq_step4 hC h1 h2, hon, hy_cts, if_true, b9, e5]
