theorem hIns_up {q q' : Nat → Int32} {g : Nat} (hz : gz q' = gz q) (hg : g < gz q) (h : ∀ k, k < gz q → k ≠ g → (q' (25 + 8 * k + 2) = -1 ↔ q (25 + 8 * k + 2) = -1)) (h1 : q (25 + 8 * g + 2) = -1) (h2 : q' (25 + 8 * g + 2) ≠ -1) : hIns q' = hIns q + 1 := by
  rw [hIns_n, hIns_n, hz, hy_add1]
  refine congrArg nI ?_
  have e := cN_pt (p := fun k => decide (q (25 + 8 * k + 2) ≠ -1)) (r := fun k => decide (q' (25 + 8 * k + 2) ≠ -1)) (a := g) (m := gz q) (decide_eq_false (fun e => e h1)) (decide_eq_true h2) (fun j hj hne => decide_eq_decide.mpr (not_congr (h j hj hne))) (gz q) 0 (by omega)
  rw [e, if_pos (by omega)]
theorem hIns_dn {q q' : Nat → Int32} {g : Nat} (hz : gz q' = gz q) (hg : g < gz q) (h : ∀ k, k < gz q → k ≠ g → (q' (25 + 8 * k + 2) = -1 ↔ q (25 + 8 * k + 2) = -1)) (h1 : q (25 + 8 * g + 2) ≠ -1) (h2 : q' (25 + 8 * g + 2) = -1) : hIns q' = hIns q - 1 := by
  have e := hIns_up (q := q') (q' := q) hz.symm (by rw [hz]; exact hg) (fun k hk hne => (h k (by rw [← hz]; exact hk) hne).symm) h2 h1
  rw [e]
  grind
theorem hIns_eqv {q q' : Nat → Int32} (hz : gz q' = gz q) (h : ∀ k, k < gz q → (q' (25 + 8 * k + 2) = -1 ↔ q (25 + 8 * k + 2) = -1)) : hIns q' = hIns q := by
  rw [hIns_n, hIns_n, hz]
  exact congrArg nI (cN_cg (gz q) 0 (fun j _ hj => decide_eq_decide.mpr (not_congr (h j (by omega)))))
theorem E_eqv {q q' : Nat → Int32} (hE : hy_E q) (hz : gz q' = gz q) (h : ∀ k, k < gz q → (q' (25 + 8 * k + 2) = -1 ↔ q (25 + 8 * k + 2) = -1)) (h1 : q' 12 = q 12) (h2 : q' 13 = q 13) : hy_E q' := by
  unfold hy_E
  rw [h1, h2, hIns_eqv hz h]
  exact hE
theorem N_eqv {q q' : Nat → Int32} (hN : hy_N q) (hz : gz q' = gz q) (h : ∀ k, k < gz q → q' (25 + 8 * k) = q (25 + 8 * k)) : hy_N q' := by
  refine ⟨by rw [hz]; exact hN.1, fun g hg => ?_⟩
  rw [hz] at hg
  rw [h g hg]
  exact hN.2 g hg
/-- the law's state: the class and the own bathhouse at b are q; n acts are done, rf refused -/
def hLS (b : Nat) (M : hz_M) (q : Nat → Int32) (qs : Nat → Nat → Int32) (n : Nat) (rf : Int32) : Prop := hy_W M q ∧ hy_T q ∧ hy_N q ∧ hy_E q ∧ RO b M q ∧ Ring M qs n ∧ M 26 3 = rf
/-- what an act comes to -/
def hLR (b : Nat) (M : hz_M) (q : Nat → Int32) (qs : Nat → Nat → Int32) (n : Nat) (rf : Int32) (d : Nat) (res : hz_O) : Prop := ∃ (r : Int32) (M' : hz_M), res = some (r, M') ∧ (∀ a, 178 ≤ a → (a < b ∨ b + 11 < a) → M' a = M a) ∧
  ((r = -1 ∧ hy_W M' q ∧ Ring M' qs n ∧ M' 26 3 = rf + 1) ∨ (r = 1 ∧ ∃ q', hLS b M' q' (qadd qs n q) (n + 1) rf ∧ ∀ k, q 8 = nI k → ∃ j, j ≤ k + d ∧ q' 8 = nI j))
theorem hLR_no {b : Nat} {M : hz_M} {q : Nat → Int32} {qs : Nat → Nat → Int32} {n d : Nat} {rf : Int32} {res : hz_O} (hb : 178 ≤ b) (h : hLS b M q qs n rf) {M' : hz_M} (e : res = some (-1, hz_set M' 26 3 (M' 26 3 + 1))) (hM : ∀ a, (a < b ∨ b + 11 < a) → M' a = M a) : hLR b M q qs n rf d res := by
  obtain ⟨W, T, N, E, R, G, F⟩ := h
  refine ⟨-1, _, e, fun a h1 h2 => by rw [hy_seto _ _ _ (by omega)]; exact hM a h2, Or.inl ⟨rfl, W_fr (fun a ha => by rw [hy_seto _ _ _ (by omega)]; exact hM a (by omega)) W T, Ring_fr (fun a ha => by rw [hy_seto _ _ _ (by omega)]; exact hM a (by omega)) G, ?_⟩⟩
  rw [hy_setk, hM 26 (by omega), F]
theorem hLR_yes {b : Nat} {M M1 M2 : hz_M} {q q' : Nat → Int32} {qs : Nat → Nat → Int32} {n d : Nat} {rf : Int32} {res : hz_O} (hb : 178 ≤ b) (h : hLS b M q qs n rf) (e : res = some (1, M2)) (hW : hy_W M1 q') (hG : Ring M1 (qadd qs n q) (n + 1)) (h1 : ∀ a, (178 ≤ a ∧ (a < b ∨ b + 11 < a)) → M1 a = M a) (h26 : M1 26 = M 26) (h2 : ∀ a, (a < b ∨ b + 11 < a) → M2 a = M1 a) (hR : RO b M2 q') (hT : hy_T q') (hN : hy_N q') (hE : hy_E q') (h8 : ∀ k, q 8 = nI k → ∃ j, j ≤ k + d ∧ q' 8 = nI j) : hLR b M q qs n rf d res := by
  refine ⟨1, M2, e, fun a ha hb' => by rw [h2 a hb', h1 a ⟨ha, hb'⟩], Or.inr ⟨rfl, q', ⟨W_fr (fun a ha => h2 a (by omega)) hW hT, hT, hN, hE, hR, Ring_fr (fun a ha => h2 a (by omega)) hG, ?_⟩, h8⟩⟩
  rw [h2 26 (by omega), h26]
  exact h.2.2.2.2.2.2
theorem keep8 {q q' : Nat → Int32} (d : Nat) (h : q' 8 = q 8) : ∀ k, q 8 = nI k → ∃ j, j ≤ k + d ∧ q' 8 = nI j := fun k hk => ⟨k, by omega, by rw [h, hk]⟩
theorem ent_ok {q : Nat → Int32} {g : Nat} (hZ : hy_Z q) (h : rsn q g 0 = 0) : q (25 + 8 * g + 2) = -1 ∧ ∃ l t p0, l < lz q ∧ frL q = nI l ∧ kpr q l = -1 ∧ dry q = nI t ∧ t < tz q ∧ p0 < pz q ∧ q (153 + 2 * t + 1) = nI p0 := by
  have h' : nEnt q g = 0 := h
  unfold nEnt at h'
  by_cases c1 : q (25 + 8 * g + 2) = -1
  · rw [if_pos c1] at h'
    refine ⟨c1, ?_⟩
    by_cases c2 : q (25 + 8 * g + 7) = q 8 / 600
    · rw [if_pos c2] at h'
      exact absurd h' (by decide)
    · rw [if_neg c2] at h'
      rcases frL_al (q := q) with c3 | ⟨l, hl, e1, e2⟩
      · rw [if_pos c3] at h'
        exact absurd h' (by decide)
      · have hd := dry_on hZ (pz q) 0 (-1) (by omega) (Or.inl rfl)
        rcases hd with c4 | ⟨t, ht, e3, p0, hp, e4⟩
        · have c4' : dry q = -1 := c4
          have c3 : ¬ frL q = -1 := by
            rw [e1, hy_n1 (by have := hZ.2.1.2.2; omega)]
            exact not_false
          rw [if_neg c3, if_pos c4'] at h'
          exact absurd h' (by decide)
        · exact ⟨l, t, p0, hl, e1, e2, e3, ht, hp, e4⟩
  · rw [if_neg c1] at h'
    exact absurd h' (by decide)
