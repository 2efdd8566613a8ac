
/-! a whole script read, both ways -/
theorem eq_cO (n : Nat) (a : Int32) (M : hz_M) : f_X6_readOrders (n + 1) a M = r_X6_readOrders_L2 (f_X6_readOrders n) hz_FU a 0 M := by
  simp only [f_X6_readOrders, r_X6_readOrders]
theorem eq_rO (n : Nat) (a : Int32) (M : hz_M) : f_X11_readsOrders (n + 1) a M = r_X11_readsOrders_L0 (f_X11_readsOrders n) hz_FU a M := by
  simp only [f_X11_readsOrders, r_X11_readsOrders]
theorem eq_cR (n : Nat) (a b c : Int32) (M : hz_M) : f_X6_runOrders (n + 1) a b c M = r_X6_runOrders_L6 (f_X6_runOrders n) hz_FU b c a a M := by
  simp only [f_X6_runOrders, r_X6_runOrders]
theorem eq_rR (n : Nat) (a b : Int32) (M : hz_M) : f_X11_doesAll (n + 1) a b M = r_X11_doesAll_L2 (f_X11_doesAll n) hz_FU b a M := by
  simp only [f_X11_doesAll, r_X11_doesAll]
theorem endE (M : hz_M) (h : ¬ M 9 6 = 0) : f_X8_needEnd M = some (0, M) := by
  unfold f_X8_needEnd
  simp only [hy_jn, goE _ _ h, hy_cts]
  split <;> rfl
theorem j_script {n : Nat} {q : Nat → Int32} {Mc Mr : hz_M} (t : TX n Mc Mr) (H : hy_Ho Mc q) (hz : gz q ≤ 16) (z1 : q 11 = nI (gz q)) (h6 : Mc 27 6 = 0) :
    ∃ C1 C3 C4 R1_ R3 R4 r, f_X8_rewind Mc = some (0, C1) ∧ f_X6_readOrders 4 0 C1 = some (0, C3) ∧ f_X8_needEnd C3 = some (0, C4) ∧ f_X11_starts Mr = some (0, R1_) ∧ f_X11_readsOrders 4 0 (hz_set R1_ 178 22 0) = some (0, R3) ∧ f_X11_must (if R3 178 15 = 0 then 1 else 0) 1 R3 = some (r, R4) ∧
      C4 9 6 = R4 178 17 ∧ C4 9 7 = R4 178 12 ∧ (∃ k, k ≤ 4 ∧ C4 9 6 = nI k ∧ (k = 0 → C4 9 7 = -1)) ∧ FO 0 Mc C4 ∧ FP 0 Mr R4 ∧ (C4 9 6 = 0 → ∃ to, to ≤ 30 ∧ C4 27 6 = nI to ∧ R4 178 22 = nI to ∧ WFo C4 R4 to 0 0 to) := by
  obtain ⟨C1, R1_, a1, a2, a3, a4, a5, a6⟩ := j_start t
  have P2 : PJ n C1 (hz_set R1_ 178 22 0) := PJ_c2 rfl rfl (fun b hb => hy_setn _ _ _ hb) (hy_seto _ _ _ (by omega)) a3
  obtain ⟨C3, R3, b1, b2, b3, b4, b5⟩ := j_orders hz z1 3 0 (by omega) (by omega) 31 0 0 hz_FU hz_FU C1 (hz_set R1_ 178 22 0) P2 (Ho_fr (fun a ha => a4.1 a (by omega)) H) (fun _ => ⟨by rw [a4.1 27 (by omega)]; exact h6, hy_setk _ _ _ _⟩) (by omega) (by omega) (by omega) (hy_FU (by omega)) (hy_FU (by omega))
  have b1' : f_X6_readOrders 4 0 C1 = some (0, C3) := Eq.trans (eq_cO 3 0 C1) b1
  have b2' : f_X11_readsOrders 4 0 (hz_set R1_ 178 22 0) = some (0, R3) := Eq.trans (eq_rO 3 0 _) b2
  have fo : FO 0 Mc C3 := FO_t (Nat.le_refl _) (FO_E 0 a4) b3
  have fp : FP 0 Mr R3 := FP_t (Nat.le_refl _) (FP_H 0 a5) (FP_t (Nat.le_refl _) (FP_n R1_ 0) b4)
  rcases b5 with ⟨PP, h⟩ | ⟨c1, c2, c3, Mx, c4, c5⟩
  · by_cases e : C3 9 6 = 0
    · have er : R3 178 17 = 0 := by rw [← PP.2.2.1]; exact e
      obtain ⟨to, t1, t2, t3, t4, t5⟩ := h e
      obtain ⟨kk, k1, k2, k3⟩ := PP.2.2.2.2
      have k0 : kk = 0 := by rw [k2, hy_0, hy_eq (by omega) (by omega)] at e; exact e
      have e7 := k3 k0
      have tk := PP.2.1
      obtain ⟨s, e', _, _, _, _, _, _, h7⟩ := tk
      have both : (C3 9 2 = 0 ∧ R3 178 15 = 0) ∨ (¬ C3 9 2 = 0 ∧ ¬ R3 178 15 = 0) := by
        rcases h7 with ⟨a, b⟩ | ⟨a, b, _⟩ | ⟨a, b, _⟩ | ⟨_, b, a, c⟩ | ⟨a, b⟩
        · exact Or.inl ⟨a, b⟩
        · right; rw [a, b]; exact ⟨by decide, by decide⟩
        · right; rw [a, b]; exact ⟨by decide, by decide⟩
        · right; rw [a, b]; refine ⟨?_, by decide⟩; rcases c with c | c | c <;> (rw [c]; decide)
        · right; rw [a, b]; exact ⟨by decide, by decide⟩
      rcases both with ⟨x1, x2⟩ | ⟨x1, x2⟩
      · obtain ⟨C4, R4, d1, d2, d3, d4, d5, d6⟩ := j_advP PP
        have e4 : C4 9 6 = 0 := by rw [d6]; exact e
        obtain ⟨k4, l1, l2, l3⟩ := d3.2.2.2.2
        have l0 : k4 = 0 := by
          have := e4
          rw [l2, hy_0, hy_eq (by omega) (by omega)] at this; exact this
        refine ⟨C1, C3, C4, R1_, R3, R3, 1, a1, b1', ?_, a2, b2', ?_, ?_, ?_, ⟨k4, l1, l2, l3⟩, FO_t (Nat.le_refl _) fo (FO_E 0 d4), fp, fun _ => ⟨to, t2, ?_, t4, ?_⟩⟩
        · simp only [f_X8_needEnd, hy_jn, x1, if_true, f_X8_goOnIf, hy_f10, if_false, e, d1, hy_cts]
        · rw [if_pos x2, must1, if_pos er]
        · rw [e4, er]
        · rw [l3 l0, ← PP.2.2.2.1]; exact e7.symm
        · rw [d4.1 27 (by omega)]; exact t3
        · exact WFo_gen (lo := 0) (hi := to) (d4.1 1 (by omega)) (d4.1 3 (by omega)) (d4.1 4 (by omega)) (fun a g1 g2 b _ _ => by rw [d4.1 a (by omega)]) (fun a g1 g2 b _ _ => rfl) to 0 0 to (by omega) (Nat.le_refl _) (t5 to (by omega))
      · obtain ⟨C4, R4, d1, d2, d3, d4, d5, d6⟩ := j_fail (k := 1) (by omega) PP
        have d1' : f_X8_fail 1 C3 = some (0, C4) := d1
        have d2' : f_X11_must 0 1 R3 = some (0, R4) := d2
        refine ⟨C1, C3, C4, R1_, R3, R4, 0, a1, b1', ?_, a2, b2', ?_, d3.2.2.1, d3.2.2.2.1, d3.2.2.2.2, FO_t (Nat.le_refl _) fo (FO_E 0 d4), FP_t (Nat.le_refl _) fp (FP_H 0 d5), fun h => absurd h d6⟩
        · simp only [f_X8_needEnd, hy_jn, x1, if_false, f_X8_goOnIf, if_true, d1', hy_cts]
        · rw [if_neg x2]; exact d2'
    · have nr : ¬ R3 178 17 = 0 := by rw [← PP.2.2.1]; exact e
      exact ⟨C1, C3, C3, R1_, R3, R3, 0, a1, b1', endE _ e, a2, b2', mustE _ _ _ nr, PP.2.2.1, PP.2.2.2.1, PP.2.2.2.2, fo, fp, fun h => absurd h e⟩
  · obtain ⟨C4, R4, d1, d2, d3, d4, d5, d6⟩ := j_fail (k := 1) (by omega) c4
    have d1' : f_X8_fail 1 C3 = some (0, C4) := d1
    have d2' : f_X11_must 0 1 Mx = some (0, R4) := d2
    have eR : R4 = R3 := hy_injM c5 d2'
    subst eR
    have nr : ¬ R4 178 17 = 0 := by rw [← d3.2.2.1]; exact d6
    refine ⟨C1, C3, C4, R1_, R4, R4, 0, a1, b1', ?_, a2, b2', mustE _ _ _ nr, d3.2.2.1, d3.2.2.2.1, d3.2.2.2.2, FO_t (Nat.le_refl _) fo (FO_E 0 d4), fp, fun h => absurd h d6⟩
    simp only [f_X8_needEnd, hy_jn, c2, if_false, f_X8_goOnIf, if_true, d1', hy_cts]
