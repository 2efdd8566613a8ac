
def opair (C P R : hz_M → hz_O) (q : Nat → Int32) : Prop :=
  (∃ k : Int32, k < 0 ∧ (∀ M, hy_W M q → C M = some (k, M)) ∧ ∀ Mr : hz_M, Mr 179 = q → R Mr = some (k, hz_set Mr 178 7 (Mr 178 7 + 1))) ∨
  ((∀ M, hy_W M q → C M = some (0, M)) ∧ ∃ (r : Int32) (q' : Nat → Int32), 0 ≤ r ∧ hy_T q' ∧ (∀ M, hy_W M q → ∃ M', P M = some (r, M') ∧ (∀ a, (a < 11 ∨ 24 < a) → M' a = M a) ∧ hy_W M' q') ∧
    ∀ Mr Mr1 : hz_M, Mr 179 = q → f_X11_changes Mr = some (0, Mr1) → Mr1 179 = q → ∃ Mr', R Mr = some (r, Mr') ∧ Mr' 179 = q' ∧ ∀ a, a ≠ 179 → a ≠ 185 → Mr' a = Mr1 a)
theorem T_st {q q' : Nat → Int32} (h8 : q' 8 = q 8) (h10 : q' 10 = q 10) (T : hy_T q) : hy_T q' := by
  unfold hy_T; rw [h8, h10]; exact T
theorem Inv_mk {M : hz_M} {q : Nat → Int32} (W : hy_W M q) (T : hy_T q) (e : M 179 = q) (H : Hist M) (S : Save M) (h1 : M 26 3 = M 178 7) (h2 : M 0 9 = M 178 12) (t : Txt M) (r : Rep M) (h3 : M 178 24 = 0) : Inv M := by
  subst e
  exact ⟨⟨W.1.1, W.1.2.1, W.1.2.2, W.2.1, T, W.2.2⟩, H, S, h1, h2, t, r, h3⟩
theorem I_W {M : hz_M} (I : Inv M) : hy_W M (M 179) := ⟨I_C I, I_Q I, I.1.2.2.2.2.2⟩
theorem W_fr {M M' : hz_M} {q : Nat → Int32} (h : ∀ a, a = 1 ∨ a = 2 ∨ a = 3 ∨ a = 4 ∨ (11 ≤ a ∧ a ≤ 24) → M' a = M a) (W : hy_W M q) (T : hy_T q) : hy_W M' q := by
  have := Snap_fr (b := 11) (M' := M') (fun a ha => h a (by omega)) (⟨W.1.1, W.1.2.1, W.1.2.2, W.2.1, T, W.2.2⟩ : Snap 11 M q)
  exact ⟨⟨this.1, this.2.1, this.2.2.1⟩, this.2.2.2.1, this.2.2.2.2.2⟩
theorem Save_fr {M M' : hz_M} (h : ∀ a, a = 1 ∨ a = 2 ∨ a = 3 ∨ a = 4 ∨ a = 35 ∨ a = 183 ∨ a = 184 ∨ (148 ≤ a ∧ a ≤ 175) → M' a = M a) (S : Save M) : Save M' := by
  intro s hs
  rw [h 35 (by omega), h 184 (by omega), h 183 (by omega)]
  obtain ⟨e1, e2⟩ := S s hs
  refine ⟨e1, ?_⟩
  rcases e2 with e2 | ⟨e2, e3⟩
  · exact Or.inl e2
  · exact Or.inr ⟨e2, Snap_fr (fun a ha => h a (by omega)) e3⟩
theorem Hist_fr {M M' : hz_M} (h : ∀ a, a = 1 ∨ a = 2 ∨ a = 3 ∨ a = 4 ∨ a = 32 ∨ a = 182 ∨ (36 ≤ a ∧ a ≤ 147) → M' a = M a) (h6 : M' 178 6 = M 178 6) (S : Hist M) : Hist M' := by
  obtain ⟨u, w, a1, a2, a3, a4, a5, a6⟩ := S
  refine ⟨u, w, a1, a2, by rw [h6]; exact a3, by rw [h 32 (by omega)]; exact a4, by rw [h 32 (by omega)]; exact a5, fun j hj => ?_⟩
  rw [h 182 (by omega)]
  exact Snap_fr (fun a ha => h a (by omega)) (a6 j hj)
theorem Txt_fr {M M' : hz_M} (h : ∀ a, a = 9 ∨ a = 10 ∨ a = 186 → M' a = M a) (h6 : M' 178 11 = M 178 11) (S : Txt M) : Txt M' := by
  unfold Txt at *
  rw [h 9 (by omega), h 10 (by omega), h 186 (by omega), h6]; exact S
theorem Rep_fr {M M' : hz_M} (h : ∀ a, a = 176 ∨ a = 177 ∨ a = 191 → M' a = M a) (h6 : M' 178 27 = M 178 27) (S : Rep M) : Rep M' := by
  unfold Rep at *
  rw [h 176 (by omega), h 177 (by omega), h 191 (by omega), h6]; exact S
theorem c_change {M : hz_M} {c g n : Int32} {R : hz_M → hz_O} (I : Inv M) (op : opair (f_X1_refusal c g n) (f_X1_perform c g n) R (M 179)) :
    ∃ r M1, f_X10_change c g n M = some (r, M1) ∧ M1 179 = M 179 ∧ ∀ M2 : hz_M, (∀ a, a ≠ 178 → a ≠ 193 → M2 a = M1 a) → (∀ b, b ≠ 8 → M2 178 b = M1 178 b) → ∃ M3, R M2 = some (r, M3) ∧ Inv M3 ∧ M3 178 8 = M2 178 8 ∧ M3 193 = M2 193 := by
  have W := I_W I
  obtain ⟨i1, i2, i3, i4, i5, i6, i7, i8⟩ := I
  rcases op with ⟨k, hk, hC, hR⟩ | ⟨hC, r, q', hr, hT, hP, hR⟩
  · refine ⟨k, hz_set M 26 3 (M 26 3 + 1), ?_, hy_seto _ _ _ (by omega), fun M2 m1 m2 => ?_⟩
    · have : ¬ k = 0 := by intro e; subst e; revert hk; decide
      simp only [f_X10_change, hC M W, hy_cts, this, if_false, hy_lm]
    · have e := hR M2 (by rw [m1 179 (by omega) (by omega), hy_seto _ _ _ (by omega)])
      refine ⟨_, e, ?_, by rw [hy_setn _ _ _ (by omega)], by rw [hy_seto _ _ _ (by omega)]⟩
      have f1 : ∀ a, a ≠ 26 → a ≠ 178 → a ≠ 193 → hz_set M2 178 7 (M2 178 7 + 1) a = M a := by
        intro a h1 h2 h3
        rw [hy_seto _ _ _ h2, m1 a h2 h3, hy_seto _ _ _ h1]
      have f2 : ∀ b, b ≠ 7 → b ≠ 8 → hz_set M2 178 7 (M2 178 7 + 1) 178 b = M 178 b := by
        intro b h1 h2
        rw [hy_setn _ _ _ h1, m2 b h2, hy_seto _ _ _ (by omega)]
      refine Inv_mk (W_fr (fun a ha => f1 a (by omega) (by omega) (by omega)) W i1.2.2.2.2.1) i1.2.2.2.2.1 (f1 179 (by omega) (by omega) (by omega)) (Hist_fr (fun a ha => f1 a (by omega) (by omega) (by omega)) (f2 6 (by omega) (by omega)) i2) (Save_fr (fun a ha => f1 a (by omega) (by omega) (by omega)) i3) ?_ ?_ (Txt_fr (fun a ha => f1 a (by omega) (by omega) (by omega)) (f2 11 (by omega) (by omega)) i6) (Rep_fr (fun a ha => f1 a (by omega) (by omega) (by omega)) (f2 27 (by omega) (by omega)) i7) ?_
      · rw [hy_setk, hy_seto _ _ _ (by omega), m1 26 (by omega) (by omega), hy_setk, m2 7 (by omega), hy_seto _ _ _ (by omega), i4]
      · rw [f2 12 (by omega) (by omega), f1 0 (by omega) (by omega) (by omega)]; exact i5
      · rw [f2 24 (by omega) (by omega)]; exact i8
  · obtain ⟨u, w, hu, hw, h6, h4, h3, hS⟩ := i2
    obtain ⟨Mc, hc, c3, c4, cS, cf⟩ := c_record hw hu h3 h4 i1
    have Wc : hy_W Mc (M 179) := W_fr (fun a ha => cf a (by omega) (by omega)) W i1.2.2.2.2.1
    obtain ⟨M1, hp, pf, W1⟩ := hP Mc Wc
    refine ⟨r, M1, ?_, by rw [pf 179 (by omega), cf 179 (by omega) (by omega)], fun M2 m1 m2 => ?_⟩
    · simp only [f_X10_change, hC M W, hy_cts, if_true, hc, hp]
    · have g1 : ∀ a, (a < 11 ∨ 24 < a) → a ≠ 32 → (a < 36 + 14 * ((w + 1) % 8) ∨ 36 + 14 * ((w + 1) % 8) + 13 < a) → M1 a = M a := fun a h1 h2 h3 => by rw [pf a h1, cf a h2 h3]
      have e6 : M2 178 6 = nI u := by rw [m2 6 (by omega), g1 178 (by omega) (by omega) (by omega)]; exact h6
      have e179 : M2 179 = M 179 := by rw [m1 179 (by omega) (by omega), g1 179 (by omega) (by omega) (by omega)]
      have e182 : M2 182 = M 182 := by rw [m1 182 (by omega) (by omega), g1 182 (by omega) (by omega) (by omega)]
      obtain ⟨Mr1, k0, k1, k2, k3, k4⟩ := r_keeps hu e6
      have e24 : M2 178 24 = 0 := by rw [m2 24 (by omega), g1 178 (by omega) (by omega) (by omega)]; exact i8
      have hch : f_X11_changes M2 = some (0, Mr1) := by simp only [f_X11_changes, e24, if_true, k0, hy_cts]
      obtain ⟨M3, r1, r2, r3⟩ := hR M2 Mr1 e179 hch (by rw [k4 179 (by omega) (by omega), e179])
      have f1 : ∀ a, a ≠ 178 → a ≠ 179 → a ≠ 182 → a ≠ 185 → a ≠ 193 → M3 a = M1 a := fun a h1 h2 h3 h4 h5 => by rw [r3 a h2 h4, k4 a h1 h3, m1 a h1 h5]
      have f2 : ∀ b, b ≠ 6 → b ≠ 8 → M3 178 b = M 178 b := fun b h1 h2 => by rw [r3 178 (by omega) (by omega), k3 b h1, m2 b h2, g1 178 (by omega) (by omega) (by omega)]
      refine ⟨M3, r1, ?_, by rw [r3 178 (by omega) (by omega), k3 8 (by omega)], by rw [r3 193 (by omega) (by omega), k4 193 (by omega) (by omega)]⟩
      refine Inv_mk (W_fr (fun a ha => f1 a (by omega) (by omega) (by omega) (by omega) (by omega)) W1 hT) hT r2 ?_ (Save_fr (fun a ha => ?_) i3) ?_ ?_ (Txt_fr (fun a ha => ?_) (f2 11 (by omega) (by omega)) i6) (Rep_fr (fun a ha => ?_) (f2 27 (by omega) (by omega)) i7) ?_
      · refine hist_new hw hu hS c3 c4 cS cf (fun a ha => ?_) ?_ ?_
        · rw [f1 a (by omega) (by omega) (by omega) (by omega) (by omega), pf a (by omega)]
        · rw [r3 182 (by omega) (by omega), k1, e182, e179]
        · rw [r3 178 (by omega) (by omega)]; exact k2
      · by_cases a1 : a = 183
        · subst a1; rw [f1 183 (by omega) (by omega) (by omega) (by omega) (by omega), g1 183 (by omega) (by omega) (by omega)]
        · by_cases a2 : a = 184
          · subst a2; rw [f1 184 (by omega) (by omega) (by omega) (by omega) (by omega), g1 184 (by omega) (by omega) (by omega)]
          · rw [f1 a (by omega) (by omega) (by omega) (by omega) (by omega), g1 a (by omega) (by omega) (by omega)]
      · rw [f1 26 (by omega) (by omega) (by omega) (by omega) (by omega), g1 26 (by omega) (by omega) (by omega), f2 7 (by omega) (by omega)]; exact i4
      · rw [f1 0 (by omega) (by omega) (by omega) (by omega) (by omega), g1 0 (by omega) (by omega) (by omega), f2 12 (by omega) (by omega)]; exact i5
      · rw [f1 a (by omega) (by omega) (by omega) (by omega) (by omega), g1 a (by omega) (by omega) (by omega)]
      · rw [f1 a (by omega) (by omega) (by omega) (by omega) (by omega), g1 a (by omega) (by omega) (by omega)]
      · rw [f2 24 (by omega) (by omega)]; exact i8

theorem cR_1 (a n : Int32) (M : hz_M) : f_X1_refusal 1 a n M = hz_ct (f_X9_reason a (0) M) fun r M1 => if r = 0 then some (0, M1) else some (-2, M1) := by
  simp only [f_X1_refusal, f_X1_deedOf, show hz_nn (1 : Int32) = true from by decide, show hz_eF 0 (1 : Int32) = 0 from by decide, show hz_in (0 : Int32) 11 = true from by decide, show hz_sw.getD (Int32.toNatClampNeg (0 : Int32)) 0 = (10 : Int32) from by decide, hy_e10_1, hy_e10_2, hy_e10_3, hy_e10_4, hy_e10_5, hy_e10_6, hy_e10_7, hy_e10_8, hy_e10_9, hy_gt, hy_lt', if_true, if_false, hy_cts]
theorem cP_1 (a n : Int32) (M : hz_M) : f_X1_perform 1 a n M = f_X1_letIn a M := by
  simp only [f_X1_perform, show hz_nn (1 : Int32) = true from by decide, show hz_eF 0 (1 : Int32) = 0 from by decide, show hz_in (0 : Int32) 11 = true from by decide, show hz_sw.getD (Int32.toNatClampNeg (0 : Int32)) 0 = (10 : Int32) from by decide, hy_e10_1, hy_e10_2, hy_e10_3, hy_e10_4, hy_e10_5, hy_e10_6, hy_e10_7, hy_e10_8, hy_e10_9, hy_gt, hy_lt', if_true, if_false]
  cases f_X1_letIn a M <;> rfl
theorem cR_2 (a n : Int32) (M : hz_M) : f_X1_refusal 2 a n M = hz_ct (f_X9_reason a (10 + n) M) fun r M1 => if r = 0 then some (0, M1) else some (-2, M1) := by
  simp only [f_X1_refusal, f_X1_deedOf, show hz_nn (2 : Int32) = true from by decide, show hz_eF 0 (2 : Int32) = 1 from by decide, show hz_in (1 : Int32) 11 = true from by decide, show hz_sw.getD (Int32.toNatClampNeg (1 : Int32)) 0 = (6 : Int32) from by decide, hy_e6_1, hy_e6_2, hy_e6_3, hy_e6_4, hy_e6_5, hy_e6_7, hy_e6_8, hy_e6_9, hy_e6_10, hy_gt, hy_lt', if_true, if_false, hy_cts]
theorem cP_2 (a n : Int32) (M : hz_M) : f_X1_perform 2 a n M = f_X1_seat a n M := by
  simp only [f_X1_perform, show hz_nn (2 : Int32) = true from by decide, show hz_eF 0 (2 : Int32) = 1 from by decide, show hz_in (1 : Int32) 11 = true from by decide, show hz_sw.getD (Int32.toNatClampNeg (1 : Int32)) 0 = (6 : Int32) from by decide, hy_e6_1, hy_e6_2, hy_e6_3, hy_e6_4, hy_e6_5, hy_e6_7, hy_e6_8, hy_e6_9, hy_e6_10, hy_gt, hy_lt', if_true, if_false]
  cases f_X1_seat a n M <;> rfl
theorem cR_3 (a n : Int32) (M : hz_M) : f_X1_refusal 3 a n M = (hz_gd (hz_in a 16) <| if (M 13 (Int32.toNatClampNeg a)) ≤ 0 then some (-3, M) else some (0, M)) := by
  simp only [f_X1_refusal, show hz_nn (3 : Int32) = true from by decide, show hz_eF 0 (3 : Int32) = 2 from by decide, show hz_in (2 : Int32) 11 = true from by decide, show hz_sw.getD (Int32.toNatClampNeg (2 : Int32)) 0 = (1 : Int32) from by decide, hy_e1_2, hy_e1_3, hy_e1_4, hy_e1_5, hy_e1_6, hy_e1_7, hy_e1_8, hy_e1_9, hy_e1_10, hy_gt, hy_lt', if_true, if_false]
theorem cP_3 (a n : Int32) (M : hz_M) : f_X1_perform 3 a n M = f_X1_seatInHall a M := by
  simp only [f_X1_perform, show hz_nn (3 : Int32) = true from by decide, show hz_eF 0 (3 : Int32) = 2 from by decide, show hz_in (2 : Int32) 11 = true from by decide, show hz_sw.getD (Int32.toNatClampNeg (2 : Int32)) 0 = (1 : Int32) from by decide, hy_e1_2, hy_e1_3, hy_e1_4, hy_e1_5, hy_e1_6, hy_e1_7, hy_e1_8, hy_e1_9, hy_e1_10, hy_gt, hy_lt', if_true, if_false]
  cases f_X1_seatInHall a M <;> rfl
theorem cR_4 (a n : Int32) (M : hz_M) : f_X1_refusal 4 a n M = hz_ct (f_X9_reason a (20 + n) M) fun r M1 => if r = 0 then some (0, M1) else some (-2, M1) := by
  simp only [f_X1_refusal, f_X1_deedOf, show hz_nn (4 : Int32) = true from by decide, show hz_eF 0 (4 : Int32) = 3 from by decide, show hz_in (3 : Int32) 11 = true from by decide, show hz_sw.getD (Int32.toNatClampNeg (3 : Int32)) 0 = (7 : Int32) from by decide, hy_e7_1, hy_e7_2, hy_e7_3, hy_e7_4, hy_e7_5, hy_e7_6, hy_e7_8, hy_e7_9, hy_e7_10, hy_gt, hy_lt', if_true, if_false, hy_cts]
theorem cP_4 (a n : Int32) (M : hz_M) : f_X1_perform 4 a n M = f_X1_hangUp a n M := by
  simp only [f_X1_perform, show hz_nn (4 : Int32) = true from by decide, show hz_eF 0 (4 : Int32) = 3 from by decide, show hz_in (3 : Int32) 11 = true from by decide, show hz_sw.getD (Int32.toNatClampNeg (3 : Int32)) 0 = (7 : Int32) from by decide, hy_e7_1, hy_e7_2, hy_e7_3, hy_e7_4, hy_e7_5, hy_e7_6, hy_e7_8, hy_e7_9, hy_e7_10, hy_gt, hy_lt', if_true, if_false]
  cases f_X1_hangUp a n M <;> rfl
theorem cR_5 (a n : Int32) (M : hz_M) : f_X1_refusal 5 a n M = hz_ct (f_X9_reason a (40 + n) M) fun r M1 => if r = 0 then some (0, M1) else some (-2, M1) := by
  simp only [f_X1_refusal, f_X1_deedOf, show hz_nn (5 : Int32) = true from by decide, show hz_eF 0 (5 : Int32) = 4 from by decide, show hz_in (4 : Int32) 11 = true from by decide, show hz_sw.getD (Int32.toNatClampNeg (4 : Int32)) 0 = (8 : Int32) from by decide, hy_e8_1, hy_e8_2, hy_e8_3, hy_e8_4, hy_e8_5, hy_e8_6, hy_e8_7, hy_e8_9, hy_e8_10, hy_gt, hy_lt', if_true, if_false, hy_cts]
theorem cP_5 (a n : Int32) (M : hz_M) : f_X1_perform 5 a n M = f_X1_takeDown a n M := by
  simp only [f_X1_perform, show hz_nn (5 : Int32) = true from by decide, show hz_eF 0 (5 : Int32) = 4 from by decide, show hz_in (4 : Int32) 11 = true from by decide, show hz_sw.getD (Int32.toNatClampNeg (4 : Int32)) 0 = (8 : Int32) from by decide, hy_e8_1, hy_e8_2, hy_e8_3, hy_e8_4, hy_e8_5, hy_e8_6, hy_e8_7, hy_e8_9, hy_e8_10, hy_gt, hy_lt', if_true, if_false]
  cases f_X1_takeDown a n M <;> rfl
theorem cR_6 (a n : Int32) (M : hz_M) : f_X1_refusal 6 a n M = hz_ct (f_X9_reason a (1) M) fun r M1 => if r = 0 then some (0, M1) else some (-2, M1) := by
  simp only [f_X1_refusal, f_X1_deedOf, show hz_nn (6 : Int32) = true from by decide, show hz_eF 0 (6 : Int32) = 5 from by decide, show hz_in (5 : Int32) 11 = true from by decide, show hz_sw.getD (Int32.toNatClampNeg (5 : Int32)) 0 = (9 : Int32) from by decide, hy_e9_1, hy_e9_2, hy_e9_3, hy_e9_4, hy_e9_5, hy_e9_6, hy_e9_7, hy_e9_8, hy_e9_10, hy_gt, hy_lt', if_true, if_false, hy_cts]
theorem cP_6 (a n : Int32) (M : hz_M) : f_X1_perform 6 a n M = f_X1_letGo a M := by
  simp only [f_X1_perform, show hz_nn (6 : Int32) = true from by decide, show hz_eF 0 (6 : Int32) = 5 from by decide, show hz_in (5 : Int32) 11 = true from by decide, show hz_sw.getD (Int32.toNatClampNeg (5 : Int32)) 0 = (9 : Int32) from by decide, hy_e9_1, hy_e9_2, hy_e9_3, hy_e9_4, hy_e9_5, hy_e9_6, hy_e9_7, hy_e9_8, hy_e9_10, hy_gt, hy_lt', if_true, if_false]
  cases f_X1_letGo a M <;> rfl
theorem cR_7 (a n : Int32) (M : hz_M) : f_X1_refusal 7 a n M = (hz_gd (hz_in a 16) <| if (M 13 (Int32.toNatClampNeg a)) = -1 then some (-4, M) else some (0, M)) := by
  simp only [f_X1_refusal, show hz_nn (7 : Int32) = true from by decide, show hz_eF 0 (7 : Int32) = 6 from by decide, show hz_in (6 : Int32) 11 = true from by decide, show hz_sw.getD (Int32.toNatClampNeg (6 : Int32)) 0 = (2 : Int32) from by decide, hy_e2_1, hy_e2_3, hy_e2_4, hy_e2_5, hy_e2_6, hy_e2_7, hy_e2_8, hy_e2_9, hy_e2_10, hy_gt, hy_lt', if_true, if_false]
theorem cP_7 (a n : Int32) (M : hz_M) : f_X1_perform 7 a n M = f_X1_hear a M := by
  simp only [f_X1_perform, show hz_nn (7 : Int32) = true from by decide, show hz_eF 0 (7 : Int32) = 6 from by decide, show hz_in (6 : Int32) 11 = true from by decide, show hz_sw.getD (Int32.toNatClampNeg (6 : Int32)) 0 = (2 : Int32) from by decide, hy_e2_1, hy_e2_3, hy_e2_4, hy_e2_5, hy_e2_6, hy_e2_7, hy_e2_8, hy_e2_9, hy_e2_10, hy_gt, hy_lt', if_true, if_false]
  cases f_X1_hear a M <;> rfl
theorem cR_8 (a n : Int32) (M : hz_M) : f_X1_refusal 8 a n M = (some (0, M)) := by
  simp only [f_X1_refusal, show hz_nn (8 : Int32) = true from by decide, show hz_eF 0 (8 : Int32) = 7 from by decide, show hz_in (7 : Int32) 11 = true from by decide, show hz_sw.getD (Int32.toNatClampNeg (7 : Int32)) 0 = (4 : Int32) from by decide, hy_e4_1, hy_e4_2, hy_e4_3, hy_e4_5, hy_e4_6, hy_e4_7, hy_e4_8, hy_e4_9, hy_e4_10, hy_gt, hy_lt', if_true, if_false]
theorem cP_8 (a n : Int32) (M : hz_M) : f_X1_perform 8 a n M = f_X1_washBasket M := by
  simp only [f_X1_perform, show hz_nn (8 : Int32) = true from by decide, show hz_eF 0 (8 : Int32) = 7 from by decide, show hz_in (7 : Int32) 11 = true from by decide, show hz_sw.getD (Int32.toNatClampNeg (7 : Int32)) 0 = (4 : Int32) from by decide, hy_e4_1, hy_e4_2, hy_e4_3, hy_e4_5, hy_e4_6, hy_e4_7, hy_e4_8, hy_e4_9, hy_e4_10, hy_gt, hy_lt', if_true, if_false]
  cases f_X1_washBasket M <;> rfl
theorem cR_9 (a n : Int32) (M : hz_M) : f_X1_refusal 9 a n M = (some (0, M)) := by
  simp only [f_X1_refusal, show hz_nn (9 : Int32) = true from by decide, show hz_eF 0 (9 : Int32) = 8 from by decide, show hz_in (8 : Int32) 11 = true from by decide, show hz_sw.getD (Int32.toNatClampNeg (8 : Int32)) 0 = (5 : Int32) from by decide, hy_e5_1, hy_e5_2, hy_e5_3, hy_e5_4, hy_e5_6, hy_e5_7, hy_e5_8, hy_e5_9, hy_e5_10, hy_gt, hy_lt', if_true, if_false]
theorem cP_9 (a n : Int32) (M : hz_M) : f_X1_perform 9 a n M = f_X1_turn a n M := by
  simp only [f_X1_perform, show hz_nn (9 : Int32) = true from by decide, show hz_eF 0 (9 : Int32) = 8 from by decide, show hz_in (8 : Int32) 11 = true from by decide, show hz_sw.getD (Int32.toNatClampNeg (8 : Int32)) 0 = (5 : Int32) from by decide, hy_e5_1, hy_e5_2, hy_e5_3, hy_e5_4, hy_e5_6, hy_e5_7, hy_e5_8, hy_e5_9, hy_e5_10, hy_gt, hy_lt', if_true, if_false]
  cases f_X1_turn a n M <;> rfl
theorem cR_10 (a n : Int32) (M : hz_M) : f_X1_refusal 10 a n M = (if (9999 : Int32) < ((M 11 14) + n) then some (-5, M) else some (0, M)) := by
  simp only [f_X1_refusal, show hz_nn (10 : Int32) = true from by decide, show hz_eF 0 (10 : Int32) = 9 from by decide, show hz_in (9 : Int32) 11 = true from by decide, show hz_sw.getD (Int32.toNatClampNeg (9 : Int32)) 0 = (3 : Int32) from by decide, hy_e3_1, hy_e3_2, hy_e3_4, hy_e3_5, hy_e3_6, hy_e3_7, hy_e3_8, hy_e3_9, hy_e3_10, hy_gt, hy_lt', if_true, if_false]
theorem cP_10 (a n : Int32) (M : hz_M) : f_X1_perform 10 a n M = f_X7_pass n M := by
  simp only [f_X1_perform, show hz_nn (10 : Int32) = true from by decide, show hz_eF 0 (10 : Int32) = 9 from by decide, show hz_in (9 : Int32) 11 = true from by decide, show hz_sw.getD (Int32.toNatClampNeg (9 : Int32)) 0 = (3 : Int32) from by decide, hy_e3_1, hy_e3_2, hy_e3_4, hy_e3_5, hy_e3_6, hy_e3_7, hy_e3_8, hy_e3_9, hy_e3_10, hy_gt, hy_lt', if_true, if_false]
  cases f_X7_pass n M <;> rfl

theorem r_refuse (a : Int32) (M : hz_M) : f_X11_refuses a M = some (a, hz_set M 178 7 (M 178 7 + 1)) := by simp only [f_X11_refuses, hy_lm]
theorem nI_nn (n : Nat) (h : n < 2 ^ 31) : (0 : Int32) ≤ nI n := hy_nn h
theorem op_enter {M0 : hz_M} {q : Nat → Int32} {g : Nat} (n : Int32) (W : hy_W M0 q) (T : hy_T q) (hg : g < gz q) : opair (f_X1_refusal 1 (nI g) n) (f_X1_perform 1 (nI g) n) (f_X11_entering (nI g)) q := by
  have hZ := W.1.1
  have hz := hZ
  obtain ⟨⟨z1, z2⟩, ⟨z3, z4, z5⟩, ⟨z6, z7, z8⟩, ⟨z9, z10⟩, ⟨z11, z12, z13⟩, ⟨z14, z15, z16⟩⟩ := hz
  by_cases h0 : nEnt q g = 0
  · have h0' := h0
    unfold nEnt at h0'
    have e1 : q (25 + 8 * g + 2) = -1 := by
      by_cases e : q (25 + 8 * g + 2) = -1
      · exact e
      · rw [if_neg e] at h0'; exact absurd h0' (by decide)
    rw [if_pos e1] at h0'
    have e2 : ¬ q (25 + 8 * g + 7) = q 8 / 600 := by intro e; rw [if_pos e] at h0'; exact absurd h0' (by decide)
    rw [if_neg e2] at h0'
    have e3 : ¬ frL q = -1 := by intro e; rw [if_pos e] at h0'; exact absurd h0' (by decide)
    rw [if_neg e3] at h0'
    have e4 : ¬ dry q = -1 := by intro e; rw [if_pos e] at h0'; exact absurd h0' (by decide)
    obtain ⟨l, hl, hfl, hkl⟩ : ∃ l, l < lz q ∧ frL q = nI l ∧ kpr q l = -1 := by rcases frL_al (q := q) with e | e; exact absurd e e3; exact e
    obtain ⟨t, ht, hd, p0, hp0, hpt⟩ : ∃ t, t < tz q ∧ dry q = nI t ∧ ∃ p, p < pz q ∧ q (153 + 2 * t + 1) = nI p := by
      rcases dry_on hZ (pz q) 0 (-1) (by omega) (Or.inl rfl) with e | e
      · exact absurd e e4
      · exact e
    refine Or.inr ⟨fun M WM => ?_, nI l, (hy_st (hy_st (hy_st (hy_st (hy_st (hy_st q (25 + 8 * g + 3) (nI l)) (25 + 8 * g + 2) (nI 0)) (153 + 2 * t + 1) (-1)) (25 + 8 * g + 4) (nI t)) (25 + 8 * g + 5) (nI 0)) (12 + 0) (q 12 + 1)), hy_nn (by omega), T_st (by simp (disch := omega) only [hy_so]) (by simp (disch := omega) only [hy_so]) T, fun M WM => ?_, fun Mr Mr1 a1 a2 a3 => ?_⟩
    · rw [cR_1, c_rsn WM.1 WM.2.1 hg (Or.inl rfl), hy_cts, show rsn q g 0 = nEnt q g from rfl, h0, if_pos rfl]
    · rw [cP_1]
      exact o_letIn WM hg hl hfl hkl hd ht hp0 hpt e1
    · refine ⟨hy_row Mr1 179 _, ?_, hy_rs _ _ _, fun a h _ => hy_ro _ _ h⟩
      simp (disch := omega) only [f_X11_entering, r_nEnt a1 hZ hg, h0, if_true, a2, hy_cts, r_dry a3 hZ, r_frL a3 hZ, hfl, hd, r_puts3, r_puts4, r_putT1, r_puts2, r_puts5, r_counts0, r_of3, hy_rs, hy_rr, a3, hy_so, hy_ss]
      congr 3
      funext k
      by_cases a10 : k = 25 + 8 * g + 3
      · subst a10; simp (disch := omega) only [hy_so, hy_ss] <;> rfl
      by_cases a11 : k = 25 + 8 * g + 2
      · subst a11; simp (disch := omega) only [hy_so, hy_ss] <;> rfl
      by_cases a12 : k = 153 + 2 * t + 1
      · subst a12; simp (disch := omega) only [hy_so, hy_ss] <;> rfl
      by_cases a13 : k = 25 + 8 * g + 4
      · subst a13; simp (disch := omega) only [hy_so, hy_ss] <;> rfl
      by_cases a14 : k = 25 + 8 * g + 5
      · subst a14; simp (disch := omega) only [hy_so, hy_ss] <;> rfl
      by_cases a15 : k = 12 + 0
      · subst a15; simp (disch := omega) only [hy_so, hy_ss] <;> rfl
      simp (disch := omega) only [hy_so, hy_ss] <;> rfl
  · refine Or.inl ⟨-2, by decide, fun M WM => ?_, fun Mr a1 => ?_⟩
    · rw [cR_1, c_rsn WM.1 WM.2.1 hg (Or.inl rfl), hy_cts, show rsn q g 0 = nEnt q g from rfl, if_neg h0]
    · simp only [f_X11_entering, r_nEnt a1 hZ hg, hy_cts, h0, if_false, r_refuse]
theorem op_sit {M0 : hz_M} {q : Nat → Int32} {g s : Nat} (W : hy_W M0 q) (T : hy_T q) (hg : g < gz q) (h1 : 1 ≤ s) (hs : s ≤ sz q) : opair (f_X1_refusal 2 (nI g) (nI s)) (f_X1_perform 2 (nI g) (nI s)) (f_X11_sitting (nI g) (nI s)) q := by
  have hZ := W.1.1
  have hz := hZ
  obtain ⟨⟨z1, z2⟩, ⟨z3, z4, z5⟩, ⟨z6, z7, z8⟩, ⟨z9, z10⟩, ⟨z11, z12, z13⟩, ⟨z14, z15, z16⟩⟩ := hz
  have hdd : deed q (10 + nI s) := Or.inr (Or.inr (Or.inl ⟨s, h1, hs, hy_add 10 s⟩))
  have hrs : rsn q g (10 + nI s) = nSit q g (nI s) := by rw [show (10 : Int32) + nI s = nI (10 + s) from hy_add 10 s]; exact rsn_sit q g (by omega) h1
  by_cases h0 : nSit q g (nI s) = 0
  · have e1 : q (25 + 8 * g + 2) ≠ -1 := by
      intro e; unfold nSit at h0; rw [if_pos e] at h0; exact absurd h0 (by decide)
    obtain ⟨k, hk, hh⟩ := W.2.1.2.2.2.2.2.2.2.2.2.2.2.2.2.2.1
    refine Or.inr ⟨fun M WM => ?_, q 9 + 6 * nI s, hy_st q (25 + 8 * g + 2) (nI s), ?_, T_st (by simp (disch := omega) only [hy_so]) (by simp (disch := omega) only [hy_so]) T, fun M WM => ?_, fun Mr Mr1 a1 a2 a3 => ?_⟩
    · rw [cR_2, c_rsn WM.1 WM.2.1 hg hdd, hy_cts, hrs, h0, if_pos rfl]
    · rw [hh, show (6 : Int32) = nI 6 from rfl, hy_mul, hy_add]; exact hy_nn (by omega)
    · rw [cP_2]; exact o_seat WM hg hs e1
    · refine ⟨hy_row Mr1 179 _, ?_, hy_rs _ _ _, fun a h _ => hy_ro _ _ h⟩
      simp (disch := omega) only [f_X11_sitting, r_nSit a1 hZ hg, h0, if_true, a2, hy_cts, r_puts2, f_X11_warmthOf, hy_rs, a3, hy_so, hy_k9]
  · refine Or.inl ⟨-2, by decide, fun M WM => ?_, fun Mr a1 => ?_⟩
    · rw [cR_2, c_rsn WM.1 WM.2.1 hg hdd, hy_cts, hrs, if_neg h0]
    · simp only [f_X11_sitting, r_nSit a1 hZ hg, hy_cts, h0, if_false, r_refuse]
theorem op_hall {M0 : hz_M} {q : Nat → Int32} {g : Nat} (n : Int32) (W : hy_W M0 q) (T : hy_T q) (hg : g < gz q) : opair (f_X1_refusal 3 (nI g) n) (f_X1_perform 3 (nI g) n) (f_X11_halling (nI g)) q := by
  have hZ := W.1.1
  have hz := hZ
  obtain ⟨⟨z1, z2⟩, ⟨z3, z4, z5⟩, ⟨z6, z7, z8⟩, ⟨z9, z10⟩, ⟨z11, z12, z13⟩, ⟨z14, z15, z16⟩⟩ := hz
  have hat := W.2.1.2.1 g hg
  by_cases h0 : q (25 + 8 * g + 2) ≤ 0
  · refine Or.inl ⟨-3, by decide, fun M WM => ?_, fun Mr a1 => ?_⟩
    · have e := (c_rows WM.1.2.2).2.2.2.1 g hg
      simp (disch := omega) only [cR_3, hy_in, hy_gt, hy_c, e, h0, if_true]
    · have e : ¬ 0 < q (25 + 8 * g + 2) := by grind
      simp (disch := omega) only [f_X11_halling, r_of2, a1, hy_cts, e, if_false, r_refuse]
  · have e1 : q (25 + 8 * g + 2) ≠ -1 := by intro e; rw [e] at h0; exact h0 (by decide)
    refine Or.inr ⟨fun M WM => ?_, q (25 + 8 * g + 2), hy_st q (25 + 8 * g + 2) (nI 0), by grind, T_st (by simp (disch := omega) only [hy_so]) (by simp (disch := omega) only [hy_so]) T, fun M WM => ?_, fun Mr Mr1 a1 a2 a3 => ?_⟩
    · have e := (c_rows WM.1.2.2).2.2.2.1 g hg
      simp (disch := omega) only [cR_3, hy_in, hy_gt, hy_c, e, h0, if_false]
    · rw [cP_3]; exact o_hall WM hg e1
    · refine ⟨hy_row Mr1 179 _, ?_, hy_rs _ _ _, fun a h _ => hy_ro _ _ h⟩
      have e : 0 < q (25 + 8 * g + 2) := by grind
      simp (disch := omega) only [f_X11_halling, r_of2, a1, hy_cts, e, if_true, a2, r_puts2, a3]
      rfl

theorem op_hang {M0 : hz_M} {q : Nat → Int32} {g p : Nat} (W : hy_W M0 q) (T : hy_T q) (hg : g < gz q) (hp : p < pz q) : opair (f_X1_refusal 4 (nI g) (nI p)) (f_X1_perform 4 (nI g) (nI p)) (f_X11_hanging (nI g) (nI p)) q := by
  have hZ := W.1.1
  have hz := hZ
  obtain ⟨⟨z1, z2⟩, ⟨z3, z4, z5⟩, ⟨z6, z7, z8⟩, ⟨z9, z10⟩, ⟨z11, z12, z13⟩, ⟨z14, z15, z16⟩⟩ := hz
  have hdd : deed q (20 + nI p) := Or.inr (Or.inr (Or.inr (Or.inl ⟨p, hp, hy_add 20 p⟩)))
  have hrs : rsn q g (20 + nI p) = nHan q g p := by rw [show (20 : Int32) + nI p = nI (20 + p) from hy_add 20 p]; exact rsn_han q g (by omega)
  by_cases h0 : nHan q g p = 0
  · have h0' := h0
    unfold nHan at h0'
    have e1 : nLea q g = 0 := by
      by_cases e : nLea q g = 0
      · exact e
      · rw [if_neg e] at h0'; exact h0'
    rw [if_pos e1] at h0'
    have e2 : ¬ q (25 + 8 * g + 4) = -1 := by intro e; rw [if_pos e] at h0'; exact absurd h0' (by decide)
    rw [if_neg e2] at h0'
    have e3 : tw q p = -1 := by
      by_cases e : tw q p = -1
      · exact e
      · rw [if_neg e] at h0'; exact absurd h0' (by decide)
    obtain ⟨t, ht, hh⟩ : ∃ k, k < tz q ∧ q (25 + 8 * g + 4) = nI k := by
      rcases W.2.1.2.2.2.1 g hg with e | e
      · exact absurd e e2
      · exact e
    refine Or.inr ⟨fun M WM => ?_, nI t, (hy_st (hy_st q (153 + 2 * t + 1) (nI p)) (25 + 8 * g + 4) (-1)), hy_nn (by omega), T_st (by simp (disch := omega) only [hy_so]) (by simp (disch := omega) only [hy_so]) T, fun M WM => ?_, fun Mr Mr1 a1 a2 a3 => ?_⟩
    · rw [cR_4, c_rsn WM.1 WM.2.1 hg hdd, hy_cts, hrs, h0, if_pos rfl]
    · rw [cP_4]; exact o_hang WM hg ht hp hh e3
    · refine ⟨hy_row Mr1 179 _, ?_, hy_rs _ _ _, fun a h _ => hy_ro _ _ h⟩
      simp (disch := omega) only [f_X11_hanging, r_nHan a1 hZ hg, h0, if_true, a2, hy_cts, r_of4, a3, hh, r_putT1, r_puts4, hy_rs, hy_rr]
  · refine Or.inl ⟨-2, by decide, fun M WM => ?_, fun Mr a1 => ?_⟩
    · rw [cR_4, c_rsn WM.1 WM.2.1 hg hdd, hy_cts, hrs, if_neg h0]
    · simp only [f_X11_hanging, r_nHan a1 hZ hg, hy_cts, h0, if_false, r_refuse]
theorem op_take {M0 : hz_M} {q : Nat → Int32} {g p : Nat} (W : hy_W M0 q) (T : hy_T q) (hg : g < gz q) (hp : p < pz q) : opair (f_X1_refusal 5 (nI g) (nI p)) (f_X1_perform 5 (nI g) (nI p)) (f_X11_taking (nI g) (nI p)) q := by
  have hZ := W.1.1
  have hz := hZ
  obtain ⟨⟨z1, z2⟩, ⟨z3, z4, z5⟩, ⟨z6, z7, z8⟩, ⟨z9, z10⟩, ⟨z11, z12, z13⟩, ⟨z14, z15, z16⟩⟩ := hz
  have hdd : deed q (40 + nI p) := Or.inr (Or.inr (Or.inr (Or.inr ⟨p, hp, hy_add 40 p⟩)))
  have hrs : rsn q g (40 + nI p) = nTak q g p := by rw [show (40 : Int32) + nI p = nI (40 + p) from hy_add 40 p]; exact rsn_tak q g (by omega)
  by_cases h0 : nTak q g p = 0
  · have h0' := h0
    unfold nTak at h0'
    have e1 : nLea q g = 0 := by
      by_cases e : nLea q g = 0
      · exact e
      · rw [if_neg e] at h0'; exact h0'
    have e0 : q (25 + 8 * g + 2) ≠ -1 := by
      intro e; unfold nLea at e1; rw [if_pos e] at e1; exact absurd e1 (by decide)
    rw [if_pos e1] at h0'
    have e2 : q (25 + 8 * g + 4) = -1 := by
      by_cases e : q (25 + 8 * g + 4) = -1
      · exact e
      · rw [if_neg e] at h0'; exact absurd h0' (by decide)
    rw [if_pos e2] at h0'
    have e3 : ¬ tw q p = -1 := by intro e; rw [if_pos e] at h0'; exact absurd h0' (by decide)
    obtain ⟨t, ht, htw, hpt⟩ : ∃ k, k < tz q ∧ tw q p = nI k ∧ q (153 + 2 * k + 1) = nI p := by
      rcases tw_al hZ p with e | e
      · exact absurd e e3
      · exact e
    refine Or.inr ⟨fun M WM => ?_, nI t, (hy_st (hy_st q (153 + 2 * t + 1) (-1)) (25 + 8 * g + 4) (nI t)), hy_nn (by omega), T_st (by simp (disch := omega) only [hy_so]) (by simp (disch := omega) only [hy_so]) T, fun M WM => ?_, fun Mr Mr1 a1 a2 a3 => ?_⟩
    · rw [cR_5, c_rsn WM.1 WM.2.1 hg hdd, hy_cts, hrs, h0, if_pos rfl]
    · rw [cP_5]; exact o_take WM hg ht hp hpt htw e2 e0
    · refine ⟨hy_row Mr1 179 _, ?_, hy_rs _ _ _, fun a h _ => hy_ro _ _ h⟩
      simp (disch := omega) only [f_X11_taking, r_nTak a1 hZ hg, h0, if_true, a2, hy_cts, r_tw a3 hZ, htw, a3, r_putT1, r_puts4, hy_rs, hy_rr]
  · refine Or.inl ⟨-2, by decide, fun M WM => ?_, fun Mr a1 => ?_⟩
    · rw [cR_5, c_rsn WM.1 WM.2.1 hg hdd, hy_cts, hrs, if_neg h0]
    · simp only [f_X11_taking, r_nTak a1 hZ hg, hy_cts, h0, if_false, r_refuse]
theorem r_goes {M : hz_M} {q : Nat → Int32} (hq : M 179 = q) {g : Nat} (hg : g < 16) : f_X11_goesOut (nI g) M = some (q (25 + 8 * g + 3), hy_row M 179 (hy_st (hy_st (hy_st (hy_st q (25 + 8 * g + 3) (-1)) (25 + 8 * g + 4) (-1)) (25 + 8 * g + 2) (-1)) (12 + 1) (q 13 + 1))) := by
  simp (disch := omega) only [f_X11_goesOut, r_of3, hq, hy_cts, r_puts3, r_puts4, r_puts2, r_counts1, hy_rs, hy_rr, hy_so]
theorem op_leave {M0 : hz_M} {q : Nat → Int32} {g : Nat} (n : Int32) (W : hy_W M0 q) (T : hy_T q) (hg : g < gz q) : opair (f_X1_refusal 6 (nI g) n) (f_X1_perform 6 (nI g) n) (f_X11_leaving (nI g)) q := by
  have hZ := W.1.1
  have hz := hZ
  obtain ⟨⟨z1, z2⟩, ⟨z3, z4, z5⟩, ⟨z6, z7, z8⟩, ⟨z9, z10⟩, ⟨z11, z12, z13⟩, ⟨z14, z15, z16⟩⟩ := hz
  have hdd : deed q 1 := Or.inr (Or.inl rfl)
  have hrs : rsn q g 1 = nLea q g := by unfold rsn; simp only [hy_f10, if_false, if_true]
  by_cases h0 : nLea q g = 0
  · have e0 : q (25 + 8 * g + 2) ≠ -1 := by
      intro e; unfold nLea at h0; rw [if_pos e] at h0; exact absurd h0 (by decide)
    obtain ⟨qa, qat, ql, qh, qs, qw, qwt, qpg, jl, jh, jp, qo, qol, qhp, qht, qrm, qgn, qqt, qop⟩ := W.2.1
    obtain ⟨l, hl, hlg⟩ : ∃ k, k < lz q ∧ q (25 + 8 * g + 3) = nI k := by
      rcases ql g hg with e | e
      · exact absurd (qol g hg e) e0
      · exact e
    refine Or.inr ⟨fun M WM => ?_, nI l, (hy_st (hy_st (hy_st (hy_st q (25 + 8 * g + 4) (-1)) (25 + 8 * g + 3) (-1)) (25 + 8 * g + 2) (-1)) (12 + 1) (q 13 + 1)), hy_nn (by omega), T_st (by simp (disch := omega) only [hy_so]) (by simp (disch := omega) only [hy_so]) T, fun M WM => ?_, fun Mr Mr1 a1 a2 a3 => ?_⟩
    · rw [cR_6, c_rsn WM.1 WM.2.1 hg hdd, hy_cts, hrs, h0, if_pos rfl]
    · rw [cP_6]
      rcases qh g hg with e | ⟨t, ht, e⟩
      · exact o_goN WM hg hl e hlg
      · exact o_goT WM hg ht hl e hlg
    · refine ⟨hy_row Mr1 179 _, ?_, hy_rs _ _ _, fun a h _ => hy_ro _ _ h⟩
      simp (disch := omega) only [f_X11_leaving, r_nLea a1 hZ hg, h0, if_true, a2, hy_cts, r_goes a3, hlg]
      congr 3
      funext k
      by_cases a10 : k = 25 + 8 * g + 4
      · subst a10; simp (disch := omega) only [hy_so, hy_ss] <;> rfl
      by_cases a11 : k = 25 + 8 * g + 3
      · subst a11; simp (disch := omega) only [hy_so, hy_ss] <;> rfl
      by_cases a12 : k = 25 + 8 * g + 2
      · subst a12; simp (disch := omega) only [hy_so, hy_ss] <;> rfl
      by_cases a13 : k = 12 + 1
      · subst a13; simp (disch := omega) only [hy_so, hy_ss] <;> rfl
      simp (disch := omega) only [hy_so, hy_ss] <;> rfl
  · refine Or.inl ⟨-2, by decide, fun M WM => ?_, fun Mr a1 => ?_⟩
    · rw [cR_6, c_rsn WM.1 WM.2.1 hg hdd, hy_cts, hrs, if_neg h0]
    · simp only [f_X11_leaving, r_nLea a1 hZ hg, hy_cts, h0, if_false, r_refuse]
theorem op_speak {M0 : hz_M} {q : Nat → Int32} {g : Nat} (n : Int32) (W : hy_W M0 q) (T : hy_T q) (hg : g < gz q) : opair (f_X1_refusal 7 (nI g) n) (f_X1_perform 7 (nI g) n) (f_X11_speaking (nI g)) q := by
  have hZ := W.1.1
  have hz := hZ
  obtain ⟨⟨z1, z2⟩, ⟨z3, z4, z5⟩, ⟨z6, z7, z8⟩, ⟨z9, z10⟩, ⟨z11, z12, z13⟩, ⟨z14, z15, z16⟩⟩ := hz
  obtain ⟨qa, qat, ql, qh, qs, qw, qwt, qpg, jl, jh, jp, qo, qol, qhp, qht, qrm, qgn, qqt, qop⟩ := W.2.1
  by_cases e0 : q (25 + 8 * g + 2) = -1
  · refine Or.inl ⟨-4, by decide, fun M WM => ?_, fun Mr a1 => ?_⟩
    · have e := (c_rows WM.1.2.2).2.2.2.1 g hg
      simp (disch := omega) only [cR_7, hy_in, hy_gt, hy_c, e, e0, if_true]
    · simp (disch := omega) only [f_X11_speaking, r_of2, a1, hy_cts, e0, if_true, r_refuse]
  have hC : ∀ M, hy_W M q → f_X1_refusal 7 (nI g) n M = some (0, M) := fun M WM => by
    have e := (c_rows WM.1.2.2).2.2.2.1 g hg
    simp (disch := omega) only [cR_7, hy_in, hy_gt, hy_c, e, e0, if_false]
  obtain ⟨k, hk, hw⟩ := qw g hg
  by_cases hs : q 10 = -1 ∨ q 10 + q 7 ≤ q 8
  · have es : (if q 10 = -1 then (0 : Int32) else if q 10 + q 7 ≤ q 8 then 0 else 1) = 0 := by
      rcases hs with h | h
      · rw [if_pos h]
      · rw [if_pos h]; split <;> rfl
    refine Or.inr ⟨hC, nI k, q, hy_nn (by omega), T, fun M WM => ⟨M, ?_, fun _ _ => rfl, WM⟩, fun Mr Mr1 a1 a2 a3 => ⟨Mr1, ?_, a3, fun _ _ _ => rfl⟩⟩
    · rw [cP_7, o_mute WM hg hs, hw]
    · simp (disch := omega) only [f_X11_speaking, r_of2, a1, hy_cts, e0, if_false, a2, r_silence a3, es, if_true, r_of6, a3, hw]
  · have h10 : q 10 ≠ -1 := fun e => hs (Or.inl e)
    have h11 : ¬ q 10 + q 7 ≤ q 8 := fun e => hs (Or.inr e)
    by_cases k2 : k ≤ 1
    · refine Or.inr ⟨hC, nI (k + 1), (hy_st (hy_st q (25 + 8 * g + 6) (nI (k + 1))) (12 + 3) (q 15 + 1)), hy_nn (by omega), T_st (by simp (disch := omega) only [hy_so]) (by simp (disch := omega) only [hy_so]) T, fun M WM => ?_, fun Mr Mr1 a1 a2 a3 => ?_⟩
      · rw [cP_7]; exact o_warn WM hg k2 hw h10 h11
      · refine ⟨hy_row Mr1 179 _, ?_, hy_rs _ _ _, fun a h _ => hy_ro _ _ h⟩
        have e4 : ¬ (3 : Int32) ≤ nI (k + 1) := by rw [show (3 : Int32) = nI 3 from rfl, hy_le (by omega) (by omega)]; omega
        simp (disch := omega) only [f_X11_speaking, r_of2, a1, hy_cts, e0, if_false, a2, r_silence a3, h10, h11, hy_f10, r_of6, a3, hw, hy_add1, r_puts6, r_counts3, hy_rs, hy_rr, hy_so, hy_ss, e4]
    · have hk2 : k = 2 := by omega
      subst hk2
      obtain ⟨l, hl, hlg⟩ : ∃ k, k < lz q ∧ q (25 + 8 * g + 3) = nI k := by
        rcases ql g hg with e | e
        · exact absurd (qol g hg e) e0
        · exact e
      refine Or.inr ⟨hC, 3, (hy_st (hy_st (hy_st (hy_st (hy_st (hy_st (hy_st (hy_st q (25 + 8 * g + 4) (-1)) (25 + 8 * g + 3) (-1)) (25 + 8 * g + 2) (-1)) (25 + 8 * g + 6) (nI 0)) (25 + 8 * g + 7) (q 8 / 600)) (12 + 3) (q 15 + 1)) (12 + 1) (q 13 + 1)) (12 + 2) (q 14 + 1)), by decide, T_st (by simp (disch := omega) only [hy_so]) (by simp (disch := omega) only [hy_so]) T, fun M WM => ?_, fun Mr Mr1 a1 a2 a3 => ?_⟩
      · rw [cP_7]
        rcases qh g hg with e | ⟨t, ht, e⟩
        · exact o_hearN WM hg hl e hlg hw h10 h11
        · exact o_hearT WM hg ht hl e hlg hw h10 h11
      · refine ⟨hy_row Mr1 179 _, ?_, hy_rs _ _ _, fun a h _ => hy_ro _ _ h⟩
        have e4 : (3 : Int32) ≤ nI 2 + 1 := by decide
        simp (disch := omega) only [f_X11_speaking, r_of2, a1, hy_cts, e0, if_false, a2, r_silence a3, h10, h11, hy_f10, r_of6, a3, hw, r_puts6, r_counts3, hy_rs, hy_rr, hy_so, hy_ss, e4, if_true, r_goes (M := hy_row Mr1 179 _) (hy_rs _ _ _), f_X11_today, hy_k8, r_puts7, r_counts2]
        congr 3
        funext k
        by_cases a10 : k = 25 + 8 * g + 4
        · subst a10; simp (disch := omega) only [hy_so, hy_ss] <;> rfl
        by_cases a11 : k = 25 + 8 * g + 3
        · subst a11; simp (disch := omega) only [hy_so, hy_ss] <;> rfl
        by_cases a12 : k = 25 + 8 * g + 2
        · subst a12; simp (disch := omega) only [hy_so, hy_ss] <;> rfl
        by_cases a13 : k = 25 + 8 * g + 6
        · subst a13; simp (disch := omega) only [hy_so, hy_ss] <;> rfl
        by_cases a14 : k = 25 + 8 * g + 7
        · subst a14; simp (disch := omega) only [hy_so, hy_ss] <;> rfl
        by_cases a15 : k = 12 + 3
        · subst a15; simp (disch := omega) only [hy_so, hy_ss] <;> rfl
        by_cases a16 : k = 12 + 1
        · subst a16; simp (disch := omega) only [hy_so, hy_ss] <;> rfl
        by_cases a17 : k = 12 + 2
        · subst a17; simp (disch := omega) only [hy_so, hy_ss] <;> rfl
        simp (disch := omega) only [hy_so, hy_ss] <;> rfl
theorem wshN_o : ∀ (k : Nat) (q : Nat → Int32) (i b : Nat), b < 153 → wshN q k i b = q b
  | 0, _, _, _, _ => rfl
  | k + 1, q, i, b, h => by
    unfold wshN
    rw [wshN_o k _ _ _ h]
    unfold wsh; split
    · simp (disch := omega) only [hy_so]
    · rfl
theorem wcn_nn : ∀ (k : Nat) (q : Nat → Int32) (i c : Nat), ∃ d, d ≤ c + k ∧ wcn q k i (nI c) = nI d
  | 0, _, _, c => ⟨c, by omega, rfl⟩
  | k + 1, q, i, c => by
    unfold wcn
    split
    · rw [hy_add1]
      obtain ⟨d, h1, h2⟩ := wcn_nn k (wsh q i) (i + 1) (c + 1)
      exact ⟨d, by omega, h2⟩
    · obtain ⟨d, h1, h2⟩ := wcn_nn k (wsh q i) (i + 1) c
      exact ⟨d, by omega, h2⟩
theorem op_wash {M0 : hz_M} {q : Nat → Int32} (a n : Int32) (W : hy_W M0 q) (T : hy_T q) : opair (f_X1_refusal 8 a n) (f_X1_perform 8 a n) f_X11_washing q := by
  have hZ := W.1.1
  have hz := hZ
  obtain ⟨⟨z1, z2⟩, ⟨z3, z4, z5⟩, ⟨z6, z7, z8⟩, ⟨z9, z10⟩, ⟨z11, z12, z13⟩, ⟨z14, z15, z16⟩⟩ := hz
  obtain ⟨d, hd1, hd2⟩ := wcn_nn (tz q) q 0 0
  have h17 : wshN q (tz q) 0 17 = q 17 := wshN_o _ _ _ _ (by omega)
  refine Or.inr ⟨fun M WM => cR_8 _ _ _, nI d, hy_st (wshN q (tz q) 0) (12 + 5) (q 17 + nI d), hy_nn (by omega), T_st (by rw [hy_so _ _ (by omega)]; exact wshN_o _ _ _ _ (by omega)) (by rw [hy_so _ _ (by omega)]; exact wshN_o _ _ _ _ (by omega)) T, fun M WM => ?_, fun Mr Mr1 a1 a2 a3 => ?_⟩
  · obtain ⟨M1, e1, fr, W1⟩ := c_washL (fun (v1_1 : Int32) (M2 : hz_M) =>
      hz_lm (hz_set M2 24 (Int32.toNatClampNeg (5 : Int32)) ((M2 24 (Int32.toNatClampNeg (5 : Int32))) + v1_1)) fun M3 => some (v1_1, M3)) (tz q) 0 hz_FU 0 M q WM (by omega) (hy_FU (by omega))
    rw [show wcn q (tz q) 0 0 = nI d from hd2] at e1
    have e24 : M1 24 5 = q 17 := by rw [(c_rows W1.1.2.2).2.1 5 (by omega)]; exact h17
    refine ⟨hz_set M1 24 5 (q 17 + nI d), ?_, fun a ha => by rw [hy_seto _ _ _ (by omega), fr a ha], ?_⟩
    · rw [cP_8]
      simp only [f_X1_washBasket, hy_jn]
      rw [show (0 : Int32) = nI 0 from rfl] at e1 ⊢
      rw [e1]
      simp only [hy_lm, hy_k5, e24]
    · exact p_acc (g := 5) W1 (by omega) (fun a h => hy_seto _ _ _ h) (hy_srow _ _ _ _) (fun k c0 => hy_so _ _ c0) (hy_ss _ _ _)
  · have e1 := r_washL (fun (v1_4 : Int32) (M5 : hz_M) => hz_ct (f_X11_counts (5 : Int32) v1_4 M5) fun r6 M7 => some (v1_4, M7)) (tz (Mr1 179)) 0 hz_FU 0 Mr1 (by rw [a3]; exact hZ) (by omega) (by rw [a3]; exact hy_FU (by omega))
    refine ⟨hy_row Mr1 179 _, ?_, hy_rs _ _ _, fun a h _ => hy_ro _ _ h⟩
    simp only [f_X11_washing, a2, hy_cts, hy_jn]
    rw [show (0 : Int32) = nI 0 from rfl] at e1 ⊢
    rw [e1, a3, hd2]
    simp only [r_counts5, hy_rs, hy_rr, hy_cts, h17]
theorem op_valve {M0 : hz_M} {q : Nat → Int32} {g k : Nat} (W : hy_W M0 q) (T : hy_T q) (hg : g < vz q) (hk : k ≤ 9) : opair (f_X1_refusal 9 (nI g) (nI k)) (f_X1_perform 9 (nI g) (nI k)) (f_X11_valving (nI g) (nI k)) q := by
  have hZ := W.1.1
  have hz := hZ
  obtain ⟨⟨z1, z2⟩, ⟨z3, z4, z5⟩, ⟨z6, z7, z8⟩, ⟨z9, z10⟩, ⟨z11, z12, z13⟩, ⟨z14, z15, z16⟩⟩ := hz
  obtain ⟨j, hj, hh⟩ := W.2.1.2.2.2.2.2.2.2.2.2.2.2.2.2.2.2.2.2.2 g (by omega)
  refine Or.inr ⟨fun M WM => cR_9 _ _ _, q (21 + g), hy_st q (21 + g) (nI k), by rw [hh]; exact hy_nn (by omega), T_st (by simp (disch := omega) only [hy_so]) (by simp (disch := omega) only [hy_so]) T, fun M WM => ?_, fun Mr Mr1 a1 a2 a3 => ?_⟩
  · rw [cP_9]; exact o_turn WM hg hk
  · refine ⟨hy_row Mr1 179 _, ?_, hy_rs _ _ _, fun a h _ => hy_ro _ _ h⟩
    simp (disch := omega) only [f_X11_valving, a2, hy_cts, show (21 : Int32) = nI 21 from rfl, hy_add, hy_in, hy_gt, hy_c, a3, hy_lt', hy_lm, hy_set]

