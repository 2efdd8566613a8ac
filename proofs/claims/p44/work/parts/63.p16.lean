theorem T_st {q q' : Nat → Int32} (h8 : q' 8 = q 8) (h10 : q' 10 = q 10) (T : hy_T q) : hy_T q' := by
  unfold hy_T; rw [h8, h10]; exact T
theorem W_fr {M M' : hz_M} {q : Nat → Int32} (h : ∀ a, a = 1 ∨ a = 2 ∨ a = 3 ∨ a = 4 ∨ (11 ≤ a ∧ a ≤ 24) → M' a = M a) (W : hy_W M q) (T : hy_T q) : hy_W M' q := by
  have := Snap_fr (b := 11) (M' := M') (fun a ha => h a (by omega)) (⟨W.1.1, W.1.2.1, W.1.2.2, W.2.1, T, W.2.2⟩ : Snap 11 M q)
  exact ⟨⟨this.1, this.2.1, this.2.2.1⟩, this.2.2.2.1, this.2.2.2.2.2⟩
theorem Txt_fr {M M' : hz_M} (h : ∀ a, a = 9 ∨ a = 10 ∨ a = 186 → M' a = M a) (h6 : M' 178 11 = M 178 11) (S : Txt M) : Txt M' := by
  unfold Txt at *
  rw [h 9 (by omega), h 10 (by omega), h 186 (by omega), h6]; exact S
theorem Rep_fr {M M' : hz_M} (h : ∀ a, a = 176 ∨ a = 177 ∨ a = 191 → M' a = M a) (h6 : M' 178 27 = M 178 27) (S : Rep M) : Rep M' := by
  unfold Rep at *
  rw [h 176 (by omega), h 177 (by omega), h 191 (by omega), h6]; exact S
theorem cR_1 (a n : Int32) (M : hz_M) : f_X1_refusal 1 a n M = hz_ct (f_X9_reason a (0) M) fun r M1 => if r = 0 then some (0, M1) else some (-2, M1) := by
  simp only [f_X1_refusal, f_X1_deedOf, show hz_nn (1 : Int32) = true from by decide, show hz_eF 0 (1 : Int32) = 0 from by decide, show hz_in (0 : Int32) 11 = true from by decide, show hz_sw.getD (Int32.toNatClampNeg (0 : Int32)) 0 = (10 : Int32) from by decide, hy_e10_1, hy_e10_2, hy_e10_3, hy_e10_4, hy_e10_5, hy_e10_6, hy_e10_7, hy_e10_8, hy_e10_9, hy_gt, hy_lt', if_true, if_false, hy_cts]
theorem cP_1 (a n : Int32) (M : hz_M) : f_X1_perform 1 a n M = f_X1_letIn a M := by
  simp only [f_X1_perform, show hz_nn (1 : Int32) = true from by decide, show hz_eF 0 (1 : Int32) = 0 from by decide, show hz_in (0 : Int32) 11 = true from by decide, show hz_sw.getD (Int32.toNatClampNeg (0 : Int32)) 0 = (10 : Int32) from by decide, hy_e10_1, hy_e10_2, hy_e10_3, hy_e10_4, hy_e10_5, hy_e10_6, hy_e10_7, hy_e10_8, hy_e10_9, hy_gt, hy_lt', if_true, if_false]
  cases f_X1_letIn a M <;> rfl
theorem cR_2 (a n : Int32) (M : hz_M) : f_X1_refusal 2 a n M = hz_ct (f_X9_reason a (10 + n) M) fun r M1 => if r = 0 then some (0, M1) else some (-2, M1) := by
  simp only [f_X1_refusal, f_X1_deedOf, show hz_nn (2 : Int32) = true from by decide, show hz_eF 0 (2 : Int32) = 1 from by decide, show hz_in (1 : Int32) 11 = true from by decide, show hz_sw.getD (Int32.toNatClampNeg (1 : Int32)) 0 = (6 : Int32) from by decide, hy_e6_1, hy_e6_2, hy_e6_3, hy_e6_4, hy_e6_5, hy_e6_7, hy_e6_8, hy_e6_9, hy_e6_10, hy_gt, hy_lt', if_true, if_false, hy_cts]
theorem cP_2 (a n : Int32) (M : hz_M) : f_X1_perform 2 a n M = f_X1_seat a n M := by
  simp only [f_X1_perform, show hz_nn (2 : Int32) = true from by decide, show hz_eF 0 (2 : Int32) = 1 from by decide, show hz_in (1 : Int32) 11 = true from by decide, show hz_sw.getD (Int32.toNatClampNeg (1 : Int32)) 0 = (6 : Int32) from by decide, hy_e6_1, hy_e6_2, hy_e6_3, hy_e6_4, hy_e6_5, hy_e6_7, hy_e6_8, hy_e6_9, hy_e6_10, hy_gt, hy_lt', if_true, if_false]
  cases f_X1_seat a n M <;> rfl
theorem cR_3 (a n : Int32) (M : hz_M) : f_X1_refusal 3 a n M = (hz_gd (hz_in a 16) <| if (M 13 (Int32.toNatClampNeg a)) ≤ 0 then some (-3, M) else some (0, M)) := by
  simp only [f_X1_refusal, show hz_nn (3 : Int32) = true from by decide, show hz_eF 0 (3 : Int32) = 2 from by decide, show hz_in (2 : Int32) 11 = true from by decide, show hz_sw.getD (Int32.toNatClampNeg (2 : Int32)) 0 = (1 : Int32) from by decide, hy_e1_2, hy_e1_3, hy_e1_4, hy_e1_5, hy_e1_6, hy_e1_7, hy_e1_8, hy_e1_9, hy_e1_10, hy_gt, hy_lt', if_true, if_false]
theorem cP_3 (a n : Int32) (M : hz_M) : f_X1_perform 3 a n M = f_X1_seatInHall a M := by
  simp only [f_X1_perform, show hz_nn (3 : Int32) = true from by decide, show hz_eF 0 (3 : Int32) = 2 from by decide, show hz_in (2 : Int32) 11 = true from by decide, show hz_sw.getD (Int32.toNatClampNeg (2 : Int32)) 0 = (1 : Int32) from by decide, hy_e1_2, hy_e1_3, hy_e1_4, hy_e1_5, hy_e1_6, hy_e1_7, hy_e1_8, hy_e1_9, hy_e1_10, hy_gt, hy_lt', if_true, if_false]
  cases f_X1_seatInHall a M <;> rfl
theorem cR_4 (a n : Int32) (M : hz_M) : f_X1_refusal 4 a n M = hz_ct (f_X9_reason a (20 + n) M) fun r M1 => if r = 0 then some (0, M1) else some (-2, M1) := by
  simp only [f_X1_refusal, f_X1_deedOf, show hz_nn (4 : Int32) = true from by decide, show hz_eF 0 (4 : Int32) = 3 from by decide, show hz_in (3 : Int32) 11 = true from by decide, show hz_sw.getD (Int32.toNatClampNeg (3 : Int32)) 0 = (7 : Int32) from by decide, hy_e7_1, hy_e7_2, hy_e7_3, hy_e7_4, hy_e7_5, hy_e7_6, hy_e7_8, hy_e7_9, hy_e7_10, hy_gt, hy_lt', if_true, if_false, hy_cts]
theorem cP_4 (a n : Int32) (M : hz_M) : f_X1_perform 4 a n M = f_X1_hangUp a n M := by
  simp only [f_X1_perform, show hz_nn (4 : Int32) = true from by decide, show hz_eF 0 (4 : Int32) = 3 from by decide, show hz_in (3 : Int32) 11 = true from by decide, show hz_sw.getD (Int32.toNatClampNeg (3 : Int32)) 0 = (7 : Int32) from by decide, hy_e7_1, hy_e7_2, hy_e7_3, hy_e7_4, hy_e7_5, hy_e7_6, hy_e7_8, hy_e7_9, hy_e7_10, hy_gt, hy_lt', if_true, if_false]
  cases f_X1_hangUp a n M <;> rfl
theorem cR_5 (a n : Int32) (M : hz_M) : f_X1_refusal 5 a n M = hz_ct (f_X9_reason a (40 + n) M) fun r M1 => if r = 0 then some (0, M1) else some (-2, M1) := by
  simp only [f_X1_refusal, f_X1_deedOf, show hz_nn (5 : Int32) = true from by decide, show hz_eF 0 (5 : Int32) = 4 from by decide, show hz_in (4 : Int32) 11 = true from by decide, show hz_sw.getD (Int32.toNatClampNeg (4 : Int32)) 0 = (8 : Int32) from by decide, hy_e8_1, hy_e8_2, hy_e8_3, hy_e8_4, hy_e8_5, hy_e8_6, hy_e8_7, hy_e8_9, hy_e8_10, hy_gt, hy_lt', if_true, if_false, hy_cts]
theorem cP_5 (a n : Int32) (M : hz_M) : f_X1_perform 5 a n M = f_X1_takeDown a n M := by
  simp only [f_X1_perform, show hz_nn (5 : Int32) = true from by decide, show hz_eF 0 (5 : Int32) = 4 from by decide, show hz_in (4 : Int32) 11 = true from by decide, show hz_sw.getD (Int32.toNatClampNeg (4 : Int32)) 0 = (8 : Int32) from by decide, hy_e8_1, hy_e8_2, hy_e8_3, hy_e8_4, hy_e8_5, hy_e8_6, hy_e8_7, hy_e8_9, hy_e8_10, hy_gt, hy_lt', if_true, if_false]
  cases f_X1_takeDown a n M <;> rfl
theorem cR_6 (a n : Int32) (M : hz_M) : f_X1_refusal 6 a n M = hz_ct (f_X9_reason a (1) M) fun r M1 => if r = 0 then some (0, M1) else some (-2, M1) := by
  simp only [f_X1_refusal, f_X1_deedOf, show hz_nn (6 : Int32) = true from by decide, show hz_eF 0 (6 : Int32) = 5 from by decide, show hz_in (5 : Int32) 11 = true from by decide, show hz_sw.getD (Int32.toNatClampNeg (5 : Int32)) 0 = (9 : Int32) from by decide, hy_e9_1, hy_e9_2, hy_e9_3, hy_e9_4, hy_e9_5, hy_e9_6, hy_e9_7, hy_e9_8, hy_e9_10, hy_gt, hy_lt', if_true, if_false, hy_cts]
theorem cP_6 (a n : Int32) (M : hz_M) : f_X1_perform 6 a n M = f_X1_letGo a M := by
  simp only [f_X1_perform, show hz_nn (6 : Int32) = true from by decide, show hz_eF 0 (6 : Int32) = 5 from by decide, show hz_in (5 : Int32) 11 = true from by decide, show hz_sw.getD (Int32.toNatClampNeg (5 : Int32)) 0 = (9 : Int32) from by decide, hy_e9_1, hy_e9_2, hy_e9_3, hy_e9_4, hy_e9_5, hy_e9_6, hy_e9_7, hy_e9_8, hy_e9_10, hy_gt, hy_lt', if_true, if_false]
  cases f_X1_letGo a M <;> rfl
theorem cR_7 (a n : Int32) (M : hz_M) : f_X1_refusal 7 a n M = (hz_gd (hz_in a 16) <| if (M 13 (Int32.toNatClampNeg a)) = -1 then some (-4, M) else some (0, M)) := by
  simp only [f_X1_refusal, show hz_nn (7 : Int32) = true from by decide, show hz_eF 0 (7 : Int32) = 6 from by decide, show hz_in (6 : Int32) 11 = true from by decide, show hz_sw.getD (Int32.toNatClampNeg (6 : Int32)) 0 = (2 : Int32) from by decide, hy_e2_1, hy_e2_3, hy_e2_4, hy_e2_5, hy_e2_6, hy_e2_7, hy_e2_8, hy_e2_9, hy_e2_10, hy_gt, hy_lt', if_true, if_false]
theorem cP_7 (a n : Int32) (M : hz_M) : f_X1_perform 7 a n M = f_X1_hear a M := by
  simp only [f_X1_perform, show hz_nn (7 : Int32) = true from by decide, show hz_eF 0 (7 : Int32) = 6 from by decide, show hz_in (6 : Int32) 11 = true from by decide, show hz_sw.getD (Int32.toNatClampNeg (6 : Int32)) 0 = (2 : Int32) from by decide, hy_e2_1, hy_e2_3, hy_e2_4, hy_e2_5, hy_e2_6, hy_e2_7, hy_e2_8, hy_e2_9, hy_e2_10, hy_gt, hy_lt', if_true, if_false]
  cases f_X1_hear a M <;> rfl
theorem cR_8 (a n : Int32) (M : hz_M) : f_X1_refusal 8 a n M = (some (0, M)) := by
  simp only [f_X1_refusal, show hz_nn (8 : Int32) = true from by decide, show hz_eF 0 (8 : Int32) = 7 from by decide, show hz_in (7 : Int32) 11 = true from by decide, show hz_sw.getD (Int32.toNatClampNeg (7 : Int32)) 0 = (4 : Int32) from by decide, hy_e4_1, hy_e4_2, hy_e4_3, hy_e4_5, hy_e4_6, hy_e4_7, hy_e4_8, hy_e4_9, hy_e4_10, hy_gt, hy_lt', if_true, if_false]
theorem cP_8 (a n : Int32) (M : hz_M) : f_X1_perform 8 a n M = f_X1_washBasket M := by
  simp only [f_X1_perform, show hz_nn (8 : Int32) = true from by decide, show hz_eF 0 (8 : Int32) = 7 from by decide, show hz_in (7 : Int32) 11 = true from by decide, show hz_sw.getD (Int32.toNatClampNeg (7 : Int32)) 0 = (4 : Int32) from by decide, hy_e4_1, hy_e4_2, hy_e4_3, hy_e4_5, hy_e4_6, hy_e4_7, hy_e4_8, hy_e4_9, hy_e4_10, hy_gt, hy_lt', if_true, if_false]
  cases f_X1_washBasket M <;> rfl
theorem cR_9 (a n : Int32) (M : hz_M) : f_X1_refusal 9 a n M = (some (0, M)) := by
  simp only [f_X1_refusal, show hz_nn (9 : Int32) = true from by decide, show hz_eF 0 (9 : Int32) = 8 from by decide, show hz_in (8 : Int32) 11 = true from by decide, show hz_sw.getD (Int32.toNatClampNeg (8 : Int32)) 0 = (5 : Int32) from by decide, hy_e5_1, hy_e5_2, hy_e5_3, hy_e5_4, hy_e5_6, hy_e5_7, hy_e5_8, hy_e5_9, hy_e5_10, hy_gt, hy_lt', if_true, if_false]
theorem cP_9 (a n : Int32) (M : hz_M) : f_X1_perform 9 a n M = f_X1_turn a n M := by
  simp only [f_X1_perform, show hz_nn (9 : Int32) = true from by decide, show hz_eF 0 (9 : Int32) = 8 from by decide, show hz_in (8 : Int32) 11 = true from by decide, show hz_sw.getD (Int32.toNatClampNeg (8 : Int32)) 0 = (5 : Int32) from by decide, hy_e5_1, hy_e5_2, hy_e5_3, hy_e5_4, hy_e5_6, hy_e5_7, hy_e5_8, hy_e5_9, hy_e5_10, hy_gt, hy_lt', if_true, if_false]
  cases f_X1_turn a n M <;> rfl
theorem cR_10 (a n : Int32) (M : hz_M) : f_X1_refusal 10 a n M = (if (9999 : Int32) < ((M 11 14) + n) then some (-5, M) else some (0, M)) := by
  simp only [f_X1_refusal, show hz_nn (10 : Int32) = true from by decide, show hz_eF 0 (10 : Int32) = 9 from by decide, show hz_in (9 : Int32) 11 = true from by decide, show hz_sw.getD (Int32.toNatClampNeg (9 : Int32)) 0 = (3 : Int32) from by decide, hy_e3_1, hy_e3_2, hy_e3_4, hy_e3_5, hy_e3_6, hy_e3_7, hy_e3_8, hy_e3_9, hy_e3_10, hy_gt, hy_lt', if_true, if_false]
theorem cP_10 (a n : Int32) (M : hz_M) : f_X1_perform 10 a n M = f_X7_pass n M := by
  simp only [f_X1_perform, show hz_nn (10 : Int32) = true from by decide, show hz_eF 0 (10 : Int32) = 9 from by decide, show hz_in (9 : Int32) 11 = true from by decide, show hz_sw.getD (Int32.toNatClampNeg (9 : Int32)) 0 = (3 : Int32) from by decide, hy_e3_1, hy_e3_2, hy_e3_4, hy_e3_5, hy_e3_6, hy_e3_7, hy_e3_8, hy_e3_9, hy_e3_10, hy_gt, hy_lt', if_true, if_false]
  cases f_X7_pass n M <;> rfl

theorem nI_nn (n : Nat) (h : n < 2 ^ 31) : (0 : Int32) ≤ nI n := hy_nn h
theorem wshN_o : ∀ (k : Nat) (q : Nat → Int32) (i b : Nat), b < 153 → wshN q k i b = q b
  | 0, _, _, _, _ => rfl
  | k + 1, q, i, b, h => by
    unfold wshN
    rw [wshN_o k _ _ _ h]
    unfold wsh; split
    · simp (disch := omega) only [hy_so]
    · rfl
theorem wcn_nn : ∀ (k : Nat) (q : Nat → Int32) (i c : Nat), ∃ d, d ≤ c + k ∧ wcn q k i (nI c) = nI d
  | 0, _, _, c => ⟨c, by omega, rfl⟩
  | k + 1, q, i, c => by
    unfold wcn
    split
    · rw [hy_add1]
      obtain ⟨d, h1, h2⟩ := wcn_nn k (wsh q i) (i + 1) (c + 1)
      exact ⟨d, by omega, h2⟩
    · obtain ⟨d, h1, h2⟩ := wcn_nn k (wsh q i) (i + 1) c
      exact ⟨d, by omega, h2⟩
