/-! A SETUP IS LOADED -/
/-- the head's numbers are in range -/
def HV (v : Nat → Nat) : Prop := (1 ≤ v 0 ∧ v 0 ≤ 12) ∧ (1 ≤ v 1 ∧ v 1 ≤ 16) ∧ v 2 ≤ v 1 ∧ (1 ≤ v 3 ∧ v 3 ≤ 4) ∧ (1 ≤ v 4 ∧ v 4 ≤ 6) ∧ (1 ≤ v 5 ∧ v 5 ≤ 9) ∧ (2 ≤ v 6 ∧ v 6 ≤ 60) ∧ v 7 ≤ 30
theorem t_read {v ag : Nat → Nat} {gs : Nat} {X : hz_TX} (hX : X = gsT (hdT v 7) ag gs) (hgs : gs ≤ 8) (hag : ∀ g, g < gs → ag g < 100) (V : HV v) {M0 : hz_M} (h1 : M0 9 1 = nI X.1) (h600 : X.1 ≤ 600) (h10 : ∀ i, i < X.1 → M0 10 i = nI (X.2 i) ∧ X.2 i < 128) : ∃ M', f_X3_read 5 M0 = some (0, M') ∧ M' 9 6 = 0 ∧ (∀ a, (a < 5 ∨ 9 < a) → M' a = M0 a) ∧ M' 5 3 = nI gs ∧ (∀ i, i < 8 → M' 5 (4 + i) = nI (v i)) ∧ ∀ g, g < gs → M' 6 g = nI (ag g) ∧ M' 8 g = nI 2 ∧ M' 7 (6 * g) = nI 103 ∧ M' 7 (6 * g + 1) = nI (97 + g) := by
  obtain ⟨⟨v01, v02⟩, ⟨v11, v12⟩, v21, ⟨v31, v32⟩, ⟨v41, v42⟩, ⟨v51, v52⟩, ⟨v61, v62⟩, v71⟩ := V
  have E7 : Ext (hdT v 7) X := (gs_nx hX (Nat.zero_le gs)).1
  have D7 : (hdT v 7).1 = X.1 ∨ ¬ (48 ≤ X.2 (hdT v 7).1 ∧ X.2 (hdT v 7).1 ≤ 57) := not_dig hX (Nat.zero_le gs)
  have X6 := ext_hd (k := 6) E7
  have E6 : Ext (hdT v 6) X := X6.1
  have D6 : (hdT v 6).1 = X.1 ∨ ¬ (48 ≤ X.2 (hdT v 6).1 ∧ X.2 (hdT v 6).1 ≤ 57) := Or.inr (by rw [X6.2.1]; omega)
  have X5 := ext_hd (k := 5) E6
  have E5 : Ext (hdT v 5) X := X5.1
  have D5 : (hdT v 5).1 = X.1 ∨ ¬ (48 ≤ X.2 (hdT v 5).1 ∧ X.2 (hdT v 5).1 ≤ 57) := Or.inr (by rw [X5.2.1]; omega)
  have X4 := ext_hd (k := 4) E5
  have E4 : Ext (hdT v 4) X := X4.1
  have D4 : (hdT v 4).1 = X.1 ∨ ¬ (48 ≤ X.2 (hdT v 4).1 ∧ X.2 (hdT v 4).1 ≤ 57) := Or.inr (by rw [X4.2.1]; omega)
  have X3 := ext_hd (k := 3) E4
  have E3 : Ext (hdT v 3) X := X3.1
  have D3 : (hdT v 3).1 = X.1 ∨ ¬ (48 ≤ X.2 (hdT v 3).1 ∧ X.2 (hdT v 3).1 ≤ 57) := Or.inr (by rw [X3.2.1]; omega)
  have X2 := ext_hd (k := 2) E3
  have E2 : Ext (hdT v 2) X := X2.1
  have D2 : (hdT v 2).1 = X.1 ∨ ¬ (48 ≤ X.2 (hdT v 2).1 ∧ X.2 (hdT v 2).1 ≤ 57) := Or.inr (by rw [X2.2.1]; omega)
  have X1 := ext_hd (k := 1) E2
  have E1 : Ext (hdT v 1) X := X1.1
  have D1 : (hdT v 1).1 = X.1 ∨ ¬ (48 ≤ X.2 (hdT v 1).1 ∧ X.2 (hdT v 1).1 ≤ 57) := Or.inr (by rw [X1.2.1]; omega)
  have X0 := ext_hd (k := 0) E1
  have E0 : Ext (hdT v 0) X := X0.1
  have D0 : (hdT v 0).1 = X.1 ∨ ¬ (48 ≤ X.2 (hdT v 0).1 ∧ X.2 (hdT v 0).1 ≤ 57) := Or.inr (by rw [X0.2.1]; omega)
  obtain ⟨et0, dg0, le0⟩ := ext_S (x := hz_t0) E0
  obtain ⟨-, bt0, bl0⟩ := ext_S (x := (0, fun _ => 0)) et0
  have bt : ∀ j, j < 5 → X.2 j = hz_bathT j := fun j hj => by
    have := bt0 j hj
    rw [show ((0 : Nat), (fun _ => 0 : Nat → Nat)).1 + j = j from Nat.zero_add j] at this
    exact this
  have l5 : hz_t0.1 = 5 := rfl
  rw [l5] at dg0 le0
  have tx0 : Tx (hz_set (hz_set (hz_set (hz_set M0 5 3 0) 9 6 0) 9 7 (-1)) 9 4 0) X := by
    refine ⟨?_, h600, fun i hi => ?_, ?_, ?_⟩
    · rw [hy_setn _ _ _ (by omega), hy_setn _ _ _ (by omega), hy_setn _ _ _ (by omega), hy_seto _ _ _ (by omega)]
      exact h1
    · rw [hy_seto _ _ _ (by omega), hy_seto _ _ _ (by omega), hy_seto _ _ _ (by omega), hy_seto _ _ _ (by omega)]
      exact h10 i hi
    · rw [hy_setn _ _ _ (by omega), hy_setn _ _ _ (by omega), hy_setk]
    · rw [hy_setn _ _ _ (by omega), hy_setk]
  have f0 : ∀ a, a ≠ 9 → hz_set (hz_set (hz_set (hz_set M0 5 3 0) 9 6 0) 9 7 (-1)) 9 4 0 a = hz_set M0 5 3 0 a := fun a ha => by rw [hy_seto _ _ _ ha, hy_seto _ _ _ ha, hy_seto _ _ _ ha]
  have k4 : hz_set (hz_set (hz_set (hz_set M0 5 3 0) 9 6 0) 9 7 (-1)) 9 4 0 9 4 = nI 0 := hy_setk _ _ _ _
  -- the word bath
  obtain ⟨M1, a1, a2, a3⟩ := t_word (s := 0) (e2 := 4) tx0 k4 (Nat.le_refl _) (by omega) (by omega) (fun j h1 h2 => absurd h2 (by omega)) (fun j h1 h2 => by rw [bt j (by omega)]; exact bath_al j h2) (Or.inr (by rw [bt 4 (by omega)]; decide))
  have nr : f_X8_rewind (hz_set M0 5 3 0) = some (0, M1) := by
    unfold f_X8_rewind
    rw [hy_lm, hy_lm, hy_lm, a1, hy_cts]
  obtain ⟨M2, b1, b2, b3, b4⟩ := t_num (e := 4) (v := v 0) a2.1 a2.2.2.2 (by omega) (by omega) (by rw [bt 4 (by omega)]; rfl) (fun j hj => by rw [show 4 + 1 + j = 5 + j by omega]; exact dg0 j hj) D0
  have nw : f_X8_needWord 1 M1 = some (0, M2) := by
    unfold f_X8_needWord
    rw [t_isW a2 (by omega) (show hz_len.getD 1 0 = 4 from rfl) (by omega) (by omega) (fun j hj => by rw [Nat.zero_add, bt j (by omega)]; exact bath_cc j hj), hy_cts, t_goOn a2.1.2.2.2.1 b1, hy_cts]
  have f2 : ∀ a, a ≠ 9 → M2 a = hz_set M0 5 3 0 a := fun a ha => by rw [b4 a ha, a3 a ha, f0 a ha]
  have S0 : HdS v M0 M2 0 := ⟨fun a h5 h9 => by rw [f2 a h9, hy_seto _ _ _ h5], by rw [f2 5 (by omega), hy_setk], fun i hi => absurd hi (Nat.not_lt_zero i)⟩
  have T0 : Tk M2 X 2 (4 + 1) (hdT v 0).1 := b2
  obtain ⟨A0, c0, S1, ⟨s1, T1⟩, N1⟩ := hd_step (v := v) (k := 0) (lo := 1) (hi := 12) S0 T0 b3 E1 (show v 1 < 100 by omega) D1 (by omega) (by omega) (by omega)
  obtain ⟨A1, c1, S2, ⟨s2, T2⟩, N2⟩ := hd_step (v := v) (k := 1) (lo := 1) (hi := 16) S1 T1 N1 E2 (show v 2 < 100 by omega) D2 (by omega) (by omega) (by omega)
  obtain ⟨A2, c2, S3, ⟨s3, T3⟩, N3⟩ := hd_step (v := v) (k := 2) (lo := 0) (hi := v 1) S2 T2 N2 E3 (show v 3 < 100 by omega) D3 (by omega) (by omega) (by omega)
  obtain ⟨A3, c3, S4, ⟨s4, T4⟩, N4⟩ := hd_step (v := v) (k := 3) (lo := 1) (hi := 4) S3 T3 N3 E4 (show v 4 < 100 by omega) D4 (by omega) (by omega) (by omega)
  obtain ⟨A4, c4, S5, ⟨s5, T5⟩, N5⟩ := hd_step (v := v) (k := 4) (lo := 1) (hi := 6) S4 T4 N4 E5 (show v 5 < 100 by omega) D5 (by omega) (by omega) (by omega)
  obtain ⟨A5, c5, S6, ⟨s6, T6⟩, N6⟩ := hd_step (v := v) (k := 5) (lo := 1) (hi := 9) S5 T5 N5 E6 (show v 6 < 100 by omega) D6 (by omega) (by omega) (by omega)
  obtain ⟨A6, c6, S7, ⟨s7, T7⟩, N7⟩ := hd_step (v := v) (k := 6) (lo := 2) (hi := 60) S6 T6 N6 E7 (show v 7 < 100 by omega) D7 (by omega) (by omega) (by omega)
  obtain ⟨A7, d1, d2, d3⟩ := t_tail hX (Nat.zero_le gs) T7.1 T7.2.2.2
  have c7 := t_needN (lo := 0) (hi := 30) T7 N7 (by omega) (by omega) (by omega) d1
  have S8 := HdS_s S7 d3
  have L8 : Tail X (hdT v 7) ag gs 0 (hz_set A7 5 (4 + 7) (nI (v 7))) := by
    rcases d2 with ⟨h1, h2⟩ | ⟨h1, h2⟩
    · exact Or.inl ⟨h1, Tk_fr (hy_seto _ _ _ (by omega)) (hy_seto _ _ _ (by omega)) h2⟩
    · exact Or.inr ⟨h1, Tk_fr (hy_seto _ _ _ (by omega)) (hy_seto _ _ _ (by omega)) h2⟩
  have G0 : GsS (hdT v 7) ag (hz_set A7 5 (4 + 7) (nI (v 7))) (hz_set A7 5 (4 + 7) (nI (v 7))) 0 := ⟨fun _ _ => rfl, S8.2.1, fun _ _ => rfl, fun g hg => absurd hg (Nat.not_lt_zero g)⟩
  obtain ⟨M9, e1, e2, e3⟩ := t_L106 (fun  (M40 : hz_M) => hz_ct (f_X8_needEnd M40) fun r41 M42 => some (0, M42)) hX hgs hag gs 0 hz_FU (hz_set A7 5 (4 + 7) (nI (v 7))) (by omega) (hy_FU (by omega)) L8 G0
  obtain ⟨M10, g1, g2, g3⟩ := t_end e2.1 e2.2.2.2 rfl
  have ne : f_X8_needEnd M9 = some (0, M10) := by
    unfold f_X8_needEnd
    rw [hy_jn, if_pos e2.2.1]
    dsimp only
    rw [t_goOn e2.1.2.2.2.1 g1, hy_cts]
  rw [ne, hy_cts] at e1
  have q0 : f_X8_needNumber (1 : Int32) (12 : Int32) M2 = some (nI (v 0), A0) := c0
  have q1 : f_X8_needNumber (1 : Int32) (16 : Int32) (hz_set A0 5 4 (nI (v 0))) = some (nI (v 1), A1) := c1
  have q2 : f_X8_needNumber (0 : Int32) (nI (v 1)) (hz_set A1 5 5 (nI (v 1))) = some (nI (v 2), A2) := c2
  have q3 : f_X8_needNumber (1 : Int32) (4 : Int32) (hz_set A2 5 6 (nI (v 2))) = some (nI (v 3), A3) := c3
  have q4 : f_X8_needNumber (1 : Int32) (6 : Int32) (hz_set A3 5 7 (nI (v 3))) = some (nI (v 4), A4) := c4
  have q5 : f_X8_needNumber (1 : Int32) (9 : Int32) (hz_set A4 5 8 (nI (v 4))) = some (nI (v 5), A5) := c5
  have q6 : f_X8_needNumber (2 : Int32) (60 : Int32) (hz_set A5 5 9 (nI (v 5))) = some (nI (v 6), A6) := c6
  have q7 : f_X8_needNumber (0 : Int32) (30 : Int32) (hz_set A6 5 10 (nI (v 6))) = some (nI (v 7), A7) := c7
  have q8 : f_X3_read_L106 5 (fun  (M40 : hz_M) => hz_ct (f_X8_needEnd M40) fun r41 M42 => some (0, M42)) hz_FU (0 : Int32) (hz_set A7 5 11 (nI (v 7))) = some (0, M10) := e1
  refine ⟨M10, ?_, g2.1.2.2.2.1, fun a ha => ?_, ?_, fun i hi => ?_, fun g hg => ?_⟩
  · unfold f_X3_read
    rw [hy_lm, nr, hy_cts, nw, hy_cts, q0, hy_cts, hy_lm, q1, hy_cts, hy_lm, hy_setk, q2, hy_cts, hy_lm, q3, hy_cts, hy_lm, q4, hy_cts, hy_lm, q5, hy_cts, hy_lm, q6, hy_cts, hy_lm, q7, hy_cts, hy_lm, hy_jn]
    exact q8
  · rw [g3 a (by omega), e3.1 a ha]
    exact S8.1 a (by omega) (by omega)
  · rw [g3 5 (by omega)]
    exact e3.2.1
  · rw [g3 5 (by omega), e3.2.2.1 (4 + i) (by omega)]
    exact S8.2.2 i hi
  · rw [g3 6 (by omega), g3 7 (by omega), g3 8 (by omega)]
    exact e3.2.2.2 g hg
theorem c_copyH (M : hz_M) : ∃ M', f_X3_copyFrom M = some (0, M') ∧ (∀ k, 3 ≤ k → k ≤ 11 → M' 1 k = M 5 k) ∧ (∀ b, b < 16 → M' 2 b = M 6 b) ∧ (∀ b, b < 96 → M' 3 b = M 7 b) ∧ (∀ b, b < 16 → M' 4 b = M 8 b) ∧ ∀ a, (a < 1 ∨ 4 < a) → M' a = M a := by
  refine ⟨_, rfl, fun k h1 h2 => ?_, fun b hb => ?_, fun b hb => ?_, fun b hb => ?_, fun a ha => ?_⟩
  · have hk : k = 3 ∨ k = 4 ∨ k = 5 ∨ k = 6 ∨ k = 7 ∨ k = 8 ∨ k = 9 ∨ k = 10 ∨ k = 11 := by omega
    rcases hk with rfl | rfl | rfl | rfl | rfl | rfl | rfl | rfl | rfl <;> simp (disch := omega) only [hy_setn, hy_setk, hy_seto, cpy_o]
  · simp (disch := omega) only [hy_seto, cpy_o, cpy_k]
  · simp (disch := omega) only [hy_seto, cpy_o, cpy_k]
  · simp (disch := omega) only [hy_seto, cpy_o, cpy_k]
  · simp (disch := omega) only [hy_seto, cpy_o]
