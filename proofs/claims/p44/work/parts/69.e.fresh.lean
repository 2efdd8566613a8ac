/-! A FRESH HOUSE -/
def q00 (v ag : Nat → Nat) (gs : Nat) : Nat → Int32 := fun b =>
  if b < 8 then nI (v b) else if b = 9 then 30 else if b = 10 then -1 else if b = 11 then nI gs else if b < 25 then 0 else
  if b < 153 then (if (b - 25) % 8 = 0 then nI (190 + (b - 25) / 8) else if (b - 25) % 8 = 1 then nI (ag ((b - 25) / 8)) else if (b - 25) % 8 = 5 ∨ (b - 25) % 8 = 6 then 0 else -1)
  else if b < 185 then (if (b - 153) % 2 = 0 then 0 else nI ((b - 153) / 2)) else 0
theorem q00_h {v ag : Nat → Nat} {gs b : Nat} (h : b < 8) : q00 v ag gs b = nI (v b) := if_pos h
theorem q00_g {v ag : Nat → Nat} {gs g c0 : Nat} (hg : g < 16) (hc : c0 < 8) : q00 v ag gs (25 + 8 * g + c0) = if c0 = 0 then nI (190 + g) else if c0 = 1 then nI (ag g) else if c0 = 5 ∨ c0 = 6 then 0 else -1 := by
  unfold q00
  rw [if_neg (by omega), if_neg (by omega), if_neg (by omega), if_neg (by omega), if_neg (by omega), if_pos (by omega), show (25 + 8 * g + c0 - 25) % 8 = c0 by omega, show (25 + 8 * g + c0 - 25) / 8 = g by omega]
theorem q00_t {v ag : Nat → Nat} {gs t : Nat} (ht : t < 16) : q00 v ag gs (153 + 2 * t) = 0 ∧ q00 v ag gs (153 + 2 * t + 1) = nI t := by
  unfold q00
  constructor
  · rw [if_neg (by omega), if_neg (by omega), if_neg (by omega), if_neg (by omega), if_neg (by omega), if_neg (by omega), if_pos (by omega), if_pos (by omega)]
  · rw [if_neg (by omega), if_neg (by omega), if_neg (by omega), if_neg (by omega), if_neg (by omega), if_neg (by omega), if_pos (by omega), if_neg (by omega), show (153 + 2 * t + 1 - 153) / 2 = t by omega]
theorem q00_z {v ag : Nat → Nat} {gs b : Nat} (h : b = 8 ∨ (12 ≤ b ∧ b < 25) ∨ 185 ≤ b) : q00 v ag gs b = 0 := by
  unfold q00
  by_cases c : b < 25
  · rw [if_neg (by omega), if_neg (by omega), if_neg (by omega), if_neg (by omega), if_pos c]
  · rw [if_neg (by omega), if_neg (by omega), if_neg (by omega), if_neg (by omega), if_neg c, if_neg (by omega), if_neg (by omega)]
theorem q00_s {v ag : Nat → Nat} {gs : Nat} (V : HV v) (hgs : gs ≤ 8) : hy_Z (q00 v ag gs) ∧ gz (q00 v ag gs) = gs ∧ lz (q00 v ag gs) = v 0 ∧ pz (q00 v ag gs) = v 1 ∧ tz (q00 v ag gs) = v 2 ∧ vz (q00 v ag gs) = v 3 ∧ sz (q00 v ag gs) = v 4 := by
  obtain ⟨⟨v01, v02⟩, ⟨v11, v12⟩, v21, ⟨v31, v32⟩, ⟨v41, v42⟩, ⟨v51, v52⟩, ⟨v61, v62⟩, v71⟩ := V
  have e11 : q00 v ag gs 11 = nI gs := rfl
  have Gz : gz (q00 v ag gs) = gs := by unfold gz; rw [e11, hy_c (by omega)]
  have Lz : lz (q00 v ag gs) = v 0 := by unfold lz; rw [q00_h (by omega), hy_c (by omega)]
  have Pz : pz (q00 v ag gs) = v 1 := by unfold pz; rw [q00_h (by omega), hy_c (by omega)]
  have Tz : tz (q00 v ag gs) = v 2 := by unfold tz; rw [q00_h (by omega), hy_c (by omega)]
  have Vz : vz (q00 v ag gs) = v 3 := by unfold vz; rw [q00_h (by omega), hy_c (by omega)]
  have Sz : sz (q00 v ag gs) = v 4 := by unfold sz; rw [q00_h (by omega), hy_c (by omega)]
  refine ⟨?_, Gz, Lz, Pz, Tz, Vz, Sz⟩
  unfold hy_Z
  rw [Gz, Lz, Pz, Tz, Vz, Sz]
  exact ⟨⟨e11, by omega⟩, ⟨q00_h (by omega), v01, v02⟩, ⟨q00_h (by omega), v11, v12⟩, ⟨q00_h (by omega), v21⟩, ⟨q00_h (by omega), v31, v32⟩, ⟨q00_h (by omega), v41, v42⟩⟩
theorem q00_w {v ag : Nat → Nat} {gs : Nat} (V : HV v) (hgs : gs ≤ 8) : (∀ k, k < 100 → kpr (q00 v ag gs) k = -1) ∧ (∀ k, k < 100 → hld (q00 v ag gs) k = -1) ∧ (∀ k, k < 16 → tw (q00 v ag gs) k = if k < v 2 then nI k else -1) := by
  obtain ⟨Z, Gz, Lz, Pz, Tz, Vz, Sz⟩ := q00_s (ag := ag) V hgs
  obtain ⟨⟨v01, v02⟩, ⟨v11, v12⟩, v21, ⟨v31, v32⟩, ⟨v41, v42⟩, ⟨v51, v52⟩, ⟨v61, v62⟩, v71⟩ := V
  have jp : inj (fun x => q00 v ag gs (153 + 2 * x + 1)) (v 2) := fun a b ha hb e => by
    have e' : q00 v ag gs (153 + 2 * a + 1) = q00 v ag gs (153 + 2 * b + 1) := e
    rw [(q00_t (by omega)).2, (q00_t (by omega)).2, hy_eq (by omega) (by omega)] at e'
    exact Or.inr e'
  refine ⟨fun k hk => ?_, fun k hk => ?_, fun k hk => ?_⟩
  · rw [kpr_fk, Gz]
    exact fk_no (fun x hx e => by
      have e' : q00 v ag gs (25 + 8 * x + 3) = nI k := e
      rw [q00_g (by omega) (by omega), if_neg (by omega), if_neg (by omega), if_neg (by omega), hy_n1' (by omega)] at e'
      exact e')
  · rw [hld_fk, Gz]
    exact fk_no (fun x hx e => by
      have e' : q00 v ag gs (25 + 8 * x + 4) = nI k := e
      rw [q00_g (by omega) (by omega), if_neg (by omega), if_neg (by omega), if_neg (by omega), hy_n1' (by omega)] at e'
      exact e')
  · rw [tw_fk, Tz]
    by_cases h : k < v 2
    · rw [if_pos h]
      exact fk_is (by omega) h (q00_t (by omega)).2 jp
    · rw [if_neg h]
      exact fk_no (fun x hx e => by
        have e' : q00 v ag gs (153 + 2 * x + 1) = nI k := e
        rw [(q00_t (by omega)).2, hy_eq (by omega) (by omega)] at e'
        omega)
theorem q00_Q {v ag : Nat → Nat} {gs : Nat} (V : HV v) (hgs : gs ≤ 8) (hag : ∀ g, g < gs → ag g < 100) : hy_Q (q00 v ag gs) := by
  obtain ⟨Z, Gz, Lz, Pz, Tz, Vz, Sz⟩ := q00_s (ag := ag) V hgs
  obtain ⟨⟨v01, v02⟩, ⟨v11, v12⟩, v21, ⟨v31, v32⟩, ⟨v41, v42⟩, ⟨v51, v52⟩, ⟨v61, v62⟩, v71⟩ := V
  have g1 : ∀ x, x < gs → q00 v ag gs (25 + 8 * x + 1) = nI (ag x) := fun x hx => by rw [q00_g (by omega) (by omega), if_neg (by omega), if_pos rfl]
  have g2 : ∀ x, x < gs → q00 v ag gs (25 + 8 * x + 2) = -1 := fun x hx => by rw [q00_g (by omega) (by omega), if_neg (by omega), if_neg (by omega), if_neg (by omega)]
  have g3 : ∀ x, x < gs → q00 v ag gs (25 + 8 * x + 3) = -1 := fun x hx => by rw [q00_g (by omega) (by omega), if_neg (by omega), if_neg (by omega), if_neg (by omega)]
  have g4 : ∀ x, x < gs → q00 v ag gs (25 + 8 * x + 4) = -1 := fun x hx => by rw [q00_g (by omega) (by omega), if_neg (by omega), if_neg (by omega), if_neg (by omega)]
  have g5 : ∀ x, x < gs → q00 v ag gs (25 + 8 * x + 5) = 0 := fun x hx => by rw [q00_g (by omega) (by omega), if_neg (by omega), if_neg (by omega), if_pos (by omega)]
  have g6 : ∀ x, x < gs → q00 v ag gs (25 + 8 * x + 6) = 0 := fun x hx => by rw [q00_g (by omega) (by omega), if_neg (by omega), if_neg (by omega), if_pos (by omega)]
  unfold hy_Q
  rw [Gz, Lz, Pz, Tz, Sz]
  refine ⟨fun x hx => ⟨ag x, by have := hag x hx; omega, g1 x hx⟩, fun x hx => Or.inl (g2 x hx), fun x hx => Or.inl (g3 x hx), fun x hx => Or.inl (g4 x hx), fun x hx => ⟨0, by omega, g5 x hx⟩, fun x hx => ⟨0, by omega, g6 x hx⟩, fun x hx => ⟨0, by omega, (q00_t (by omega)).1⟩, fun x hx => Or.inr ⟨x, by omega, (q00_t (by omega)).2⟩, fun x y hx hy e => Or.inl (g3 x hx), fun x y hx hy e => Or.inl (g4 x hx), fun x y hx hy e => ?_, fun x hx e => ⟨g3 x hx, g4 x hx⟩, fun x hx e => g2 x hx, fun x t hx ht e => ?_, ⟨30, by omega, rfl⟩, ⟨v 5, v51, v52, q00_h (by omega)⟩, ⟨v 6, v61, v62, q00_h (by omega)⟩, ⟨v 7, v71, q00_h (by omega)⟩, fun w hw => ⟨0, by omega, q00_z (by omega)⟩⟩
  · rw [(q00_t (by omega)).2, (q00_t (by omega)).2, hy_eq (by omega) (by omega)] at e
    exact Or.inr e
  · rw [g4 x hx, hy_n1' (by omega)] at e
    exact absurd e not_false
theorem W_00 {v ag : Nat → Nat} {gs : Nat} (V : HV v) (hgs : gs ≤ 8) (hag : ∀ g, g < gs → ag g < 100) {M : hz_M} (c1 : M 1 3 = nI gs ∧ (∀ i, i < 8 → M 1 (4 + i) = nI (v i)))
    (c2 : ∀ g, g < gs → M 2 g = nI (ag g) ∧ M 4 g = nI 2 ∧ M 3 (6 * g) = nI 103 ∧ M 3 (6 * g + 1) = nI (97 + g))
    (s : M 11 14 = 0 ∧ M 11 15 = 30 ∧ M 11 16 = -1 ∧ M 11 17 = M 1 9 ∧ M 11 18 = M 1 10 ∧ M 11 19 = M 1 11)
    (r12 : ∀ b, b < 4 → M 12 b = 0) (rg : ∀ b, b < 16 → M 13 b = -1 ∧ M 14 b = -1 ∧ M 15 b = -1 ∧ M 16 b = 0 ∧ M 17 b = 0 ∧ M 18 b = -1 ∧ M 20 b = 0) (r19 : ∀ b, b < 12 → M 19 b = -1) (r24 : ∀ b, b < 9 → M 24 b = 0)
    (rt : ∀ b, b < 16 → M 23 b = (if b < v 2 then nI b else -1) ∧ M 22 b = -1) (r21 : ∀ b, b < v 2 → M 21 b = nI b) : hy_W M (q00 v ag gs) := by
  obtain ⟨Z, Gz, Lz, Pz, Tz, Vz, Sz⟩ := q00_s (ag := ag) V hgs
  obtain ⟨kp, hl, tw'⟩ := q00_w (ag := ag) V hgs
  have Q := q00_Q V hgs hag
  obtain ⟨⟨v01, v02⟩, ⟨v11, v12⟩, v21, ⟨v31, v32⟩, ⟨v41, v42⟩, ⟨v51, v52⟩, ⟨v61, v62⟩, v71⟩ := V
  have d4 : M 1 4 = nI (v 0) := c1.2 0 (by omega)
  have d5 : M 1 5 = nI (v 1) := c1.2 1 (by omega)
  have d6 : M 1 6 = nI (v 2) := c1.2 2 (by omega)
  have d7 : M 1 7 = nI (v 3) := c1.2 3 (by omega)
  have d8 : M 1 8 = nI (v 4) := c1.2 4 (by omega)
  have d9 : M 1 9 = nI (v 5) := c1.2 5 (by omega)
  have d10 : M 1 10 = nI (v 6) := c1.2 6 (by omega)
  have d11 : M 1 11 = nI (v 7) := c1.2 7 (by omega)
  refine ⟨⟨Z, ?_, ?_⟩, Q, fun k hk => q00_z (by omega)⟩
  · unfold hy_Ho
    rw [Gz]
    refine ⟨c1.1, by rw [d4, q00_h (by omega)], by rw [d5, q00_h (by omega)], by rw [d6, q00_h (by omega)], by rw [d7, q00_h (by omega)], by rw [d8, q00_h (by omega)], fun x hx => ?_, fun x hx => ?_⟩
    · rw [(c2 x hx).1, q00_g (by omega) (by omega), if_neg (by omega), if_pos rfl]
    · obtain ⟨h1, h2, h3, h4⟩ := c2 x hx
      refine ⟨2, by omega, by omega, h2, fun j hj => ?_, ?_⟩
      · have hj2 : j = 0 ∨ j = 1 := by omega
        rcases hj2 with rfl | rfl
        · exact ⟨7, by omega, by omega, h3⟩
        · exact ⟨1 + x, by omega, by omega, by rw [h4]; congr 1; omega⟩
      · have e0 := q00_g (v := v) (ag := ag) (gs := gs) (g := x) (c0 := 0) (by omega) (by omega)
        rw [Nat.add_zero, if_pos rfl] at e0
        rw [e0]
        show nI (190 + x) = 27 * (27 * 0 + M 3 (6 * x + 0) - 96) + M 3 (6 * x + 1) - 96
        rw [Nat.add_zero, h3, h4, show (27 : Int32) * (27 * 0 + nI 103 - 96) = nI 189 from by decide, hy_add, show (96 : Int32) = nI 96 from rfl, hy_sub (by omega)]
        congr 1
        omega
  · unfold hy_RC
    rw [Gz, Lz, Pz, Tz]
    refine ⟨⟨by rw [s.1, q00_z (by omega)], s.2.1, s.2.2.1, by rw [s.2.2.2.1, d9, q00_h (by omega)], by rw [s.2.2.2.2.1, d10, q00_h (by omega)], by rw [s.2.2.2.2.2, d11, q00_h (by omega)]⟩, fun k hk => ?_, fun k hk => ?_, fun k hk => ?_, fun k hk => ?_, fun k hk => ?_, fun k hk => ?_, fun k hk => ?_, fun k hk => ?_, fun k hk => ?_, fun k hk => ?_, fun k hk => ?_, fun k hk => ?_, fun k hk => ?_⟩
    · rw [r24 k hk, q00_z (by omega)]
    · rw [r12 k hk, q00_z (by omega)]
    · rw [(rg k (by omega)).1, q00_g (by omega) (by omega), if_neg (by omega), if_neg (by omega), if_neg (by omega)]
    · rw [(rg k (by omega)).2.1, q00_g (by omega) (by omega), if_neg (by omega), if_neg (by omega), if_neg (by omega)]
    · rw [(rg k (by omega)).2.2.1, q00_g (by omega) (by omega), if_neg (by omega), if_neg (by omega), if_neg (by omega)]
    · rw [(rg k (by omega)).2.2.2.1, q00_g (by omega) (by omega), if_neg (by omega), if_neg (by omega), if_pos (by omega)]
    · rw [(rg k (by omega)).2.2.2.2.1, q00_g (by omega) (by omega), if_neg (by omega), if_neg (by omega), if_pos (by omega)]
    · rw [(rg k (by omega)).2.2.2.2.2.1, q00_g (by omega) (by omega), if_neg (by omega), if_neg (by omega), if_neg (by omega)]
    · rw [(rg k (by omega)).2.2.2.2.2.2, (q00_t (by omega)).1]
    · rw [r21 k hk, (q00_t (by omega)).2]
    · rw [r19 k (by omega), kp k (by omega)]
    · rw [(rt k (by omega)).2, hl k (by omega)]
    · rw [(rt k (by omega)).1, tw' k (by omega)]
/-- load, of a text that is known -/
theorem t_load {v ag : Nat → Nat} {gs : Nat} {X : hz_TX} (hX : X = gsT (hdT v 7) ag gs) (hgs : gs ≤ 8) (hag : ∀ g, g < gs → ag g < 100) (V : HV v) {M0 : hz_M} (h1 : M0 9 1 = nI X.1) (h600 : X.1 ≤ 600) (h10 : ∀ i, i < X.1 → M0 10 i = nI (X.2 i) ∧ X.2 i < 128) (h32 : M0 32 3 = 0) : ∃ M', f_X10_load M0 = some (nI gs, M') ∧ hy_W M' (q00 v ag gs) ∧ M' 0 9 = -1 ∧ M' 26 3 = 0 ∧ Ring M' (fun _ _ => 0) 0 ∧ ∀ a, 178 ≤ a → M' a = M0 a := by
  obtain ⟨M2, a1, a2, a3, a4, a5, a6⟩ := t_read hX hgs hag V h1 h600 h10
  have er : f_X10_endReading M2 = some (0, hz_set (hz_set M2 0 9 (-1)) 9 1 0) := by
    unfold f_X10_endReading f_X8_clear
    rw [hy_jn, if_pos a2]
    dsimp only
    rw [hy_lm, hy_lm, hy_cts]
  have b6 : hz_set (hz_set M2 0 9 (-1)) 9 1 0 9 6 = 0 := by rw [hy_setn _ _ _ (by omega), hy_seto _ _ _ (by omega)]; exact a2
  have bo : ∀ a, a ≠ 0 → a ≠ 9 → hz_set (hz_set M2 0 9 (-1)) 9 1 0 a = M2 a := fun a h0 h9 => by rw [hy_seto _ _ _ h9, hy_seto _ _ _ h0]
  have b0 : hz_set (hz_set M2 0 9 (-1)) 9 1 0 0 9 = -1 := by rw [hy_seto _ _ _ (by omega), hy_setk]
  generalize hz_set (hz_set M2 0 9 (-1)) 9 1 0 = M5 at er b6 bo b0
  obtain ⟨M9, c0, c1, c2, c3, c4, c5⟩ := c_copyH M5
  have V' := V
  obtain ⟨⟨v01, v02⟩, ⟨v11, v12⟩, v21, ⟨v31, v32⟩, ⟨v41, v42⟩, ⟨v51, v52⟩, ⟨v61, v62⟩, v71⟩ := V
  have e1 : ∀ i, i < 8 → M9 1 (4 + i) = nI (v i) := fun i hi => by rw [c1 _ (by omega) (by omega), bo 5 (by omega) (by omega), a5 i hi]
  have e13 : M9 1 3 = nI gs := by rw [c1 _ (by omega) (by omega), bo 5 (by omega) (by omega), a4]
  obtain ⟨M12, d0, d1, d2, d3, d4, d5, d6, d7, d8⟩ := c_begin (M := M9) (T := v 2) (by omega) (e1 2 (by omega))
  have g1 : ∀ a, (a < 11 ∨ 24 < a) → M12 a = M9 a := d1
  have W : hy_W M12 (q00 v ag gs) := W_00 V' hgs hag ⟨by rw [g1 1 (by omega)]; exact e13, fun i hi => by rw [g1 1 (by omega)]; exact e1 i hi⟩ (fun g hg => by
    rw [g1 2 (by omega), g1 3 (by omega), g1 4 (by omega), c2 g (by omega), c3 _ (by omega), c3 _ (by omega), c4 g (by omega), bo 6 (by omega) (by omega), bo 7 (by omega) (by omega), bo 8 (by omega) (by omega)]
    exact a6 g hg) (by rw [g1 1 (by omega)]; exact d2) d3 d4 d5 d6 d7 d8
  have T : hy_T (q00 v ag gs) := ⟨0, by omega, q00_z (by omega), Or.inl rfl⟩
  refine ⟨hz_set (hz_set (hz_set (hz_set M12 26 3 0) 32 4 0) 35 0 0) 35 1 0, ?_, W_fr (fun a ha => by rw [hy_seto _ _ _ (by omega), hy_seto _ _ _ (by omega), hy_seto _ _ _ (by omega), hy_seto _ _ _ (by omega)]) W T, ?_, ?_, ⟨0, 0, by omega, by omega, Or.inl rfl, ?_, ?_, fun j hj => absurd hj (Nat.not_lt_zero j)⟩, fun a ha => ?_⟩
  · unfold f_X10_load
    rw [a1, hy_cts, er, hy_cts, if_pos b6, c0, hy_cts, d0, hy_cts, hy_lm, c_forget, hy_cts, hy_seto _ _ _ (by omega), hy_seto _ _ _ (by omega), hy_seto _ _ _ (by omega), hy_seto _ _ _ (by omega), g1 1 (by omega), e13]
  · rw [hy_seto _ _ _ (by omega), hy_seto _ _ _ (by omega), hy_seto _ _ _ (by omega), hy_seto _ _ _ (by omega), g1 0 (by omega), c5 0 (by omega)]
    exact b0
  · rw [hy_seto _ _ _ (by omega), hy_seto _ _ _ (by omega), hy_seto _ _ _ (by omega), hy_setk]
  · rw [hy_seto _ _ _ (by omega), hy_seto _ _ _ (by omega), hy_setk]
    rfl
  · rw [hy_seto _ _ _ (by omega), hy_seto _ _ _ (by omega), hy_setn _ _ _ (by omega), hy_seto _ _ _ (by omega), g1 32 (by omega), c5 32 (by omega), bo 32 (by omega) (by omega), a3 32 (by omega), h32]
    rfl
  · rw [hy_seto _ _ _ (by omega), hy_seto _ _ _ (by omega), hy_seto _ _ _ (by omega), hy_seto _ _ _ (by omega), g1 a (by omega), c5 a (by omega), bo a (by omega) (by omega), a3 a (by omega)]
