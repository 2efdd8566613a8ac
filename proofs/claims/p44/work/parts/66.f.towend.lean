theorem Q_ag {q q' : Nat → Int32} (h : ∀ k, (k < 8 ∨ k = 11 ∨ 21 ≤ k) → q' k = q k) (h9 : ∃ k, k ≤ 100 ∧ q' 9 = nI k) (hQ : hy_Q q) : hy_Q q' := by
  have eg : gz q' = gz q := by unfold gz; rw [h 11 (by omega)]
  have el : lz q' = lz q := by unfold lz; rw [h 0 (by omega)]
  have ep : pz q' = pz q := by unfold pz; rw [h 1 (by omega)]
  have et : tz q' = tz q := by unfold tz; rw [h 2 (by omega)]
  have es : sz q' = sz q := by unfold sz; rw [h 4 (by omega)]
  obtain ⟨a1, a2, a3, a4, a5, a6, a7, a8, a9, a10, a11, a12, a13, a14, a15, a16, a17, a18, a19⟩ := hQ
  unfold hy_Q
  rw [eg, el, ep, et, es]
  refine ⟨fun g hg => by rw [h _ (by omega)]; exact a1 g hg, fun g hg => by rw [h _ (by omega)]; exact a2 g hg, fun g hg => by rw [h _ (by omega)]; exact a3 g hg, fun g hg => by rw [h _ (by omega)]; exact a4 g hg, fun g hg => by rw [h _ (by omega)]; exact a5 g hg, fun g hg => by rw [h _ (by omega)]; exact a6 g hg, fun t ht => by rw [h _ (by omega)]; exact a7 t ht, fun t ht => by rw [h _ (by omega)]; exact a8 t ht, fun g k hg hk e => ?_, fun g k hg hk e => ?_, fun g k hg hk e => ?_, fun g hg e => ?_, fun g hg e => ?_, fun g t hg ht e => ?_, h9, ?_, ?_, ?_, fun v hv => by rw [h _ (by omega)]; exact a19 v hv⟩
  · rw [h _ (by omega), h _ (by omega)] at e
    rw [h _ (by omega)]
    exact a9 g k hg hk e
  · rw [h _ (by omega), h _ (by omega)] at e
    rw [h _ (by omega)]
    exact a10 g k hg hk e
  · rw [h _ (by omega), h _ (by omega)] at e
    rw [h _ (by omega)]
    exact a11 g k hg hk e
  · rw [h _ (by omega)] at e
    rw [h _ (by omega), h _ (by omega)]
    exact a12 g hg e
  · rw [h _ (by omega)] at e
    rw [h _ (by omega)]
    exact a13 g hg e
  · rw [h _ (by omega)] at e
    rw [h _ (by omega)]
    exact a14 g t hg ht e
  · rw [h _ (by omega)]; exact a16
  · rw [h _ (by omega)]; exact a17
  · rw [h _ (by omega)]; exact a18
theorem tow_cg {q c : Nat → Int32} {t : Nat} (hz : gz q ≤ 16) (h : ∀ k, k < 153 → k ≠ 18 → c k = q k) (h1 : c (153 + 2 * t) = q (153 + 2 * t)) (h2 : c (153 + 2 * t + 1) = q (153 + 2 * t + 1)) : tow c t (153 + 2 * t) = tow q t (153 + 2 * t) := by
  have hl := hld_cg h hz t
  unfold tow
  rw [hl, h1, h2, h 9 (by omega) (by omega)]
  rcases (fk_al (fun g => q (25 + 8 * g + 4)) (gz q) t) with ⟨e, -⟩ | ⟨g, hg, e, -⟩
  · have e' : hld q t = -1 := e
    rw [e']
    simp only [if_true]
    split
    · exact h1
    · split
      · exact h1
      · rw [hy_ss, hy_ss]
  · have e' : hld q t = nI g := e
    rw [e', hy_c (by omega), h _ (by omega) (by omega)]
    simp only [hy_n1 (show g < 2 ^ 31 by omega), if_false]
    split
    · exact h1
    · split
      · exact h1
      · rw [hy_so _ _ (by omega), hy_ss, hy_so _ _ (by omega), hy_ss]
theorem tow_end {q c0 c : Nat → Int32} (hZ : hy_Z q) (hQ : hy_Q q) (hG : OG q (gz q) c0) (hP : OPg q c0 (pz q) c) : (∀ k, k < 153 → towN q (tz q) 0 k = c k) ∧ (∀ t, t < tz q → towN q (tz q) 0 (153 + 2 * t) = c (153 + 2 * t)) ∧ (∀ t, t < tz q → towN q (tz q) 0 (153 + 2 * t + 1) = c (153 + 2 * t + 1)) := by
  have z2 := hZ.1.2
  have z8 := hZ.2.2.1.2.2
  have z10 := hZ.2.2.2.1.2
  have z16 := hZ.2.2.2.2.2.2.2
  refine ⟨fun k hk => ?_, fun t ht => ?_, fun t ht => ?_⟩
  · by_cases e : k = 18
    · subst e
      rw [towN_18 hZ (tz q) 0 q (fun _ _ _ => rfl) (fun _ _ _ => rfl), hP.1 18 (by omega), hG.2.2.2.2, wet_cnt hZ hQ]
    · rw [towN_o _ _ _ _ hk e, hP.1 k hk, hG.1 k hk e]
  · have e1 : towN q (tz q) 0 (153 + 2 * t) = tow q t (153 + 2 * t) := by
      rw [show tz q = t + (1 + (tz q - t - 1)) by omega, towN_sp, towN_sp]
      rw [towN_o2 _ _ _ _ (by omega) (by omega)]
      show tow (towN q t 0) (0 + t) (153 + 2 * t) = _
      rw [Nat.zero_add]
      exact tow_cg z2 (fun k hk h18 => towN_o _ _ _ _ hk h18) (towN_o2 _ _ _ _ (by omega) (by omega)) (towN_o2 _ _ _ _ (by omega) (by omega))
    rw [e1]
    obtain ⟨w, hw, ew⟩ := hQ.2.2.2.2.2.2.1 t ht
    unfold tow
    rcases hld_al hZ t with e | ⟨g, hg, e, e2⟩
    · have hno : ∀ g, g < gz q → q (25 + 8 * g + 4) ≠ nI t := by
        intro g hg e3
        rw [hld_fk, fk_is (by omega) hg e3 (hQ_h hQ), hy_n1 (by omega)] at e
        exact e
      have ec0 := hG.2.2.1 t ht hno
      rw [e]
      simp only [if_true]
      rcases hQ.2.2.2.2.2.2.2.1 t ht with e4 | ⟨p, hp, e4⟩
      · rw [if_pos e4, hP.2.2.1 t ht (fun p hp e5 => by rw [tw_is hZ hQ ht hp, e4, hy_n1' (by omega)] at e5; exact e5), ec0]
      · rw [if_neg (by rw [e4, hy_n1 (by omega)]; exact not_false), hP.2.2.2 p hp t ht ((tw_is hZ hQ ht hp).mpr e4), ec0]
        unfold drw
        split
        · rfl
        · rw [hy_ss, ew, mx_nI w (by omega)]
          by_cases w0 : w = 0
          · subst w0
            rfl
          · rw [if_neg (by rw [hy_0, hy_le (by omega) (by omega)]; omega), hy_1, hy_sub (by omega)]
    · have e4 := hQ.2.2.2.2.2.2.2.2.2.2.2.2.2.1 g t hg ht e2
      have ec : c (153 + 2 * t) = c0 (153 + 2 * t) := hP.2.2.1 t ht (fun p hp e5 => by rw [tw_is hZ hQ ht hp, e4, hy_n1' (by omega)] at e5; exact e5)
      rw [ec, hG.2.2.2.1 g hg t ht e2, e, hy_c (by omega)]
      simp only [hy_n1 (show g < 2 ^ 31 by omega), if_false]
      have e9 : (9 ≤ q (153 + 2 * t)) = (q (153 + 2 * t) = 9) := by
        rw [ew, show (9 : Int32) = nI 9 from rfl, hy_le (by omega) (by omega), hy_eq (by omega) (by omega)]
        exact propext ⟨fun _ => by omega, fun _ => by omega⟩
      have e10 := hy_lt1 (n := sz q + 1) (by omega) ((hQ.2.1 g hg).imp id (fun ⟨k, a, c⟩ => ⟨k, by omega, c⟩))
      unfold wetP
      rw [e2, hy_c (by omega)]
      simp only [e10, e9]
      by_cases x1 : q (25 + 8 * g + 2) ≤ 0
      · simp [x1]
      · by_cases x2 : q (153 + 2 * t) = 9
        · simp [x1, x2]
        · have n1 := hy_n1 (a := t) (by omega)
          simp only [x1, x2, n1, if_false, not_false_eq_true, and_self, decide_true, if_true]
          rw [hy_so _ _ (by omega), hy_ss]
  · rw [towN_o2 _ _ _ _ (by omega) (by omega), hP.2.1, hG.2.1]
