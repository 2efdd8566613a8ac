theorem c_isOpen44 {M : hz_M} {k : Nat} (hk : k ≤ 9) : f_X10_isOpening (nI k) M = some (1, M) := by
  have e1 : ¬ nI k < 0 := by rw [show (0 : Int32) = nI 0 from rfl, hy_lt (by omega) (by omega)]; omega
  have e2 : ¬ (9 : Int32) < nI k := by rw [show (9 : Int32) = nI 9 from rfl, hy_lt (by omega) (by omega)]; omega
  simp only [f_X10_isOpening, e1, e2, if_false]
theorem k_enter {M : hz_M} {q : Nat → Int32} {qs : Nat → Nat → Int32} {n g : Nat} (W : hy_W M q) (T : hy_T q) (R : Ring M qs n) {l t p0 : Nat} (hg : g < gz q) (h0 : rsn q g 0 = 0) (hl : l < lz q) (hfl : frL q = nI l) (hkl : kpr q l = -1) (hd : dry q = nI t) (ht : t < tz q) (hp0 : p0 < pz q) (hpt : q (153 + 2 * t + 1) = nI p0) (hout : q (25 + 8 * g + 2) = -1) : ∃ M1, f_X10_enter (nI g) M = some (nI l, M1) ∧ hy_W M1 (hy_st (hy_st (hy_st (hy_st (hy_st (hy_st q (25 + 8 * g + 3) (nI l)) (25 + 8 * g + 2) (nI 0)) (153 + 2 * t + 1) (-1)) (25 + 8 * g + 4) (nI t)) (25 + 8 * g + 5) (nI 0)) (12 + 0) (q 12 + 1)) ∧ Ring M1 (qadd qs n q) (n + 1) ∧ (∀ a, (CF a ∨ a = 26) → M1 a = M a) := by
  obtain ⟨M1, e, k1, k2, k3⟩ := ch_do (c := 1) (g := nI g) (n := 0) W T R (by rw [cR_1, c_rsn W.1 W.2.1 hg (Or.inl rfl), hy_cts, h0, if_pos rfl]) (fun Mc Wc => by rw [cP_1]; exact o_letIn Wc hg hl hfl hkl hd ht hp0 hpt hout)
  exact ⟨M1, by simp only [f_X10_enter, c_isGuest W.1 hg, hy_cts, c_need1, e], k1, k2, k3⟩
theorem k_enterN {M : hz_M} {q : Nat → Int32} {g : Nat} (W : hy_W M q) (hg : g < gz q) (h0 : ¬ rsn q g 0 = 0) : f_X10_enter (nI g) M = some (-2, hz_set M 26 3 (M 26 3 + 1)) := by
  have e := ch_no (c := 1) (g := nI g) (n := 0) (k := -2) (M := M) (by rw [cR_1, c_rsn W.1 W.2.1 hg (Or.inl rfl), hy_cts, if_neg h0]) (by decide)
  simp only [f_X10_enter, c_isGuest W.1 hg, hy_cts, c_need1, e]
theorem k_sit {M : hz_M} {q : Nat → Int32} {qs : Nat → Nat → Int32} {n g : Nat} (W : hy_W M q) (T : hy_T q) (R : Ring M qs n) {s : Nat} (hg : g < gz q) (h1 : 1 ≤ s) (hs : s ≤ sz q) (h0 : rsn q g (10 + nI s) = 0) (hin : q (25 + 8 * g + 2) ≠ -1) : ∃ M1, f_X10_sit (nI g) (nI s) M = some (q 9 + 6 * nI s, M1) ∧ hy_W M1 (hy_st q (25 + 8 * g + 2) (nI s)) ∧ Ring M1 (qadd qs n q) (n + 1) ∧ (∀ a, (CF a ∨ a = 26) → M1 a = M a) := by
  obtain ⟨M1, e, k1, k2, k3⟩ := ch_do (c := 2) (g := nI g) (n := nI s) W T R (by rw [cR_2, c_rsn (d := 10 + nI s) W.1 W.2.1 hg (Or.inr (Or.inr (Or.inl ⟨s, h1, hs, hy_add 10 s⟩))), hy_cts, h0, if_pos rfl]) (fun Mc Wc => by rw [cP_2]; exact o_seat Wc hg hs hin)
  exact ⟨M1, by simp only [f_X10_sit, c_isGuest W.1 hg, c_isStep W.1 h1 hs, hy_cts, c_need1, e], k1, k2, k3⟩
theorem k_sitN {M : hz_M} {q : Nat → Int32} {g : Nat} (W : hy_W M q) {s : Nat} (hg : g < gz q) (h1 : 1 ≤ s) (hs : s ≤ sz q) (h0 : ¬ rsn q g (10 + nI s) = 0) : f_X10_sit (nI g) (nI s) M = some (-2, hz_set M 26 3 (M 26 3 + 1)) := by
  have e := ch_no (c := 2) (g := nI g) (n := nI s) (k := -2) (M := M) (by rw [cR_2, c_rsn (d := 10 + nI s) W.1 W.2.1 hg (Or.inr (Or.inr (Or.inl ⟨s, h1, hs, hy_add 10 s⟩))), hy_cts, if_neg h0]) (by decide)
  simp only [f_X10_sit, c_isGuest W.1 hg, c_isStep W.1 h1 hs, hy_cts, c_need1, e]
theorem k_hall {M : hz_M} {q : Nat → Int32} {qs : Nat → Nat → Int32} {n g : Nat} (W : hy_W M q) (T : hy_T q) (R : Ring M qs n) (hg : g < gz q) (h0 : ¬ q (25 + 8 * g + 2) ≤ 0) : ∃ M1, f_X10_hall (nI g) M = some (q (25 + 8 * g + 2), M1) ∧ hy_W M1 (hy_st q (25 + 8 * g + 2) (nI 0)) ∧ Ring M1 (qadd qs n q) (n + 1) ∧ (∀ a, (CF a ∨ a = 26) → M1 a = M a) := by
  obtain ⟨M1, e, k1, k2, k3⟩ := ch_do (c := 3) (g := nI g) (n := 0) W T R (by
    have e := (c_rows W.1.2.2).2.2.2.1 g hg
    have hz := W.1.1.1.2
    simp (disch := omega) only [cR_3, hy_in, hy_gt, hy_c, e, h0, if_false]) (fun Mc Wc => by rw [cP_3]; exact o_hall Wc hg (fun e => h0 (by rw [e]; decide)))
  exact ⟨M1, by simp only [f_X10_hall, c_isGuest W.1 hg, hy_cts, c_need1, e], k1, k2, k3⟩
theorem k_hallN {M : hz_M} {q : Nat → Int32} {g : Nat} (W : hy_W M q) (hg : g < gz q) (h0 : q (25 + 8 * g + 2) ≤ 0) : f_X10_hall (nI g) M = some (-3, hz_set M 26 3 (M 26 3 + 1)) := by
  have e := ch_no (c := 3) (g := nI g) (n := 0) (k := -3) (M := M) (by
    have e := (c_rows W.1.2.2).2.2.2.1 g hg
    have hz := W.1.1.1.2
    simp (disch := omega) only [cR_3, hy_in, hy_gt, hy_c, e, h0, if_true]) (by decide)
  simp only [f_X10_hall, c_isGuest W.1 hg, hy_cts, c_need1, e]
theorem k_hang {M : hz_M} {q : Nat → Int32} {qs : Nat → Nat → Int32} {n g : Nat} (W : hy_W M q) (T : hy_T q) (R : Ring M qs n) {t p : Nat} (hg : g < gz q) (hp : p < pz q) (h0 : rsn q g (20 + nI p) = 0) (ht : t < tz q) (hh : q (25 + 8 * g + 4) = nI t) (hw : tw q p = -1) : ∃ M1, f_X10_hang (nI g) (nI p) M = some (nI t, M1) ∧ hy_W M1 (hy_st (hy_st q (153 + 2 * t + 1) (nI p)) (25 + 8 * g + 4) (-1)) ∧ Ring M1 (qadd qs n q) (n + 1) ∧ (∀ a, (CF a ∨ a = 26) → M1 a = M a) := by
  obtain ⟨M1, e, k1, k2, k3⟩ := ch_do (c := 4) (g := nI g) (n := nI p) W T R (by rw [cR_4, c_rsn (d := 20 + nI p) W.1 W.2.1 hg (Or.inr (Or.inr (Or.inr (Or.inl ⟨p, hp, hy_add 20 p⟩)))), hy_cts, h0, if_pos rfl]) (fun Mc Wc => by rw [cP_4]; exact o_hang Wc hg ht hp hh hw)
  exact ⟨M1, by simp only [f_X10_hang, c_isGuest W.1 hg, c_isPeg W.1 hp, hy_cts, c_need1, e], k1, k2, k3⟩
theorem k_hangN {M : hz_M} {q : Nat → Int32} {g : Nat} (W : hy_W M q) {p : Nat} (hg : g < gz q) (hp : p < pz q) (h0 : ¬ rsn q g (20 + nI p) = 0) : f_X10_hang (nI g) (nI p) M = some (-2, hz_set M 26 3 (M 26 3 + 1)) := by
  have e := ch_no (c := 4) (g := nI g) (n := nI p) (k := -2) (M := M) (by rw [cR_4, c_rsn (d := 20 + nI p) W.1 W.2.1 hg (Or.inr (Or.inr (Or.inr (Or.inl ⟨p, hp, hy_add 20 p⟩)))), hy_cts, if_neg h0]) (by decide)
  simp only [f_X10_hang, c_isGuest W.1 hg, c_isPeg W.1 hp, hy_cts, c_need1, e]
theorem k_take {M : hz_M} {q : Nat → Int32} {qs : Nat → Nat → Int32} {n g : Nat} (W : hy_W M q) (T : hy_T q) (R : Ring M qs n) {t p : Nat} (hg : g < gz q) (hp : p < pz q) (h0 : rsn q g (40 + nI p) = 0) (ht : t < tz q) (hpt : q (153 + 2 * t + 1) = nI p) (htw : tw q p = nI t) (hhg : q (25 + 8 * g + 4) = -1) (hin : q (25 + 8 * g + 2) ≠ -1) : ∃ M1, f_X10_take (nI g) (nI p) M = some (nI t, M1) ∧ hy_W M1 (hy_st (hy_st q (153 + 2 * t + 1) (-1)) (25 + 8 * g + 4) (nI t)) ∧ Ring M1 (qadd qs n q) (n + 1) ∧ (∀ a, (CF a ∨ a = 26) → M1 a = M a) := by
  obtain ⟨M1, e, k1, k2, k3⟩ := ch_do (c := 5) (g := nI g) (n := nI p) W T R (by rw [cR_5, c_rsn (d := 40 + nI p) W.1 W.2.1 hg (Or.inr (Or.inr (Or.inr (Or.inr ⟨p, hp, hy_add 40 p⟩)))), hy_cts, h0, if_pos rfl]) (fun Mc Wc => by rw [cP_5]; exact o_take Wc hg ht hp hpt htw hhg hin)
  exact ⟨M1, by simp only [f_X10_take, c_isGuest W.1 hg, c_isPeg W.1 hp, hy_cts, c_need1, e], k1, k2, k3⟩
theorem k_takeN {M : hz_M} {q : Nat → Int32} {g : Nat} (W : hy_W M q) {p : Nat} (hg : g < gz q) (hp : p < pz q) (h0 : ¬ rsn q g (40 + nI p) = 0) : f_X10_take (nI g) (nI p) M = some (-2, hz_set M 26 3 (M 26 3 + 1)) := by
  have e := ch_no (c := 5) (g := nI g) (n := nI p) (k := -2) (M := M) (by rw [cR_5, c_rsn (d := 40 + nI p) W.1 W.2.1 hg (Or.inr (Or.inr (Or.inr (Or.inr ⟨p, hp, hy_add 40 p⟩)))), hy_cts, if_neg h0]) (by decide)
  simp only [f_X10_take, c_isGuest W.1 hg, c_isPeg W.1 hp, hy_cts, c_need1, e]
theorem k_leave {M : hz_M} {q : Nat → Int32} {qs : Nat → Nat → Int32} {n g : Nat} (W : hy_W M q) (T : hy_T q) (R : Ring M qs n) {l : Nat} (hg : g < gz q) (h0 : rsn q g 1 = 0) (hl : l < lz q) (hlg : q (25 + 8 * g + 3) = nI l) : ∃ M1, f_X10_leave (nI g) M = some (nI l, M1) ∧ hy_W M1 (hy_st (hy_st (hy_st (hy_st q (25 + 8 * g + 4) (-1)) (25 + 8 * g + 3) (-1)) (25 + 8 * g + 2) (-1)) (12 + 1) (q 13 + 1)) ∧ Ring M1 (qadd qs n q) (n + 1) ∧ (∀ a, (CF a ∨ a = 26) → M1 a = M a) := by
  obtain ⟨M1, e, k1, k2, k3⟩ := ch_do (c := 6) (g := nI g) (n := 0) W T R (by rw [cR_6, c_rsn W.1 W.2.1 hg (Or.inr (Or.inl rfl)), hy_cts, h0, if_pos rfl]) (fun Mc Wc => by rw [cP_6]; exact (W.2.1.2.2.2.1 g hg).elim (fun e => o_goN Wc hg hl e hlg) (fun ⟨t, ht, e⟩ => o_goT Wc hg ht hl e hlg))
  exact ⟨M1, by simp only [f_X10_leave, c_isGuest W.1 hg, hy_cts, c_need1, e], k1, k2, k3⟩
theorem k_leaveN {M : hz_M} {q : Nat → Int32} {g : Nat} (W : hy_W M q) (hg : g < gz q) (h0 : ¬ rsn q g 1 = 0) : f_X10_leave (nI g) M = some (-2, hz_set M 26 3 (M 26 3 + 1)) := by
  have e := ch_no (c := 6) (g := nI g) (n := 0) (k := -2) (M := M) (by rw [cR_6, c_rsn W.1 W.2.1 hg (Or.inr (Or.inl rfl)), hy_cts, if_neg h0]) (by decide)
  simp only [f_X10_leave, c_isGuest W.1 hg, hy_cts, c_need1, e]
theorem k_mute {M : hz_M} {q : Nat → Int32} {qs : Nat → Nat → Int32} {n g : Nat} (W : hy_W M q) (T : hy_T q) (R : Ring M qs n) (hg : g < gz q) (h0 : ¬ q (25 + 8 * g + 2) = -1) (hs : q 10 = -1 ∨ q 10 + q 7 ≤ q 8) : ∃ M1, f_X10_speak (nI g) M = some (q (25 + 8 * g + 6), M1) ∧ hy_W M1 (q) ∧ Ring M1 (qadd qs n q) (n + 1) ∧ (∀ a, (CF a ∨ a = 26) → M1 a = M a) := by
  obtain ⟨M1, e, k1, k2, k3⟩ := ch_do (c := 7) (g := nI g) (n := 0) W T R (by
    have e := (c_rows W.1.2.2).2.2.2.1 g hg
    have hz := W.1.1.1.2
    simp (disch := omega) only [cR_7, hy_in, hy_gt, hy_c, e, h0, if_false]) (fun Mc Wc => by rw [cP_7]; exact ⟨Mc, o_mute Wc hg hs, fun _ _ => rfl, Wc⟩)
  exact ⟨M1, by simp only [f_X10_speak, c_isGuest W.1 hg, hy_cts, c_need1, e], k1, k2, k3⟩
theorem k_warn {M : hz_M} {q : Nat → Int32} {qs : Nat → Nat → Int32} {n g : Nat} (W : hy_W M q) (T : hy_T q) (R : Ring M qs n) {k : Nat} (hg : g < gz q) (h0 : ¬ q (25 + 8 * g + 2) = -1) (hk : k ≤ 1) (hw : q (25 + 8 * g + 6) = nI k) (h10 : q 10 ≠ -1) (h11 : ¬ q 10 + q 7 ≤ q 8) : ∃ M1, f_X10_speak (nI g) M = some (nI (k + 1), M1) ∧ hy_W M1 (hy_st (hy_st q (25 + 8 * g + 6) (nI (k + 1))) (12 + 3) (q 15 + 1)) ∧ Ring M1 (qadd qs n q) (n + 1) ∧ (∀ a, (CF a ∨ a = 26) → M1 a = M a) := by
  obtain ⟨M1, e, k1, k2, k3⟩ := ch_do (c := 7) (g := nI g) (n := 0) W T R (by
    have e := (c_rows W.1.2.2).2.2.2.1 g hg
    have hz := W.1.1.1.2
    simp (disch := omega) only [cR_7, hy_in, hy_gt, hy_c, e, h0, if_false]) (fun Mc Wc => by rw [cP_7]; exact o_warn Wc hg hk hw h10 h11)
  exact ⟨M1, by simp only [f_X10_speak, c_isGuest W.1 hg, hy_cts, c_need1, e], k1, k2, k3⟩
theorem k_out {M : hz_M} {q : Nat → Int32} {qs : Nat → Nat → Int32} {n g : Nat} (W : hy_W M q) (T : hy_T q) (R : Ring M qs n) {l : Nat} (hg : g < gz q) (h0 : ¬ q (25 + 8 * g + 2) = -1) (hl : l < lz q) (hlg : q (25 + 8 * g + 3) = nI l) (hw : q (25 + 8 * g + 6) = nI 2) (h10 : q 10 ≠ -1) (h11 : ¬ q 10 + q 7 ≤ q 8) : ∃ M1, f_X10_speak (nI g) M = some (3, M1) ∧ hy_W M1 (hy_st (hy_st (hy_st (hy_st (hy_st (hy_st (hy_st (hy_st q (25 + 8 * g + 4) (-1)) (25 + 8 * g + 3) (-1)) (25 + 8 * g + 2) (-1)) (25 + 8 * g + 6) (nI 0)) (25 + 8 * g + 7) (q 8 / 600)) (12 + 3) (q 15 + 1)) (12 + 1) (q 13 + 1)) (12 + 2) (q 14 + 1)) ∧ Ring M1 (qadd qs n q) (n + 1) ∧ (∀ a, (CF a ∨ a = 26) → M1 a = M a) := by
  obtain ⟨M1, e, k1, k2, k3⟩ := ch_do (c := 7) (g := nI g) (n := 0) W T R (by
    have e := (c_rows W.1.2.2).2.2.2.1 g hg
    have hz := W.1.1.1.2
    simp (disch := omega) only [cR_7, hy_in, hy_gt, hy_c, e, h0, if_false]) (fun Mc Wc => by rw [cP_7]; exact (W.2.1.2.2.2.1 g hg).elim (fun e => o_hearN Wc hg hl e hlg hw h10 h11) (fun ⟨t, ht, e⟩ => o_hearT Wc hg ht hl e hlg hw h10 h11))
  exact ⟨M1, by simp only [f_X10_speak, c_isGuest W.1 hg, hy_cts, c_need1, e], k1, k2, k3⟩
theorem k_speakN {M : hz_M} {q : Nat → Int32} {g : Nat} (W : hy_W M q) (hg : g < gz q) (h0 : q (25 + 8 * g + 2) = -1) : f_X10_speak (nI g) M = some (-4, hz_set M 26 3 (M 26 3 + 1)) := by
  have e := ch_no (c := 7) (g := nI g) (n := 0) (k := -4) (M := M) (by
    have e := (c_rows W.1.2.2).2.2.2.1 g hg
    have hz := W.1.1.1.2
    simp (disch := omega) only [cR_7, hy_in, hy_gt, hy_c, e, h0, if_true]) (by decide)
  simp only [f_X10_speak, c_isGuest W.1 hg, hy_cts, c_need1, e]
theorem k_valve {M : hz_M} {q : Nat → Int32} {qs : Nat → Nat → Int32} {n g : Nat} (W : hy_W M q) (T : hy_T q) (R : Ring M qs n) {k : Nat} (hg : g < vz q) (hk : k ≤ 9) : ∃ M1, f_X10_valve (nI g) (nI k) M = some (q (21 + g), M1) ∧ hy_W M1 (hy_st q (21 + g) (nI k)) ∧ Ring M1 (qadd qs n q) (n + 1) ∧ (∀ a, (CF a ∨ a = 26) → M1 a = M a) := by
  obtain ⟨M1, e, k1, k2, k3⟩ := ch_do (c := 9) (g := nI g) (n := nI k) W T R (cR_9 _ _ _) (fun Mc Wc => by rw [cP_9]; exact o_turn Wc hg hk)
  exact ⟨M1, by simp only [f_X10_valve, c_isValve W.1 hg, c_isOpen44 hk, hy_cts, c_need1, e], k1, k2, k3⟩
theorem k_wash {M : hz_M} {q : Nat → Int32} {qs : Nat → Nat → Int32} {n : Nat} (W : hy_W M q) (T : hy_T q) (R : Ring M qs n) : ∃ M1, f_X10_wash M = some (wcn q (tz q) 0 0, M1) ∧ hy_W M1 (hy_st (wshN q (tz q) 0) (12 + 5) (q 17 + wcn q (tz q) 0 0)) ∧ Ring M1 (qadd qs n q) (n + 1) ∧ (∀ a, (CF a ∨ a = 26) → M1 a = M a) := by
  obtain ⟨M1, e, h1, h2, h3⟩ := ch_do (c := 8) (g := 0) (n := 0) (r := wcn q (tz q) 0 0) (q' := hy_st (wshN q (tz q) 0) (12 + 5) (q 17 + wcn q (tz q) 0 0)) W T R (cR_8 _ _ _) (fun Mc WM => by
    have hZ := W.1.1
    obtain ⟨⟨z1, z2⟩, ⟨z3, z4, z5⟩, ⟨z6, z7, z8⟩, ⟨z9, z10⟩, ⟨z11, z12, z13⟩, ⟨z14, z15, z16⟩⟩ := hZ
    have h17 : wshN q (tz q) 0 17 = q 17 := wshN_o _ _ _ _ (by omega)
    obtain ⟨M1, e1, fr, W1⟩ := c_washL (fun (v1_1 : Int32) (M2 : hz_M) =>
        hz_lm (hz_set M2 24 (Int32.toNatClampNeg (5 : Int32)) ((M2 24 (Int32.toNatClampNeg (5 : Int32))) + v1_1)) fun M3 => some (v1_1, M3)) (tz q) 0 hz_FU 0 Mc q WM (by omega) (hy_FU (by omega))
    have e24 : M1 24 5 = q 17 := by rw [(c_rows W1.1.2.2).2.1 5 (by omega)]; exact h17
    refine ⟨hz_set M1 24 5 (q 17 + wcn q (tz q) 0 0), ?_, fun a ha => by rw [hy_seto _ _ _ (by omega), fr a ha], ?_⟩
    · rw [cP_8]
      simp only [f_X1_washBasket, hy_jn]
      rw [show (0 : Int32) = nI 0 from rfl] at e1 ⊢
      rw [e1]
      simp only [hy_lm, hy_k5, e24]
    · exact p_acc (g := 5) W1 (by omega) (fun a h => hy_seto _ _ _ h) (hy_srow _ _ _ _) (fun k c0 => hy_so _ _ c0) (hy_ss _ _ _))
  exact ⟨M1, by simp only [f_X10_wash, e, hy_cts], h1, h2, h3⟩
