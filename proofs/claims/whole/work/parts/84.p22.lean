
theorem mod_up {a g : Nat} (h : a % g + 1 < g) : (a + 1) % g = a % g + 1 := by
  have e : a + 1 = g * (a / g) + (a % g + 1) := by have := Nat.div_add_mod a g; omega
  rw [e, Nat.mul_add_mod]
  have e2 : (g * (a / g) + (a % g + 1)) = a + 1 := e.symm
  rw [Nat.mod_eq_of_lt h]
theorem mod_top {a g : Nat} (h : a % g + 1 = g) : (a + 1) % g = 0 := by
  have e : a + 1 = g * (a / g) + (a % g + 1) := by have := Nat.div_add_mod a g; omega
  rw [e, Nat.mul_add_mod, h, Nat.mod_self]
def NS (q : Nat → Int32) (a g u : Nat) : Prop := a ≤ 20000 ∧ 2 ≤ g ∧ g ≤ 60 ∧ u ≤ 30 ∧ q 8 = nI a ∧ q 6 = nI g ∧ q 7 = nI u ∧ (q 10 = -1 ∨ ∃ j, j + u ≤ a ∧ q 10 = nI j)
theorem NS_0 {q : Nat → Int32} {a g u : Nat} (h : NS q a g u) : (if q 10 = -1 then (0 : Int32) else if q 10 + q 7 ≤ q 8 then 0 else 1) = 0 := by
  obtain ⟨h1, h2, h3, h4, h5, h6, h7, h8⟩ := h
  rcases h8 with h8 | ⟨j, hj, h8⟩
  · rw [if_pos h8]
  · have : q 10 + q 7 ≤ q 8 := by rw [h8, h7, h5, hy_add, hy_le (by omega) (by omega)]; exact hj
    rw [if_pos this]; split <;> rfl
theorem min_gong {q : Nat → Int32} {a g : Nat} (hz : gz q ≤ 16) (ha : a ≤ 20000) (hg : 2 ≤ g) (hg2 : g ≤ 60) (h8 : q 8 = nI a) (h6 : q 6 = nI g) : minute q 10 = if (a + 1) % g = 0 then nI (a + 1) else q 10 := by
  rw [minute_10 hz, h8, h6, hy_add1, hy_mod (by omega) (by omega) (by omega)]
  have hm : (a + 1) % g ≤ a + 1 := Nat.mod_le _ _
  by_cases e : (a + 1) % g = 0
  · rw [if_pos e, e]; rfl
  · rw [if_neg e, if_neg (by rw [hy_0, hy_eq (by omega) (by omega)]; exact e)]
theorem silY (k25 : Int32 → hz_M → hz_O) (k41 : hz_M → hz_O) {g u : Nat} (hu : 1 ≤ u) : ∀ (d i f a : Nat) (M Mw : hz_M), hy_W Mw (M 179) → NS (M 179) a g u → a % g + (d + 1) = g → i + (d + 1) ≤ 200 → d + 2 < f → a + d ≤ 15000 →
    ∃ M' Mw', f_X11_silenceIn_L11 k25 k41 f (nI i) M = k25 (nI (i + (d + 1))) M' ∧ hy_W Mw' (M' 179) ∧ ∀ a, a ≠ 179 → a ≠ 185 → M' a = M a
  | d, i, f, a, M, Mw, W, ns, hd, hi, hf, ha => by
    obtain ⟨f, rfl⟩ : ∃ e, f = e + 1 := ⟨f - 1, by omega⟩
    have e : ¬ 200 < nI i := by rw [show (200 : Int32) = nI 200 from rfl, hy_lt (by omega) (by omega)]; omega
    have z2 := W.1.1.1.2
    have ns0 := NS_0 ns
    obtain ⟨h1, h2, h3, h4, h5, h6, h7, h8⟩ := ns
    obtain ⟨Mw1, _, _, W1⟩ := c_min (fun _ _ => none) 0 (f := 0) (n := 1) (i := 0) W (by omega) (by omega)
    obtain ⟨M1, a1, a2, a3, a4⟩ := r_min W rfl
    have t1 : minute (M 179) 8 = nI (a + 1) := by rw [minute_8 z2, h5, hy_add1]
    have g1 : minute (M 179) 6 = nI g := by rw [minute_o (by omega) (by omega) (by omega) (by omega) (by omega) (by omega) (by omega) (by omega) (by omega)]; exact h6
    have u1 : minute (M 179) 7 = nI u := by rw [minute_o (by omega) (by omega) (by omega) (by omega) (by omega) (by omega) (by omega) (by omega) (by omega)]; exact h7
    have s1 := min_gong z2 h1 h2 h3 h5 h6
    have st : f_X11_silenceIn_L11 k25 k41 (f + 1) (nI i) M = f_X11_silenceIn_L11 k25 k41 f (nI (i + 1)) M1 := by
      simp only [f_X11_silenceIn_L11, e, if_false, r_silence rfl, ns0, hy_cts, if_true, a1, hy_lt', hy_add1]
    match d, hd, hi, hf, ha with
    | 0, hd, hi, hf, ha =>
      obtain ⟨f, rfl⟩ : ∃ e, f = e + 1 := ⟨f - 1, by omega⟩
      rw [if_pos (mod_top (by omega))] at s1
      refine ⟨M1, Mw1, ?_, by rw [a2]; exact W1, a4⟩
      rw [st]
      have e5 : ¬ 200 < nI (i + 1) := by rw [show (200 : Int32) = nI 200 from rfl, hy_lt (by omega) (by omega)]; omega
      have sl : (if M1 179 10 = -1 then (0 : Int32) else if M1 179 10 + M1 179 7 ≤ M1 179 8 then 0 else 1) = 1 := by
        rw [a2, s1, u1, t1, if_neg (by rw [hy_n1 (by omega)]; exact not_false), if_neg (by rw [hy_add, hy_le (by omega) (by omega)]; omega)]
      simp only [f_X11_silenceIn_L11, e5, if_false, r_silence rfl, sl, hy_cts, hy_f10]
    | d + 1, hd, hi, hf, ha =>
      have up := mod_up (a := a) (g := g) (by omega)
      rw [if_neg (by omega)] at s1
      have ns1 : NS (M1 179) (a + 1) g u := by
        rw [a2]
        refine ⟨by omega, h2, h3, h4, t1, g1, u1, ?_⟩
        rw [s1]
        rcases h8 with h8 | ⟨j, hj, h8⟩
        · exact Or.inl h8
        · exact Or.inr ⟨j, by omega, h8⟩
      obtain ⟨M', Mw', b1, b2, b3⟩ := silY k25 k41 hu d (i + 1) f (a + 1) M1 Mw1 (by rw [a2]; exact W1) ns1 (by omega) (by omega) (by omega) (by omega)
      exact ⟨M', Mw', by rw [st, b1]; congr 2; omega, b2, fun a c e => by rw [b3 a c e, a4 a c e]⟩
theorem silN (k25 : Int32 → hz_M → hz_O) (k41 : hz_M → hz_O) {g : Nat} : ∀ (k i f a : Nat) (M Mw : hz_M), hy_W Mw (M 179) → NS (M 179) a g 0 → i + k = 201 → k < f → a + k ≤ 15000 →
    ∃ M' Mw', f_X11_silenceIn_L11 k25 k41 f (nI i) M = k41 M' ∧ hy_W Mw' (M' 179) ∧ ∀ a, a ≠ 179 → a ≠ 185 → M' a = M a
  | 0, i, f, a, M, Mw, W, ns, hi, hf, ha => by
    obtain ⟨f, rfl⟩ : ∃ e, f = e + 1 := ⟨f - 1, by omega⟩
    have e : 200 < nI i := by rw [show (200 : Int32) = nI 200 from rfl, hy_lt (by omega) (by omega)]; omega
    exact ⟨M, Mw, by simp only [f_X11_silenceIn_L11, e, if_true], W, fun _ _ _ => rfl⟩
  | k + 1, i, f, a, M, Mw, W, ns, hi, hf, ha => by
    obtain ⟨f, rfl⟩ : ∃ e, f = e + 1 := ⟨f - 1, by omega⟩
    have e : ¬ 200 < nI i := by rw [show (200 : Int32) = nI 200 from rfl, hy_lt (by omega) (by omega)]; omega
    have z2 := W.1.1.1.2
    have ns0 := NS_0 ns
    obtain ⟨h1, h2, h3, h4, h5, h6, h7, h8⟩ := ns
    obtain ⟨Mw1, _, _, W1⟩ := c_min (fun _ _ => none) 0 (f := 0) (n := 1) (i := 0) W (by omega) (by omega)
    obtain ⟨M1, a1, a2, a3, a4⟩ := r_min W rfl
    have s1 := min_gong z2 h1 h2 h3 h5 h6
    have ns1 : NS (M1 179) (a + 1) g 0 := by
      rw [a2]
      refine ⟨by omega, h2, h3, h4, by rw [minute_8 z2, h5, hy_add1], by rw [minute_o (by omega) (by omega) (by omega) (by omega) (by omega) (by omega) (by omega) (by omega) (by omega)]; exact h6, by rw [minute_o (by omega) (by omega) (by omega) (by omega) (by omega) (by omega) (by omega) (by omega) (by omega)]; exact h7, ?_⟩
      rw [s1]
      split
      · exact Or.inr ⟨a + 1, by omega, rfl⟩
      · rcases h8 with h8 | ⟨j, hj, h8⟩
        · exact Or.inl h8
        · exact Or.inr ⟨j, by omega, h8⟩
    obtain ⟨M', Mw', b1, b2, b3⟩ := silN k25 k41 k (i + 1) f (a + 1) M1 Mw1 (by rw [a2]; exact W1) ns1 (by omega) (by omega) (by omega)
    refine ⟨M', Mw', ?_, b2, fun a c e => by rw [b3 a c e, a4 a c e]⟩
    simp only [f_X11_silenceIn_L11, e, if_false, r_silence rfl, ns0, hy_cts, if_true, a1, hy_lt', hy_add1, b1]
theorem g_23 {M : hz_M} (I : Inv M) : ∃ M', fs_23 M = some (0, M') ∧ Inv M' := by
  have hC := I_C I
  have hQ := I_Q I
  have hq := fun r => q_1 M r 0
  have hq2 := q_2 M 0
  have hC0 := hC
  obtain ⟨hZ, ⟨b3, b4, b5, b6, b7, b8, bag, bnm⟩, hRR⟩ := hC
  have hZ0 := hZ
  obtain ⟨⟨s1, s2, s3, s4, s5, s6⟩, ra, ro, rp, rl, rt, rs, rw', rd, rwt, rpg, rk, rh, rtw⟩ := c_rows hRR
  obtain ⟨⟨z1, z2⟩, ⟨z3, z4, z5⟩, ⟨z6, z7, z8⟩, ⟨z9, z10⟩, ⟨z11, z12, z13⟩, ⟨z14, z15, z16⟩⟩ := hZ
  rw [z1] at b3; rw [z3] at b4; rw [z6] at b5; rw [z9] at b6; rw [z11] at b7; rw [z14] at b8
  show ∃ M', hy_ge (f_X10_silenceIn M) f_X11_silenceIn = some (0, M') ∧ Inv M'
  obtain ⟨a, ha, h8, h10⟩ := I_T I
  obtain ⟨qa, qat, ql, qh, qs, qw, qwt, qpg, jl, jh, jp, qo, qol, qhp, qht, qrm, ⟨g, hg1, hg2, h6⟩, ⟨u, hu, h7⟩, qop⟩ := hQ
  have sil := c_silence hC0
  have fin : ∀ (r : Int32), f_X10_silenceIn M = some (r, M) → (∀ X1 : hz_M, X1 179 = M 179 → ∃ M' Mw', f_X11_silenceIn_L11 (fun (v1_10 : Int32) (M11 : hz_M) => hz_ct (f_X11_back v1_10 M11) fun r12 M13 => some (r12, M13)) (fun (M5 : hz_M) => hz_ct (f_X11_back (-1 : Int32) M5) fun r6 M7 => some (r6, M7)) hz_FU (nI 0) X1 = (if r = -1 then (fun (M5 : hz_M) => hz_ct (f_X11_back (-1 : Int32) M5) fun r6 M7 => some (r6, M7)) M' else (fun (v1_10 : Int32) (M11 : hz_M) => hz_ct (f_X11_back v1_10 M11) fun r12 M13 => some (r12, M13)) r M') ∧ hy_W Mw' (M' 179) ∧ ∀ a, a ≠ 179 → a ≠ 185 → M' a = X1 a) → ∃ M', hy_ge (f_X10_silenceIn M) f_X11_silenceIn = some (0, M') ∧ Inv M' := by
    intro r hr step
    refine g_sime (r := r) I hr ?_
    have h0 : hz_set M 178 8 0 179 = M 179 := by rw [hy_seto _ _ _ (by omega)]
    obtain ⟨X1, t1, t2, t3⟩ := r_tries (hz_set M 178 8 0)
    obtain ⟨X2, Mw2, b1, b5, b3⟩ := step X1 (by rw [t3 179 (by omega), h0])
    obtain ⟨c1, c2, c3, c4⟩ := r_sim (X := hz_set M 178 8 0) r h0 (I_W I).2.2 t2 t3 b3 b5.2.2 (hy_setk _ _ _ _)
    refine ⟨_, ?_, c2, fun b hb => by rw [c3 b, hy_setn _ _ _ hb], fun a a1 a2 a3 => by rw [c4 a a1 a2 a3, hy_seto _ _ _ a1]⟩
    simp (disch := omega) only [f_X11_silenceIn, t1, hy_cts, hy_ctn, hy_xts, hy_xtn, c_need0, c_need1, x_need0, x_need1, hy_jn, hy_lm, hy_lt', hy_gt, if_true, if_false, hy_f10]
    refine Eq.trans b1 ?_
    by_cases e : r = -1
    · rw [if_pos e, ← e]; simp only [c1, hy_cts]
    · rw [if_neg e]; simp only [c1, hy_cts]
  by_cases sl : M 179 10 ≠ -1 ∧ ¬ M 179 10 + M 179 7 ≤ M 179 8
  · rw [if_neg sl.1, if_neg sl.2] at sil
    refine fin 0 ?_ (fun X1 hX => ⟨X1, M, ?_, by rw [hX]; exact I_W I, fun _ _ _ => rfl⟩)
    · simp only [f_X10_silenceIn, sil, hy_cts, hy_ctn, hy_xts, hy_xtn, c_need0, c_need1, x_need0, x_need1, hy_jn, hy_lm, hy_lt', hy_gt, if_true, if_false, hy_f10]
    · obtain ⟨m, hm⟩ := hy_FUs
      have e : ¬ 200 < nI 0 := by decide
      rw [hm]
      have rs := r_silence hX
      rw [if_neg sl.1, if_neg sl.2] at rs
      simp only [f_X11_silenceIn_L11, e, if_false, rs, hy_cts, hy_f10, hy_f01]
      rfl
  · have ns : NS (M 179) a g u := by
      refine ⟨by omega, hg1, hg2, hu, h8, h6, h7, ?_⟩
      rcases h10 with h | ⟨j, hj, h⟩
      · exact Or.inl h
      · refine Or.inr ⟨j, ?_, h⟩
        rcases Nat.lt_or_ge a (j + u) with h' | h'
        · exfalso; apply sl
          refine ⟨by rw [h, ne_eq, hy_n1 (by omega)]; exact not_false, ?_⟩
          rw [h, h7, h8, hy_add, hy_le (by omega) (by omega)]; omega
        · exact h'
    rw [NS_0 ns] at sil
    by_cases u0 : u = 0
    · subst u0
      refine fin (-1) ?_ (fun X1 hX => ?_)
      · have e : M 179 7 ≤ 0 := by rw [h7]; decide
        simp only [f_X10_silenceIn, sil, s6, e, hy_cts, hy_ctn, hy_xts, hy_xtn, c_need0, c_need1, x_need0, x_need1, hy_jn, hy_lm, hy_lt', hy_gt, if_true, if_false, hy_f10]
      · obtain ⟨M', Mw', b1, b2, b3⟩ := silN (fun (v1_10 : Int32) (M11 : hz_M) => hz_ct (f_X11_back v1_10 M11) fun r12 M13 => some (r12, M13)) (fun (M5 : hz_M) => hz_ct (f_X11_back (-1 : Int32) M5) fun r6 M7 => some (r6, M7)) (g := g) 201 0 hz_FU a X1 M (by rw [hX]; exact I_W I) (by rw [hX]; exact ns) (by omega) (hy_FU (by omega)) (by omega)
        exact ⟨M', Mw', by rw [b1, if_pos rfl], b2, b3⟩
    · have hm : a % g < g := Nat.mod_lt _ (by omega)
      obtain ⟨d, hd⟩ : ∃ d, a % g + (d + 1) = g := ⟨g - a % g - 1, by omega⟩
      refine fin (nI (d + 1)) ?_ (fun X1 hX => ?_)
      · have e : ¬ M 179 7 ≤ 0 := by rw [h7, hy_0, hy_le (by omega) (by omega)]; omega
        have e2 : ¬ M 179 6 ≤ 0 := by rw [h6, hy_0, hy_le (by omega) (by omega)]; omega
        have e3 : hz_nz (M 179 6) = true := by rw [h6]; unfold hz_nz; simp (disch := omega) [hy_0, hy_eq]; omega
        have e4 : M 179 6 - (M 179 8 - M 179 8 / M 179 6 * M 179 6) = nI (d + 1) := by
          rw [h6, h8, hy_mod (by omega) (by omega) (by omega), hy_sub (by omega)]; congr 1; omega
        simp only [f_X10_silenceIn, sil, s6, e, f_X7_minutesToGong, s5, e2, e3, s1, e4, hy_cts, hy_ctn, hy_xts, hy_xtn, c_need0, c_need1, x_need0, x_need1, hy_jn, hy_lm, hy_lt', hy_gt, if_true, if_false, hy_f10]
      · obtain ⟨M', Mw', b1, b2, b3⟩ := silY (fun (v1_10 : Int32) (M11 : hz_M) => hz_ct (f_X11_back v1_10 M11) fun r12 M13 => some (r12, M13)) (fun (M5 : hz_M) => hz_ct (f_X11_back (-1 : Int32) M5) fun r6 M7 => some (r6, M7)) (g := g) (u := u) (by omega) d 0 hz_FU a X1 M (by rw [hX]; exact I_W I) (by rw [hX]; exact ns) hd (by omega) (hy_FU (by omega)) (by omega)
        exact ⟨M', Mw', by rw [b1, Nat.zero_add, if_neg (by rw [hy_n1 (by omega)]; exact not_false)], b2, b3⟩
theorem fold_ad {q : Nat → Int32} : ∀ (k i : Nat) (c d : Int32), hy_fold (fun v c => c + q (21 + v)) k i (c + d) = hy_fold (fun v c => c + q (21 + v)) k i c + d
  | 0, _, _, _ => rfl
  | k + 1, i, c, d => by
    show hy_fold (fun v c => c + q (21 + v)) k (i + 1) (c + d + q (21 + i)) = hy_fold (fun v c => c + q (21 + v)) k (i + 1) (c + q (21 + i)) + d
    rw [← fold_ad k (i + 1) (c + q (21 + i)) d]
    congr 1
    generalize q (21 + i) = x
    grind
theorem fold_st {q : Nat → Int32} {v : Nat} {o : Int32} : ∀ (k i : Nat) (c : Int32), i ≤ v → v < i + k → hy_fold (fun w c => c + hy_st q (21 + v) o (21 + w)) k i c = hy_fold (fun w c => c + q (21 + w)) k i c - q (21 + v) + o
  | 0, _, _, h, h2 => by omega
  | k + 1, i, c, h, h2 => by
    show hy_fold (fun w c => c + hy_st q (21 + v) o (21 + w)) k (i + 1) (c + hy_st q (21 + v) o (21 + i)) = hy_fold (fun w c => c + q (21 + w)) k (i + 1) (c + q (21 + i)) - q (21 + v) + o
    by_cases e : i = v
    · subst e
      rw [hy_ss]
      have e1 : hy_fold (fun w c => c + hy_st q (21 + i) o (21 + w)) k (i + 1) (c + o) = hy_fold (fun w c => c + q (21 + w)) k (i + 1) (c + o) := hy_fold_congr _ _ _ (fun j hj _ b => by rw [hy_so _ _ (by omega)])
      rw [e1, fold_ad, fold_ad]
      generalize hy_fold (fun w c => c + q (21 + w)) k (i + 1) c = y
      generalize q (21 + i) = x
      grind
    · rw [hy_so _ _ (by omega)]
      exact fold_st k (i + 1) _ (by omega) (by omega)
theorem g_24 {M : hz_M} (I : Inv M) (a b : Int32) : ∃ M', fs_24 a b M = some (0, M') ∧ Inv M' := by
  have hC := I_C I
  have hQ := I_Q I
  have hq := fun r => q_1 M r 0
  have hq2 := q_2 M 0
  have hC0 := hC
  obtain ⟨hZ, ⟨b3, b4, b5, b6, b7, b8, bag, bnm⟩, hRR⟩ := hC
  have hZ0 := hZ
  obtain ⟨⟨s1, s2, s3, s4, s5, s6⟩, ra, ro, rp, rl, rt, rs, rw', rd, rwt, rpg, rk, rh, rtw⟩ := c_rows hRR
  obtain ⟨⟨z1, z2⟩, ⟨z3, z4, z5⟩, ⟨z6, z7, z8⟩, ⟨z9, z10⟩, ⟨z11, z12, z13⟩, ⟨z14, z15, z16⟩⟩ := hZ
  rw [z1] at b3; rw [z3] at b4; rw [z6] at b5; rw [z9] at b6; rw [z11] at b7; rw [z14] at b8
  show ∃ M', hy_go (f_X10_ifValve a b M) (fx_X10_ifValve a b M) (f_X11_ifValve a b) = some (0, M') ∧ Inv M'
  rcases hy_two a (n := vz (M 179)) (by omega) with h | ⟨v, hv, rfl⟩
  · refine g_no (r := 0) I ?_ ?_ ?_
    · simp only [f_X10_ifValve, c_isValveO hC0 h, hy_cts, hy_ctn, hy_xts, hy_xtn, c_need0, c_need1, x_need0, x_need1, hy_jn, hy_lm, hy_lt', hy_gt, if_true, if_false, hy_f10]
    · simp only [fx_X10_ifValve, c_isValveO hC0 h, hy_cts, hy_ctn, hy_xts, hy_xtn, c_need0, c_need1, x_need0, x_need1, hy_jn, hy_lm, hy_lt', hy_gt, if_true, if_false, hy_f10]
    · simp only [f_X11_ifValve, r_isValveO hq2 hZ0 h, r_right0, hy_cts, hy_ctn, hy_xts, hy_xtn, c_need0, c_need1, x_need0, x_need1, hy_jn, hy_lm, hy_lt', hy_gt, if_true, if_false, hy_f10]
  rcases c_isOpen M b with ⟨h1, h2⟩ | ⟨h1, k, hk, rfl⟩
  · refine g_no (r := 0) I ?_ ?_ ?_
    · simp only [f_X10_ifValve, c_isValve hC0 hv, h1, hy_cts, hy_ctn, hy_xts, hy_xtn, c_need0, c_need1, x_need0, x_need1, hy_jn, hy_lm, hy_lt', hy_gt, if_true, if_false, hy_f10]
    · simp only [fx_X10_ifValve, c_isValve hC0 hv, h1, hy_cts, hy_ctn, hy_xts, hy_xtn, c_need0, c_need1, x_need0, x_need1, hy_jn, hy_lm, hy_lt', hy_gt, if_true, if_false, hy_f10]
    · simp only [f_X11_ifValve, r_isValve hq2 hZ0 hv, r_in_no _ h2, r_right0, hy_cts, hy_ctn, hy_xts, hy_xtn, c_need0, c_need1, x_need0, x_need1, hy_jn, hy_lm, hy_lt', hy_gt, if_true, if_false, hy_f10]
  · have es : stm (hy_st (M 179) (21 + v) (nI k)) = stm (M 179) - M 179 (21 + v) + nI k := by
      unfold stm
      rw [vz_st _ _ (by omega)]
      exact fold_st _ _ _ (by omega) (by omega)
    refine g_sim (r := nxt (M 179 9) (stm (M 179) - M 179 (21 + v) + nI k)) I ?_ (fun Y hY => ?_)
    · simp (disch := omega) only [f_X10_ifValve, c_isValve hC0 hv, h1, c_stm hC0, hy_in, hy_gt, hy_c, ro v (by omega), s2, c_hb, hy_cts, hy_ctn, hy_xts, hy_xtn, c_need0, c_need1, x_need0, x_need1, hy_jn, hy_lm, hy_lt', hy_gt, if_true, if_false, hy_f10]
    · have h0 : hz_set Y 178 8 0 179 = M 179 := by rw [hy_seto _ _ _ (by omega)]; exact hY
      obtain ⟨X1, t1, t2, t3⟩ := r_tries (hz_set Y 178 8 0)
      have hx1 : X1 179 = M 179 := by rw [t3 179 (by omega), h0]
      have hx2 : hz_set X1 179 (21 + v) (nI k) 179 = hy_st (M 179) (21 + v) (nI k) := by rw [hy_srow, hx1]
      have hZ1 : hy_Z (hy_st (M 179) (21 + v) (nI k)) := by
        unfold hy_Z at *
        simp (disch := omega) only [gz_st, lz_st, pz_st, tz_st, vz_st, sz_st, hy_so]
        exact hZ0
      obtain ⟨c1, c2, c3, c4⟩ := r_sim (X := hz_set Y 178 8 0) (X2 := hz_set X1 179 (21 + v) (nI k)) (nxt (M 179 9) (stm (M 179) - M 179 (21 + v) + nI k)) h0 (I_W I).2.2 t2 t3 (fun a h1 h2 => hy_seto _ _ _ h1) (by rw [hx2]; intro k hk; rw [hy_so _ _ (by omega)]; exact (I_W I).2.2 k hk) (hy_setk _ _ _ _)
      refine ⟨_, ?_, c2, fun b hb => by rw [c3 b, hy_setn _ _ _ hb], fun a a1 a2 a3 => by rw [c4 a a1 a2 a3, hy_seto _ _ _ a1]⟩
      have nx := r_nxt hx2 hZ1
      rw [hy_so _ _ (by omega), es] at nx
      simp (disch := omega) only [f_X11_ifValve, r_isValve h0 hZ0 hv, r_in_ok _ (hy_nn (a := k) (by omega)) (show nI k ≤ 9 by rw [show (9 : Int32) = nI 9 from rfl, hy_le (by omega) (by omega)]; exact hk), r_right1, t1, show (21 : Int32) = nI 21 from rfl, hy_add, hy_in, hy_gt, hy_c, nx, c1, hy_cts, hy_ctn, hy_xts, hy_xtn, c_need0, c_need1, x_need0, x_need1, hy_jn, hy_lm, hy_lt', hy_gt, if_true, if_false, hy_f10]

