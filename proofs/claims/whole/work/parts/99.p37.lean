
theorem hy_injM {r r' : Int32} {M M' : hz_M} {o : hz_O} (h1 : o = some (r, M)) (h2 : o = some (r', M')) : M' = M := by
  rw [h1] at h2; injection h2 with e; injection e with e1 e2; exact e2.symm
theorem j_text (kk : Nat → hz_M → hz_O) : ∀ (k i f f' : Nat) (Mc Mr : hz_M), Mc 9 1 = nI i → (∀ j, j < i → Mc 10 j = Mr 186 j ∧ ∃ c, 1 ≤ c ∧ c ≤ 255 ∧ Mc 10 j = nI c) → i + k = 90 → k < f → k < f' →
    ∃ Mc' Mr', f_X8_appendText_L2 f 0 (nI i) Mc = some (0, Mc') ∧ f_X11_takesText_L2 kk f' 0 (nI i) Mr = kk 0 Mr' ∧ Mc' 9 1 = nI 90 ∧ (∀ j, j < 90 → Mc' 10 j = Mr' 186 j ∧ ∃ c, 1 ≤ c ∧ c ≤ 255 ∧ Mc' 10 j = nI c) ∧ (∀ a, a ≠ 9 → a ≠ 10 → Mc' a = Mc a) ∧ (∀ a, a ≠ 186 → Mr' a = Mr a)
  | 0, i, f, f', Mc, Mr, h1, h2, hi, hf, hf' => by
    obtain ⟨f, rfl⟩ : ∃ e, f = e + 1 := ⟨f - 1, by omega⟩
    obtain ⟨f', rfl⟩ : ∃ e, f' = e + 1 := ⟨f' - 1, by omega⟩
    have e : i = 90 := by omega
    subst e
    have w1 : hz_sok 0 = true := (w_ok 0 (by omega)).1
    have w2 : hz_sl 0 ≤ nI 90 := by decide
    refine ⟨Mc, Mr, ?_, ?_, h1, h2, fun _ _ _ => rfl, fun _ _ => rfl⟩
    · simp only [f_X8_appendText_L2, w1, hy_gt, w2, if_true]
    · simp only [f_X11_takesText_L2, w1, hy_gt, w2, if_true]
  | k + 1, i, f, f', Mc, Mr, h1, h2, hi, hf, hf' => by
    obtain ⟨f, rfl⟩ : ∃ e, f = e + 1 := ⟨f - 1, by omega⟩
    obtain ⟨f', rfl⟩ : ∃ e, f' = e + 1 := ⟨f' - 1, by omega⟩
    have w1 : hz_sok 0 = true := (w_ok 0 (by omega)).1
    have wl : hz_sl 0 = nI 90 := by decide
    have wg : hz_len.getD 0 0 = 90 := by decide
    have e : ¬ nI 90 ≤ nI i := by rw [hy_le (by omega) (by omega)]; omega
    have cc : ∀ j, j < 90 → ∃ c, 1 ≤ c ∧ c ≤ 255 ∧ hz_cc 0 (nI j) = nI c := fun j hj => by
      have : ∀ j, j < 90 → 1 ≤ Int32.toNatClampNeg (hz_cc 0 (nI j)) ∧ Int32.toNatClampNeg (hz_cc 0 (nI j)) ≤ 255 ∧ hz_cc 0 (nI j) = nI (Int32.toNatClampNeg (hz_cc 0 (nI j))) := by decide +kernel
      exact ⟨_, this j hj⟩
    obtain ⟨c, c1, c2, c3⟩ := cc i (by omega)
    have pt := c_put (M := Mc) (n := i) (c := c) h1 c2 (Or.inr (by omega)) (by omega)
    rw [if_neg (by omega)] at pt
    obtain ⟨Mc', Mr', a1, a2, a3, a4, a5, a6⟩ := j_text kk k (i + 1) f f' (hz_set (hz_set Mc 10 i (nI c)) 9 1 (nI (i + 1))) (hz_set Mr 186 i (nI c)) (hy_setk _ _ _ _) (fun j hj => by
      rw [hy_seto _ _ _ (by omega)]
      by_cases ej : j = i
      · subst ej; rw [hy_setk, hy_setk]; exact ⟨rfl, c, c1, c2, rfl⟩
      · rw [hy_setn _ _ _ ej, hy_setn _ _ _ ej]; exact h2 j (by omega)) (by omega) (by omega) (by omega)
    refine ⟨Mc', Mr', ?_, ?_, a3, a4, fun a h1 h2 => by rw [a5 a h1 h2, hy_seto _ _ _ h1, hy_seto _ _ _ h2], fun a h => by rw [a6 a h, hy_seto _ _ _ h]⟩
    · simp (disch := omega) only [f_X8_appendText_L2, w1, hy_gt, wl, e, if_false, wg, hy_in, c3, pt, hy_cts, hy_lt', hy_add1]
      exact a1
    · simp (disch := omega) only [f_X11_takesText_L2, w1, hy_gt, wl, e, if_false, wg, hy_in, hy_c, c3, hy_lm, hy_lt', hy_add1]
      exact a2
def zM : hz_M := fun _ _ => 0
def chkI : Bool := match f_X8_appendText 0 (hz_set zM 0 9 (-1)) with
  | some (_, M) => (match f_X3_read 1 M with | some (_, M') => M' 9 6 == 0 | none => false)
  | none => false
theorem chkI_ok : chkI = true := by decide +kernel
theorem hz_init : ∃ (r0 : Int32) (M0 : hz_M) (r1 : Int32) (M1 : hz_M), f_X10_init (fun _ _ => 0) = some (r0, M0) ∧ f_X11_init (hz_m1 M0) = some (r1, M1) ∧ Inv (hz_m2 M1) := by
  have run := fun (kk : Nat → hz_M → hz_O) (Mr : hz_M) => j_text kk 90 0 hz_FU hz_FU (hz_set zM 0 9 (-1)) Mr (by rw [hy_seto _ _ _ (by omega)]; rfl) (fun j hj => by omega) (by omega) (hy_FU (by omega)) (hy_FU (by omega))
  obtain ⟨Ca, _, ap, _, ca1, _, ca3, _⟩ := run (fun _ _ => none) zM
  have sameA : ∀ C' : hz_M, f_X8_appendText_L2 hz_FU 0 (nI 0) (hz_set zM 0 9 (-1)) = some (0, C') → C' = Ca := fun C' h => hy_injM ap h
  have ap' : f_X8_appendText 0 (hz_set zM 0 9 (-1)) = some (0, Ca) := ap
  -- the reference, from a place that is empty
  have read : ∀ Y : hz_M, (∀ b, Y 179 b = 0) → ∃ Mt, (∀ kk, f_X11_takesText_L2 kk hz_FU 0 (nI 0) Y = kk 0 Mt) ∧ (∀ a, a ≠ 186 → Mt a = Y a) ∧ TX 90 Ca (hz_set Mt 178 11 (hz_sl 0)) ∧ ∀ b, (hz_set Mt 178 11 (hz_sl 0)) 179 b = 0 := by
    intro Y hY
    obtain ⟨C', Mt, x1, x2, x3, x4, x5, x6⟩ := run (fun _ M => some (0, M)) Y
    have ec := sameA C' x1
    subst ec
    refine ⟨Mt, fun kk => ?_, x6, ⟨by omega, x3, by rw [hy_setk]; decide, fun i hi => by rw [hy_seto _ _ _ (by omega)]; exact x4 i hi⟩, fun b => by rw [hy_seto _ _ _ (by omega), x6 179 (by omega)]; exact hY b⟩
    obtain ⟨C2, Mt2, w1, w2, w3, w4, w5, w6⟩ := run kk Y
    have ind : ∀ (k : Nat) (i f : Nat) (M Mt : hz_M), i + k = 90 → k < f → f_X11_takesText_L2 (fun _ M => some (0, M)) f 0 (nI i) M = some (0, Mt) → f_X11_takesText_L2 kk f 0 (nI i) M = kk 0 Mt := by
      intro k
      induction k with
      | zero =>
        intro i f M Mt hi hf h
        obtain ⟨f, rfl⟩ : ∃ e, f = e + 1 := ⟨f - 1, by omega⟩
        have e : i = 90 := by omega
        subst e
        have w1 : hz_sok 0 = true := (w_ok 0 (by omega)).1
        have w2 : hz_sl 0 ≤ nI 90 := by decide
        simp only [f_X11_takesText_L2, w1, hy_gt, w2, if_true] at h ⊢
        rw [hy_injM h rfl]
      | succ k ih =>
        intro i f M Mt hi hf h
        obtain ⟨f, rfl⟩ : ∃ e, f = e + 1 := ⟨f - 1, by omega⟩
        have w1 : hz_sok 0 = true := (w_ok 0 (by omega)).1
        have wl : hz_sl 0 = nI 90 := by decide
        have wg : hz_len.getD 0 0 = 90 := by decide
        have e : ¬ nI 90 ≤ nI i := by rw [hy_le (by omega) (by omega)]; omega
        simp (disch := omega) only [f_X11_takesText_L2, w1, hy_gt, wl, e, if_false, wg, hy_in, hy_c, hy_lm, hy_lt', hy_add1] at h ⊢
        exact ih (i + 1) f _ Mt (by omega) (by omega) h
    exact ind 90 0 hz_FU Y Mt (by omega) (hy_FU (by omega)) x2
  obtain ⟨M00, m1, m2, m3, m4⟩ := read zM (fun _ => rfl)
  obtain ⟨C, _, _, k1, _, _, _, _, k6, k7, _, _⟩ := j_read (th := 1) (by omega) m3 m4
  have same : ∀ C' : hz_M, f_X3_read 1 Ca = some (0, C') → C' = C := fun C' h => hy_injM k1 h
  have c96 : C 9 6 = 0 := by
    have h := chkI_ok
    unfold chkI at h
    rw [ap'] at h
    simp only [k1] at h
    exact eq_of_beq h
  obtain ⟨kc, _, hk6, hk7⟩ := k6
  have kc0 : kc = 0 := by rw [hk6, hy_0, hy_eq (by omega) (by omega)] at c96; exact c96
  have c97 := hk7 kc0
  have Cz : ∀ a, 10 ≤ a → a ≠ 10 → C a = zM a := fun a h1 h2 => by rw [k7 a (by omega) (by omega) (by omega) (by omega) (by omega), ca3 a (by omega) h2, hy_seto _ _ _ (by omega)]
  have C0 : C 0 9 = -1 := by rw [k7 0 (by omega) (by omega) (by omega) (by omega) (by omega), ca3 0 (by omega) (by omega), hy_setk]
  have szT : ∃ T, T ≤ 16 ∧ hz_set C 9 1 0 1 6 = nI T := by
    obtain ⟨C', Rs, R', z1, z2, z3, z4, z5, z6, z7, z8, z9⟩ := j_read (th := 1) (by omega) m3 m4
    have ec := same C' z1
    subst ec
    obtain ⟨i, T', i16, T16, g3, HDD, r2, _⟩ := z9 c96
    obtain ⟨l, p, t, v, st, r, g, u, l1, l2, p1, p2, t1', v1, v2, st1, st2, r1, r2', g1, g2, u1, ⟨d4, d5, d6, _⟩, _⟩ := HDD
    exact ⟨t, by omega, by rw [hy_seto _ _ _ (by omega)]; exact d6⟩
  obtain ⟨T', T16, s6⟩ := szT
  obtain ⟨Mf, b1, b2, b3, b4, b5, b6, b7, b8, b9⟩ := c_begin T16 s6
  have key : f_X10_init (fun _ _ => 0) = some (0, Mf) := by
    show f_X10_init zM = _
    simp only [f_X10_init, hy_lm, ap', hy_cts, k1, f_X8_clear, b1]
  have h1M : ∀ b, hz_m1 Mf 179 b = 0 := fun b => by unfold hz_m1; rw [if_neg (by omega), if_neg (by omega)]
  obtain ⟨Mt, n1, n2, n3, n4⟩ := read (hz_m1 Mf) h1M
  obtain ⟨C', Rs, R', z1, z2, z3, z4, z5, z6, z7, z8, z9⟩ := j_read (th := 1) (by omega) n3 n4
  have ec := same C' z1
  subst ec
  obtain ⟨i, T2, i16, T216, g3, HDD, r2, r11, r9, r10, GSS, pgs, zz⟩ := z9 c96
  have eT : T' = T2 := by
    obtain ⟨l, p, t, v, st, r, g, u, l1, l2, p1, p2, t1', v1, v2, st1, st2, r1, r2', g1, g2, u1, ⟨d4, d5, d6, _⟩, ⟨x0, x1, x2, _⟩⟩ := HDD
    rw [hy_seto _ _ _ (by omega), d6, hy_eq (by omega) (by omega)] at s6
    rw [x2, hy_eq (by omega) (by omega)] at r2
    omega
  subst eT
  have rf : f_X11_init (hz_m1 Mf) = some (0, hz_set R' 178 11 0) := by
    have w1 : hz_sok 0 = true := (w_ok 0 (by omega)).1
    simp only [f_X11_init, f_X11_takesText, hy_jn]
    rw [show (0 : Int32) = nI 0 from rfl, n1]
    simp only [w1, hy_gt, hy_lm, z2, hy_cts, z3]
  refine ⟨0, Mf, 0, hz_set R' 178 11 0, key, rf, ?_⟩
  generalize hMr : hz_m2 (hz_set R' 178 11 0) = Mr
  have m1' : ∀ a, a ≠ 178 → a ≠ 193 → Mr a = R' a := fun a h1 h2 => by
    subst hMr; funext b; unfold hz_m2; rw [if_neg h2, hy_seto _ _ _ h1]
  have m8 : ∀ b, b ≠ 11 → Mr 178 b = R' 178 b := fun b h1 => by
    subst hMr; unfold hz_m2; rw [if_neg (by omega), hy_setn _ _ _ h1]
  have lo : ∀ a, a < 178 → Mr a = Mf a := fun a ha => by
    rw [m1' a (by omega) (by omega), z8.1 a (by omega) (by omega), hy_seto _ _ _ (by omega), n2 a (by omega)]
    funext b; unfold hz_m1; rw [if_pos ha]
  have hi_ : ∀ a, 180 ≤ a → a ≠ 186 → a ≠ 193 → ∀ b, Mr a b = 0 := fun a h1 h2 h3 b => by
    rw [m1' a (by omega) h3, z8.1 a (by omega) (by omega), hy_seto _ _ _ (by omega), n2 a h2]
    unfold hz_m1; rw [if_neg (by omega), if_neg (by omega)]
  have c178 : ∀ b, b ≠ 11 → (b < 12 ∨ 17 < b) → Mr 178 b = 0 := fun b h1 h2 => by
    rw [m8 b h1, z8.2.1 b h2, hy_setn _ _ _ h1, n2 178 (by omega)]
    unfold hz_m1; rw [if_neg (by omega), if_neg (by omega)]
  have mfC : ∀ a, a < 11 → a ≠ 9 → Mf a = C' a := fun a h1 h2 => by rw [b2 a (by omega), hy_seto _ _ _ h2]
  have mfz : ∀ a, 25 ≤ a → ∀ b, Mf a b = 0 := fun a h1 b => by rw [b2 a (by omega), hy_seto _ _ _ (by omega), Cz a (by omega) (by omega)]; rfl
  have q179 : Mr 179 = R' 179 := m1' 179 (by omega) (by omega)
  obtain ⟨Wn, Tn⟩ := W_fresh (M := Mf) (C := fun a => if a = 5 then C' 1 else if a = 6 then C' 2 else if a = 7 then C' 3 else if a = 8 then C' 4 else C' a) (q := R' 179) i16 T16 HDD r2 r11 r9 r10 (fun g hg => ⟨R', rfl, GSS g hg⟩) pgs zz
    ⟨by rw [mfC 1 (by omega) (by omega)]; exact g3, fun b _ _ => by rw [mfC 1 (by omega) (by omega)]; rfl⟩ (fun b _ => by rw [mfC 2 (by omega) (by omega)]; rfl) (fun b _ => by rw [mfC 3 (by omega) (by omega)]; rfl) (fun b _ => by rw [mfC 4 (by omega) (by omega)]; rfl)
    ⟨b3.1, b3.2.1, b3.2.2.1, by rw [b3.2.2.2.1, b2 1 (by omega)], by rw [b3.2.2.2.2.1, b2 1 (by omega)], by rw [b3.2.2.2.2.2, b2 1 (by omega)]⟩ b4 b5 b6 b7 b8 b9
  refine Inv_mk (W_fr (fun a ha => lo a (by omega)) Wn Tn) Tn q179 ⟨0, 0, by omega, by omega, c178 6 (by omega) (by omega), by rw [lo 32 (by omega)]; exact mfz 32 (by omega) 4, by rw [lo 32 (by omega)]; exact mfz 32 (by omega) 3, fun j hj => by omega⟩ (fun s hs => ⟨by rw [lo 35 (by omega), mfz 35 (by omega), hi_ 184 (by omega) (by omega) (by omega)], Or.inl (by rw [lo 35 (by omega), mfz 35 (by omega)])⟩) ?_ ?_ ⟨0, by omega, ?_, ?_, fun i hi => by omega⟩ ⟨0, by omega, by rw [lo 176 (by omega)]; exact mfz 176 (by omega) 2, c178 27 (by omega) (by omega), fun i hi => by omega⟩ (c178 24 (by omega) (by omega))
  · rw [lo 26 (by omega), mfz 26 (by omega), c178 7 (by omega) (by omega)]
  · rw [lo 0 (by omega), mfC 0 (by omega) (by omega), C0, m8 12 (by omega), ← z5, c97]
  · rw [lo 9 (by omega), b2 9 (by omega), hy_setk]; rfl
  · subst hMr; unfold hz_m2; rw [if_neg (by omega), hy_setk]; rfl
theorem hz_step (g_2 : ∀ M, Inv M → ∃ M', fs_2 M = some (0, M') ∧ Inv M') {M : hz_M} (I : Inv M) (k a1 a2 a3 a4 a5 : Int32) : ∃ M', fs_case k a1 a2 a3 a4 a5 M = some (0, M') ∧ Inv M' := by
  unfold fs_case
  by_cases c0 : k = 0
  · rw [if_pos c0]; exact g_0 I a1 a2 a3 a4 a5
  rw [if_neg c0]
  by_cases c1 : k = 1
  · rw [if_pos c1]; exact g_1 I
  rw [if_neg c1]
  by_cases c2 : k = 2
  · rw [if_pos c2]; exact g_2 M I
  rw [if_neg c2]
  by_cases c3 : k = 3
  · rw [if_pos c3]; exact g_3 I
  rw [if_neg c3]
  by_cases c4 : k = 4
  · rw [if_pos c4]; exact g_4 I a1
  rw [if_neg c4]
  by_cases c5 : k = 5
  · rw [if_pos c5]; exact g_5 I a1 a2
  rw [if_neg c5]
  by_cases c6 : k = 6
  · rw [if_pos c6]; exact g_6 I a1 a2
  rw [if_neg c6]
  by_cases c7 : k = 7
  · rw [if_pos c7]; exact g_7 I a1
  rw [if_neg c7]
  by_cases c8 : k = 8
  · rw [if_pos c8]; exact g_8 I a1
  rw [if_neg c8]
  by_cases c9 : k = 9
  · rw [if_pos c9]; exact g_9 I a1
  rw [if_neg c9]
  by_cases c10 : k = 10
  · rw [if_pos c10]; exact g_10 I a1 a2
  rw [if_neg c10]
  by_cases c11 : k = 11
  · rw [if_pos c11]; exact g_11 I
  rw [if_neg c11]
  by_cases c12 : k = 12
  · rw [if_pos c12]; exact g_12 I a1 a2
  rw [if_neg c12]
  by_cases c13 : k = 13
  · rw [if_pos c13]; exact g_13 I
  rw [if_neg c13]
  by_cases c14 : k = 14
  · rw [if_pos c14]; exact g_14 I a1 a2 a3
  rw [if_neg c14]
  by_cases c15 : k = 15
  · rw [if_pos c15]; exact g_15 I a1
  rw [if_neg c15]
  by_cases c16 : k = 16
  · rw [if_pos c16]; exact g_16 I a1
  rw [if_neg c16]
  by_cases c17 : k = 17
  · rw [if_pos c17]; exact g_17 I
  rw [if_neg c17]
  by_cases c18 : k = 18
  · rw [if_pos c18]; exact g_18 I
  rw [if_neg c18]
  by_cases c19 : k = 19
  · rw [if_pos c19]; exact g_19 I
  rw [if_neg c19]
  by_cases c20 : k = 20
  · rw [if_pos c20]; exact g_20 I a1
  rw [if_neg c20]
  by_cases c21 : k = 21
  · rw [if_pos c21]; exact g_21 I a1
  rw [if_neg c21]
  by_cases c22 : k = 22
  · rw [if_pos c22]; exact g_22 I a1
  rw [if_neg c22]
  by_cases c23 : k = 23
  · rw [if_pos c23]; exact g_23 I
  rw [if_neg c23]
  by_cases c24 : k = 24
  · rw [if_pos c24]; exact g_24 I a1 a2
  rw [if_neg c24]
  by_cases c25 : k = 25
  · rw [if_pos c25]; exact g_25 I a1
  rw [if_neg c25]
  by_cases c26 : k = 26
  · rw [if_pos c26]; exact g_26 I a1 a2
  rw [if_neg c26]
  by_cases c27 : k = 27
  · rw [if_pos c27]; exact g_27 I a1
  rw [if_neg c27]
  by_cases c28 : k = 28
  · rw [if_pos c28]; exact g_28 I a1 a2
  rw [if_neg c28]
  by_cases c29 : k = 29
  · rw [if_pos c29]; exact g_29 I a1 a2
  rw [if_neg c29]
  by_cases c30 : k = 30
  · rw [if_pos c30]; exact g_30 I a1
  rw [if_neg c30]
  by_cases c31 : k = 31
  · rw [if_pos c31]; exact g_31 I a1
  rw [if_neg c31]
  by_cases c32 : k = 32
  · rw [if_pos c32]; exact g_32 I
  rw [if_neg c32]
  by_cases c33 : k = 33
  · rw [if_pos c33]; exact g_33 I a1 a2
  rw [if_neg c33]
  by_cases c34 : k = 34
  · rw [if_pos c34]; exact g_34 I a1
  rw [if_neg c34]
  by_cases c35 : k = 35
  · rw [if_pos c35]; exact g_35 I a1 a2
  rw [if_neg c35]
  by_cases c36 : k = 36
  · rw [if_pos c36]; exact g_36 I
  rw [if_neg c36]
  by_cases c37 : k = 37
  · rw [if_pos c37]; exact g_37 I a1
  rw [if_neg c37]
  by_cases c38 : k = 38
  · rw [if_pos c38]; exact g_38 I
  rw [if_neg c38]
  by_cases c39 : k = 39
  · rw [if_pos c39]; exact g_39 I a1
  rw [if_neg c39]
  by_cases c40 : k = 40
  · rw [if_pos c40]; exact g_40 I a1
  rw [if_neg c40]
  exact ⟨M, rfl, I⟩
theorem hz_runs (g_2 : ∀ M, Inv M → ∃ M', fs_2 M = some (0, M') ∧ Inv M') (xs : Nat → Int32) (L : Nat) : ∀ (t n : Nat) (M : hz_M), Inv M → L + 6 ≤ n + 6 * t → n ≤ L + 5 → ∃ r M', f_loop xs L t n M = some (r, M')
  | 0, n, M, _, h1, h2 => by omega
  | t + 1, n, M, I, h1, h2 => by
    unfold f_loop
    by_cases e : n + 6 ≤ L
    · obtain ⟨M', a1, a2⟩ := hz_step g_2 I (xs n &&& 63) (xs (n + 1)) (xs (n + 2)) (xs (n + 3)) (xs (n + 4)) (xs (n + 5))
      rw [if_pos e, a1, hy_cts]
      exact hz_runs g_2 xs L t (n + 6) M' a2 (by omega) (by omega)
    · rw [if_neg e]; exact ⟨1, M, rfl⟩
theorem hz_pure_of (g_2 : ∀ M, Inv M → ∃ M', fs_2 M = some (0, M') ∧ Inv M') {L : Nat} (hL : L ≤ 3072) (xs : Nat → Int32) : ∃ (r0 : Int32) (M0 : hz_M) (r1 : Int32) (M1 : hz_M) (r2 : Int32) (ME : hz_M), f_X10_init (fun _ _ => 0) = some (r0, M0) ∧ f_X11_init (hz_m1 M0) = some (r1, M1) ∧ f_loop xs L 600 0 (hz_m2 M1) = some (r2, ME) := by
  obtain ⟨r0, M0, r1, M1, h1, h2, I⟩ := hz_init
  obtain ⟨r2, ME, h3⟩ := hz_runs g_2 xs L 600 0 (hz_m2 M1) I (by omega) (by omega)
  exact ⟨r0, M0, r1, M1, r2, ME, h1, h2, h3⟩

