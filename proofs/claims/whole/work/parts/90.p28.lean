
def sumA (q : Nat → Int32) : Nat → Nat
  | 0 => 0
  | s + 1 => cN (atF q (nI (s + 1))) (gz q) 0 + sumA q s
def inR (q : Nat → Int32) (s g : Nat) : Bool := decide (∃ a, a < s + 1 ∧ q (25 + 8 * g + 2) = nI a)
theorem sumA_eq {q : Nat → Int32} : ∀ s, s ≤ 1000 → sumA q s + cN (atF q (nI 0)) (gz q) 0 = cN (inR q s) (gz q) 0
  | 0, _ => by
    unfold sumA
    rw [Nat.zero_add]
    have e : ∀ j, atF q (nI 0) j = inR q 0 j := by
      intro j
      unfold atF inR
      apply decide_eq_decide.mpr
      constructor
      · intro h; exact ⟨0, by omega, h⟩
      · rintro ⟨a, ha, h⟩
        have : a = 0 := by omega
        subst this; exact h
    rw [show atF q (nI 0) = inR q 0 from funext e]
  | s + 1, hs => by
    have ih := sumA_eq (q := q) s (by omega)
    have e := cN_add (p := inR q (s + 1)) (a := atF q (nI (s + 1))) (b := inR q s) (fun j => by
      unfold inR atF
      rw [← Bool.decide_or]
      apply decide_eq_decide.mpr
      constructor
      · rintro ⟨a, ha, h⟩
        by_cases e : a = s + 1
        · subst e; exact Or.inl h
        · exact Or.inr ⟨a, by omega, h⟩
      · rintro (h | ⟨a, ha, h⟩)
        · exact ⟨s + 1, by omega, h⟩
        · exact ⟨a, by omega, h⟩) (fun j => by
      unfold inR atF
      rw [decide_eq_true_iff, decide_eq_true_iff]
      rintro ⟨h, a, ha, h2⟩
      rw [h2, hy_eq (by omega) (by omega)] at h; omega) (gz q) 0
    unfold sumA
    rw [e, ← ih]; omega
theorem sumA_le {q : Nat → Int32} {s : Nat} (hs : s ≤ 1000) : sumA q s + cN (atF q (nI 0)) (gz q) 0 ≤ gz q := by
  rw [sumA_eq s hs]; exact cN_le _ _ _
theorem j_at {q : Nat → Int32} (a : Int32) {n : Nat} {Mc Mr : hz_M} (C : hy_C Mc q) (hq : Mr 179 = q) (hn : n + 2 + 7 * cN (atF q a) (gz q) 0 ≤ 255) (R : RJ n Mc Mr) :
    ∃ n' Mc1 Mc' Mr', n' ≤ n + 2 + 7 * cN (atF q a) (gz q) 0 ∧ f_X5_putGuestsAt a Mc = some (0, Mc1) ∧ f_X5_put 32 Mc1 = some (0, Mc') ∧ f_X11_writesGuests a Mr = some (0, Mr') ∧ RJ n' Mc' Mr' ∧ FC Mc Mc' ∧ FR Mr Mr' := by
  obtain ⟨z1, z2⟩ := C.1.1
  obtain ⟨Mc1, Mr1, a1, a2, a3, a4, a5, _⟩ := j_put 58 (by omega) R
  obtain ⟨n2, Mc2, Mr2, b0, b1, b2, b3, b4, b5⟩ := j_gs (fun (M4 : hz_M) => hz_ct (f_X11_writes (32 : Int32) M4) fun r5 M6 => some (0, M6)) a (gz q) 0 (n + 1) hz_FU hz_FU 0 Mc1 Mr1 (C_fr a4 C) (by rw [a5.1 179 (by omega) (by omega) (by omega)]; exact hq) (by omega) (by omega) a3 (hy_FU (by omega)) (hy_FU (by omega)) (by omega)
  obtain ⟨Mc3, Mr3, c1, c2, c3, c4, c5, _⟩ := j_put 32 (by omega) b3
  refine ⟨n2 + 1, Mc2, Mc3, Mr3, by omega, ?_, c1, ?_, c3, FC_t (FC_t a4 b4) c4, FR_t (FR_t a5 b5) c5⟩
  · simp only [f_X5_putGuestsAt, a1, hy_cts]; exact b1
  · simp only [f_X11_writesGuests, a2, hy_cts, hy_jn]
    refine Eq.trans b2 ?_
    simp only [c2, hy_cts]
theorem j_steps (kc kr : hz_M → hz_O) {q : Nat → Int32} : ∀ (s n f f' : Nat) (Mc Mr : hz_M), hy_C Mc q → Mr 179 = q → s ≤ 6 → n + 3 * s + 7 * sumA q s ≤ 250 → RJ n Mc Mr → s < f → s < f' →
    ∃ n' Mc' Mr', n' ≤ n + 3 * s + 7 * sumA q s ∧ f_X5_write_L13 kc f (nI s) Mc = kc Mc' ∧ f_X11_report_L17 kr f' (nI s) Mr = kr Mr' ∧ RJ n' Mc' Mr' ∧ FC Mc Mc' ∧ FR Mr Mr'
  | 0, n, f, f', Mc, Mr, C, hq, hs, hn, R, hf, hf' => by
    obtain ⟨f, rfl⟩ : ∃ e, f = e + 1 := ⟨f - 1, by omega⟩
    obtain ⟨f', rfl⟩ : ∃ e, f' = e + 1 := ⟨f' - 1, by omega⟩
    have e1 : nI 0 < 1 := by decide
    have e2 : nI 0 ≤ 0 := by decide
    refine ⟨n, Mc, Mr, by omega, ?_, ?_, R, fun _ _ _ => rfl, fun _ _ _ _ => rfl, fun _ _ => rfl⟩
    · simp only [f_X5_write_L13, e1, if_true]
    · simp only [f_X11_report_L17, e2, if_true]
  | s + 1, n, f, f', Mc, Mr, C, hq, hs, hn, R, hf, hf' => by
    obtain ⟨f, rfl⟩ : ∃ e, f = e + 1 := ⟨f - 1, by omega⟩
    obtain ⟨f', rfl⟩ : ∃ e, f' = e + 1 := ⟨f' - 1, by omega⟩
    have e1 : ¬ nI (s + 1) < 1 := by rw [hy_1, hy_lt (by omega) (by omega)]; omega
    have e2 : ¬ nI (s + 1) ≤ 0 := by rw [hy_0, hy_le (by omega) (by omega)]; omega
    have es : sumA q (s + 1) = cN (atF q (nI (s + 1))) (gz q) 0 + sumA q s := rfl
    rw [es] at hn ⊢
    obtain ⟨n1, Mc1, Mr1, a0, a00, a1, a2, a3, a4, a5⟩ := j_num (k := s + 1) (by omega) (by omega) R
    have := a00 (by omega)
    obtain ⟨n2, Mc2a, Mc2, Mr2, b0, b1, b1', b2, b3, b4, b5⟩ := j_at (nI (s + 1)) (C_fr a4 C) (by rw [a5.1 179 (by omega) (by omega) (by omega)]; exact hq) (by omega) a3
    obtain ⟨n3, Mc3, Mr3, c0, c1, c2, c3, c4, c5⟩ := j_steps kc kr s n2 f f' Mc2 Mr2 (C_fr (FC_t a4 b4) C) (by rw [(FR_t a5 b5).1 179 (by omega) (by omega) (by omega)]; exact hq) (by omega) (by omega) b3 (by omega) (by omega)
    refine ⟨n3, Mc3, Mr3, by omega, ?_, ?_, c3, FC_t (FC_t a4 b4) c4, FR_t (FR_t a5 b5) c5⟩
    · simp only [f_X5_write_L13, e1, if_false, a1, hy_cts, b1, b1', hy_lt', hy_dec, c1]
    · simp only [f_X11_report_L17, e2, if_false, a2, hy_cts, b2, hy_lt', hy_dec, c2]
theorem j_pegs (kr : hz_M → hz_O) {q : Nat → Int32} : ∀ (k i n f f' : Nat) (Mc Mr : hz_M), hy_C Mc q → Mr 179 = q → i + k = pz q → n + 3 * k ≤ 256 → RJ n Mc Mr → k < f → k < f' →
    ∃ n' Mc' Mr', f_X5_putPegs_L8 f (nI i) Mc = some (0, Mc') ∧ f_X11_report_L62 kr f' (nI i) Mr = kr Mr' ∧ RJ n' Mc' Mr' ∧ FC Mc Mc' ∧ FR Mr Mr'
  | 0, i, n, f, f', Mc, Mr, C, hq, hi, hn, R, hf, hf' => by
    obtain ⟨f, rfl⟩ : ∃ e, f = e + 1 := ⟨f - 1, by omega⟩
    obtain ⟨f', rfl⟩ : ∃ e, f' = e + 1 := ⟨f' - 1, by omega⟩
    obtain ⟨z6, z7, z8⟩ := C.1.2.2.1
    have b5 := C.2.1.2.2.1
    rw [z6] at b5
    have e : pz q ≤ i := by omega
    refine ⟨n, Mc, Mr, ?_, ?_, R, fun _ _ _ => rfl, fun _ _ _ _ => rfl, fun _ _ => rfl⟩
    · simp (disch := omega) only [f_X5_putPegs_L8, b5, hy_le, e, if_true]
    · simp (disch := omega) only [f_X11_report_L62, hq, hy_k1, z6, hy_le, e, if_true]
  | k + 1, i, n, f, f', Mc, Mr, C, hq, hi, hn, R, hf, hf' => by
    obtain ⟨f, rfl⟩ : ∃ e, f = e + 1 := ⟨f - 1, by omega⟩
    obtain ⟨f', rfl⟩ : ∃ e, f' = e + 1 := ⟨f' - 1, by omega⟩
    obtain ⟨z6, z7, z8⟩ := C.1.2.2.1
    have z10 := C.1.2.2.2.1.2
    have hZ := C.1
    have b5 := C.2.1.2.2.1
    rw [z6] at b5
    have e : ¬ pz q ≤ i := by omega
    have r23 := (c_rows C.2.2).2.2.2.2.2.2.2.2.2.2.2.2.2 i (by omega)
    -- the comma
    have step : ∃ n1 Mc1 Mr1, n1 ≤ n + 1 ∧ RJ n1 Mc1 Mr1 ∧ FC Mc Mc1 ∧ FR Mr Mr1 ∧ f_X5_putPegs_L8 (f + 1) (nI i) Mc = (if tw q i = -1 then hz_ct (f_X5_put 45 Mc1) (fun r M20 => f_X5_putPegs_L8 f (nI (i + 1)) M20) else hz_ct (f_X5_putNumber (tw q i) Mc1) (fun r M20 => f_X5_putPegs_L8 f (nI (i + 1)) M20)) ∧
        f_X11_report_L62 kr (f' + 1) (nI i) Mr = (if tw q i = -1 then hz_ct (f_X11_writes 45 Mr1) (fun r M20 => f_X11_report_L62 kr f' (nI (i + 1)) M20) else hz_ct (f_X11_writesNumber (tw q i) Mr1) (fun r M20 => f_X11_report_L62 kr f' (nI (i + 1)) M20)) := by
      by_cases i0 : i = 0
      · have e0 : nI i ≤ 0 := by rw [hy_0, hy_le (by omega) (by omega)]; omega
        refine ⟨n, Mc, Mr, by omega, R, fun _ _ _ => rfl, ⟨fun _ _ _ _ => rfl, fun _ _ => rfl⟩, ?_, ?_⟩
        · rw [show f_X5_putPegs_L8 (f + 1) (nI i) Mc = _ from rfl]
          simp (disch := omega) only [f_X5_putPegs_L8, b5, hy_le (a := pz q) (b := i), e, if_false, hy_jn, e0, if_true, hy_in, hy_gt, hy_c, r23, hy_lt', hy_add1]
        · simp (disch := omega) only [f_X11_report_L62, hq, hy_k1, z6, hy_le (a := pz q) (b := i), e, if_false, hy_jn, e0, if_true, r_tw hq hZ, hy_cts, hy_lt', hy_add1]
      · have e0 : ¬ nI i ≤ 0 := by rw [hy_0, hy_le (by omega) (by omega)]; omega
        obtain ⟨Mc1, Mr1, a1, a2, a3, a4, a5, _⟩ := j_put 44 (by omega) R
        have r23' : Mc1 23 i = tw q i := by rw [a4 23 (by omega) (by omega)]; exact r23
        refine ⟨n + 1, Mc1, Mr1, by omega, a3, a4, a5, ?_, ?_⟩
        · simp (disch := omega) only [f_X5_putPegs_L8, b5, hy_le (a := pz q) (b := i), e, if_false, hy_jn, e0, a1, hy_cts, hy_in, hy_gt, hy_c, r23', hy_lt', hy_add1]
        · have hq1 : Mr1 179 = q := by rw [a5.1 179 (by omega) (by omega) (by omega)]; exact hq
          simp (disch := omega) only [f_X11_report_L62, hq, hy_k1, z6, hy_le (a := pz q) (b := i), e, if_false, hy_jn, e0, a2, r_tw hq1 hZ, hy_cts, hy_lt', hy_add1]
    obtain ⟨n1, Mc1, Mr1, s1, s2, s3, s4, s5, s6⟩ := step
    have fin : ∀ (n2 : Nat) (Mc2 Mr2 : hz_M), n2 ≤ n1 + 2 → RJ n2 Mc2 Mr2 → FC Mc1 Mc2 → FR Mr1 Mr2 → ∃ n' Mc' Mr', f_X5_putPegs_L8 f (nI (i + 1)) Mc2 = some (0, Mc') ∧ f_X11_report_L62 kr f' (nI (i + 1)) Mr2 = kr Mr' ∧ RJ n' Mc' Mr' ∧ FC Mc Mc' ∧ FR Mr Mr' := by
      intro n2 Mc2 Mr2 h1 h2 h3 h4
      obtain ⟨n3, Mc3, Mr3, c1, c2, c3, c4, c5⟩ := j_pegs kr k (i + 1) n2 f f' Mc2 Mr2 (C_fr (FC_t s3 h3) C) (by rw [(FR_t s4 h4).1 179 (by omega) (by omega) (by omega)]; exact hq) (by omega) (by omega) h2 (by omega) (by omega)
      exact ⟨n3, Mc3, Mr3, c1, c2, c3, FC_t (FC_t s3 h3) c4, FR_t (FR_t s4 h4) c5⟩
    rcases tw_al hZ i with et | ⟨t, ht, et, _⟩
    · obtain ⟨Mc2, Mr2, a1, a2, a3, a4, a5, _⟩ := j_put 45 (by omega) s2
      obtain ⟨n3, Mc3, Mr3, c1, c2, c3, c4, c5⟩ := fin (n1 + 1) Mc2 Mr2 (by omega) a3 a4 a5
      refine ⟨n3, Mc3, Mr3, ?_, ?_, c3, c4, c5⟩
      · rw [s5, if_pos et, a1, hy_cts, c1]
      · rw [s6, if_pos et, a2, hy_cts, c2]
    · obtain ⟨n2, Mc2, Mr2, a0, _, a1, a2, a3, a4, a5⟩ := j_num (k := t) (by omega) (by omega) s2
      obtain ⟨n3, Mc3, Mr3, c1, c2, c3, c4, c5⟩ := fin n2 Mc2 Mr2 a0 a3 a4 a5
      have et' : ¬ tw q i = -1 := by rw [et, hy_n1 (by omega)]; exact not_false
      refine ⟨n3, Mc3, Mr3, ?_, ?_, c3, c4, c5⟩
      · rw [s5, if_neg et', et, a1, hy_cts, c1]
      · rw [s6, if_neg et', et, a2, hy_cts, c2]
theorem g_36 {M : hz_M} (I : Inv M) : ∃ M', fs_36 M = some (0, M') ∧ Inv M' := by
  have hC := I_C I
  have hQ := I_Q I
  have hq := fun r => q_1 M r 0
  have hq2 := q_2 M 0
  have hC0 := hC
  obtain ⟨hZ, ⟨b3, b4, b5, b6, b7, b8, bag, bnm⟩, hRR⟩ := hC
  have hZ0 := hZ
  obtain ⟨⟨s1, s2, s3, s4, s5, s6⟩, ra, ro, rp, rl, rt, rs, rw', rd, rwt, rpg, rk, rh, rtw⟩ := c_rows hRR
  obtain ⟨⟨z1, z2⟩, ⟨z3, z4, z5⟩, ⟨z6, z7, z8⟩, ⟨z9, z10⟩, ⟨z11, z12, z13⟩, ⟨z14, z15, z16⟩⟩ := hZ
  rw [z1] at b3; rw [z3] at b4; rw [z6] at b5; rw [z9] at b6; rw [z11] at b7; rw [z14] at b8
  show ∃ M', hy_ge (f_X10_report M) f_X11_report = some (0, M') ∧ Inv M'
  have tot := sumA_le (q := M 179) (s := sz (M 179)) (by omega)
  -- the class, against the reference at a place of its own
  have run : ∀ Mr : hz_M, Mr 179 = M 179 → Mr 178 27 = 0 → ∃ n Mc' Mr', f_X10_report M = some (nI n, Mc') ∧ (hz_lt (nI (sz (M 179))) fun x3 => f_X11_report_L17 (fun (M4 : hz_M) => hz_ct (f_X11_writes (104 : Int32) M4) fun r5 M6 => hz_ct (f_X11_writesGuests (0 : Int32) M6) fun r8 M9 => hz_ct (f_X11_writes (112 : Int32) M9) fun r11 M12 => hz_ct (f_X11_writes (58 : Int32) M12) fun r14 M15 => f_X11_report_L62 (fun (M17 : hz_M) => some ((M17 178 27), M17)) hz_FU (0 : Int32) M15) hz_FU x3 Mr) = some (nI n, Mr') ∧ RJ n Mc' Mr' ∧ FC M Mc' ∧ FR Mr Mr' := by
    intro Mr hq m27
    have fc0 : FC M (hz_set M 176 2 0) := fun a h1 h2 => hy_seto _ _ _ h1
    have R0 : RJ 0 (hz_set M 176 2 0) Mr := ⟨by omega, hy_setk _ _ _ _, m27, fun i hi => by omega⟩
    have C1 := C_fr fc0 hC0
    obtain ⟨n1, Mc1, Mr1, a0, a1, a2, a3, a4, a5⟩ := j_steps (fun (M3 : hz_M) => hz_ct (f_X5_put (104 : Int32) M3) fun r4 M5 => hz_ct (f_X5_putGuestsAt (0 : Int32) M5) fun r7 M8 => hz_ct (f_X5_put (32 : Int32) M8) fun r10 M11 => hz_ct (f_X5_put (112 : Int32) M11) fun r13 M14 => hz_ct (f_X5_putPegs M14) fun r16 M17 => some (0, M17)) (fun (M4 : hz_M) => hz_ct (f_X11_writes (104 : Int32) M4) fun r5 M6 => hz_ct (f_X11_writesGuests (0 : Int32) M6) fun r8 M9 => hz_ct (f_X11_writes (112 : Int32) M9) fun r11 M12 => hz_ct (f_X11_writes (58 : Int32) M12) fun r14 M15 => f_X11_report_L62 (fun (M17 : hz_M) => some ((M17 178 27), M17)) hz_FU (0 : Int32) M15) (sz (M 179)) 0 hz_FU hz_FU _ Mr C1 hq (by omega) (by omega) R0 (hy_FU (by omega)) (hy_FU (by omega))
    obtain ⟨Mc2, Mr2, b1, b2, b3, b4, b5, _⟩ := j_put 104 (by omega) a3
    obtain ⟨n3, Mc3a, Mc3, Mr3, c0, c1, c1', c2, c3, c4, c5⟩ := j_at (nI 0) (C_fr (FC_t a4 b4) C1) (by rw [(FR_t a5 b5).1 179 (by omega) (by omega) (by omega)]; exact hq) (by omega) b3
    obtain ⟨Mc4, Mr4, d1, d2, d3, d4, d5, _⟩ := j_put 112 (by omega) c3
    obtain ⟨Mc5, Mr5, e1, e2, e3, e4, e5, _⟩ := j_put 58 (by omega) d3
    have fcA := FC_t (FC_t (FC_t (FC_t a4 b4) c4) d4) e4
    have frA := FR_t (FR_t (FR_t (FR_t a5 b5) c5) d5) e5
    obtain ⟨n6, Mc6, Mr6, f1, f2, f3, f4, f5⟩ := j_pegs (fun (M17 : hz_M) => some ((M17 178 27), M17)) (pz (M 179)) 0 _ hz_FU hz_FU Mc5 Mr5 (C_fr fcA C1) (by rw [frA.1 179 (by omega) (by omega) (by omega)]; exact hq) (by omega) (by omega) e3 (hy_FU (by omega)) (hy_FU (by omega))
    refine ⟨n6, Mc6, Mr6, ?_, ?_, f3, FC_t fc0 (FC_t fcA f4), FR_t frA f5⟩
    · have b8' : hz_set M 176 2 0 1 8 = nI (sz (M 179)) := by rw [hy_seto _ _ _ (by omega)]; exact b8
      have pg : f_X5_putPegs Mc4 = some (0, Mc6) := by
        simp only [f_X5_putPegs, e1, hy_cts]; exact f1
      simp only [f_X10_report, f_X5_write, hy_lm, hy_lt', hy_jn, b8', a1, b1, hy_cts]
      rw [show (0 : Int32) = nI 0 from rfl, c1]
      simp only [hy_cts, c1', d1, pg, f3.2.1]
    · rw [hy_lt', a2]
      simp only [b2, hy_cts]
      rw [show (0 : Int32) = nI 0 from rfl, c2]
      simp only [hy_cts, d2, e2, f2]
      rw [f3.2.2.1]
  obtain ⟨n, Mc, _, k1, _, _, k4, _⟩ := run (hz_set M 178 27 0) (by rw [hy_seto _ _ _ (by omega)]) (hy_setk _ _ _ _)
  obtain ⟨n', Mc', Mr', l1, l2, l3, l4, l5⟩ := run (hz_set (hz_set Mc 178 8 0) 178 27 0) (by rw [hy_seto _ _ _ (by omega), hy_seto _ _ _ (by omega), k4 179 (by omega) (by omega)]) (hy_setk _ _ _ _)
  have eM : Mc' = Mc := by
    rw [k1] at l1; injection l1 with e; injection e with e1 e2; exact e2.symm
  subst eM
  have g0 : ∀ a, a ≠ 176 → a ≠ 177 → a ≠ 178 → a ≠ 191 → a ≠ 192 → Mr' a = M a := fun a h1 h2 h3 h4 h5 => by rw [l5.1 a h3 h4 h5, hy_seto _ _ _ h3, hy_seto _ _ _ h3, l4 a h1 h2]
  have g8 : ∀ b, b ≠ 8 → b ≠ 27 → Mr' 178 b = M 178 b := fun b h1 h2 => by rw [l5.2 b h2, hy_setn _ _ _ h2, hy_setn _ _ _ h1, l4 178 (by omega) (by omega)]
  have W := I_W I
  have T := I_T I
  obtain ⟨i1, i2, i3, i4, i5, i6, i7, i8⟩ := I
  refine ⟨Mr', hy_gec (M1 := Mc') (r := nI n') l1 ?_, Inv_mk (W_fr (fun a ha => g0 a (by omega) (by omega) (by omega) (by omega) (by omega)) W T) T (g0 179 (by omega) (by omega) (by omega) (by omega) (by omega)) (Hist_fr (fun a ha => g0 a (by omega) (by omega) (by omega) (by omega) (by omega)) (g8 6 (by omega) (by omega)) i2) (Save_fr (fun a ha => g0 a (by omega) (by omega) (by omega) (by omega) (by omega)) i3) ?_ ?_ (Txt_fr (fun a ha => g0 a (by omega) (by omega) (by omega) (by omega) (by omega)) (g8 11 (by omega) (by omega)) i6) ?_ ?_⟩
  · have e4 : hz_set (hz_set Mc' 178 8 0) 178 27 0 179 4 = nI (sz (M 179)) := by rw [hy_seto _ _ _ (by omega), hy_seto _ _ _ (by omega), l4 179 (by omega) (by omega)]; exact z14
    simp only [f_X11_report, hy_lm, hy_k4, e4, hy_jn]
    exact l2
  · rw [g0 26 (by omega) (by omega) (by omega) (by omega) (by omega), g8 7 (by omega) (by omega)]; exact i4
  · rw [g0 0 (by omega) (by omega) (by omega) (by omega) (by omega), g8 12 (by omega) (by omega)]; exact i5
  · obtain ⟨r0, r1, r2, r3⟩ := l3
    refine ⟨n', r0, ?_, r2, fun i hi => ?_⟩
    · rw [l5.1 176 (by omega) (by omega) (by omega), hy_seto _ _ _ (by omega), hy_seto _ _ _ (by omega)]; exact r1
    · rw [l5.1 177 (by omega) (by omega) (by omega), hy_seto _ _ _ (by omega), hy_seto _ _ _ (by omega)]; exact r3 i hi
  · rw [g8 24 (by omega) (by omega)]; exact i8

