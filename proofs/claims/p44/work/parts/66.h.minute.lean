theorem Z_mB {q : Nat → Int32} (hZ : hy_Z q) : hy_Z (mB q) := by
  have e : ∀ k, k < 12 → k ≠ 8 → k ≠ 9 → k ≠ 10 → mB q k = q k := fun k h1 h2 h3 h4 => mB_o h2 (by omega) h4 (by omega) h3
  unfold hy_Z gz lz pz tz vz sz at *
  rw [e 11 (by omega) (by omega) (by omega) (by omega), e 0 (by omega) (by omega) (by omega) (by omega), e 1 (by omega) (by omega) (by omega) (by omega), e 2 (by omega) (by omega) (by omega) (by omega), e 3 (by omega) (by omega) (by omega) (by omega), e 4 (by omega) (by omega) (by omega) (by omega)]
  exact hZ
theorem O_minute {b : Nat} {M Mc : hz_M} {q : Nat → Int32} (hR : RO b M q) (W : hy_W Mc q) : ∃ M', f_X11_minute b M = some (sbN (gz q) 0 (mC q) 0, M') ∧ (∀ a, (a < b ∨ b + 11 < a) → M' a = M a) ∧ RO b M' (minute q) := by
  have hZ := W.1.1
  have hQ := W.2.1
  have z2 := hZ.1.2
  have z8 := hZ.2.2.1.2.2
  have z10 := hZ.2.2.2.1.2
  obtain ⟨Mb, WB⟩ := W_mB W
  obtain ⟨Mc5, WC⟩ := W_mC W
  have ZB := WB.1.1
  have QB := WB.2.1
  obtain ⟨gk, hg1, hg2, egk⟩ := hQ.2.2.2.2.2.2.2.2.2.2.2.2.2.2.2.2.1
  have b6 : M b 6 = q 6 := hR.1.2.2.2.2.2.2.1
  have b8 : M b 8 = q 8 := hR.1.2.2.2.2.2.2.2.2.1
  have a20 : M (b + 5) 8 = q 20 := hR.2.2.2.2.2.1 8 (by omega)
  have a19 : M (b + 5) 7 = q 19 := hR.2.2.2.2.2.1 7 (by omega)
  have R1 := ro_time hR hZ (v := q 8 + 1)
  have Z1 := Z_st (i := 8) (q 8 + 1) (by omega) (by omega) hZ
  have R2 := ro_acc R1 Z1 (a := 8) (v := q 20 + 1) (by omega)
  have Z2 := Z_st (i := 12 + 8) (q 20 + 1) (by omega) (by omega) Z1
  -- from the heat on
  have key : ∀ MA : hz_M, RO b MA (mA q) → ∃ M', (hz_ct (f_X11_nextHeat b MA) fun r5 M6 => hz_lm (hz_set M6 b 9 r5) fun M8 => hz_jn (fun (M9 : hz_M) => hz_jn (fun (M10 : hz_M) => f_X11_minute_L207 b hz_FU (0 : Int32) (0 : Int32) M10) fun k73 => f_X11_minute_L142 b k73 hz_FU (0 : Int32) M9) fun k92 => f_X11_minute_L62 b k92 hz_FU (0 : Int32) M8) = some (sbN (gz q) 0 (mC q) 0, M') ∧ (∀ a, (a < b ∨ b + 11 < a) → M' a = MA a) ∧ RO b M' (minute q) := by
    intro MA RA
    obtain ⟨Ma, WA⟩ := W_mA W
    have ZA := WA.1.1
    have RB := ro_heat RA ZA (v := nxt (mA q 9) (stm (mA q)))
    have RB' : RO b (hz_set MA b 9 (nxt (mA q 9) (stm (mA q)))) (mB q) := RB
    have eg : gz (mB q) = gz q := gz_cg (mB_o (by omega) (by omega) (by omega) (by omega) (by omega))
    have ep : pz (mB q) = pz q := by unfold pz; rw [mB_o (by omega) (by omega) (by omega) (by omega) (by omega)]
    obtain ⟨M9, c0, e9, fr9, R9, G9⟩ := O_m62 (b := b) (fun (M9 : hz_M) => hz_jn (fun (M10 : hz_M) => f_X11_minute_L207 b hz_FU (0 : Int32) (0 : Int32) M10) fun k73 => f_X11_minute_L142 b k73 hz_FU (0 : Int32) M9) ZB QB (gz q) 0 hz_FU _ _ RB' (OG_0 _) (by omega) (hy_FU (by omega))
    obtain ⟨M10, c1, e10, fr10, R10, P10⟩ := O_m142 (b := b) (fun (M10 : hz_M) => f_X11_minute_L207 b hz_FU (0 : Int32) (0 : Int32) M10) ZB QB G9 (pz q) 0 hz_FU _ _ R9 (OPg_0 _ _) (by omega) (hy_FU (by omega))
    obtain ⟨t1, t2, t3⟩ := tow_end ZB QB G9 P10
    have e12 : ∀ k, k < 12 → c1 k = mB q k := fun k hk => by rw [P10.1 k (by omega), G9.1 k (by omega) (by omega)]
    have tc : tz c1 = tz (mB q) := by unfold tz; rw [e12 2 (by omega)]
    have RC := RO_ag (q := c1) (q' := towN (mB q) (tz (mB q)) 0) t1 (fun t ht => t2 t (by rw [← tc]; exact ht)) (fun t ht => t3 t (by rw [← tc]; exact ht)) (Z_ag e12 ZB) R10
    have RC' : RO b M10 (mC q) := by
      rw [tz_mB] at RC
      exact RC
    obtain ⟨M11, e11, fr11, R11⟩ := O_m207 (gz q) 0 hz_FU M10 Mc5 (mC q) 0 RC' WC (by rw [gz_mC]; omega) (hy_FU (by omega))
    refine ⟨M11, ?_, fun a ha => by rw [fr11 a ha, fr10 a ha, fr9 a ha, hy_seto _ _ _ (by omega)], R11⟩
    rw [O_nextHeat RA ZA, hy_cts, hy_lm, hy_jn]
    rw [show (0 : Int32) = nI 0 from rfl] at e9 e10 e11 ⊢
    rw [e9, hy_jn, e10, e11]
  have nz : hz_nz (nI gk) = true := by
    unfold hz_nz
    have : (nI gk == 0) = false := by
      apply beq_eq_false_iff_ne.mpr
      intro e
      have := hy_eq (a := gk) (b := 0) (by omega) (by omega)
      have e' : nI gk = nI 0 := e
      rw [this] at e'
      omega
    rw [this]
    rfl
  have eA : mA q = gng (hy_st (hy_st q 8 (q 8 + 1)) (12 + 8) (q 20 + 1)) := rfl
  have v8 : hy_st (hy_st q 8 (q 8 + 1)) (12 + 8) (q 20 + 1) 8 = q 8 + 1 := by rw [hy_so _ _ (by omega), hy_ss]
  have v6 : hy_st (hy_st q 8 (q 8 + 1)) (12 + 8) (q 20 + 1) 6 = nI gk := by rw [hy_so _ _ (by omega), hy_so _ _ (by omega), egk]
  have v19 : hy_st (hy_st q 8 (q 8 + 1)) (12 + 8) (q 20 + 1) 19 = q 19 := by rw [hy_so _ _ (by omega), hy_so _ _ (by omega)]
  have s6 : hz_set M b 8 (q 8 + 1) b 6 = nI gk := by rw [hy_setn _ _ _ (by omega), b6, egk]
  have s8 : hz_set M b 8 (q 8 + 1) b 8 = q 8 + 1 := hy_setk _ _ _ _
  have main : ∀ (MA M' : hz_M), (hz_ct (f_X11_nextHeat b MA) fun r5 M6 => hz_lm (hz_set M6 b 9 r5) fun M8 => hz_jn (fun (M9 : hz_M) => hz_jn (fun (M10 : hz_M) => f_X11_minute_L207 b hz_FU (0 : Int32) (0 : Int32) M10) fun k73 => f_X11_minute_L142 b k73 hz_FU (0 : Int32) M9) fun k92 => f_X11_minute_L62 b k92 hz_FU (0 : Int32) M8) = some (sbN (gz q) 0 (mC q) 0, M') → MA = (if (q 8 + 1) - (q 8 + 1) / nI gk * nI gk = 0 then hz_set (hz_set (hz_set (hz_set M b 8 (q 8 + 1)) (b + 5) 8 (q 20 + 1)) b 11 (q 8 + 1)) (b + 5) 7 (q 19 + 1) else hz_set (hz_set M b 8 (q 8 + 1)) (b + 5) 8 (q 20 + 1)) → f_X11_minute b M = some (sbN (gz q) 0 (mC q) 0, M') := by
    intro MA M' e hMA
    unfold f_X11_minute
    simp (disch := omega) only [hy_lm, hy_k8, hy_seto, a20, b6, egk, nz, hy_gt, b8]
    rw [s6, nz, hy_gt]
    refine hy_jnI (fun k113 h113 => ?_)
    rw [s8]
    have e7 : hz_set (hz_set M b 8 (q 8 + 1)) (b + 5) 8 (q 20 + 1) (b + 5) (Int32.toNatClampNeg 7) = q 19 := by
      rw [hy_k7, hy_setn _ _ _ (by omega), hy_seto _ _ _ (by omega), a19]
    by_cases c : (q 8 + 1) - (q 8 + 1) / nI gk * nI gk = 0
    · rw [if_pos c] at hMA ⊢
      rw [e7, hy_k7, h113, ← hMA]
      exact e
    · rw [if_neg c] at hMA ⊢
      rw [h113, ← hMA]
      exact e
  by_cases c : (q 8 + 1) - (q 8 + 1) / nI gk * nI gk = 0
  · have R3 := ro_since R2 Z2 (v := q 8 + 1)
    have Z3 := Z_st (i := 10) (q 8 + 1) (by omega) (by omega) Z2
    have R4 := ro_acc R3 Z3 (a := 7) (v := q 19 + 1) (by omega)
    have eA2 : mA q = hy_st (hy_st (hy_st (hy_st q 8 (q 8 + 1)) (12 + 8) (q 20 + 1)) 10 (q 8 + 1)) (12 + 7) (q 19 + 1) := by
      rw [eA]
      unfold gng
      rw [v8, v6, v19, if_pos c]
    rw [← eA2] at R4
    obtain ⟨M', e, fr, r⟩ := key _ R4
    exact ⟨M', main _ M' e (by rw [if_pos c]), fun a ha => by rw [fr a ha]; simp (disch := omega) only [hy_seto], r⟩
  · have eA2 : mA q = hy_st (hy_st q 8 (q 8 + 1)) (12 + 8) (q 20 + 1) := by
      rw [eA]
      unfold gng
      rw [v8, v6, if_neg c]
    rw [← eA2] at R2
    obtain ⟨M', e, fr, r⟩ := key _ R2
    exact ⟨M', main _ M' e (by rw [if_neg c]), fun a ha => by rw [fr a ha]; simp (disch := omega) only [hy_seto], r⟩
