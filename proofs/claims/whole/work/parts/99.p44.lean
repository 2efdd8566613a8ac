
/-! orders read, both ways -/
theorem hy_nos {x : Int32 × hz_M} (h : (none : hz_O) = some x) : False := by cases h
theorem hy_pr {r r' : Int32} {M M' : hz_M} (h : (some (r, M) : hz_O) = some (r', M')) : r = r' ∧ M = M' := by cases h; exact ⟨rfl, rfl⟩
theorem signE (c : Int32) (M : hz_M) (h : ¬ M 9 6 = 0) : f_X8_needSign c M = some (0, M) := by
  unfold f_X8_needSign
  simp only [hy_jn, goE _ _ h, hy_cts]
  split <;> rfl
theorem isSgE (c : Int32) (M : hz_M) (h : ¬ M 178 17 = 0) : f_X11_isSign c M = some (0, M) := by
  simp only [f_X11_isSign, h, if_false]
theorem takE (c : Int32) (M : hz_M) (h : ¬ M 178 17 = 0) : f_X11_takesSign c M = some (0, M) := by
  simp only [f_X11_takesSign, isSgE _ _ h, hy_cts, mustE _ _ _ h, passE _ h]
theorem recE (n : Nat) (l : Int32) (M : hz_M) (h : ¬ M 178 17 = 0) : f_X11_readsOrders (n + 1) l M = some (0, M) := by
  obtain ⟨m, hm⟩ := hy_FUs
  simp only [f_X11_readsOrders, r_X11_readsOrders]
  rw [hm]
  simp only [r_X11_readsOrders_L0, h, if_false]
theorem noOrd (M : hz_M) (e : M 178 17 = 0) (h : ¬ M 178 15 = 1) : f_X11_orderHere M = some (-1, M) := by
  have w : ∀ k, f_X11_isWord k M = some (0, M) := fun k => by simp only [f_X11_isWord, e, if_true, h, if_false]
  unfold f_X11_orderHere
  simp only [w, hy_cts, if_true]
theorem WFo_0 (Mc Mr : hz_M) (lvl fr : Nat) : ∀ w, WFo Mc Mr w lvl fr fr
  | 0 => by unfold WFo; rfl
  | w + 1 => by unfold WFo; exact Or.inl rfl
theorem OR_gen {Mc Mr Mc' Mr' : hz_M} {k c : Nat} (h1 : Mc' 1 = Mc 1) (h3 : Mc' 3 = Mc 3) (h4 : Mc' 4 = Mc 4) (a28 : Mc' 28 k = Mc 28 k) (a29 : Mc' 29 k = Mc 29 k) (a30 : Mc' 30 k = Mc 30 k) (b7 : Mr' 187 k = Mr 187 k) (b8 : Mr' 188 k = Mr 188 k) (b9 : Mr' 189 k = Mr 189 k) (b0 : Mr' 190 k = Mr 190 k) (O : OR Mc Mr k c) : OR Mc' Mr' k c := by
  unfold OR at *
  rw [nmc_fr _ h1 h3 h4, a28, a29, a30, b7, b8, b9, b0]
  exact O
theorem WFo_gen {Mc Mr Mc' Mr' : hz_M} {lo hi : Nat} (h1 : Mc' 1 = Mc 1) (h3 : Mc' 3 = Mc 3) (h4 : Mc' 4 = Mc 4) (hc : ∀ a, 28 ≤ a → a ≤ 31 → ∀ b, lo ≤ b → b < hi → Mc' a b = Mc a b) (hr : ∀ a, 187 ≤ a → a ≤ 190 → ∀ b, lo ≤ b → b < hi → Mr' a b = Mr a b) : ∀ w lvl fr to, lo ≤ fr → to ≤ hi → WFo Mc Mr w lvl fr to → WFo Mc' Mr' w lvl fr to
  | 0, _, _, _, _, _, h => h
  | w + 1, lvl, fr, to, hf, ht, h => by
    unfold WFo at *
    rcases h with h | ⟨a1, a2, b, a3, a4, a5, a6, a7⟩
    · exact Or.inl h
    · have z := fun a g1 g2 => hc a g1 g2 fr hf (by omega)
      have y := fun a g1 g2 => hr a g1 g2 fr hf (by omega)
      refine Or.inr ⟨a1, a2, b, a3, a4, by rw [z 31 (by omega) (by omega)]; exact a5, ?_, WFo_gen h1 h3 h4 hc hr w lvl b to (by omega) ht a7⟩
      rcases a6 with ⟨e, c, O⟩ | ⟨l, k1, k2, k3, ⟨m, m1, m2, m3⟩, k4⟩
      · exact Or.inl ⟨e, c, OR_gen h1 h3 h4 (z 28 (by omega) (by omega)) (z 29 (by omega) (by omega)) (z 30 (by omega) (by omega)) (y 187 (by omega) (by omega)) (y 188 (by omega) (by omega)) (y 189 (by omega) (by omega)) (y 190 (by omega) (by omega)) O⟩
      · exact Or.inr ⟨l, by rw [z 28 (by omega) (by omega)]; exact k1, by rw [y 187 (by omega) (by omega)]; exact k2, by rw [y 190 (by omega) (by omega)]; exact k3, ⟨m, m1, by rw [z 30 (by omega) (by omega)]; exact m2, by rw [y 189 (by omega) (by omega)]; exact m3⟩, WFo_gen h1 h3 h4 hc hr w (lvl + 1) (fr + 1) b (by omega) (by omega) k4⟩
/-- what a reading of orders leaves -/
def hy_RP (N lvl fr : Nat) (Mc Mr : hz_M) (oc orr : hz_O) : Prop := ∃ Mc' Mr' : hz_M, oc = some (0, Mc') ∧ orr = some (0, Mr') ∧ FO fr Mc Mc' ∧ FP fr Mr Mr' ∧
  ((PJ N Mc' Mr' ∧ (Mc' 9 6 = 0 → ∃ to, fr ≤ to ∧ to ≤ 30 ∧ Mc' 27 6 = nI to ∧ Mr' 178 22 = nI to ∧ ∀ w, to - fr ≤ w → WFo Mc' Mr' w lvl fr to)) ∨
   (Mc' 9 6 = 0 ∧ ¬ Mc' 9 2 = 0 ∧ ¬ Mc' 9 2 = 41 ∧ ∃ Mx, PJ N Mc' Mx ∧ f_X11_must 0 1 Mx = some (0, Mr')))
theorem nn_ok : ∀ c, c < 11 → hz_nn (nI (c + 1)) = true ∧ hz_vo (nI (c + 1)) = true ∧ ¬ nI (c + 1) = 0 ∧ ¬ nI c = -1 := by decide
theorem c_rdo (rc : Int32 → hz_M → hz_O) {Mc C2 C3 : hz_M} {v l : Int32} {cnt c : Nat} (hc : c ≤ 10) (hcnt : cnt < 30) (h1 : f_X6_orderHere Mc = some (nI (c + 1), Mc)) (h6 : Mc 27 6 = nI cnt) (h2 : f_X8_advance (hz_set Mc 27 6 (nI (cnt + 1))) = some (0, C2)) (h3 : sgC cnt c (hz_set C2 28 cnt (nI (c + 1))) = some (v, C3)) :
    r_X6_readOrder rc l Mc = if c = 10 then hz_ct (r_X6_readBrackets rc l (hz_set C3 30 cnt v)) fun _ M36 => some (0, hz_set M36 31 cnt (M36 27 6)) else some (0, hz_set (hz_set C3 30 cnt v) 31 cnt (C3 27 6)) := by
  obtain ⟨n1, n2, n3, _⟩ := nn_ok c (by omega)
  have lt : nI cnt < 30 := by rw [show (30 : Int32) = nI 30 from rfl, hy_lt (by omega) (by omega)]; omega
  have x11 : (nI (c + 1) = (11 : Int32)) = (c = 10) := by rw [show (11 : Int32) = nI 11 from rfl, hy_eq (by omega) (by omega)]; exact propext ⟨fun h => by omega, fun h => by omega⟩
  unfold sgC at h3
  rcases hrs : f_X6_readSubject (nI (c + 1)) (hz_set C2 28 cnt (nI (c + 1))) with _ | ⟨g, C1⟩
  · rw [hrs, hy_ctn] at h3; exact (hy_nos h3).elim
  · rw [hrs, hy_cts] at h3
    have k6 : ∀ w : Int32, hz_set C3 30 cnt w 27 6 = C3 27 6 := fun w => by rw [hy_seto _ _ _ (by omega)]
    by_cases e3 : hz_eF 3 (nI (c + 1)) = -1
    · rw [if_pos e3] at h3
      obtain ⟨rfl, rfl⟩ := hy_pr h3
      simp (disch := omega) only [r_X6_readOrder, h1, hy_cts, n3, if_false, h6, lt, if_true, hy_lt', hy_lm, hy_add1, h2, hy_in, hy_gt, hy_c, n1, n2, hrs, hy_jn, e3, x11, k6]
    · rw [if_neg e3] at h3
      simp (disch := omega) only [r_X6_readOrder, h1, hy_cts, n3, if_false, h6, lt, if_true, hy_lt', hy_lm, hy_add1, h2, hy_in, hy_gt, hy_c, n1, n2, hrs, hy_jn, e3, x11, h3, k6]
theorem r_rdo (rr : Int32 → hz_M → hz_O) {Mr R2 : hz_M} {l : Int32} {cnt c : Nat} (hc : c ≤ 10) (hcnt : cnt < 30) (e : Mr 178 17 = 0) (h1 : f_X11_orderHere Mr = some (nI c, Mr)) (h22 : Mr 178 22 = nI cnt) (h2 : f_X11_goesOn (hz_set (hz_set Mr 187 cnt (nI c)) 178 22 (nI (cnt + 1))) = some (0, R2)) :
    r_X11_readsOrder rr l Mr = if c = 10 then hz_ct (r_X11_readsAgain rr (nI cnt) l R2) (fun _ M => hz_ct (f_X11_takesSign 59 M) fun _ M' => some (0, M')) else hz_ct (f_X11_readsSingle (nI cnt) R2) (fun _ M => hz_ct (f_X11_takesSign 59 M) fun _ M' => some (0, M')) := by
  obtain ⟨_, _, _, n4⟩ := nn_ok c (by omega)
  have ge : ¬ (30 : Int32) ≤ nI cnt := by rw [show (30 : Int32) = nI 30 from rfl, hy_le (by omega) (by omega)]; omega
  have x10 : (nI c = (10 : Int32)) = (c = 10) := by rw [show (10 : Int32) = nI 10 from rfl, hy_eq (by omega) (by omega)]
  have k22 : hz_set Mr 187 cnt (nI c) 178 22 = nI cnt := by rw [hy_seto _ _ _ (by omega)]; exact h22
  simp (disch := omega) only [r_X11_readsOrder, h1, hy_cts, hy_jn, n4, if_false, must1, e, if_true, hy_f10, h22, ge, hy_lt', hy_in, hy_gt, hy_c, hy_lm, k22, hy_add1, h2, x10]
/-- the rest of an again -/
def agR (rec : Int32 → hz_M → hz_O) (a1 : Int32) (a2 : Int32) (M5 : hz_M) : hz_O :=
  hz_ct (f_X11_isSign (40 : Int32) M5) fun r6 M7 =>
  hz_ct (f_X11_must r6 (1 : Int32) M7) fun r9 M10 =>
  hz_jn (fun (v1_12 : Int32) (v2_13 : Int32) (M14 : hz_M) =>
    hz_ct (f_X11_passes M14) fun r15 M16 =>
    hz_ct (rec (v2_13 + (1 : Int32)) M16) fun r18 M19 =>
    hz_ct (f_X11_takesSign (41 : Int32) M19) fun r21 M22 =>
    hz_gd (hz_in v1_12 30) <|
    hz_lm (hz_set M22 190 (Int32.toNatClampNeg v1_12) (M22 178 22)) fun M25 =>
    some (0, M25)
    ) fun k26 =>
  if r9 = 0 then
    k26 a1 a2 M10
  else
    hz_jn (fun (v1_28 : Int32) (v2_29 : Int32) (q30 : Int32) (M31 : hz_M) =>
      hz_ct (f_X11_must q30 (4 : Int32) M31) fun r32 M33 =>
      k26 v1_28 v2_29 M33
      ) fun k35 =>
    if (2 : Int32) ≤ a2 then
      k35 a1 a2 (0 : Int32) M10
    else
      k35 a1 a2 (1 : Int32) M10
theorem r_again (rr : Int32 → hz_M → hz_O) {Mr R : hz_M} {l w : Int32} {cnt : Nat} (hcnt : cnt < 30) (h : f_X11_number (nI 0) (nI 20) Mr = some (w, R)) : r_X11_readsAgain rr (nI cnt) l Mr = agR rr (nI cnt) l (hz_set R 189 cnt w) := by
  unfold r_X11_readsAgain agR
  rw [show (0 : Int32) = nI 0 from rfl, show (20 : Int32) = nI 20 from rfl, h]
  simp (disch := omega) only [hy_cts, hy_in, hy_gt, hy_c, hy_lm]
theorem j_again {N lvl fr : Nat} {rc rr : Int32 → hz_M → hz_O} {Mc Mr : hz_M} (hl : lvl ≤ 2) (hfr : fr < 30) (P : PJ N Mc Mr) (hE : ∀ (l : Int32) (M : hz_M), ¬ M 178 17 = 0 → rr l M = some (0, M))
    (hR : ∀ C R : hz_M, PJ N C R → C 9 6 = 0 → FE Mc C → FH Mr R → lvl < 2 → hy_RP N (lvl + 1) (fr + 1) C R (rc (nI (lvl + 1)) C) (rr (nI (lvl + 1)) R)) :
    ∃ Mc' Mr', r_X6_readBrackets rc (nI lvl) Mc = some (0, Mc') ∧ agR rr (nI fr) (nI lvl) Mr = some (0, hz_set Mr' 190 fr (Mr' 178 22)) ∧ PJ N Mc' Mr' ∧ FO (fr + 1) Mc Mc' ∧ FP (fr + 1) Mr Mr' ∧
      (Mc' 9 6 = 0 → Mc 9 6 = 0 ∧ lvl < 2 ∧ ∃ b, fr + 1 ≤ b ∧ b ≤ 30 ∧ Mc' 27 6 = nI b ∧ Mr' 178 22 = nI b ∧ ∀ w, b - (fr + 1) ≤ w → WFo Mc' Mr' w (lvl + 1) (fr + 1) b) := by
  have l2 : (nI lvl < (2 : Int32)) = (lvl < 2) := by rw [show (2 : Int32) = nI 2 from rfl, hy_lt (by omega) (by omega)]
  have l2' : ((2 : Int32) ≤ nI lvl) = (2 ≤ lvl) := by rw [show (2 : Int32) = nI 2 from rfl, hy_le (by omega) (by omega)]
  -- the end of an again in error
  have tailR : ∀ (b k : Int32) (R : hz_M), ¬ R 178 17 = 0 → (hz_ct (f_X11_passes R) fun r15 M16 => hz_ct (rr (nI lvl + (1 : Int32)) M16) fun r18 M19 => hz_ct (f_X11_takesSign (41 : Int32) M19) fun r21 M22 => hz_gd (hz_in (nI fr) 30) <| hz_lm (hz_set M22 190 (Int32.toNatClampNeg (nI fr)) (M22 178 22)) fun M25 => some ((0 : Int32), M25)) = some (0, hz_set R 190 fr (R 178 22)) := fun b k R h => by
    simp (disch := omega) only [passE _ h, hy_cts, hE _ _ h, takE _ _ h, hy_in, hy_gt, hy_c, hy_lm]
  by_cases e : Mc 9 6 = 0
  · have er : Mr 178 17 = 0 := by rw [← P.2.2.1]; exact e
    have sg := j_isSign 40 (by omega) P e
    have sg' : f_X11_isSign 40 Mr = some (if Mc 9 2 = 40 then 1 else 0, Mr) := sg
    by_cases t : Mc 9 2 = 40
    · rw [if_pos t] at sg'
      by_cases hl2 : lvl < 2
      · obtain ⟨C1, R1_, a1, a2, a3, a4, a5, a6⟩ := j_advP P
        have e1 : C1 9 6 = 0 := by rw [a6]; exact e
        have go : f_X8_goOnIf 1 Mc = some (0, C1) := by
          simp only [f_X8_goOnIf, hy_f10, if_false, e, if_true, a1, hy_cts]
        have ns : f_X8_needSign 40 Mc = some (0, C1) := by
          simp only [f_X8_needSign, hy_jn, t, if_true, go, hy_cts]
        have n2 : ¬ 2 ≤ lvl := by omega
        obtain ⟨C2, R2, b1, b2, b3, b4, b5⟩ := hR C1 R1_ a3 e1 a4 a5 hl2
        have bc : r_X6_readBrackets rc (nI lvl) Mc = hz_ct (f_X8_needSign 41 C2) fun r7 M8 => some (0, M8) := by
          unfold r_X6_readBrackets
          simp only [hy_jn, t, if_true, l2, hl2, ns, hy_cts, e1, l2', n2, if_false, hy_add1, b1]
        have br : agR rr (nI fr) (nI lvl) Mr = hz_ct (f_X11_takesSign 41 R2) fun r21 M22 => some (0, hz_set M22 190 fr (M22 178 22)) := by
          unfold agR
          simp (disch := omega) only [hy_jn, sg', hy_cts, must1, er, if_true, hy_f10, if_false, l2', n2, f_X11_passes, a2, hy_add1, b2, hy_in, hy_gt, hy_c, hy_lm]
        rcases b5 with ⟨PP, h⟩ | ⟨c1, c2, c3, Mx, c4, c5⟩
        · obtain ⟨C3, R3, d1, d2, d3, d4, d5, d6⟩ := j_needSign 41 (by omega) PP
          have d1' : f_X8_needSign 41 C2 = some (0, C3) := d1
          have d2' : f_X11_takesSign 41 R2 = some (0, R3) := d2
          refine ⟨C3, R3, by rw [bc, d1', hy_cts], by rw [br, d2', hy_cts], d3, FO_t (Nat.le_refl _) (FO_E _ a4) (FO_t (Nat.le_refl _) b3 (FO_E _ d4)), FP_t (Nat.le_refl _) (FP_H _ a5) (FP_t (Nat.le_refl _) b4 (FP_H _ d5)), fun h3 => ?_⟩
          obtain ⟨to, t1, t2, t3, t4, t5⟩ := h (d6 h3).1
          exact ⟨e, hl2, to, t1, t2, by rw [d4.1 27 (by omega)]; exact t3, by rw [d5.2 22 (by omega)]; exact t4, fun w hw => WFo_gen (lo := 0) (hi := to) (d4.1 1 (by omega)) (d4.1 3 (by omega)) (d4.1 4 (by omega)) (fun a g1 g2 b _ _ => by rw [d4.1 a (by omega)]) (fun a g1 g2 b _ _ => by rw [d5.1 a (by omega)]) w (lvl + 1) (fr + 1) to (by omega) (Nat.le_refl _) (t5 w hw)⟩
        · obtain ⟨C3, R3, d1, d2, d3, d4, d5, d6⟩ := j_fail (k := 1) (by omega) c4
          have d2' : f_X11_must 0 1 Mx = some (0, R3) := d2
          have d1' : f_X8_fail 1 C2 = some (0, C3) := d1
          have eR : R3 = R2 := hy_injM c5 d2'
          subst eR
          have nr : ¬ R3 178 17 = 0 := by rw [← d3.2.2.1]; exact d6
          have go0 : f_X8_goOnIf 0 C2 = some (0, C3) := by
            simp only [f_X8_goOnIf, if_true, d1', hy_cts]
          refine ⟨C3, R3, ?_, ?_, d3, FO_t (Nat.le_refl _) (FO_E _ a4) (FO_t (Nat.le_refl _) b3 (FO_E _ d4)), FP_t (Nat.le_refl _) (FP_H _ a5) b4, fun h3 => absurd h3 d6⟩
          · rw [bc]
            simp only [f_X8_needSign, hy_jn, c3, if_false, go0, hy_cts]
          · rw [br, takE _ _ nr, hy_cts]
      · obtain ⟨C1, R1_, a1, a2, a3, a4, a5, a6⟩ := j_fail (k := 4) (by omega) P
        have a1' : f_X8_fail 4 Mc = some (0, C1) := a1
        have a2' : f_X11_must 0 4 Mr = some (0, R1_) := a2
        have nr : ¬ R1_ 178 17 = 0 := by rw [← a3.2.2.1]; exact a6
        have g2 : 2 ≤ lvl := by omega
        refine ⟨C1, R1_, ?_, ?_, a3, FO_E _ a4, FP_H _ a5, fun h => absurd h a6⟩
        · unfold r_X6_readBrackets
          simp only [hy_jn, t, if_true, l2, hl2, if_false, a1', hy_cts, signE _ _ a6, a6]
        · unfold agR
          simp only [hy_jn, sg', hy_cts, must1, er, if_true, hy_f10, if_false, l2', g2, a2']
          exact tailR 0 0 R1_ nr
    · rw [if_neg t] at sg'
      obtain ⟨C1, R1_, a1, a2, a3, a4, a5, a6⟩ := j_fail (k := 1) (by omega) P
      have a1' : f_X8_fail 1 Mc = some (0, C1) := a1
      have a2' : f_X11_must 0 1 Mr = some (0, R1_) := a2
      have nr : ¬ R1_ 178 17 = 0 := by rw [← a3.2.2.1]; exact a6
      have ns : f_X8_needSign 40 Mc = some (0, C1) := by
        simp only [f_X8_needSign, hy_jn, t, if_false, f_X8_goOnIf, if_true, a1', hy_cts]
      refine ⟨C1, R1_, ?_, ?_, a3, FO_E _ a4, FP_H _ a5, fun h => absurd h a6⟩
      · unfold r_X6_readBrackets
        simp only [hy_jn, t, if_false, ns, hy_cts, a6, signE _ _ a6]
      · unfold agR
        simp only [hy_jn, sg', hy_cts, a2', if_true]
        exact tailR 0 0 R1_ nr
  · have nr : ¬ Mr 178 17 = 0 := by rw [← P.2.2.1]; exact e
    refine ⟨Mc, Mr, ?_, ?_, P, FO_r _ _, FP_r _ _, fun h => absurd h e⟩
    · unfold r_X6_readBrackets
      simp only [hy_jn, failE _ _ e, hy_cts, signE _ _ e, e, if_false]
      repeat (first | rfl | split)
    · unfold agR
      simp only [hy_jn, isSgE _ _ nr, hy_cts, mustE _ _ _ nr, if_true]
      exact tailR 0 0 Mr nr
