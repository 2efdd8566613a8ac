
theorem numE (lo hi : Int32) (M : hz_M) (h : ¬ M 178 17 = 0) : f_X11_number lo hi M = some (M 178 16, M) := by
  simp only [f_X11_number, hy_jn, mustE _ _ _ h, hy_cts, if_true, hy_lt', passE _ h]
  split <;> rfl
theorem n_named {M : hz_M} {G : Nat} (h : M 179 11 = nI G) (h16 : G ≤ 16) (v : Int32) : f_X11_named v M = some (hy_fnd (fun g => decide (M 179 (25 + 8 * g) = v)) G 0, M) := by
  unfold f_X11_named
  refine hy_first (fun f i => f_X11_named_L2 f v (nI i) M) G (fun g => decide (M 179 (25 + 8 * g) = v)) (fun r => some (r, M)) ?_ ?_ G 0 hz_FU (by omega) (hy_FU (by omega))
  · intro f
    simp (disch := omega) only [f_X11_named_L2, h, hy_cts, hy_gt, hy_lt', hy_lm, hy_jn, hy_c, hy_in, hy_le, hy_add1, hy_k0, hy_k1, hy_k2, hy_k3, hy_k4, hy_k5, hy_k6, hy_k7, hy_k8, hy_k9, hy_k10, hy_k11, hy_k12, hy_k13, r_of0, r_of1, r_of2, r_of3, r_of4, r_of5, r_of6, r_of7, r_ofT0, r_ofT1, Nat.le_refl, if_true]
  · intro f i hi
    have hi' : ¬ G ≤ i := by omega
    simp (disch := omega) only [f_X11_named_L2, h, hi', if_false, hy_cts, hy_gt, hy_lt', hy_lm, hy_jn, hy_c, hy_in, hy_le, hy_add1, hy_k0, hy_k1, hy_k2, hy_k3, hy_k4, hy_k5, hy_k6, hy_k7, hy_k8, hy_k9, hy_k10, hy_k11, hy_k12, hy_k13, r_of0, r_of1, r_of2, r_of3, r_of4, r_of5, r_of6, r_of7, r_ofT0, r_ofT1]
    by_cases e : M 179 (25 + 8 * i) = v <;> simp [e]
theorem GS_fr {th g : Nat} {Mc Mr Mc' Mr' : hz_M} (h1 : Mc' (th + 1) g = Mc (th + 1) g) (h3 : Mc' (th + 3) g = Mc (th + 3) g) (h2 : ∀ i, i < 6 → Mc' (th + 2) (6 * g + i) = Mc (th + 2) (6 * g + i)) (h4 : ∀ c, c < 8 → Mr' 179 (25 + 8 * g + c) = Mr 179 (25 + 8 * g + c)) (G : GS th Mc Mr g) : GS th Mc' Mr' g := by
  obtain ⟨⟨a, ha, g1, g2⟩, ⟨n, n1, n6, n4, nl, nv⟩, g3, g4, g5, g6⟩ := G
  have h40 := h4 0 (by omega)
  rw [Nat.add_zero] at h40
  refine ⟨⟨a, ha, by rw [h1]; exact g1, by rw [h4 1 (by omega)]; exact g2⟩, ⟨n, n1, n6, by rw [h3]; exact n4, fun i hi => by rw [h2 i (by omega)]; exact nl i hi, ?_⟩, by rw [h4 2 (by omega)]; exact g3, by rw [h4 3 (by omega)]; exact g4, by rw [h4 4 (by omega)]; exact g5, by rw [h4 7 (by omega)]; exact g6⟩
  rw [h40, nv]
  unfold pk
  exact (hy_fold_congr _ _ _ (fun j _ hj b => by show 27 * b + Mc' (th + 2) (6 * g + j) - 96 = 27 * b + Mc (th + 2) (6 * g + j) - 96; rw [h2 j (by omega)])).symm
theorem FK_E {th : Nat} {a b : hz_M} (hth : th = 1 ∨ th = 5) (h : FE a b) : FK th a b := ⟨fun x h1 _ _ _ _ => h.1 x h1, h.2, fun x _ => by rw [h.1 th (by omega)]⟩
theorem FK_t {th : Nat} {a b c : hz_M} (h : FK th a b) (k : FK th b c) : FK th a c := ⟨fun x h1 h2 h3 h4 h5 => by rw [k.1 x h1 h2 h3 h4 h5, h.1 x h1 h2 h3 h4 h5], by rw [k.2.1, h.2.1], fun x hx => by rw [k.2.2 x hx, h.2.2 x hx]⟩
theorem FL_H {i : Nat} {a b : hz_M} (h : FH a b) : FL i a b := ⟨fun x h1 _ => h.1 x h1, h.2, fun x _ _ => by rw [h.1 179 (by omega)]⟩
theorem FL_t {i : Nat} {a b c : hz_M} (h : FL i a b) (k : FL i b c) : FL i a c := ⟨fun x h1 h2 => by rw [k.1 x h1 h2, h.1 x h1 h2], fun x hx => by rw [k.2.1 x hx, h.2.1 x hx], fun x hx h2 => by rw [k.2.2 x hx h2, h.2.2 x hx h2]⟩
/-- behind the name -/
theorem j_gtail {th n i : Nat} {Mc Mr : hz_M} (hth : th = 1 ∨ th = 5) (hi : i ≤ 16) (P : PJ n Mc Mr) (hg : Mc th 3 = nI i) (hr : Mr 179 11 = nI i) (e0 : ¬ Mc 9 6 = 0) (v : Int32) :
    (if Mc 9 6 = 0 then
        if (Mc th 3) < (16 : Int32) then
          hz_ct (f_X3_keepName th Mc) fun r11 M12 =>
          hz_ct (f_X8_advance M12) fun r14 M15 =>
          hz_ct (f_X8_needNumber (0 : Int32) (99 : Int32) M15) fun r17 M18 =>
          hz_gd (hz_in (M15 th 3) 16) <|
          hz_lm (hz_set M18 (th + 1) (Int32.toNatClampNeg (M15 th 3)) r17) fun M21 =>
          hz_lm (hz_set M21 th 3 ((M21 th 3) + (1 : Int32))) fun M22 =>
          some (0, M22)
        else
          some (0, Mc)
      else
        some (0, Mc)) = some (0, Mc) := by rw [if_neg e0]
theorem j_guest {th n i : Nat} {Mc Mr : hz_M} (hth : th = 1 ∨ th = 5) (hi : i ≤ 16) (P : PJ n Mc Mr) (e0 : Mc 9 6 = 0) (hg : Mc th 3 = nI i) (hr : Mr 179 11 = nI i) (GG : ∀ g, g < i → GS th Mc Mr g) :
    ∃ Mc' Mr', f_X3_readGuest th Mc = some (0, Mc') ∧ f_X11_readsGuest Mr = some (0, Mr') ∧ PJ n Mc' Mr' ∧ FK th Mc Mc' ∧ FL i Mr Mr' ∧ (Mc' 9 6 = 0 → i < 16 ∧ Mc' th 3 = nI (i + 1) ∧ Mr' 179 11 = nI (i + 1) ∧ ∀ g, g < i + 1 → GS th Mc' Mr' g) := by
  have er0 : Mr 178 17 = 0 := by rw [← P.2.2.1]; exact e0
  by_cases i16 : i = 16
  · -- one too many
    subst i16
    obtain ⟨rc, rr, a1, a2, a3, a4, _⟩ := j_isWord (w := 2) (by omega) P
    have err := a4 e0
    subst err
    have n16 : ¬ nI 16 < 16 := by decide
    have g16 : (16 : Int32) ≤ nI 16 := by decide
    -- the error
    have step : ∃ Mc1 Mr1 r4 r9 Mr0, (if rr = 0 then some ((0 : Int32), Mc) else f_X8_fail 4 Mc) = some (0, Mc) ∧ rr = 0 ∧ f_X8_goOnIf rr Mc = some (0, Mc1) ∧ f_X11_must rr 1 Mr = some (r4, Mr0) ∧ f_X11_must 0 4 Mr0 = some (r9, Mr1) ∧ PJ n Mc1 Mr1 ∧ FE Mc Mc1 ∧ FH Mr Mr1 ∧ ¬ Mc1 9 6 = 0 ∧ Mr0 179 11 = nI 16 ∨
        ∃ Mc1 Mr1 r4 r9 Mr0, f_X8_fail 4 Mc = some (0, Mc1) ∧ rr = 1 ∧ f_X11_must rr 1 Mr = some (r4, Mr0) ∧ f_X11_must 0 4 Mr0 = some (r9, Mr1) ∧ PJ n Mc1 Mr1 ∧ FE Mc Mc1 ∧ FH Mr Mr1 ∧ ¬ Mc1 9 6 = 0 ∧ Mr0 179 11 = nI 16 := by
      rcases a1 with rfl | rfl
      · obtain ⟨Mc1, Mr1, b1, b2, b3, b4, b5, b6⟩ := j_fail (k := 1) (by omega) P
        have nr : ¬ Mr1 178 17 = 0 := by rw [← b3.2.2.1]; exact b6
        refine ⟨Mc1, Mr1, 0, 0, Mr1, Or.inl ⟨by rw [if_pos rfl], rfl, ?_, b2, mustE _ _ _ nr, b3, b4, b5, b6, by rw [b5.1 179 (by omega)]; exact hr⟩⟩
        have b1' : f_X8_fail 1 Mc = some (0, Mc1) := b1
        simp only [f_X8_goOnIf, if_true, b1', hy_cts]
      · obtain ⟨Mc1, Mr1, b1, b2, b3, b4, b5, b6⟩ := j_fail (k := 4) (by omega) P
        exact ⟨Mc1, Mr1, 0, 0, Mr1, Or.inr ⟨Mc1, Mr1, _, 0, Mr, b1, rfl, must1 _ _, b2, b3, b4, b5, b6, hr⟩⟩
    have tailC : ∀ M : hz_M, ¬ M 9 6 = 0 → (hz_ct (f_X8_checkName M) fun r5 M6 => if (M6 9 6) = 0 then hz_ct (f_X3_guestNamed th (M6 9 3) (M6 9 4) M6) fun r25 M26 => if r25 = (-1 : Int32) then (if (M26 9 6) = 0 then if (M26 th 3) < (16 : Int32) then hz_ct (f_X3_keepName th M26) fun r11 M12 => hz_ct (f_X8_advance M12) fun r14 M15 => hz_ct (f_X8_needNumber (0 : Int32) (99 : Int32) M15) fun r17 M18 => hz_gd (hz_in (M15 th 3) 16) <| hz_lm (hz_set M18 (th + 1) (Int32.toNatClampNeg (M15 th 3)) r17) fun M21 => hz_lm (hz_set M21 th 3 ((M21 th 3) + (1 : Int32))) fun M22 => some (0, M22) else some (0, M26) else some (0, M26)) else hz_ct (f_X8_fail (3 : Int32) M26) fun r29 M30 => (if (M30 9 6) = 0 then if (M30 th 3) < (16 : Int32) then hz_ct (f_X3_keepName th M30) fun r11 M12 => hz_ct (f_X8_advance M12) fun r14 M15 => hz_ct (f_X8_needNumber (0 : Int32) (99 : Int32) M15) fun r17 M18 => hz_gd (hz_in (M15 th 3) 16) <| hz_lm (hz_set M18 (th + 1) (Int32.toNatClampNeg (M15 th 3)) r17) fun M21 => hz_lm (hz_set M21 th 3 ((M21 th 3) + (1 : Int32))) fun M22 => some (0, M22) else some (0, M30) else some (0, M30)) else (if (M6 9 6) = 0 then if (M6 th 3) < (16 : Int32) then hz_ct (f_X3_keepName th M6) fun r11 M12 => hz_ct (f_X8_advance M12) fun r14 M15 => hz_ct (f_X8_needNumber (0 : Int32) (99 : Int32) M15) fun r17 M18 => hz_gd (hz_in (M15 th 3) 16) <| hz_lm (hz_set M18 (th + 1) (Int32.toNatClampNeg (M15 th 3)) r17) fun M21 => hz_lm (hz_set M21 th 3 ((M21 th 3) + (1 : Int32))) fun M22 => some (0, M22) else some (0, M6) else some (0, M6))) = some (0, M) := by
      intro M hM
      have ck : f_X8_checkName M = some (0, M) := by
        simp only [f_X8_checkName, failE _ _ hM, hy_cts]
        repeat (first | rfl | split)
      rw [ck, hy_cts, if_neg hM, if_neg hM]
    have tailR : ∀ M : hz_M, ¬ M 178 17 = 0 → f_X11_passes M = some (0, M) ∧ f_X11_looksAtName M = some (0, M) := by
      intro M hM
      refine ⟨passE _ hM, ?_⟩
      simp only [f_X11_looksAtName, hy_jn, mustE _ _ _ hM, hy_cts, if_true, hM, if_false]
      split <;> rfl
    have fin : ∀ Mc1 Mr1 : hz_M, PJ n Mc1 Mr1 → FE Mc Mc1 → FH Mr Mr1 → ¬ Mc1 9 6 = 0 → PJ n Mc1 Mr1 ∧ FK th Mc Mc1 ∧ FL 16 Mr Mr1 ∧ (Mc1 9 6 = 0 → 16 < 16 ∧ Mc1 th 3 = nI (16 + 1) ∧ Mr1 179 11 = nI (16 + 1) ∧ ∀ g, g < 16 + 1 → GS th Mc1 Mr1 g) :=
      fun Mc1 Mr1 h1 h2 h3 h4 => ⟨h1, FK_E hth h2, FL_H h3, fun h => absurd h h4⟩
    obtain ⟨Mc1, Mr1, r4, r9, Mr0, h⟩ := step
    rcases h with ⟨_, s2, s3, s4, s5, s6, s7, s8, s9, s10⟩ | ⟨Mc1, Mr1, r4, r9, Mr0, s1, s2, s4, s5, s6, s7, s8, s9, s10⟩
    · have nr : ¬ Mr1 178 17 = 0 := by rw [← s6.2.2.1]; exact s9
      obtain ⟨t1, t2⟩ := tailR Mr1 nr
      refine ⟨Mc1, Mr1, ?_, ?_, fin Mc1 Mr1 s6 s7 s8 s9⟩
      · have nw : f_X8_needWord 2 Mc = some (0, Mc1) := by simp only [f_X8_needWord, a2, hy_cts, s3]
        simp only [f_X3_readGuest, hy_jn, hg, n16, if_false, a2, hy_cts, s2, if_true, nw]
        exact tailC Mc1 s9
      · simp only [f_X11_readsGuest, a3, hy_cts, s4, hy_jn, hy_k11, s10, g16, if_true, s5, t1, t2, nr, if_false, mustE _ _ _ nr, numE _ _ _ nr]
    · have nr : ¬ Mr1 178 17 = 0 := by rw [← s6.2.2.1]; exact s9
      obtain ⟨t1, t2⟩ := tailR Mr1 nr
      refine ⟨Mc1, Mr1, ?_, ?_, fin Mc1 Mr1 s6 s7 s8 s9⟩
      · obtain ⟨rc2, _, _, w2, _⟩ := j_isWord (w := 2) (by omega) s6
        have nw : f_X8_needWord 2 Mc1 = some (0, Mc1) := by simp only [f_X8_needWord, w2, hy_cts, goE _ _ s9]
        simp only [f_X3_readGuest, hy_jn, hg, n16, if_false, a2, hy_cts, s2, hy_f10, s1, nw]
        exact tailC Mc1 s9
      · simp only [f_X11_readsGuest, a3, hy_cts, s4, hy_jn, hy_k11, s10, g16, if_true, s5, t1, t2, nr, if_false, mustE _ _ _ nr, numE _ _ _ nr]
  · have i15 : i < 16 := by omega
    have lt16 : nI i < 16 := by rw [show (16 : Int32) = nI 16 from rfl, hy_lt (by omega) (by omega)]; exact i15
    have ng16 : ¬ (16 : Int32) ≤ nI i := by rw [show (16 : Int32) = nI 16 from rfl, hy_le (by omega) (by omega)]; omega
    obtain ⟨rr, r, Mc1, Mr1, Mr2, w1, w2, w3, w4, P1, fc1, fr1, fr1', _⟩ := j_needWord (w := 2) (by omega) P
    have hr1 : Mr1 179 11 = nI i := by rw [fr1'.1 179 (by omega)]; exact hr
    obtain ⟨v, Mc2, Mr3, l1, l2, P2, fc2, fr2, l3⟩ := j_look P1
    have preC : f_X3_readGuest th Mc = (if (Mc2 9 6) = 0 then hz_ct (f_X3_guestNamed th (Mc2 9 3) (Mc2 9 4) Mc2) fun r25 M26 => if r25 = (-1 : Int32) then (if (M26 9 6) = 0 then if (M26 th 3) < (16 : Int32) then hz_ct (f_X3_keepName th M26) fun r11 M12 => hz_ct (f_X8_advance M12) fun r14 M15 => hz_ct (f_X8_needNumber (0 : Int32) (99 : Int32) M15) fun r17 M18 => hz_gd (hz_in (M15 th 3) 16) <| hz_lm (hz_set M18 (th + 1) (Int32.toNatClampNeg (M15 th 3)) r17) fun M21 => hz_lm (hz_set M21 th 3 ((M21 th 3) + (1 : Int32))) fun M22 => some (0, M22) else some (0, M26) else some (0, M26)) else hz_ct (f_X8_fail (3 : Int32) M26) fun r29 M30 => (if (M30 9 6) = 0 then if (M30 th 3) < (16 : Int32) then hz_ct (f_X3_keepName th M30) fun r11 M12 => hz_ct (f_X8_advance M12) fun r14 M15 => hz_ct (f_X8_needNumber (0 : Int32) (99 : Int32) M15) fun r17 M18 => hz_gd (hz_in (M15 th 3) 16) <| hz_lm (hz_set M18 (th + 1) (Int32.toNatClampNeg (M15 th 3)) r17) fun M21 => hz_lm (hz_set M21 th 3 ((M21 th 3) + (1 : Int32))) fun M22 => some (0, M22) else some (0, M30) else some (0, M30)) else (if (Mc2 9 6) = 0 then if (Mc2 th 3) < (16 : Int32) then hz_ct (f_X3_keepName th Mc2) fun r11 M12 => hz_ct (f_X8_advance M12) fun r14 M15 => hz_ct (f_X8_needNumber (0 : Int32) (99 : Int32) M15) fun r17 M18 => hz_gd (hz_in (M15 th 3) 16) <| hz_lm (hz_set M18 (th + 1) (Int32.toNatClampNeg (M15 th 3)) r17) fun M21 => hz_lm (hz_set M21 th 3 ((M21 th 3) + (1 : Int32))) fun M22 => some (0, M22) else some (0, Mc2) else some (0, Mc2))) := by
      simp only [f_X3_readGuest, hy_jn, hg, lt16, if_true, w1, l1, hy_cts]
    have preR : f_X11_readsGuest Mr = (if (Mr3 178 17) = 0 then hz_ct (f_X11_named v Mr3) fun r56 M57 => if r56 = (-1 : Int32) then (hz_ct (f_X11_must 1 (3 : Int32) M57) fun r21 M22 => hz_ct (f_X11_passes M22) fun r24 M25 => hz_ct (f_X11_number (0 : Int32) (99 : Int32) M25) fun r27 M28 => if (M28 178 17) = 0 then hz_lt ((M28 179 (Int32.toNatClampNeg (11 : Int32)))) fun x31 => hz_ct (f_X11_puts x31 (0 : Int32) v M28) fun r32 M33 => hz_ct (f_X11_puts x31 (1 : Int32) r27 M33) fun r35 M36 => hz_ct (f_X11_puts x31 (2 : Int32) (-1 : Int32) M36) fun r38 M39 => hz_ct (f_X11_puts x31 (3 : Int32) (-1 : Int32) M39) fun r41 M42 => hz_ct (f_X11_puts x31 (4 : Int32) (-1 : Int32) M42) fun r44 M45 => hz_ct (f_X11_puts x31 (7 : Int32) (-1 : Int32) M45) fun r47 M48 => hz_lm (hz_set M48 179 (Int32.toNatClampNeg (11 : Int32)) ((M48 179 (Int32.toNatClampNeg (11 : Int32))) + (1 : Int32))) fun M50 => some (0, M50) else some (0, M28)) else (hz_ct (f_X11_must 0 (3 : Int32) M57) fun r21 M22 => hz_ct (f_X11_passes M22) fun r24 M25 => hz_ct (f_X11_number (0 : Int32) (99 : Int32) M25) fun r27 M28 => if (M28 178 17) = 0 then hz_lt ((M28 179 (Int32.toNatClampNeg (11 : Int32)))) fun x31 => hz_ct (f_X11_puts x31 (0 : Int32) v M28) fun r32 M33 => hz_ct (f_X11_puts x31 (1 : Int32) r27 M33) fun r35 M36 => hz_ct (f_X11_puts x31 (2 : Int32) (-1 : Int32) M36) fun r38 M39 => hz_ct (f_X11_puts x31 (3 : Int32) (-1 : Int32) M39) fun r41 M42 => hz_ct (f_X11_puts x31 (4 : Int32) (-1 : Int32) M42) fun r44 M45 => hz_ct (f_X11_puts x31 (7 : Int32) (-1 : Int32) M45) fun r47 M48 => hz_lm (hz_set M48 179 (Int32.toNatClampNeg (11 : Int32)) ((M48 179 (Int32.toNatClampNeg (11 : Int32))) + (1 : Int32))) fun M50 => some (0, M50) else some (0, M28)) else (hz_ct (f_X11_must 1 (3 : Int32) Mr3) fun r21 M22 => hz_ct (f_X11_passes M22) fun r24 M25 => hz_ct (f_X11_number (0 : Int32) (99 : Int32) M25) fun r27 M28 => if (M28 178 17) = 0 then hz_lt ((M28 179 (Int32.toNatClampNeg (11 : Int32)))) fun x31 => hz_ct (f_X11_puts x31 (0 : Int32) v M28) fun r32 M33 => hz_ct (f_X11_puts x31 (1 : Int32) r27 M33) fun r35 M36 => hz_ct (f_X11_puts x31 (2 : Int32) (-1 : Int32) M36) fun r38 M39 => hz_ct (f_X11_puts x31 (3 : Int32) (-1 : Int32) M39) fun r41 M42 => hz_ct (f_X11_puts x31 (4 : Int32) (-1 : Int32) M42) fun r44 M45 => hz_ct (f_X11_puts x31 (7 : Int32) (-1 : Int32) M45) fun r47 M48 => hz_lm (hz_set M48 179 (Int32.toNatClampNeg (11 : Int32)) ((M48 179 (Int32.toNatClampNeg (11 : Int32))) + (1 : Int32))) fun M50 => some (0, M50) else some (0, M28))) := by
      simp only [f_X11_readsGuest, w2, hy_cts, w3, hy_jn, hy_k11, hr1, ng16, if_false, must1, w4, l2]
    have fcA : FK th Mc Mc2 := FK_E hth (FE_t fc1 fc2)
    have frA : FL i Mr Mr3 := FL_H (FH_t fr1 fr2)
    by_cases e2 : Mc2 9 6 = 0
    · obtain ⟨e1, rfl, rfl, s, e, hse, hen, h6, c3, c4, hl, hv⟩ := l3 e2
      have er2 : Mr3 178 17 = 0 := by rw [← P2.2.2.1]; exact e2
      have hn := P2.1.1
      have t1 := P2.1.2.1
      have hg2 : Mc2 th 3 = nI i := by rw [(FE_t fc1 fc2).1 th (by omega)]; exact hg
      have hr2 : Mr3 179 11 = nI i := by rw [(FH_t fr1 fr2).1 179 (by omega)]; exact hr
      have GG2 : ∀ g, g < i → GS th Mc2 Mr3 g := fun g hgi => GS_fr (by rw [(FE_t fc1 fc2).1 (th + 1) (by omega)]) (by rw [(FE_t fc1 fc2).1 (th + 3) (by omega)]) (fun j hj => by rw [(FE_t fc1 fc2).1 (th + 2) (by omega)]) (fun c hc => by rw [(FH_t fr1 fr2).1 179 (by omega)]) (GG g hgi)
      have lt : ∀ j, j < e - s → ∃ c, 1 ≤ c ∧ c ≤ 26 ∧ Mc2 10 (s + j) = nI (96 + c) := fun j hj => hl (s + j) (by omega) (by omega)
      have hv' : v = pk (fun j => Mc2 10 (s + j)) (e - s) := by
        rw [hv]
        unfold pk
        exact hy_fold_congr _ _ _ (fun j _ hj b => by show 27 * b + Mr3 186 (s + j) - 96 = 27 * b + Mc2 10 (s + j) - 96; rw [(P2.1.2.2.2 (s + j) (by omega)).1])
      have cn := c_named (th := th) (s := s) (e := e) hg2 (by omega) (fun g hgi => by
        obtain ⟨_, ⟨m, _, m6, m4, _⟩, _⟩ := GG2 g hgi
        exact ⟨m, m6, m4⟩) t1 hn (by omega) hen
      have rn := n_named hr2 (by omega) v
      have same : hy_fnd (nmF th Mc2 s (e - s)) i 0 = hy_fnd (fun g => decide (Mr3 179 (25 + 8 * g) = v)) i 0 := hy_fnd_congr _ _ (fun j _ hj => by
        rw [hv']
        exact nmT_iff (GG2 j (by omega)).2.1 (by omega) h6 lt)
      rw [← same] at rn
      rw [preC, preR, if_pos e2, if_pos er2, c3, c4, cn, hy_cts, rn, hy_cts]
      by_cases nf : hy_fnd (nmF th Mc2 s (e - s)) i 0 = -1
      · rw [if_pos nf, if_pos nf, if_pos e2, hg2, if_pos lt16, must1, hy_cts]
        -- the name is kept
        have hM3 : ∃ Mk, f_X3_keepName th Mc2 = some (0, Mk) ∧ (∀ a, a ≠ th + 2 → a ≠ th + 3 → Mk a = Mc2 a) ∧ (∀ b, b ≠ i → Mk (th + 3) b = Mc2 (th + 3) b) ∧ Mk (th + 3) i = nI (e - s) ∧ (∀ b, b < 6 * i → Mk (th + 2) b = Mc2 (th + 2) b) ∧ ∀ x, x < e - s → Mk (th + 2) (6 * i + x) = Mc2 10 (s + x) := by
          obtain ⟨M', k1, k2, k3, k4⟩ := c_keep (th := th) (i := i) (s := s) (e := e) i15 hn (by omega) hen h6 hth (e - s) 0 hz_FU (hz_set Mc2 (th + 3) i (nI (e - s))) (by rw [hy_seto _ _ _ (by omega)]; exact t1) (by rw [hy_seto _ _ _ (by omega)]; exact c3) (by rw [hy_seto _ _ _ (by omega)]; exact hg2) (by omega) (hy_FU (by omega))
          refine ⟨M', ?_, fun a h1 h2 => by rw [k2 a h1, hy_seto _ _ _ h2], fun b hb => by rw [k2 (th + 3) (by omega), hy_setn _ _ _ hb], by rw [k2 (th + 3) (by omega), hy_setk], fun b hb => by rw [k3 b (by omega), hy_seto _ _ _ (by omega)], fun x hx => by rw [k4 x (by omega) hx, hy_seto _ _ _ (by omega)]⟩
          have d6 : (if (6 : Int32) < nI (e - s) then (6 : Int32) else nI (e - s)) = nI (e - s) := by
            rw [if_neg (by rw [show (6 : Int32) = nI 6 from rfl, hy_lt (by omega) (by omega)]; omega)]
          unfold f_X3_keepName
          rw [hy_lt', c3, c4, hy_sub (by omega), d6, hg2, hy_in (by omega) (by omega), hy_gt, hy_c (by omega), hy_lm]
          exact k1
        obtain ⟨Mk, k1, k2, k3, k4, k5, k6⟩ := hM3
        have Pk : PJ n Mk Mr3 := PJ_c (k2 9 (by omega) (by omega)) (k2 10 (by omega) (by omega)) rfl rfl P2
        obtain ⟨Mc4, Mr4, v1, v2, P4, fc4, fr4, v3⟩ := j_advP Pk
        obtain ⟨vc, vr, Mc5, Mr5, n1, n2, P5, fc5, fr5, n3⟩ := j_num0 0 99 0 99 P4 (fun _ => ⟨0, 99, by omega, rfl, rfl, rfl, rfl, by omega⟩)
        have g4 : Mc4 th 3 = nI i := by rw [fc4.1 th (by omega), k2 th (by omega) (by omega)]; exact hg2
        have g5 : Mc5 th 3 = nI i := by rw [fc5.1 th (by omega)]; exact g4
        have ps : f_X11_passes Mr3 = some (0, Mr4) := by simp only [f_X11_passes, er2, if_true, v2, hy_cts]
        have clC : (hz_ct (f_X3_keepName th Mc2) fun r11 M12 => hz_ct (f_X8_advance M12) fun r14 M15 => hz_ct (f_X8_needNumber (0 : Int32) (99 : Int32) M15) fun r17 M18 => hz_gd (hz_in (M15 th 3) 16) <| hz_lm (hz_set M18 (th + 1) (Int32.toNatClampNeg (M15 th 3)) r17) fun M21 => hz_lm (hz_set M21 th 3 ((M21 th 3) + (1 : Int32))) fun M22 => some ((0 : Int32), M22)) = some (0, hz_set (hz_set Mc5 (th + 1) i vc) th 3 (nI (i + 1))) := by
          rw [k1, hy_cts, v1, hy_cts, n1, hy_cts, g4, hy_in (by omega) (by omega), hy_gt, hy_c (by omega), hy_lm, hy_lm, hy_seto _ _ _ (by omega), g5, hy_add1]
        rw [clC, ps, hy_cts, n2, hy_cts]
        have fkC : FK th Mc2 (hz_set (hz_set Mc5 (th + 1) i vc) th 3 (nI (i + 1))) := by
          refine ⟨fun a h1 h2 h3 h4 h5 => by rw [hy_seto _ _ _ h2, hy_seto _ _ _ h3, fc5.1 a h1, fc4.1 a h1, k2 a h4 h5], by rw [hy_seto _ _ _ (by omega), hy_seto _ _ _ (by omega), fc5.2, fc4.2, k2 9 (by omega) (by omega)], fun b hb => by rw [hy_setn _ _ _ hb, hy_seto _ _ _ (by omega), fc5.1 th (by omega), fc4.1 th (by omega), k2 th (by omega) (by omega)]⟩
        have PJ6 : ∀ R : hz_M, R 178 = Mr5 178 → R 186 = Mr5 186 → PJ n (hz_set (hz_set Mc5 (th + 1) i vc) th 3 (nI (i + 1))) R := fun R h1 h2 => PJ_c (by rw [hy_seto _ _ _ (by omega), hy_seto _ _ _ (by omega)]) (by rw [hy_seto _ _ _ (by omega), hy_seto _ _ _ (by omega)]) h1 h2 P5
        have c96 : hz_set (hz_set Mc5 (th + 1) i vc) th 3 (nI (i + 1)) 9 6 = Mc5 9 6 := by rw [hy_seto _ _ _ (by omega), hy_seto _ _ _ (by omega)]
        by_cases e5 : Mc5 9 6 = 0
        · obtain ⟨_, evr, a, va, a9, ra1, ra2⟩ := n3 e5
          subst va
          have er5 : Mr5 178 17 = 0 := by rw [← P5.2.2.1]; exact e5
          have a99 : a ≤ 99 := by rw [show (99 : Int32) = nI 99 from rfl, hy_le (by omega) (by omega)] at ra2; exact ra2
          have q5 : Mr5 179 = Mr3 179 := by rw [fr5.1 179 (by omega), fr4.1 179 (by omega)]
          have q11 : Mr5 179 11 = nI i := by rw [q5]; exact hr2
          rw [if_pos er5, ← evr]
          have rp : (hz_lt ((Mr5 179 (Int32.toNatClampNeg (11 : Int32)))) fun x31 => hz_ct (f_X11_puts x31 (0 : Int32) v Mr5) fun r32 M33 => hz_ct (f_X11_puts x31 (1 : Int32) (nI a) M33) fun r35 M36 => hz_ct (f_X11_puts x31 (2 : Int32) (-1 : Int32) M36) fun r38 M39 => hz_ct (f_X11_puts x31 (3 : Int32) (-1 : Int32) M39) fun r41 M42 => hz_ct (f_X11_puts x31 (4 : Int32) (-1 : Int32) M42) fun r44 M45 => hz_ct (f_X11_puts x31 (7 : Int32) (-1 : Int32) M45) fun r47 M48 => hz_lm (hz_set M48 179 (Int32.toNatClampNeg (11 : Int32)) ((M48 179 (Int32.toNatClampNeg (11 : Int32))) + (1 : Int32))) fun M50 => some ((0 : Int32), M50)) = some (0, hy_row Mr5 179 (hy_st (hy_st (hy_st (hy_st (hy_st (hy_st (hy_st (Mr5 179) (25 + 8 * i) (v)) (25 + 8 * i + 1) (nI a)) (25 + 8 * i + 2) (-1)) (25 + 8 * i + 3) (-1)) (25 + 8 * i + 4) (-1)) (25 + 8 * i + 7) (-1)) (11) (nI (i + 1)))) := by
            simp (disch := omega) only [hy_lt', hy_k11, q11, r_puts0, r_puts1, r_puts2, r_puts3, r_puts4, r_puts7, hy_cts, hy_rs, hy_rr, hy_lm, hy_set, hy_so, hy_add1]
          rw [rp]
          refine ⟨_, _, rfl, rfl, PJ6 _ (hy_ro _ _ (by omega)) (hy_ro _ _ (by omega)), FK_t fcA fkC, FL_t frA ⟨fun x h1 h2 => by rw [hy_ro _ _ h2, fr5.1 x h1, fr4.1 x h1], fun b hb => by rw [hy_ro _ _ (by omega), fr5.2 b hb, fr4.2 b hb], fun b h1 h2 => by rw [hy_rs]; simp (disch := omega) only [hy_so, q5]⟩, fun _ => ⟨i15, hy_setk _ _ _ _, by rw [hy_rs, hy_ss], fun g hgi => ?_⟩⟩
          by_cases eg : g = i
          · subst eg
            refine ⟨⟨a, a99, by rw [hy_seto _ _ _ (by omega), hy_setk], by rw [hy_rs]; simp (disch := omega) only [hy_so, hy_ss]⟩, ⟨e - s, by omega, h6, ?_, fun j hj => ?_, ?_⟩, ?_, ?_, ?_, ?_⟩
            · rw [hy_seto _ _ _ (by omega), hy_seto _ _ _ (by omega), fc5.1 (th + 3) (by omega), fc4.1 (th + 3) (by omega)]; exact k4
            · rw [hy_seto _ _ _ (by omega), hy_seto _ _ _ (by omega), fc5.1 (th + 2) (by omega), fc4.1 (th + 2) (by omega), k6 j hj]; exact lt j hj
            · have e9 : hy_row Mr5 179 (hy_st (hy_st (hy_st (hy_st (hy_st (hy_st (hy_st (Mr5 179) (25 + 8 * g) (v)) (25 + 8 * g + 1) (nI a)) (25 + 8 * g + 2) (-1)) (25 + 8 * g + 3) (-1)) (25 + 8 * g + 4) (-1)) (25 + 8 * g + 7) (-1)) (11) (nI (g + 1))) 179 (25 + 8 * g) = v := by rw [hy_rs]; simp (disch := omega) only [hy_so, hy_ss]
              rw [e9, hv']
              unfold pk
              refine hy_fold_congr _ _ _ (fun j _ hj b => ?_)
              show 27 * b + Mc2 10 (s + j) - 96 = 27 * b + hz_set (hz_set Mc5 (th + 1) g (nI a)) th 3 (nI (g + 1)) (th + 2) (6 * g + j) - 96
              rw [hy_seto _ _ _ (by omega), hy_seto _ _ _ (by omega), fc5.1 (th + 2) (by omega), fc4.1 (th + 2) (by omega), k6 j (by omega)]
            · rw [hy_rs]; simp (disch := omega) only [hy_so, hy_ss]
            · rw [hy_rs]; simp (disch := omega) only [hy_so, hy_ss]
            · rw [hy_rs]; simp (disch := omega) only [hy_so, hy_ss]
            · rw [hy_rs]; simp (disch := omega) only [hy_so, hy_ss]
          · refine GS_fr ?_ ?_ (fun j hj => ?_) (fun c hc => ?_) (GG2 g (by omega))
            · rw [hy_seto _ _ _ (by omega), hy_setn _ _ _ eg, fc5.1 (th + 1) (by omega), fc4.1 (th + 1) (by omega), k2 (th + 1) (by omega) (by omega)]
            · rw [hy_seto _ _ _ (by omega), hy_seto _ _ _ (by omega), fc5.1 (th + 3) (by omega), fc4.1 (th + 3) (by omega), k3 g eg]
            · rw [hy_seto _ _ _ (by omega), hy_seto _ _ _ (by omega), fc5.1 (th + 2) (by omega), fc4.1 (th + 2) (by omega), k5 _ (by omega)]
            · rw [hy_rs]; simp (disch := omega) only [hy_so, q5]
        · have nr5 : ¬ Mr5 178 17 = 0 := by rw [← P5.2.2.1]; exact e5
          rw [if_neg nr5]
          exact ⟨_, _, rfl, rfl, PJ6 _ rfl rfl, FK_t fcA fkC, FL_t frA (FL_H (FH_t fr4 fr5)), fun h => absurd (by rw [c96] at h; exact h) e5⟩
      · rw [if_neg nf, if_neg nf]
        obtain ⟨Mc4, Mr4, b1, b2, b3, b4, b5, b6⟩ := j_fail (k := 3) (by omega) P2
        have b1' : f_X8_fail 3 Mc2 = some (0, Mc4) := b1
        have b2' : f_X11_must 0 3 Mr3 = some (0, Mr4) := b2
        have nr : ¬ Mr4 178 17 = 0 := by rw [← b3.2.2.1]; exact b6
        rw [b1', hy_cts, if_neg b6, b2', hy_cts, passE _ nr, hy_cts, numE _ _ _ nr, hy_cts, if_neg nr]
        exact ⟨_, _, rfl, rfl, b3, FK_t fcA (FK_E hth b4), FL_t frA (FL_H b5), fun h => absurd h b6⟩
    · have nr : ¬ Mr3 178 17 = 0 := by rw [← P2.2.2.1]; exact e2
      rw [preC, preR, if_neg e2, if_neg e2, if_neg nr, mustE _ _ _ nr, hy_cts, passE _ nr, hy_cts, numE _ _ _ nr, hy_cts, if_neg nr]
      exact ⟨_, _, rfl, rfl, P2, fcA, frA, fun h => absurd h e2⟩

