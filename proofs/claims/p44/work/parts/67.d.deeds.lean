theorem D_enter {b : Nat} {M : hz_M} {q : Nat → Int32} {qs : Nat → Nat → Int32} {n g : Nat} {rf : Int32} (hb : 178 ≤ b) (h : hLS b M q qs n rf) (hg : g < gz q) : hLR b M q qs n rf 0 (hz_ct (f_X11_no b (nI g) (0 : Int32) M) fun r102 M103 =>
    if r102 = 0 then
      hz_ct (f_X10_enter (nI g) M103) fun r106 M107 =>
      hz_ct (f_X11_enters b (nI g) M107) fun r109 M110 =>
      if r106 = r109 then
        some ((1 : Int32), M110)
      else
        some ((0 : Int32), M110)
    else
      hz_ct (f_X10_enter (nI g) M103) fun r113 M114 =>
      if r113 = (-2 : Int32) then
        some ((-1 : Int32), M114)
      else
        some ((0 : Int32), M114)) := by
  have hh := h
  obtain ⟨W, T, N, E, R, G, F⟩ := hh
  have hZ := W.1.1
  have hQ := W.2.1
  have hz := hZ
  obtain ⟨⟨z1, z2⟩, ⟨z3, z4, z5⟩, ⟨z6, z7, z8⟩, ⟨z9, z10⟩, ⟨z11, z12, z13⟩, ⟨z14, z15, z16⟩⟩ := hz
  rw [O_no R hZ hQ hg (Or.inl rfl), hy_cts]
  by_cases h0 : rsn q g 0 = 0
  · obtain ⟨e1, l, t, p0, hl, hfl, hkl, hd, ht, hp0, hpt⟩ := ent_ok hZ h0
    obtain ⟨M1, e, W1, G1, f1⟩ := k_enter W T G hg h0 hl hfl hkl hd ht hp0 hpt e1
    have R1 : RO b M1 q := RO_fr (fun a h1 h2 => f1 a (by unfold CF; omega)) R
    obtain ⟨M2, e2, f2, R2⟩ := O_enters R1 hZ hQ hg hl hfl hkl hd ht hp0 hpt e1
    refine hLR_yes hb h (by rw [if_pos h0, e, hy_cts, e2, hy_cts, if_pos rfl]) W1 G1 (fun a ha => f1 a (by unfold CF; omega)) (f1 26 (Or.inr rfl)) f2 ?_ (T_st (by simp (disch := omega) only [hy_so, hy_ss]) (by simp (disch := omega) only [hy_so, hy_ss]) T) (N_eqv N (gz_cg (by simp (disch := omega) only [hy_so, hy_ss])) (fun k hk => by simp (disch := omega) only [hy_so, hy_ss])) ?_ (keep8 0 (by simp (disch := omega) only [hy_so, hy_ss]))
    · have eq : hy_st (hy_st (hy_st (hy_st (hy_st (hy_st q (25 + 8 * g + 3) (nI l)) (25 + 8 * g + 2) (nI 0)) (153 + 2 * t + 1) (-1)) (25 + 8 * g + 4) (nI t)) (25 + 8 * g + 5) (nI 0)) (12 + 0) (q 12 + 1) = hy_st (hy_st (hy_st (hy_st (hy_st (hy_st q (25 + 8 * g + 3) (nI l)) (25 + 8 * g + 4) (nI t)) (153 + 2 * t + 1) (-1)) (25 + 8 * g + 2) 0) (25 + 8 * g + 5) 0) (12 + 0) (q 12 + 1) := by
        rw [show nI 0 = 0 from rfl]
        funext k
        simp only [hy_st]
        grind
      rw [eq]
      exact R2
    · have e5 := hIns_up (q := q) (q' := hy_st (hy_st (hy_st (hy_st (hy_st (hy_st q (25 + 8 * g + 3) (nI l)) (25 + 8 * g + 2) (nI 0)) (153 + 2 * t + 1) (-1)) (25 + 8 * g + 4) (nI t)) (25 + 8 * g + 5) (nI 0)) (12 + 0) (q 12 + 1)) (g := g) (gz_cg (by simp (disch := omega) only [hy_so, hy_ss])) hg (fun k hk hne => by rw [show hy_st (hy_st (hy_st (hy_st (hy_st (hy_st q (25 + 8 * g + 3) (nI l)) (25 + 8 * g + 2) (nI 0)) (153 + 2 * t + 1) (-1)) (25 + 8 * g + 4) (nI t)) (25 + 8 * g + 5) (nI 0)) (12 + 0) (q 12 + 1) (25 + 8 * k + 2) = q (25 + 8 * k + 2) by simp (disch := omega) only [hy_so, hy_ss]]) e1 (by simp (disch := omega) only [hy_so, hy_ss]; decide)
      unfold hy_E at E ⊢
      rw [e5, ← E]
      simp (disch := omega) only [hy_so, hy_ss]
      grind
  · exact hLR_no hb h (M' := M) (by rw [if_neg h0, k_enterN W hg h0, hy_cts, if_pos rfl]) (fun _ _ => rfl)
theorem D_sit {b : Nat} {M : hz_M} {q : Nat → Int32} {qs : Nat → Nat → Int32} {n g : Nat} {rf : Int32} (hb : 178 ≤ b) (h : hLS b M q qs n rf) (hg : g < gz q) {s : Nat} (h1 : 1 ≤ s) (hs : s ≤ sz q) : hLR b M q qs n rf 0 (hz_ct (f_X11_no b (nI g) ((10 : Int32) + nI s) M) fun r88 M89 =>
      if r88 = 0 then
        hz_gd (hz_in (nI g) 16) <|
        hz_lm (hz_set M89 (b + 7) (Int32.toNatClampNeg (nI g)) (nI s)) fun M93 =>
        hz_ct (f_X10_sit (nI g) (nI s) M93) fun r94 M95 =>
        if r94 = ((M95 b 9) + ((6 : Int32) * nI s)) then
          some ((1 : Int32), M95)
        else
          some ((0 : Int32), M95)
      else
        hz_ct (f_X10_sit (nI g) (nI s) M89) fun r98 M99 =>
        if r98 = (-2 : Int32) then
          some ((-1 : Int32), M99)
        else
          some ((0 : Int32), M99)) := by
  have hh := h
  obtain ⟨W, T, N, E, R, G, F⟩ := hh
  have hZ := W.1.1
  have hQ := W.2.1
  have hz := hZ
  obtain ⟨⟨z1, z2⟩, ⟨z3, z4, z5⟩, ⟨z6, z7, z8⟩, ⟨z9, z10⟩, ⟨z11, z12, z13⟩, ⟨z14, z15, z16⟩⟩ := hz
  have hdd : deed q (10 + nI s) := Or.inr (Or.inr (Or.inl ⟨s, h1, hs, hy_add 10 s⟩))
  have hrs : rsn q g (10 + nI s) = nSit q g (nI s) := by rw [show (10 : Int32) + nI s = nI (10 + s) from hy_add 10 s]; exact rsn_sit q g (by omega) h1
  rw [O_no R hZ hQ hg hdd, hy_cts]
  by_cases h0 : rsn q g (10 + nI s) = 0
  · have e1 : q (25 + 8 * g + 2) ≠ -1 := by
      intro e; rw [hrs] at h0; unfold nSit at h0; rw [if_pos e] at h0; exact absurd h0 (by decide)
    have W0 : hy_W (hz_set M (b + 7) g (nI s)) q := W_fr (fun a ha => hy_seto _ _ _ (by omega)) W T
    have G0 : Ring (hz_set M (b + 7) g (nI s)) qs n := Ring_fr (fun a ha => hy_seto _ _ _ (by omega)) G
    have R0 := ro_at (v := nI s) R hZ hg
    obtain ⟨M1, e, W1, G1, f1⟩ := k_sit W0 T G0 hg h1 hs h0 e1
    have R1 : RO b M1 (hy_st q (25 + 8 * g + 2) (nI s)) := RO_fr (fun a h1 h2 => f1 a (by unfold CF; omega)) R0
    have e9 : M1 b 9 = q 9 := by rw [R1.1.2.2.2.2.2.2.2.2.2.1]; simp (disch := omega) only [hy_so, hy_ss]
    refine hLR_yes (M2 := M1) hb h ?_ W1 G1 (fun a ha => by rw [f1 a (by unfold CF; omega), hy_seto _ _ _ (by omega)]) (by rw [f1 26 (Or.inr rfl), hy_seto _ _ _ (by omega)]) (fun _ _ => rfl) R1 (T_st (by simp (disch := omega) only [hy_so, hy_ss]) (by simp (disch := omega) only [hy_so, hy_ss]) T) (N_eqv N (gz_cg (by simp (disch := omega) only [hy_so, hy_ss])) (fun k hk => by simp (disch := omega) only [hy_so, hy_ss])) (E_eqv E (gz_cg (by simp (disch := omega) only [hy_so, hy_ss])) (fun k hk => ?_) (by simp (disch := omega) only [hy_so, hy_ss]) (by simp (disch := omega) only [hy_so, hy_ss])) (keep8 0 (by simp (disch := omega) only [hy_so, hy_ss]))
    · rw [if_pos h0, hy_in (by omega) (by omega), hy_gt, hy_c (by omega), hy_lm, e, hy_cts, e9, if_pos rfl]
    · by_cases e : k = g
      · subst e
        rw [hy_ss]
        exact iff_of_false (by rw [hy_n1 (by omega)]; exact not_false) e1
      · rw [hy_so _ _ (by omega)]
  · exact hLR_no hb h (M' := M) (by rw [if_neg h0, k_sitN W hg h1 hs h0, hy_cts, if_pos rfl]) (fun _ _ => rfl)
theorem D_hall {b : Nat} {M : hz_M} {q : Nat → Int32} {qs : Nat → Nat → Int32} {n g : Nat} {rf : Int32} (hb : 178 ≤ b) (h : hLS b M q qs n rf) (hg : g < gz q) : hLR b M q qs n rf 0 (hz_gd (hz_in (nI g) 16) <|
        hz_lt ((M (b + 7) (Int32.toNatClampNeg (nI g)))) fun x76 =>
        if (1 : Int32) ≤ x76 then
          hz_gd (hz_in (nI g) 16) <|
          hz_lm (hz_set M (b + 7) (Int32.toNatClampNeg (nI g)) (0 : Int32)) fun M79 =>
          hz_ct (f_X10_hall (nI g) M79) fun r80 M81 =>
          if r80 = x76 then
            some ((1 : Int32), M81)
          else
            some ((0 : Int32), M81)
        else
          hz_ct (f_X10_hall (nI g) M) fun r84 M85 =>
          if r84 = (-3 : Int32) then
            some ((-1 : Int32), M85)
          else
            some ((0 : Int32), M85)) := by
  have hh := h
  obtain ⟨W, T, N, E, R, G, F⟩ := hh
  have hZ := W.1.1
  have hQ := W.2.1
  have hz := hZ
  obtain ⟨⟨z1, z2⟩, ⟨z3, z4, z5⟩, ⟨z6, z7, z8⟩, ⟨z9, z10⟩, ⟨z11, z12, z13⟩, ⟨z14, z15, z16⟩⟩ := hz
  rw [hy_in (by omega) (by omega), hy_gt, hy_c (by omega), hy_lt', R.2.2.2.2.2.2.2.1 g hg]
  by_cases h0 : q (25 + 8 * g + 2) ≤ 0
  · exact hLR_no hb h (M' := M) (by rw [if_neg (by grind), k_hallN W hg h0, hy_cts, if_pos rfl]) (fun _ _ => rfl)
  · have e1 : q (25 + 8 * g + 2) ≠ -1 := by intro e; rw [e] at h0; exact h0 (by decide)
    have W0 : hy_W (hz_set M (b + 7) g 0) q := W_fr (fun a ha => hy_seto _ _ _ (by omega)) W T
    have G0 : Ring (hz_set M (b + 7) g 0) qs n := Ring_fr (fun a ha => hy_seto _ _ _ (by omega)) G
    have R0 := ro_at (v := nI 0) R hZ hg
    obtain ⟨M1, e, W1, G1, f1⟩ := k_hall W0 T G0 hg h0
    have R1 : RO b M1 (hy_st q (25 + 8 * g + 2) (nI 0)) := RO_fr (fun a h1 h2 => f1 a (by unfold CF; omega)) R0
    refine hLR_yes (M2 := M1) hb h ?_ W1 G1 (fun a ha => by rw [f1 a (by unfold CF; omega), hy_seto _ _ _ (by omega)]) (by rw [f1 26 (Or.inr rfl), hy_seto _ _ _ (by omega)]) (fun _ _ => rfl) R1 (T_st (by simp (disch := omega) only [hy_so, hy_ss]) (by simp (disch := omega) only [hy_so, hy_ss]) T) (N_eqv N (gz_cg (by simp (disch := omega) only [hy_so, hy_ss])) (fun k hk => by simp (disch := omega) only [hy_so, hy_ss])) (E_eqv E (gz_cg (by simp (disch := omega) only [hy_so, hy_ss])) (fun k hk => ?_) (by simp (disch := omega) only [hy_so, hy_ss]) (by simp (disch := omega) only [hy_so, hy_ss])) (keep8 0 (by simp (disch := omega) only [hy_so, hy_ss]))
    · rw [if_pos (by grind), hy_gt, hy_lm, e, hy_cts, if_pos rfl]
    · by_cases e : k = g
      · subst e
        rw [hy_ss]
        exact iff_of_false (by decide) e1
      · rw [hy_so _ _ (by omega)]
theorem D_hang {b : Nat} {M : hz_M} {q : Nat → Int32} {qs : Nat → Nat → Int32} {n g : Nat} {rf : Int32} (hb : 178 ≤ b) (h : hLS b M q qs n rf) (hg : g < gz q) {p : Nat} (hp : p < pz q) : hLR b M q qs n rf 0 (hz_ct (f_X11_no b (nI g) ((20 : Int32) + nI p) M) fun r57 M58 =>
          if r57 = 0 then
            hz_gd (hz_in (nI g) 16) <|
            hz_lt ((M58 (b + 8) (Int32.toNatClampNeg (nI g)))) fun x62 =>
            hz_gd (hz_in (nI p) 16) <|
            hz_lm (hz_set M58 (b + 2) (Int32.toNatClampNeg (nI p)) x62) fun M64 =>
            hz_gd (hz_in (nI g) 16) <|
            hz_lm (hz_set M64 (b + 8) (Int32.toNatClampNeg (nI g)) (-1 : Int32)) fun M66 =>
            hz_ct (f_X10_hang (nI g) (nI p) M66) fun r67 M68 =>
            if r67 = x62 then
              some ((1 : Int32), M68)
            else
              some ((0 : Int32), M68)
          else
            hz_ct (f_X10_hang (nI g) (nI p) M58) fun r71 M72 =>
            if r71 = (-2 : Int32) then
              some ((-1 : Int32), M72)
            else
              some ((0 : Int32), M72)) := by
  have hh := h
  obtain ⟨W, T, N, E, R, G, F⟩ := hh
  have hZ := W.1.1
  have hQ := W.2.1
  have hz := hZ
  obtain ⟨⟨z1, z2⟩, ⟨z3, z4, z5⟩, ⟨z6, z7, z8⟩, ⟨z9, z10⟩, ⟨z11, z12, z13⟩, ⟨z14, z15, z16⟩⟩ := hz
  have hdd : deed q (20 + nI p) := Or.inr (Or.inr (Or.inr (Or.inl ⟨p, hp, hy_add 20 p⟩)))
  have hrs : rsn q g (20 + nI p) = nHan q g p := by rw [show (20 : Int32) + nI p = nI (20 + p) from hy_add 20 p]; exact rsn_han q g (by omega)
  rw [O_no R hZ hQ hg hdd, hy_cts]
  by_cases h0 : rsn q g (20 + nI p) = 0
  · have h0' := h0
    rw [hrs] at h0'
    unfold nHan at h0'
    have e1 : nLea q g = 0 := by
      by_cases e : nLea q g = 0
      · exact e
      · rw [if_neg e] at h0'; exact h0'
    rw [if_pos e1] at h0'
    have e2 : ¬ q (25 + 8 * g + 4) = -1 := by intro e; rw [if_pos e] at h0'; exact absurd h0' (by decide)
    rw [if_neg e2] at h0'
    have e3 : tw q p = -1 := by
      by_cases e : tw q p = -1
      · exact e
      · rw [if_neg e] at h0'; exact absurd h0' (by decide)
    obtain ⟨t, ht, hh⟩ : ∃ k, k < tz q ∧ q (25 + 8 * g + 4) = nI k := by
      rcases W.2.1.2.2.2.1 g hg with e | e
      · exact absurd e e2
      · exact e
    have hpt : q (153 + 2 * t + 1) = -1 := hQ.2.2.2.2.2.2.2.2.2.2.2.2.2.1 g t hg ht hh
    have e8 : M (b + 8) g = nI t := by rw [R.2.2.2.2.2.2.2.2.1 g hg, hh]
    have R0 := ro_pegon (v := nI p) (vr := nI t) R hZ (hQ_p hQ) rfl rfl ht hp hpt e3
    have R0' := ro_has (g := g) (v := -1) R0 (Z_ag (fun k hk => hy_so _ _ (by omega)) hZ) (by rw [gz_cg (hy_so _ _ (by omega))]; exact hg)
    have fr0 : ∀ a, (a < b ∨ b + 11 < a) → hz_set (hz_set M (b + 2) p (nI t)) (b + 8) g (-1) a = M a := fun a ha => by rw [hy_seto _ _ _ (by omega), hy_seto _ _ _ (by omega)]
    have W0 : hy_W (hz_set (hz_set M (b + 2) p (nI t)) (b + 8) g (-1)) q := W_fr (fun a ha => fr0 a (by omega)) W T
    have G0 : Ring (hz_set (hz_set M (b + 2) p (nI t)) (b + 8) g (-1)) qs n := Ring_fr (fun a ha => fr0 a (by omega)) G
    obtain ⟨M1, e, W1, G1, f1⟩ := k_hang W0 T G0 hg hp h0 ht hh e3
    have R1 := RO_fr (M' := M1) (fun a h1 h2 => f1 a (by unfold CF; omega)) R0'
    refine hLR_yes (M2 := M1) hb h ?_ W1 G1 (fun a ha => by rw [f1 a (by unfold CF; omega), fr0 a ha.2]) (by rw [f1 26 (Or.inr rfl), fr0 26 (by omega)]) (fun _ _ => rfl) R1 (T_st (by simp (disch := omega) only [hy_so, hy_ss]) (by simp (disch := omega) only [hy_so, hy_ss]) T) (N_eqv N (gz_cg (by simp (disch := omega) only [hy_so, hy_ss])) (fun k hk => by simp (disch := omega) only [hy_so, hy_ss])) (E_eqv E (gz_cg (by simp (disch := omega) only [hy_so, hy_ss])) (fun k hk => by rw [hy_so _ _ (by omega), hy_so _ _ (by omega)]) (by simp (disch := omega) only [hy_so, hy_ss]) (by simp (disch := omega) only [hy_so, hy_ss])) (keep8 0 (by simp (disch := omega) only [hy_so, hy_ss]))
    rw [if_pos h0, hy_in (k := g) (by omega) (by omega), hy_gt, hy_c (n := g) (by omega), hy_lt', e8, hy_in (k := p) (by omega) (by omega), hy_gt, hy_c (n := p) (by omega), hy_lm, hy_gt, hy_lm, e, hy_cts, if_pos rfl]
  · exact hLR_no hb h (M' := M) (by rw [if_neg h0, k_hangN W hg hp h0, hy_cts, if_pos rfl]) (fun _ _ => rfl)
theorem D_take {b : Nat} {M : hz_M} {q : Nat → Int32} {qs : Nat → Nat → Int32} {n g : Nat} {rf : Int32} (hb : 178 ≤ b) (h : hLS b M q qs n rf) (hg : g < gz q) {p : Nat} (hp : p < pz q) : hLR b M q qs n rf 0 (hz_ct (f_X11_no b (nI g) ((40 : Int32) + nI p) M) fun r39 M40 =>
            if r39 = 0 then
              hz_gd (hz_in (nI p) 16) <|
              hz_lt ((M40 (b + 2) (Int32.toNatClampNeg (nI p)))) fun x44 =>
              hz_gd (hz_in (nI p) 16) <|
              hz_lm (hz_set M40 (b + 2) (Int32.toNatClampNeg (nI p)) (-1 : Int32)) fun M46 =>
              hz_gd (hz_in (nI g) 16) <|
              hz_lm (hz_set M46 (b + 8) (Int32.toNatClampNeg (nI g)) x44) fun M48 =>
              hz_ct (f_X10_take (nI g) (nI p) M48) fun r49 M50 =>
              if r49 = x44 then
                some ((1 : Int32), M50)
              else
                some ((0 : Int32), M50)
            else
              hz_ct (f_X10_take (nI g) (nI p) M40) fun r53 M54 =>
              if r53 = (-2 : Int32) then
                some ((-1 : Int32), M54)
              else
                some ((0 : Int32), M54)) := by
  have hh := h
  obtain ⟨W, T, N, E, R, G, F⟩ := hh
  have hZ := W.1.1
  have hQ := W.2.1
  have hz := hZ
  obtain ⟨⟨z1, z2⟩, ⟨z3, z4, z5⟩, ⟨z6, z7, z8⟩, ⟨z9, z10⟩, ⟨z11, z12, z13⟩, ⟨z14, z15, z16⟩⟩ := hz
  have hdd : deed q (40 + nI p) := Or.inr (Or.inr (Or.inr (Or.inr ⟨p, hp, hy_add 40 p⟩)))
  have hrs : rsn q g (40 + nI p) = nTak q g p := by rw [show (40 : Int32) + nI p = nI (40 + p) from hy_add 40 p]; exact rsn_tak q g (by omega)
  rw [O_no R hZ hQ hg hdd, hy_cts]
  by_cases h0 : rsn q g (40 + nI p) = 0
  · have h0' := h0
    rw [hrs] at h0'
    unfold nTak at h0'
    have e1 : nLea q g = 0 := by
      by_cases e : nLea q g = 0
      · exact e
      · rw [if_neg e] at h0'; exact h0'
    have e0 : q (25 + 8 * g + 2) ≠ -1 := by
      intro e; unfold nLea at e1; rw [if_pos e] at e1; exact absurd e1 (by decide)
    rw [if_pos e1] at h0'
    have e2 : q (25 + 8 * g + 4) = -1 := by
      by_cases e : q (25 + 8 * g + 4) = -1
      · exact e
      · rw [if_neg e] at h0'; exact absurd h0' (by decide)
    rw [if_pos e2] at h0'
    have e3 : ¬ tw q p = -1 := by intro e; rw [if_pos e] at h0'; exact absurd h0' (by decide)
    obtain ⟨t, ht, htw, hpt⟩ : ∃ k, k < tz q ∧ tw q p = nI k ∧ q (153 + 2 * k + 1) = nI p := by
      rcases tw_al hZ p with e | e
      · exact absurd e e3
      · exact e
    have e8 : M (b + 2) p = nI t := by rw [R.2.2.1 p hp, htw]
    have R0 := ro_pegoff (v := -1) (vr := -1) R hZ (hQ_p hQ) rfl rfl ht hp hpt
    have R0' := ro_has (g := g) (v := nI t) R0 (Z_ag (fun k hk => hy_so _ _ (by omega)) hZ) (by rw [gz_cg (hy_so _ _ (by omega))]; exact hg)
    have fr0 : ∀ a, (a < b ∨ b + 11 < a) → hz_set (hz_set M (b + 2) p (-1)) (b + 8) g (nI t) a = M a := fun a ha => by rw [hy_seto _ _ _ (by omega), hy_seto _ _ _ (by omega)]
    have W0 : hy_W (hz_set (hz_set M (b + 2) p (-1)) (b + 8) g (nI t)) q := W_fr (fun a ha => fr0 a (by omega)) W T
    have G0 : Ring (hz_set (hz_set M (b + 2) p (-1)) (b + 8) g (nI t)) qs n := Ring_fr (fun a ha => fr0 a (by omega)) G
    obtain ⟨M1, e, W1, G1, f1⟩ := k_take W0 T G0 hg hp h0 ht hpt htw e2 e0
    have R1 := RO_fr (M' := M1) (fun a h1 h2 => f1 a (by unfold CF; omega)) R0'
    refine hLR_yes (M2 := M1) hb h ?_ W1 G1 (fun a ha => by rw [f1 a (by unfold CF; omega), fr0 a ha.2]) (by rw [f1 26 (Or.inr rfl), fr0 26 (by omega)]) (fun _ _ => rfl) R1 (T_st (by simp (disch := omega) only [hy_so, hy_ss]) (by simp (disch := omega) only [hy_so, hy_ss]) T) (N_eqv N (gz_cg (by simp (disch := omega) only [hy_so, hy_ss])) (fun k hk => by simp (disch := omega) only [hy_so, hy_ss])) (E_eqv E (gz_cg (by simp (disch := omega) only [hy_so, hy_ss])) (fun k hk => by rw [hy_so _ _ (by omega), hy_so _ _ (by omega)]) (by simp (disch := omega) only [hy_so, hy_ss]) (by simp (disch := omega) only [hy_so, hy_ss])) (keep8 0 (by simp (disch := omega) only [hy_so, hy_ss]))
    rw [if_pos h0, hy_in (k := p) (by omega) (by omega), hy_gt, hy_c (n := p) (by omega), hy_lt', e8, hy_gt, hy_lm, hy_in (k := g) (by omega) (by omega), hy_gt, hy_c (n := g) (by omega), hy_lm, e, hy_cts, if_pos rfl]
  · exact hLR_no hb h (M' := M) (by rw [if_neg h0, k_takeN W hg hp h0, hy_cts, if_pos rfl]) (fun _ _ => rfl)
theorem D_leave {b : Nat} {M : hz_M} {q : Nat → Int32} {qs : Nat → Nat → Int32} {n g : Nat} {rf : Int32} (hb : 178 ≤ b) (h : hLS b M q qs n rf) (hg : g < gz q) : hLR b M q qs n rf 0 (hz_ct (f_X11_no b (nI g) (1 : Int32) M) fun r24 M25 =>
              if r24 = 0 then
                hz_ct (f_X10_leave (nI g) M25) fun r28 M29 =>
                hz_ct (f_X11_goes b (nI g) M29) fun r31 M32 =>
                if r28 = r31 then
                  some ((1 : Int32), M32)
                else
                  some ((0 : Int32), M32)
              else
                hz_ct (f_X10_leave (nI g) M25) fun r35 M36 =>
                if r35 = (-2 : Int32) then
                  some ((-1 : Int32), M36)
                else
                  some ((0 : Int32), M36)) := by
  have hh := h
  obtain ⟨W, T, N, E, R, G, F⟩ := hh
  have hZ := W.1.1
  have hQ := W.2.1
  have hz := hZ
  obtain ⟨⟨z1, z2⟩, ⟨z3, z4, z5⟩, ⟨z6, z7, z8⟩, ⟨z9, z10⟩, ⟨z11, z12, z13⟩, ⟨z14, z15, z16⟩⟩ := hz
  have hdd : deed q 1 := Or.inr (Or.inl rfl)
  have hrs : rsn q g 1 = nLea q g := by unfold rsn; simp only [hy_f10, if_false, if_true]
  rw [O_no R hZ hQ hg hdd, hy_cts]
  by_cases h0 : rsn q g 1 = 0
  · have e0 : q (25 + 8 * g + 2) ≠ -1 := by
      intro e; rw [hrs] at h0; unfold nLea at h0; rw [if_pos e] at h0; exact absurd h0 (by decide)
    obtain ⟨l, hl, hlg⟩ : ∃ k, k < lz q ∧ q (25 + 8 * g + 3) = nI k := by
      rcases hQ.2.2.1 g hg with e | e
      · exact absurd (hQ.2.2.2.2.2.2.2.2.2.2.2.2.1 g hg e) e0
      · exact e
    obtain ⟨M1, e, W1, G1, f1⟩ := k_leave W T G hg h0 hl hlg
    have R1 : RO b M1 q := RO_fr (fun a h1 h2 => f1 a (by unfold CF; omega)) R
    obtain ⟨M2, e2, f2, R2⟩ := O_goes R1 hZ (hQ_l hQ) hg hl (by rw [O_lockerOf R1 hZ hQ hg, hlg]) hlg
    refine hLR_yes hb h (by rw [if_pos h0, e, hy_cts, e2, hy_cts, if_pos rfl]) W1 G1 (fun a ha => f1 a (by unfold CF; omega)) (f1 26 (Or.inr rfl)) f2 ?_ (T_st (by simp (disch := omega) only [hy_so, hy_ss]) (by simp (disch := omega) only [hy_so, hy_ss]) T) (N_eqv N (gz_cg (by simp (disch := omega) only [hy_so, hy_ss])) (fun k hk => by simp (disch := omega) only [hy_so, hy_ss])) ?_ (keep8 0 (by simp (disch := omega) only [hy_so, hy_ss]))
    · have eq : hy_st (hy_st (hy_st (hy_st q (25 + 8 * g + 4) (-1)) (25 + 8 * g + 3) (-1)) (25 + 8 * g + 2) (-1)) (12 + 1) (q 13 + 1) = hy_st (hy_st (hy_st (hy_st q (25 + 8 * g + 3) (-1)) (25 + 8 * g + 4) (-1)) (25 + 8 * g + 2) (-1)) (12 + 1) (q 13 + 1) := by
        funext k
        simp only [hy_st]
        grind
      rw [eq]
      exact R2
    · have e5 := hIns_dn (q := q) (q' := hy_st (hy_st (hy_st (hy_st q (25 + 8 * g + 4) (-1)) (25 + 8 * g + 3) (-1)) (25 + 8 * g + 2) (-1)) (12 + 1) (q 13 + 1)) (g := g) (gz_cg (by simp (disch := omega) only [hy_so, hy_ss])) hg (fun k hk hne => by rw [show (hy_st (hy_st (hy_st (hy_st q (25 + 8 * g + 4) (-1)) (25 + 8 * g + 3) (-1)) (25 + 8 * g + 2) (-1)) (12 + 1) (q 13 + 1)) (25 + 8 * k + 2) = q (25 + 8 * k + 2) by simp (disch := omega) only [hy_so, hy_ss]]) e0 (by simp (disch := omega) only [hy_so, hy_ss])
      unfold hy_E at E ⊢
      rw [e5, ← E]
      simp (disch := omega) only [hy_so, hy_ss]
      grind
  · exact hLR_no hb h (M' := M) (by rw [if_neg h0, k_leaveN W hg h0, hy_cts, if_pos rfl]) (fun _ _ => rfl)
theorem D_speak {b : Nat} {M : hz_M} {q : Nat → Int32} {qs : Nat → Nat → Int32} {n g : Nat} {rf : Int32} (hb : 178 ≤ b) (h : hLS b M q qs n rf) (hg : g < gz q) : hLR b M q qs n rf 0 (hz_gd (hz_in (nI g) 16) <|
              if 0 ≤ (M (b + 7) (Int32.toNatClampNeg (nI g))) then
                hz_ct (f_X10_speak (nI g) M) fun r13 M14 =>
                hz_ct (f_X11_speaks b (nI g) M14) fun r16 M17 =>
                if r13 = r16 then
                  some ((1 : Int32), M17)
                else
                  some ((0 : Int32), M17)
              else
                hz_ct (f_X10_speak (nI g) M) fun r20 M21 =>
                if r20 = (-4 : Int32) then
                  some ((-1 : Int32), M21)
                else
                  some ((0 : Int32), M21)) := by
  have hh := h
  obtain ⟨W, T, N, E, R, G, F⟩ := hh
  have hZ := W.1.1
  have hQ := W.2.1
  have hz := hZ
  obtain ⟨⟨z1, z2⟩, ⟨z3, z4, z5⟩, ⟨z6, z7, z8⟩, ⟨z9, z10⟩, ⟨z11, z12, z13⟩, ⟨z14, z15, z16⟩⟩ := hz
  rw [hy_in (by omega) (by omega), hy_gt, hy_c (by omega), R.2.2.2.2.2.2.2.1 g hg]
  have h0l : (0 ≤ q (25 + 8 * g + 2)) = ¬ q (25 + 8 * g + 2) = -1 := hy_0lt (n := sz q + 1) (by omega) ((hQ.2.1 g hg).imp id (fun ⟨k, hk, e⟩ => ⟨k, by omega, e⟩))
  by_cases e0 : q (25 + 8 * g + 2) = -1
  · exact hLR_no hb h (M' := M) (by rw [if_neg (by rw [h0l]; exact fun x => x e0), k_speakN W hg e0, hy_cts, if_pos rfl]) (fun _ _ => rfl)
  · have hp0 : 0 ≤ q (25 + 8 * g + 2) := by rw [h0l]; exact e0
    obtain ⟨k, hk, hw⟩ := hQ.2.2.2.2.2.1 g hg
    by_cases hs : q 10 = -1 ∨ q 10 + q 7 ≤ q 8
    · obtain ⟨M1, e, W1, G1, f1⟩ := k_mute W T G hg e0 hs
      have R1 : RO b M1 q := RO_fr (fun a h1 h2 => f1 a (by unfold CF; omega)) R
      have e2 := O_mute R1 hZ T hQ hg hs
      exact hLR_yes hb h (by rw [if_pos hp0, e, hy_cts, e2, hy_cts, if_pos rfl]) W1 G1 (fun a ha => f1 a (by unfold CF; omega)) (f1 26 (Or.inr rfl)) (fun _ _ => rfl) R1 T N E (keep8 0 rfl)
    · have h10 : q 10 ≠ -1 := fun e => hs (Or.inl e)
      have h11 : ¬ q 10 + q 7 ≤ q 8 := fun e => hs (Or.inr e)
      by_cases k2 : k ≤ 1
      · obtain ⟨M1, e, W1, G1, f1⟩ := k_warn W T G hg e0 k2 hw h10 h11
        have R1 : RO b M1 q := RO_fr (fun a h1 h2 => f1 a (by unfold CF; omega)) R
        obtain ⟨M2, e2, f2, R2⟩ := O_warn R1 hZ T hQ hg k2 hw h10 h11
        exact hLR_yes hb h (by rw [if_pos hp0, e, hy_cts, e2, hy_cts, if_pos rfl]) W1 G1 (fun a ha => f1 a (by unfold CF; omega)) (f1 26 (Or.inr rfl)) f2 R2 (T_st (by simp (disch := omega) only [hy_so, hy_ss]) (by simp (disch := omega) only [hy_so, hy_ss]) T) (N_eqv N (gz_cg (by simp (disch := omega) only [hy_so, hy_ss])) (fun k hk => by simp (disch := omega) only [hy_so, hy_ss])) (E_eqv E (gz_cg (by simp (disch := omega) only [hy_so, hy_ss])) (fun k hk => by rw [hy_so _ _ (by omega), hy_so _ _ (by omega)]) (by simp (disch := omega) only [hy_so, hy_ss]) (by simp (disch := omega) only [hy_so, hy_ss])) (keep8 0 (by simp (disch := omega) only [hy_so, hy_ss]))
      · have hk2 : k = 2 := by omega
        subst hk2
        obtain ⟨l, hl, hlg⟩ : ∃ k, k < lz q ∧ q (25 + 8 * g + 3) = nI k := by
          rcases hQ.2.2.1 g hg with e | e
          · exact absurd (hQ.2.2.2.2.2.2.2.2.2.2.2.2.1 g hg e) e0
          · exact e
        obtain ⟨M1, e, W1, G1, f1⟩ := k_out W T G hg e0 hl hlg hw h10 h11
        have R1 : RO b M1 q := RO_fr (fun a h1 h2 => f1 a (by unfold CF; omega)) R
        obtain ⟨M2, e2, f2, R2⟩ := O_out R1 hZ T hQ hg hl hlg hw h10 h11
        refine hLR_yes hb h (by rw [if_pos hp0, e, hy_cts, e2, hy_cts, if_pos rfl]) W1 G1 (fun a ha => f1 a (by unfold CF; omega)) (f1 26 (Or.inr rfl)) f2 ?_ (T_st (by simp (disch := omega) only [hy_so, hy_ss]) (by simp (disch := omega) only [hy_so, hy_ss]) T) (N_eqv N (gz_cg (by simp (disch := omega) only [hy_so, hy_ss])) (fun k hk => by simp (disch := omega) only [hy_so, hy_ss])) ?_ (keep8 0 (by simp (disch := omega) only [hy_so, hy_ss]))
        · have eq : hy_st (hy_st (hy_st (hy_st (hy_st (hy_st (hy_st (hy_st q (25 + 8 * g + 4) (-1)) (25 + 8 * g + 3) (-1)) (25 + 8 * g + 2) (-1)) (25 + 8 * g + 6) (nI 0)) (25 + 8 * g + 7) (q 8 / 600)) (12 + 3) (q 15 + 1)) (12 + 1) (q 13 + 1)) (12 + 2) (q 14 + 1) = hy_st (hy_st (hy_st (hy_st (hy_st (hy_st (hy_st (hy_st (hy_st q (25 + 8 * g + 6) (nI 3)) (12 + 3) (q 15 + 1)) (25 + 8 * g + 3) (-1)) (25 + 8 * g + 4) (-1)) (25 + 8 * g + 2) (-1)) (12 + 1) (q 13 + 1)) (25 + 8 * g + 6) 0) (25 + 8 * g + 7) (q 8 / 600)) (12 + 2) (q 14 + 1) := by
            rw [show nI 0 = 0 from rfl]
            funext k
            simp only [hy_st]
            grind
          rw [eq]
          exact R2
        · have e5 := hIns_dn (q := q) (q' := hy_st (hy_st (hy_st (hy_st (hy_st (hy_st (hy_st (hy_st q (25 + 8 * g + 4) (-1)) (25 + 8 * g + 3) (-1)) (25 + 8 * g + 2) (-1)) (25 + 8 * g + 6) (nI 0)) (25 + 8 * g + 7) (q 8 / 600)) (12 + 3) (q 15 + 1)) (12 + 1) (q 13 + 1)) (12 + 2) (q 14 + 1)) (g := g) (gz_cg (by simp (disch := omega) only [hy_so, hy_ss])) hg (fun k hk hne => by rw [show (hy_st (hy_st (hy_st (hy_st (hy_st (hy_st (hy_st (hy_st q (25 + 8 * g + 4) (-1)) (25 + 8 * g + 3) (-1)) (25 + 8 * g + 2) (-1)) (25 + 8 * g + 6) (nI 0)) (25 + 8 * g + 7) (q 8 / 600)) (12 + 3) (q 15 + 1)) (12 + 1) (q 13 + 1)) (12 + 2) (q 14 + 1)) (25 + 8 * k + 2) = q (25 + 8 * k + 2) by simp (disch := omega) only [hy_so, hy_ss]]) e0 (by simp (disch := omega) only [hy_so, hy_ss])
          unfold hy_E at E ⊢
          rw [e5, ← E]
          simp (disch := omega) only [hy_so, hy_ss]
          grind
