theorem p_take {M M' : hz_M} {q q' : Nat → Int32} {g t p0 : Nat} (W : hy_W M q) (hg : g < gz q) (ht : t < tz q) (hp0 : p0 < pz q) (hpt : q (153 + 2 * t + 1) = nI p0) (hhg : q (25 + 8 * g + 4) = -1) (hin : q (25 + 8 * g + 2) ≠ -1) (hM : ∀ a, a ≠ 23 → a ≠ 21 → a ≠ 22 → a ≠ 15 → M' a = M a) (h23 : M' 23 = hy_st (M 23) (p0) (-1)) (h21 : M' 21 = hy_st (M 21) (t) (-1)) (h22 : M' 22 = hy_st (M 22) (t) (nI g)) (h15 : M' 15 = hy_st (M 15) (g) (nI t)) (hq : ∀ k, k ≠ 153 + 2 * t + 1 → k ≠ 25 + 8 * g + 4 → q' k = q k) (hv0 : q' (153 + 2 * t + 1) = -1) (hv1 : q' (25 + 8 * g + 4) = nI t) : hy_W M' q' := by
  obtain ⟨hC, hQ, hX⟩ := W
  have hC0 := hC
  obtain ⟨hZ, ⟨b3, b4, b5, b6, b7, b8, bag, bnm⟩, hRR⟩ := hC
  have hZ0 := hZ
  obtain ⟨⟨s1, s2, s3, s4, s5, s6⟩, ra, ro, rp, rl, rt, rs, rw', rd, rwt, rpg, rk, rh, rtw⟩ := c_rows hRR
  obtain ⟨⟨z1, z2⟩, ⟨z3, z4, z5⟩, ⟨z6, z7, z8⟩, ⟨z9, z10⟩, ⟨z11, z12, z13⟩, ⟨z14, z15, z16⟩⟩ := hZ
  rw [z1] at b3; rw [z3] at b4; rw [z6] at b5; rw [z9] at b6; rw [z11] at b7; rw [z14] at b8
  obtain ⟨qa, qat, ql, qh, qs, qw, qwt, qpg, jl, jh, jp, qo, qol, qhp, qht, qrm, qgn, qqt, qop⟩ := hQ
  have e11 : q' 11 = q 11 := hq (11) (by omega) (by omega)
  have e0 : q' 0 = q 0 := hq (0) (by omega) (by omega)
  have e1 : q' 1 = q 1 := hq (1) (by omega) (by omega)
  have e2 : q' 2 = q 2 := hq (2) (by omega) (by omega)
  have e3 : q' 3 = q 3 := hq (3) (by omega) (by omega)
  have e4 : q' 4 = q 4 := hq (4) (by omega) (by omega)
  have eg : gz q' = gz q := by unfold gz; rw [e11]
  have el : lz q' = lz q := by unfold lz; rw [e0]
  have ep : pz q' = pz q := by unfold pz; rw [e1]
  have et : tz q' = tz q := by unfold tz; rw [e2]
  have ev : vz q' = vz q := by unfold vz; rw [e3]
  have es : sz q' = sz q := by unfold sz; rw [e4]
  have hno : ∀ k, k < gz q → q (25 + 8 * k + 4) ≠ nI t := by
    intro k hk e
    have := qhp k t hk ht e
    rw [hpt, hy_n1 (by omega)] at this; exact this
  have Zn : hy_Z q' := by
    unfold hy_Z
    rw [e11, e0, e1, e2, e3, e4, eg, el, ep, et, ev, es]
    exact hZ0
  have Hn : hy_Ho M' q' := by
    unfold hy_Ho nmd
    rw [e11, e0, e1, e2, e3, e4, hM 1 (by omega) (by omega) (by omega) (by omega), hM 2 (by omega) (by omega) (by omega) (by omega), hM 3 (by omega) (by omega) (by omega) (by omega), hM 4 (by omega) (by omega) (by omega) (by omega), eg]
    refine ⟨by rw [b3, z1], by rw [b4, z3], by rw [b5, z6], by rw [b6, z9], by rw [b7, z11], by rw [b8, z14], fun h hh => ?_, fun h hh => ?_⟩
    · rw [hq (25 + 8 * h + 1) (by omega) (by omega)]; exact bag h hh
    · rw [hq (25 + 8 * h) (by omega) (by omega)]; exact bnm h hh
  have Qn : hy_Q q' := by
    unfold hy_Q
    rw [eg, el, ep, et, es]
    refine ⟨?_, ?_, ?_, ?_, ?_, ?_, ?_, ?_, ?_, ?_, ?_, ?_, ?_, ?_, ?_, ?_, ?_, ?_, ?_⟩
    · intro h hh; rw [hq (25 + 8 * h + 1) (by omega) (by omega)]; exact qa h hh
    · intro h hh; rw [hq (25 + 8 * h + 2) (by omega) (by omega)]; exact qat h hh
    · intro h hh; rw [hq (25 + 8 * h + 3) (by omega) (by omega)]; exact ql h hh
    · intro h hh
      by_cases e : h = g
      · subst e; exact Or.inr ⟨t, ht, hv1⟩
      · rw [hq (25 + 8 * h + 4) (by omega) (by omega)]; exact qh h hh
    · intro h hh; rw [hq (25 + 8 * h + 5) (by omega) (by omega)]; exact qs h hh
    · intro h hh; rw [hq (25 + 8 * h + 6) (by omega) (by omega)]; exact qw h hh
    · intro h hh; rw [hq (153 + 2 * h) (by omega) (by omega)]; exact qwt h hh
    · intro h hh
      by_cases e : h = t
      · subst e; exact Or.inl hv0
      · rw [hq (153 + 2 * h + 1) (by omega) (by omega)]; exact qpg h hh
    · intro h i hh hi; rw [hq (25 + 8 * h + 3) (by omega) (by omega), hq (25 + 8 * i + 3) (by omega) (by omega)]; exact jl h i hh hi
    · exact inj_on (f := fun i => q (25 + 8 * i + 4)) (f' := fun i => q' (25 + 8 * i + 4)) jh hno hv1 (fun k hk hkn => hq (25 + 8 * k + 4) (by omega) (by omega))
    · exact inj_off (f := fun i => q (153 + 2 * i + 1)) (f' := fun i => q' (153 + 2 * i + 1)) jp hv0 (fun k hk hkn => hq (153 + 2 * k + 1) (by omega) (by omega))
    · intro h hh e
      rw [hq (25 + 8 * h + 2) (by omega) (by omega)] at e
      by_cases e' : h = g
      · subst e'; exact absurd e hin
      · rw [hq (25 + 8 * h + 3) (by omega) (by omega), hq (25 + 8 * h + 4) (by omega) (by omega)]; exact qo h hh e
    · intro h hh; rw [hq (25 + 8 * h + 2) (by omega) (by omega), hq (25 + 8 * h + 3) (by omega) (by omega)]; exact qol h hh
    · intro h i hh hi e
      by_cases e1 : i = t
      · subst e1; exact hv0
      · rw [hq (153 + 2 * i + 1) (by omega) (by omega)]
        by_cases e2 : h = g
        · subst e2; rw [hv1, hy_eq (by omega) (by omega)] at e; omega
        · rw [hq (25 + 8 * h + 4) (by omega) (by omega)] at e; exact qhp h i hh hi e
    · rw [hq (9) (by omega) (by omega)]; exact qht
    · rw [hq (5) (by omega) (by omega)]; exact qrm
    · rw [hq (6) (by omega) (by omega)]; exact qgn
    · rw [hq (7) (by omega) (by omega)]; exact qqt
    · intro h hh; rw [hq (21 + h) (by omega) (by omega)]; exact qop h hh
  have Rn : hy_RC 11 M' q' := by
    unfold hy_RC
    rw [eg, el, ep, et]
    refine ⟨?_, ?_, ?_, ?_, ?_, ?_, ?_, ?_, ?_, ?_, ?_, ?_, ?_, ?_⟩
    · exact ⟨by rw [hM 11 (by omega) (by omega) (by omega) (by omega), hq (8) (by omega) (by omega)]; exact s1, by rw [hM 11 (by omega) (by omega) (by omega) (by omega), hq (9) (by omega) (by omega)]; exact s2, by rw [hM 11 (by omega) (by omega) (by omega) (by omega), hq (10) (by omega) (by omega)]; exact s3, by rw [hM 11 (by omega) (by omega) (by omega) (by omega), hq (5) (by omega) (by omega)]; exact s4, by rw [hM 11 (by omega) (by omega) (by omega) (by omega), hq (6) (by omega) (by omega)]; exact s5, by rw [hM 11 (by omega) (by omega) (by omega) (by omega), hq (7) (by omega) (by omega)]; exact s6⟩
    · intro h hh; rw [hM 24 (by omega) (by omega) (by omega) (by omega), hq (12 + h) (by omega) (by omega)]; exact ra h hh
    · intro h hh; rw [hM 12 (by omega) (by omega) (by omega) (by omega), hq (21 + h) (by omega) (by omega)]; exact ro h hh
    · intro h hh; rw [hM 13 (by omega) (by omega) (by omega) (by omega), hq (25 + 8 * h + 2) (by omega) (by omega)]; exact rp h hh
    · intro h hh; rw [hM 14 (by omega) (by omega) (by omega) (by omega), hq (25 + 8 * h + 3) (by omega) (by omega)]; exact rl h hh
    · intro h hh
      by_cases e : h = g
      · subst e; rw [h15, hy_ss, hv1]
      · rw [h15, hy_so _ _ e, hq (25 + 8 * h + 4) (by omega) (by omega)]; exact rt h hh
    · intro h hh; rw [hM 16 (by omega) (by omega) (by omega) (by omega), hq (25 + 8 * h + 5) (by omega) (by omega)]; exact rs h hh
    · intro h hh; rw [hM 17 (by omega) (by omega) (by omega) (by omega), hq (25 + 8 * h + 6) (by omega) (by omega)]; exact rw' h hh
    · intro h hh; rw [hM 18 (by omega) (by omega) (by omega) (by omega), hq (25 + 8 * h + 7) (by omega) (by omega)]; exact rd h hh
    · intro h hh; rw [hM 20 (by omega) (by omega) (by omega) (by omega), hq (153 + 2 * h) (by omega) (by omega)]; exact rwt h hh
    · intro h hh
      by_cases e : h = t
      · subst e; rw [h21, hy_ss, hv0]
      · rw [h21, hy_so _ _ e, hq (153 + 2 * h + 1) (by omega) (by omega)]; exact rpg h hh
    · intro h hh; rw [hM 19 (by omega) (by omega) (by omega) (by omega), kpr_fk, eg, fk_cg (f := fun i => q (25 + 8 * i + 3)) h (fun i hi => hq (25 + 8 * i + 3) (by omega) (by omega))]; exact rk h hh
    · intro h hh
      rw [hld_fk, eg, fk_on (f := fun i => q (25 + 8 * i + 4)) (f' := fun i => q' (25 + 8 * i + 4)) jh (i := g) hg (p0 := t) (by omega) hhg hno hv1 (fun k hk hkn => hq (25 + 8 * k + 4) (by omega) (by omega)) (p := h) (by omega), h22]
      by_cases e : h = t
      · rw [if_pos e, e, hy_ss]
      · rw [if_neg e, hy_so _ _ e]; exact rh h hh
    · intro h hh
      rw [tw_fk, et, fk_off (f := fun i => q (153 + 2 * i + 1)) (f' := fun i => q' (153 + 2 * i + 1)) jp (i := t) ht (p0 := p0) (by omega) hpt hv0 (fun k hk hkn => hq (153 + 2 * k + 1) (by omega) (by omega)) (p := h) (by omega), h23]
      by_cases e : h = p0
      · rw [if_pos e, e, hy_ss]
      · rw [if_neg e, hy_so _ _ e]; exact rtw h hh
  exact ⟨⟨Zn, Hn, Rn⟩, Qn, fun k hk => by rw [hq (k) (by omega) (by omega)]; exact hX k hk⟩
theorem p_hang {M M' : hz_M} {q q' : Nat → Int32} {g t p0 : Nat} (W : hy_W M q) (hg : g < gz q) (ht : t < tz q) (hp0 : p0 < pz q) (hhg : q (25 + 8 * g + 4) = nI t) (htw : tw q p0 = -1) (hM : ∀ a, a ≠ 23 → a ≠ 21 → a ≠ 22 → a ≠ 15 → M' a = M a) (h23 : M' 23 = hy_st (M 23) (p0) (nI t)) (h21 : M' 21 = hy_st (M 21) (t) (nI p0)) (h22 : M' 22 = hy_st (M 22) (t) (-1)) (h15 : M' 15 = hy_st (M 15) (g) (-1)) (hq : ∀ k, k ≠ 153 + 2 * t + 1 → k ≠ 25 + 8 * g + 4 → q' k = q k) (hv0 : q' (153 + 2 * t + 1) = nI p0) (hv1 : q' (25 + 8 * g + 4) = -1) : hy_W M' q' := by
  obtain ⟨hC, hQ, hX⟩ := W
  have hC0 := hC
  obtain ⟨hZ, ⟨b3, b4, b5, b6, b7, b8, bag, bnm⟩, hRR⟩ := hC
  have hZ0 := hZ
  obtain ⟨⟨s1, s2, s3, s4, s5, s6⟩, ra, ro, rp, rl, rt, rs, rw', rd, rwt, rpg, rk, rh, rtw⟩ := c_rows hRR
  obtain ⟨⟨z1, z2⟩, ⟨z3, z4, z5⟩, ⟨z6, z7, z8⟩, ⟨z9, z10⟩, ⟨z11, z12, z13⟩, ⟨z14, z15, z16⟩⟩ := hZ
  rw [z1] at b3; rw [z3] at b4; rw [z6] at b5; rw [z9] at b6; rw [z11] at b7; rw [z14] at b8
  obtain ⟨qa, qat, ql, qh, qs, qw, qwt, qpg, jl, jh, jp, qo, qol, qhp, qht, qrm, qgn, qqt, qop⟩ := hQ
  have e11 : q' 11 = q 11 := hq (11) (by omega) (by omega)
  have e0 : q' 0 = q 0 := hq (0) (by omega) (by omega)
  have e1 : q' 1 = q 1 := hq (1) (by omega) (by omega)
  have e2 : q' 2 = q 2 := hq (2) (by omega) (by omega)
  have e3 : q' 3 = q 3 := hq (3) (by omega) (by omega)
  have e4 : q' 4 = q 4 := hq (4) (by omega) (by omega)
  have eg : gz q' = gz q := by unfold gz; rw [e11]
  have el : lz q' = lz q := by unfold lz; rw [e0]
  have ep : pz q' = pz q := by unfold pz; rw [e1]
  have et : tz q' = tz q := by unfold tz; rw [e2]
  have ev : vz q' = vz q := by unfold vz; rw [e3]
  have es : sz q' = sz q := by unfold sz; rw [e4]
  have hpt : q (153 + 2 * t + 1) = -1 := qhp g t hg ht hhg
  have hno : ∀ k, k < tz q → q (153 + 2 * k + 1) ≠ nI p0 := by
    rw [tw_fk] at htw
    rcases fk_al (fun t => q (153 + 2 * t + 1)) (tz q) p0 with ⟨_, e⟩ | ⟨i, _, e, _⟩
    · exact e
    · rw [htw, hy_n1' (by omega)] at e; exact absurd e not_false
  have Zn : hy_Z q' := by
    unfold hy_Z
    rw [e11, e0, e1, e2, e3, e4, eg, el, ep, et, ev, es]
    exact hZ0
  have Hn : hy_Ho M' q' := by
    unfold hy_Ho nmd
    rw [e11, e0, e1, e2, e3, e4, hM 1 (by omega) (by omega) (by omega) (by omega), hM 2 (by omega) (by omega) (by omega) (by omega), hM 3 (by omega) (by omega) (by omega) (by omega), hM 4 (by omega) (by omega) (by omega) (by omega), eg]
    refine ⟨by rw [b3, z1], by rw [b4, z3], by rw [b5, z6], by rw [b6, z9], by rw [b7, z11], by rw [b8, z14], fun h hh => ?_, fun h hh => ?_⟩
    · rw [hq (25 + 8 * h + 1) (by omega) (by omega)]; exact bag h hh
    · rw [hq (25 + 8 * h) (by omega) (by omega)]; exact bnm h hh
  have Qn : hy_Q q' := by
    unfold hy_Q
    rw [eg, el, ep, et, es]
    refine ⟨?_, ?_, ?_, ?_, ?_, ?_, ?_, ?_, ?_, ?_, ?_, ?_, ?_, ?_, ?_, ?_, ?_, ?_, ?_⟩
    · intro h hh; rw [hq (25 + 8 * h + 1) (by omega) (by omega)]; exact qa h hh
    · intro h hh; rw [hq (25 + 8 * h + 2) (by omega) (by omega)]; exact qat h hh
    · intro h hh; rw [hq (25 + 8 * h + 3) (by omega) (by omega)]; exact ql h hh
    · intro h hh
      by_cases e : h = g
      · subst e; exact Or.inl hv1
      · rw [hq (25 + 8 * h + 4) (by omega) (by omega)]; exact qh h hh
    · intro h hh; rw [hq (25 + 8 * h + 5) (by omega) (by omega)]; exact qs h hh
    · intro h hh; rw [hq (25 + 8 * h + 6) (by omega) (by omega)]; exact qw h hh
    · intro h hh; rw [hq (153 + 2 * h) (by omega) (by omega)]; exact qwt h hh
    · intro h hh
      by_cases e : h = t
      · subst e; exact Or.inr ⟨p0, hp0, hv0⟩
      · rw [hq (153 + 2 * h + 1) (by omega) (by omega)]; exact qpg h hh
    · intro h i hh hi; rw [hq (25 + 8 * h + 3) (by omega) (by omega), hq (25 + 8 * i + 3) (by omega) (by omega)]; exact jl h i hh hi
    · exact inj_off (f := fun i => q (25 + 8 * i + 4)) (f' := fun i => q' (25 + 8 * i + 4)) jh hv1 (fun k hk hkn => hq (25 + 8 * k + 4) (by omega) (by omega))
    · exact inj_on (f := fun i => q (153 + 2 * i + 1)) (f' := fun i => q' (153 + 2 * i + 1)) jp hno hv0 (fun k hk hkn => hq (153 + 2 * k + 1) (by omega) (by omega))
    · intro h hh e
      rw [hq (25 + 8 * h + 2) (by omega) (by omega)] at e
      by_cases e' : h = g
      · subst e'; rw [hq (25 + 8 * h + 3) (by omega) (by omega)]; exact ⟨(qo h hh e).1, hv1⟩
      · rw [hq (25 + 8 * h + 3) (by omega) (by omega), hq (25 + 8 * h + 4) (by omega) (by omega)]; exact qo h hh e
    · intro h hh; rw [hq (25 + 8 * h + 2) (by omega) (by omega), hq (25 + 8 * h + 3) (by omega) (by omega)]; exact qol h hh
    · intro h i hh hi e
      by_cases e2 : h = g
      · subst e2; rw [hv1, hy_n1' (by omega)] at e; exact absurd e not_false
      · rw [hq (25 + 8 * h + 4) (by omega) (by omega)] at e
        by_cases e1 : i = t
        · subst e1
          rcases jh h g hh hg (by rw [e, hhg]) with e3 | e3
          · rw [e, hy_n1 (by omega)] at e3; exact absurd e3 not_false
          · exact absurd e3 e2
        · rw [hq (153 + 2 * i + 1) (by omega) (by omega)]; exact qhp h i hh hi e
    · rw [hq (9) (by omega) (by omega)]; exact qht
    · rw [hq (5) (by omega) (by omega)]; exact qrm
    · rw [hq (6) (by omega) (by omega)]; exact qgn
    · rw [hq (7) (by omega) (by omega)]; exact qqt
    · intro h hh; rw [hq (21 + h) (by omega) (by omega)]; exact qop h hh
  have Rn : hy_RC 11 M' q' := by
    unfold hy_RC
    rw [eg, el, ep, et]
    refine ⟨?_, ?_, ?_, ?_, ?_, ?_, ?_, ?_, ?_, ?_, ?_, ?_, ?_, ?_⟩
    · exact ⟨by rw [hM 11 (by omega) (by omega) (by omega) (by omega), hq (8) (by omega) (by omega)]; exact s1, by rw [hM 11 (by omega) (by omega) (by omega) (by omega), hq (9) (by omega) (by omega)]; exact s2, by rw [hM 11 (by omega) (by omega) (by omega) (by omega), hq (10) (by omega) (by omega)]; exact s3, by rw [hM 11 (by omega) (by omega) (by omega) (by omega), hq (5) (by omega) (by omega)]; exact s4, by rw [hM 11 (by omega) (by omega) (by omega) (by omega), hq (6) (by omega) (by omega)]; exact s5, by rw [hM 11 (by omega) (by omega) (by omega) (by omega), hq (7) (by omega) (by omega)]; exact s6⟩
    · intro h hh; rw [hM 24 (by omega) (by omega) (by omega) (by omega), hq (12 + h) (by omega) (by omega)]; exact ra h hh
    · intro h hh; rw [hM 12 (by omega) (by omega) (by omega) (by omega), hq (21 + h) (by omega) (by omega)]; exact ro h hh
    · intro h hh; rw [hM 13 (by omega) (by omega) (by omega) (by omega), hq (25 + 8 * h + 2) (by omega) (by omega)]; exact rp h hh
    · intro h hh; rw [hM 14 (by omega) (by omega) (by omega) (by omega), hq (25 + 8 * h + 3) (by omega) (by omega)]; exact rl h hh
    · intro h hh
      by_cases e : h = g
      · subst e; rw [h15, hy_ss, hv1]
      · rw [h15, hy_so _ _ e, hq (25 + 8 * h + 4) (by omega) (by omega)]; exact rt h hh
    · intro h hh; rw [hM 16 (by omega) (by omega) (by omega) (by omega), hq (25 + 8 * h + 5) (by omega) (by omega)]; exact rs h hh
    · intro h hh; rw [hM 17 (by omega) (by omega) (by omega) (by omega), hq (25 + 8 * h + 6) (by omega) (by omega)]; exact rw' h hh
    · intro h hh; rw [hM 18 (by omega) (by omega) (by omega) (by omega), hq (25 + 8 * h + 7) (by omega) (by omega)]; exact rd h hh
    · intro h hh; rw [hM 20 (by omega) (by omega) (by omega) (by omega), hq (153 + 2 * h) (by omega) (by omega)]; exact rwt h hh
    · intro h hh
      by_cases e : h = t
      · subst e; rw [h21, hy_ss, hv0]
      · rw [h21, hy_so _ _ e, hq (153 + 2 * h + 1) (by omega) (by omega)]; exact rpg h hh
    · intro h hh; rw [hM 19 (by omega) (by omega) (by omega) (by omega), kpr_fk, eg, fk_cg (f := fun i => q (25 + 8 * i + 3)) h (fun i hi => hq (25 + 8 * i + 3) (by omega) (by omega))]; exact rk h hh
    · intro h hh
      rw [hld_fk, eg, fk_off (f := fun i => q (25 + 8 * i + 4)) (f' := fun i => q' (25 + 8 * i + 4)) jh (i := g) hg (p0 := t) (by omega) hhg hv1 (fun k hk hkn => hq (25 + 8 * k + 4) (by omega) (by omega)) (p := h) (by omega), h22]
      by_cases e : h = t
      · rw [if_pos e, e, hy_ss]
      · rw [if_neg e, hy_so _ _ e]; exact rh h hh
    · intro h hh
      rw [tw_fk, et, fk_on (f := fun i => q (153 + 2 * i + 1)) (f' := fun i => q' (153 + 2 * i + 1)) jp (i := t) ht (p0 := p0) (by omega) hpt hno hv0 (fun k hk hkn => hq (153 + 2 * k + 1) (by omega) (by omega)) (p := h) (by omega), h23]
      by_cases e : h = p0
      · rw [if_pos e, e, hy_ss]
      · rw [if_neg e, hy_so _ _ e]; exact rtw h hh
  exact ⟨⟨Zn, Hn, Rn⟩, Qn, fun k hk => by rw [hq (k) (by omega) (by omega)]; exact hX k hk⟩
theorem p_wash {M M' : hz_M} {q q' : Nat → Int32} {t p0 : Nat} (W : hy_W M q) (ht : t < tz q) (hp0 : p0 < pz q) (hpt : q (153 + 2 * t + 1) = -1) (hht : hld q t = -1) (htw : tw q p0 = -1) (hM : ∀ a, a ≠ 23 → a ≠ 21 → a ≠ 22 → M' a = M a) (h23 : M' 23 = hy_st (M 23) (p0) (nI t)) (h21 : M' 21 = hy_st (M 21) (t) (nI p0)) (h22 : M' 22 = hy_st (M 22) (t) (-1)) (hq : ∀ k, k ≠ 153 + 2 * t + 1 → q' k = q k) (hv0 : q' (153 + 2 * t + 1) = nI p0) : hy_W M' q' := by
  obtain ⟨hC, hQ, hX⟩ := W
  have hC0 := hC
  obtain ⟨hZ, ⟨b3, b4, b5, b6, b7, b8, bag, bnm⟩, hRR⟩ := hC
  have hZ0 := hZ
  obtain ⟨⟨s1, s2, s3, s4, s5, s6⟩, ra, ro, rp, rl, rt, rs, rw', rd, rwt, rpg, rk, rh, rtw⟩ := c_rows hRR
  obtain ⟨⟨z1, z2⟩, ⟨z3, z4, z5⟩, ⟨z6, z7, z8⟩, ⟨z9, z10⟩, ⟨z11, z12, z13⟩, ⟨z14, z15, z16⟩⟩ := hZ
  rw [z1] at b3; rw [z3] at b4; rw [z6] at b5; rw [z9] at b6; rw [z11] at b7; rw [z14] at b8
  obtain ⟨qa, qat, ql, qh, qs, qw, qwt, qpg, jl, jh, jp, qo, qol, qhp, qht, qrm, qgn, qqt, qop⟩ := hQ
  have e11 : q' 11 = q 11 := hq (11) (by omega)
  have e0 : q' 0 = q 0 := hq (0) (by omega)
  have e1 : q' 1 = q 1 := hq (1) (by omega)
  have e2 : q' 2 = q 2 := hq (2) (by omega)
  have e3 : q' 3 = q 3 := hq (3) (by omega)
  have e4 : q' 4 = q 4 := hq (4) (by omega)
  have eg : gz q' = gz q := by unfold gz; rw [e11]
  have el : lz q' = lz q := by unfold lz; rw [e0]
  have ep : pz q' = pz q := by unfold pz; rw [e1]
  have et : tz q' = tz q := by unfold tz; rw [e2]
  have ev : vz q' = vz q := by unfold vz; rw [e3]
  have es : sz q' = sz q := by unfold sz; rw [e4]
  have hno : ∀ k, k < tz q → q (153 + 2 * k + 1) ≠ nI p0 := by
    rw [tw_fk] at htw
    rcases fk_al (fun t => q (153 + 2 * t + 1)) (tz q) p0 with ⟨_, e⟩ | ⟨i, _, e, _⟩
    · exact e
    · rw [htw, hy_n1' (by omega)] at e; exact absurd e not_false
  have hnh : ∀ k, k < gz q → q (25 + 8 * k + 4) ≠ nI t := by
    rw [hld_fk] at hht
    rcases fk_al (fun g => q (25 + 8 * g + 4)) (gz q) t with ⟨_, e⟩ | ⟨i, _, e, _⟩
    · exact e
    · rw [hht, hy_n1' (by omega)] at e; exact absurd e not_false
  have Zn : hy_Z q' := by
    unfold hy_Z
    rw [e11, e0, e1, e2, e3, e4, eg, el, ep, et, ev, es]
    exact hZ0
  have Hn : hy_Ho M' q' := by
    unfold hy_Ho nmd
    rw [e11, e0, e1, e2, e3, e4, hM 1 (by omega) (by omega) (by omega), hM 2 (by omega) (by omega) (by omega), hM 3 (by omega) (by omega) (by omega), hM 4 (by omega) (by omega) (by omega), eg]
    refine ⟨by rw [b3, z1], by rw [b4, z3], by rw [b5, z6], by rw [b6, z9], by rw [b7, z11], by rw [b8, z14], fun h hh => ?_, fun h hh => ?_⟩
    · rw [hq (25 + 8 * h + 1) (by omega)]; exact bag h hh
    · rw [hq (25 + 8 * h) (by omega)]; exact bnm h hh
  have Qn : hy_Q q' := by
    unfold hy_Q
    rw [eg, el, ep, et, es]
    refine ⟨?_, ?_, ?_, ?_, ?_, ?_, ?_, ?_, ?_, ?_, ?_, ?_, ?_, ?_, ?_, ?_, ?_, ?_, ?_⟩
    · intro h hh; rw [hq (25 + 8 * h + 1) (by omega)]; exact qa h hh
    · intro h hh; rw [hq (25 + 8 * h + 2) (by omega)]; exact qat h hh
    · intro h hh; rw [hq (25 + 8 * h + 3) (by omega)]; exact ql h hh
    · intro h hh; rw [hq (25 + 8 * h + 4) (by omega)]; exact qh h hh
    · intro h hh; rw [hq (25 + 8 * h + 5) (by omega)]; exact qs h hh
    · intro h hh; rw [hq (25 + 8 * h + 6) (by omega)]; exact qw h hh
    · intro h hh; rw [hq (153 + 2 * h) (by omega)]; exact qwt h hh
    · intro h hh
      by_cases e : h = t
      · subst e; exact Or.inr ⟨p0, hp0, hv0⟩
      · rw [hq (153 + 2 * h + 1) (by omega)]; exact qpg h hh
    · intro h i hh hi; rw [hq (25 + 8 * h + 3) (by omega), hq (25 + 8 * i + 3) (by omega)]; exact jl h i hh hi
    · intro h i hh hi; rw [hq (25 + 8 * h + 4) (by omega), hq (25 + 8 * i + 4) (by omega)]; exact jh h i hh hi
    · exact inj_on (f := fun i => q (153 + 2 * i + 1)) (f' := fun i => q' (153 + 2 * i + 1)) jp hno hv0 (fun k hk hkn => hq (153 + 2 * k + 1) (by omega))
    · intro h hh; rw [hq (25 + 8 * h + 2) (by omega), hq (25 + 8 * h + 3) (by omega), hq (25 + 8 * h + 4) (by omega)]; exact qo h hh
    · intro h hh; rw [hq (25 + 8 * h + 2) (by omega), hq (25 + 8 * h + 3) (by omega)]; exact qol h hh
    · intro h i hh hi e
      rw [hq (25 + 8 * h + 4) (by omega)] at e
      by_cases e1 : i = t
      · subst e1; exact absurd e (hnh h hh)
      · rw [hq (153 + 2 * i + 1) (by omega)]; exact qhp h i hh hi e
    · rw [hq (9) (by omega)]; exact qht
    · rw [hq (5) (by omega)]; exact qrm
    · rw [hq (6) (by omega)]; exact qgn
    · rw [hq (7) (by omega)]; exact qqt
    · intro h hh; rw [hq (21 + h) (by omega)]; exact qop h hh
  have Rn : hy_RC 11 M' q' := by
    unfold hy_RC
    rw [eg, el, ep, et]
    refine ⟨?_, ?_, ?_, ?_, ?_, ?_, ?_, ?_, ?_, ?_, ?_, ?_, ?_, ?_⟩
    · exact ⟨by rw [hM 11 (by omega) (by omega) (by omega), hq (8) (by omega)]; exact s1, by rw [hM 11 (by omega) (by omega) (by omega), hq (9) (by omega)]; exact s2, by rw [hM 11 (by omega) (by omega) (by omega), hq (10) (by omega)]; exact s3, by rw [hM 11 (by omega) (by omega) (by omega), hq (5) (by omega)]; exact s4, by rw [hM 11 (by omega) (by omega) (by omega), hq (6) (by omega)]; exact s5, by rw [hM 11 (by omega) (by omega) (by omega), hq (7) (by omega)]; exact s6⟩
    · intro h hh; rw [hM 24 (by omega) (by omega) (by omega), hq (12 + h) (by omega)]; exact ra h hh
    · intro h hh; rw [hM 12 (by omega) (by omega) (by omega), hq (21 + h) (by omega)]; exact ro h hh
    · intro h hh; rw [hM 13 (by omega) (by omega) (by omega), hq (25 + 8 * h + 2) (by omega)]; exact rp h hh
    · intro h hh; rw [hM 14 (by omega) (by omega) (by omega), hq (25 + 8 * h + 3) (by omega)]; exact rl h hh
    · intro h hh; rw [hM 15 (by omega) (by omega) (by omega), hq (25 + 8 * h + 4) (by omega)]; exact rt h hh
    · intro h hh; rw [hM 16 (by omega) (by omega) (by omega), hq (25 + 8 * h + 5) (by omega)]; exact rs h hh
    · intro h hh; rw [hM 17 (by omega) (by omega) (by omega), hq (25 + 8 * h + 6) (by omega)]; exact rw' h hh
    · intro h hh; rw [hM 18 (by omega) (by omega) (by omega), hq (25 + 8 * h + 7) (by omega)]; exact rd h hh
    · intro h hh; rw [hM 20 (by omega) (by omega) (by omega), hq (153 + 2 * h) (by omega)]; exact rwt h hh
    · intro h hh
      by_cases e : h = t
      · subst e; rw [h21, hy_ss, hv0]
      · rw [h21, hy_so _ _ e, hq (153 + 2 * h + 1) (by omega)]; exact rpg h hh
    · intro h hh; rw [hM 19 (by omega) (by omega) (by omega), kpr_fk, eg, fk_cg (f := fun i => q (25 + 8 * i + 3)) h (fun i hi => hq (25 + 8 * i + 3) (by omega))]; exact rk h hh
    · intro h hh; rw [hld_fk, eg, fk_cg (f := fun i => q (25 + 8 * i + 4)) h (fun i hi => hq (25 + 8 * i + 4) (by omega)), h22]
      by_cases e : h = t
      · subst e; rw [hy_ss]; exact hht.symm
      · rw [hy_so _ _ e]; exact rh h hh
    · intro h hh
      rw [tw_fk, et, fk_on (f := fun i => q (153 + 2 * i + 1)) (f' := fun i => q' (153 + 2 * i + 1)) jp (i := t) ht (p0 := p0) (by omega) hpt hno hv0 (fun k hk hkn => hq (153 + 2 * k + 1) (by omega)) (p := h) (by omega), h23]
      by_cases e : h = p0
      · rw [if_pos e, e, hy_ss]
      · rw [if_neg e, hy_so _ _ e]; exact rtw h hh
  exact ⟨⟨Zn, Hn, Rn⟩, Qn, fun k hk => by rw [hq (k) (by omega)]; exact hX k hk⟩
theorem p_dropT {M M' : hz_M} {q q' : Nat → Int32} {g t : Nat} (W : hy_W M q) (hg : g < gz q) (ht : t < tz q) (hhg : q (25 + 8 * g + 4) = nI t) (hM : ∀ a, a ≠ 22 → a ≠ 15 → M' a = M a) (h22 : M' 22 = hy_st (M 22) (t) (-1)) (h15 : M' 15 = hy_st (M 15) (g) (-1)) (hq : ∀ k, k ≠ 25 + 8 * g + 4 → q' k = q k) (hv0 : q' (25 + 8 * g + 4) = -1) : hy_W M' q' := by
  obtain ⟨hC, hQ, hX⟩ := W
  have hC0 := hC
  obtain ⟨hZ, ⟨b3, b4, b5, b6, b7, b8, bag, bnm⟩, hRR⟩ := hC
  have hZ0 := hZ
  obtain ⟨⟨s1, s2, s3, s4, s5, s6⟩, ra, ro, rp, rl, rt, rs, rw', rd, rwt, rpg, rk, rh, rtw⟩ := c_rows hRR
  obtain ⟨⟨z1, z2⟩, ⟨z3, z4, z5⟩, ⟨z6, z7, z8⟩, ⟨z9, z10⟩, ⟨z11, z12, z13⟩, ⟨z14, z15, z16⟩⟩ := hZ
  rw [z1] at b3; rw [z3] at b4; rw [z6] at b5; rw [z9] at b6; rw [z11] at b7; rw [z14] at b8
  obtain ⟨qa, qat, ql, qh, qs, qw, qwt, qpg, jl, jh, jp, qo, qol, qhp, qht, qrm, qgn, qqt, qop⟩ := hQ
  have e11 : q' 11 = q 11 := hq (11) (by omega)
  have e0 : q' 0 = q 0 := hq (0) (by omega)
  have e1 : q' 1 = q 1 := hq (1) (by omega)
  have e2 : q' 2 = q 2 := hq (2) (by omega)
  have e3 : q' 3 = q 3 := hq (3) (by omega)
  have e4 : q' 4 = q 4 := hq (4) (by omega)
  have eg : gz q' = gz q := by unfold gz; rw [e11]
  have el : lz q' = lz q := by unfold lz; rw [e0]
  have ep : pz q' = pz q := by unfold pz; rw [e1]
  have et : tz q' = tz q := by unfold tz; rw [e2]
  have ev : vz q' = vz q := by unfold vz; rw [e3]
  have es : sz q' = sz q := by unfold sz; rw [e4]
  have Zn : hy_Z q' := by
    unfold hy_Z
    rw [e11, e0, e1, e2, e3, e4, eg, el, ep, et, ev, es]
    exact hZ0
  have Hn : hy_Ho M' q' := by
    unfold hy_Ho nmd
    rw [e11, e0, e1, e2, e3, e4, hM 1 (by omega) (by omega), hM 2 (by omega) (by omega), hM 3 (by omega) (by omega), hM 4 (by omega) (by omega), eg]
    refine ⟨by rw [b3, z1], by rw [b4, z3], by rw [b5, z6], by rw [b6, z9], by rw [b7, z11], by rw [b8, z14], fun h hh => ?_, fun h hh => ?_⟩
    · rw [hq (25 + 8 * h + 1) (by omega)]; exact bag h hh
    · rw [hq (25 + 8 * h) (by omega)]; exact bnm h hh
  have Qn : hy_Q q' := by
    unfold hy_Q
    rw [eg, el, ep, et, es]
    refine ⟨?_, ?_, ?_, ?_, ?_, ?_, ?_, ?_, ?_, ?_, ?_, ?_, ?_, ?_, ?_, ?_, ?_, ?_, ?_⟩
    · intro h hh; rw [hq (25 + 8 * h + 1) (by omega)]; exact qa h hh
    · intro h hh; rw [hq (25 + 8 * h + 2) (by omega)]; exact qat h hh
    · intro h hh; rw [hq (25 + 8 * h + 3) (by omega)]; exact ql h hh
    · intro h hh
      by_cases e : h = g
      · subst e; exact Or.inl hv0
      · rw [hq (25 + 8 * h + 4) (by omega)]; exact qh h hh
    · intro h hh; rw [hq (25 + 8 * h + 5) (by omega)]; exact qs h hh
    · intro h hh; rw [hq (25 + 8 * h + 6) (by omega)]; exact qw h hh
    · intro h hh; rw [hq (153 + 2 * h) (by omega)]; exact qwt h hh
    · intro h hh; rw [hq (153 + 2 * h + 1) (by omega)]; exact qpg h hh
    · intro h i hh hi; rw [hq (25 + 8 * h + 3) (by omega), hq (25 + 8 * i + 3) (by omega)]; exact jl h i hh hi
    · exact inj_off (f := fun i => q (25 + 8 * i + 4)) (f' := fun i => q' (25 + 8 * i + 4)) jh hv0 (fun k hk hkn => hq (25 + 8 * k + 4) (by omega))
    · intro h i hh hi; rw [hq (153 + 2 * h + 1) (by omega), hq (153 + 2 * i + 1) (by omega)]; exact jp h i hh hi
    · intro h hh e
      rw [hq (25 + 8 * h + 2) (by omega)] at e
      by_cases e' : h = g
      · subst e'; rw [hq (25 + 8 * h + 3) (by omega)]; exact ⟨(qo h hh e).1, hv0⟩
      · rw [hq (25 + 8 * h + 3) (by omega), hq (25 + 8 * h + 4) (by omega)]; exact qo h hh e
    · intro h hh; rw [hq (25 + 8 * h + 2) (by omega), hq (25 + 8 * h + 3) (by omega)]; exact qol h hh
    · intro h i hh hi e
      rw [hq (153 + 2 * i + 1) (by omega)]
      by_cases e2 : h = g
      · subst e2; rw [hv0, hy_n1' (by omega)] at e; exact absurd e not_false
      · rw [hq (25 + 8 * h + 4) (by omega)] at e; exact qhp h i hh hi e
    · rw [hq (9) (by omega)]; exact qht
    · rw [hq (5) (by omega)]; exact qrm
    · rw [hq (6) (by omega)]; exact qgn
    · rw [hq (7) (by omega)]; exact qqt
    · intro h hh; rw [hq (21 + h) (by omega)]; exact qop h hh
  have Rn : hy_RC 11 M' q' := by
    unfold hy_RC
    rw [eg, el, ep, et]
    refine ⟨?_, ?_, ?_, ?_, ?_, ?_, ?_, ?_, ?_, ?_, ?_, ?_, ?_, ?_⟩
    · exact ⟨by rw [hM 11 (by omega) (by omega), hq (8) (by omega)]; exact s1, by rw [hM 11 (by omega) (by omega), hq (9) (by omega)]; exact s2, by rw [hM 11 (by omega) (by omega), hq (10) (by omega)]; exact s3, by rw [hM 11 (by omega) (by omega), hq (5) (by omega)]; exact s4, by rw [hM 11 (by omega) (by omega), hq (6) (by omega)]; exact s5, by rw [hM 11 (by omega) (by omega), hq (7) (by omega)]; exact s6⟩
    · intro h hh; rw [hM 24 (by omega) (by omega), hq (12 + h) (by omega)]; exact ra h hh
    · intro h hh; rw [hM 12 (by omega) (by omega), hq (21 + h) (by omega)]; exact ro h hh
    · intro h hh; rw [hM 13 (by omega) (by omega), hq (25 + 8 * h + 2) (by omega)]; exact rp h hh
    · intro h hh; rw [hM 14 (by omega) (by omega), hq (25 + 8 * h + 3) (by omega)]; exact rl h hh
    · intro h hh
      by_cases e : h = g
      · subst e; rw [h15, hy_ss, hv0]
      · rw [h15, hy_so _ _ e, hq (25 + 8 * h + 4) (by omega)]; exact rt h hh
    · intro h hh; rw [hM 16 (by omega) (by omega), hq (25 + 8 * h + 5) (by omega)]; exact rs h hh
    · intro h hh; rw [hM 17 (by omega) (by omega), hq (25 + 8 * h + 6) (by omega)]; exact rw' h hh
    · intro h hh; rw [hM 18 (by omega) (by omega), hq (25 + 8 * h + 7) (by omega)]; exact rd h hh
    · intro h hh; rw [hM 20 (by omega) (by omega), hq (153 + 2 * h) (by omega)]; exact rwt h hh
    · intro h hh; rw [hM 21 (by omega) (by omega), hq (153 + 2 * h + 1) (by omega)]; exact rpg h hh
    · intro h hh; rw [hM 19 (by omega) (by omega), kpr_fk, eg, fk_cg (f := fun i => q (25 + 8 * i + 3)) h (fun i hi => hq (25 + 8 * i + 3) (by omega))]; exact rk h hh
    · intro h hh
      rw [hld_fk, eg, fk_off (f := fun i => q (25 + 8 * i + 4)) (f' := fun i => q' (25 + 8 * i + 4)) jh (i := g) hg (p0 := t) (by omega) hhg hv0 (fun k hk hkn => hq (25 + 8 * k + 4) (by omega)) (p := h) (by omega), h22]
      by_cases e : h = t
      · rw [if_pos e, e, hy_ss]
      · rw [if_neg e, hy_so _ _ e]; exact rh h hh
    · intro h hh; rw [hM 23 (by omega) (by omega), tw_fk, et, fk_cg (f := fun i => q (153 + 2 * i + 1)) h (fun i hi => hq (153 + 2 * i + 1) (by omega))]; exact rtw h hh
  exact ⟨⟨Zn, Hn, Rn⟩, Qn, fun k hk => by rw [hq (k) (by omega)]; exact hX k hk⟩
theorem p_dropL {M M' : hz_M} {q q' : Nat → Int32} {g l : Nat} (W : hy_W M q) (hg : g < gz q) (hl : l < lz q) (hhg : q (25 + 8 * g + 4) = -1) (hlg : q (25 + 8 * g + 3) = nI l) (hM : ∀ a, a ≠ 19 → a ≠ 14 → a ≠ 13 → M' a = M a) (h19 : M' 19 = hy_st (M 19) (l) (-1)) (h14 : M' 14 = hy_st (M 14) (g) (-1)) (h13 : M' 13 = hy_st (M 13) (g) (-1)) (hq : ∀ k, k ≠ 25 + 8 * g + 3 → k ≠ 25 + 8 * g + 2 → q' k = q k) (hv0 : q' (25 + 8 * g + 3) = -1) (hv1 : q' (25 + 8 * g + 2) = -1) : hy_W M' q' := by
  obtain ⟨hC, hQ, hX⟩ := W
  have hC0 := hC
  obtain ⟨hZ, ⟨b3, b4, b5, b6, b7, b8, bag, bnm⟩, hRR⟩ := hC
  have hZ0 := hZ
  obtain ⟨⟨s1, s2, s3, s4, s5, s6⟩, ra, ro, rp, rl, rt, rs, rw', rd, rwt, rpg, rk, rh, rtw⟩ := c_rows hRR
  obtain ⟨⟨z1, z2⟩, ⟨z3, z4, z5⟩, ⟨z6, z7, z8⟩, ⟨z9, z10⟩, ⟨z11, z12, z13⟩, ⟨z14, z15, z16⟩⟩ := hZ
  rw [z1] at b3; rw [z3] at b4; rw [z6] at b5; rw [z9] at b6; rw [z11] at b7; rw [z14] at b8
  obtain ⟨qa, qat, ql, qh, qs, qw, qwt, qpg, jl, jh, jp, qo, qol, qhp, qht, qrm, qgn, qqt, qop⟩ := hQ
  have e11 : q' 11 = q 11 := hq (11) (by omega) (by omega)
  have e0 : q' 0 = q 0 := hq (0) (by omega) (by omega)
  have e1 : q' 1 = q 1 := hq (1) (by omega) (by omega)
  have e2 : q' 2 = q 2 := hq (2) (by omega) (by omega)
  have e3 : q' 3 = q 3 := hq (3) (by omega) (by omega)
  have e4 : q' 4 = q 4 := hq (4) (by omega) (by omega)
  have eg : gz q' = gz q := by unfold gz; rw [e11]
  have el : lz q' = lz q := by unfold lz; rw [e0]
  have ep : pz q' = pz q := by unfold pz; rw [e1]
  have et : tz q' = tz q := by unfold tz; rw [e2]
  have ev : vz q' = vz q := by unfold vz; rw [e3]
  have es : sz q' = sz q := by unfold sz; rw [e4]
  have Zn : hy_Z q' := by
    unfold hy_Z
    rw [e11, e0, e1, e2, e3, e4, eg, el, ep, et, ev, es]
    exact hZ0
  have Hn : hy_Ho M' q' := by
    unfold hy_Ho nmd
    rw [e11, e0, e1, e2, e3, e4, hM 1 (by omega) (by omega) (by omega), hM 2 (by omega) (by omega) (by omega), hM 3 (by omega) (by omega) (by omega), hM 4 (by omega) (by omega) (by omega), eg]
    refine ⟨by rw [b3, z1], by rw [b4, z3], by rw [b5, z6], by rw [b6, z9], by rw [b7, z11], by rw [b8, z14], fun h hh => ?_, fun h hh => ?_⟩
    · rw [hq (25 + 8 * h + 1) (by omega) (by omega)]; exact bag h hh
    · rw [hq (25 + 8 * h) (by omega) (by omega)]; exact bnm h hh
  have Qn : hy_Q q' := by
    unfold hy_Q
    rw [eg, el, ep, et, es]
    refine ⟨?_, ?_, ?_, ?_, ?_, ?_, ?_, ?_, ?_, ?_, ?_, ?_, ?_, ?_, ?_, ?_, ?_, ?_, ?_⟩
    · intro h hh; rw [hq (25 + 8 * h + 1) (by omega) (by omega)]; exact qa h hh
    · intro h hh
      by_cases e : h = g
      · subst e; exact Or.inl hv1
      · rw [hq (25 + 8 * h + 2) (by omega) (by omega)]; exact qat h hh
    · intro h hh
      by_cases e : h = g
      · subst e; exact Or.inl hv0
      · rw [hq (25 + 8 * h + 3) (by omega) (by omega)]; exact ql h hh
    · intro h hh; rw [hq (25 + 8 * h + 4) (by omega) (by omega)]; exact qh h hh
    · intro h hh; rw [hq (25 + 8 * h + 5) (by omega) (by omega)]; exact qs h hh
    · intro h hh; rw [hq (25 + 8 * h + 6) (by omega) (by omega)]; exact qw h hh
    · intro h hh; rw [hq (153 + 2 * h) (by omega) (by omega)]; exact qwt h hh
    · intro h hh; rw [hq (153 + 2 * h + 1) (by omega) (by omega)]; exact qpg h hh
    · exact inj_off (f := fun i => q (25 + 8 * i + 3)) (f' := fun i => q' (25 + 8 * i + 3)) jl hv0 (fun k hk hkn => hq (25 + 8 * k + 3) (by omega) (by omega))
    · intro h i hh hi; rw [hq (25 + 8 * h + 4) (by omega) (by omega), hq (25 + 8 * i + 4) (by omega) (by omega)]; exact jh h i hh hi
    · intro h i hh hi; rw [hq (153 + 2 * h + 1) (by omega) (by omega), hq (153 + 2 * i + 1) (by omega) (by omega)]; exact jp h i hh hi
    · intro h hh e
      by_cases e' : h = g
      · subst e'; rw [hq (25 + 8 * h + 4) (by omega) (by omega)]; exact ⟨hv0, hhg⟩
      · rw [hq (25 + 8 * h + 2) (by omega) (by omega)] at e; rw [hq (25 + 8 * h + 3) (by omega) (by omega), hq (25 + 8 * h + 4) (by omega) (by omega)]; exact qo h hh e
    · intro h hh e
      by_cases e' : h = g
      · subst e'; exact hv1
      · rw [hq (25 + 8 * h + 3) (by omega) (by omega)] at e; rw [hq (25 + 8 * h + 2) (by omega) (by omega)]; exact qol h hh e
    · intro h t hh ht; rw [hq (25 + 8 * h + 4) (by omega) (by omega), hq (153 + 2 * t + 1) (by omega) (by omega)]; exact qhp h t hh ht
    · rw [hq (9) (by omega) (by omega)]; exact qht
    · rw [hq (5) (by omega) (by omega)]; exact qrm
    · rw [hq (6) (by omega) (by omega)]; exact qgn
    · rw [hq (7) (by omega) (by omega)]; exact qqt
    · intro h hh; rw [hq (21 + h) (by omega) (by omega)]; exact qop h hh
  have Rn : hy_RC 11 M' q' := by
    unfold hy_RC
    rw [eg, el, ep, et]
    refine ⟨?_, ?_, ?_, ?_, ?_, ?_, ?_, ?_, ?_, ?_, ?_, ?_, ?_, ?_⟩
    · exact ⟨by rw [hM 11 (by omega) (by omega) (by omega), hq (8) (by omega) (by omega)]; exact s1, by rw [hM 11 (by omega) (by omega) (by omega), hq (9) (by omega) (by omega)]; exact s2, by rw [hM 11 (by omega) (by omega) (by omega), hq (10) (by omega) (by omega)]; exact s3, by rw [hM 11 (by omega) (by omega) (by omega), hq (5) (by omega) (by omega)]; exact s4, by rw [hM 11 (by omega) (by omega) (by omega), hq (6) (by omega) (by omega)]; exact s5, by rw [hM 11 (by omega) (by omega) (by omega), hq (7) (by omega) (by omega)]; exact s6⟩
    · intro h hh; rw [hM 24 (by omega) (by omega) (by omega), hq (12 + h) (by omega) (by omega)]; exact ra h hh
    · intro h hh; rw [hM 12 (by omega) (by omega) (by omega), hq (21 + h) (by omega) (by omega)]; exact ro h hh
    · intro h hh
      by_cases e : h = g
      · subst e; rw [h13, hy_ss, hv1]
      · rw [h13, hy_so _ _ e, hq (25 + 8 * h + 2) (by omega) (by omega)]; exact rp h hh
    · intro h hh
      by_cases e : h = g
      · subst e; rw [h14, hy_ss, hv0]
      · rw [h14, hy_so _ _ e, hq (25 + 8 * h + 3) (by omega) (by omega)]; exact rl h hh
    · intro h hh; rw [hM 15 (by omega) (by omega) (by omega), hq (25 + 8 * h + 4) (by omega) (by omega)]; exact rt h hh
    · intro h hh; rw [hM 16 (by omega) (by omega) (by omega), hq (25 + 8 * h + 5) (by omega) (by omega)]; exact rs h hh
    · intro h hh; rw [hM 17 (by omega) (by omega) (by omega), hq (25 + 8 * h + 6) (by omega) (by omega)]; exact rw' h hh
    · intro h hh; rw [hM 18 (by omega) (by omega) (by omega), hq (25 + 8 * h + 7) (by omega) (by omega)]; exact rd h hh
    · intro h hh; rw [hM 20 (by omega) (by omega) (by omega), hq (153 + 2 * h) (by omega) (by omega)]; exact rwt h hh
    · intro h hh; rw [hM 21 (by omega) (by omega) (by omega), hq (153 + 2 * h + 1) (by omega) (by omega)]; exact rpg h hh
    · intro h hh
      rw [kpr_fk, eg, fk_off (f := fun i => q (25 + 8 * i + 3)) (f' := fun i => q' (25 + 8 * i + 3)) jl (i := g) hg (p0 := l) (by omega) hlg hv0 (fun k hk hkn => hq (25 + 8 * k + 3) (by omega) (by omega)) (p := h) (by omega), h19]
      by_cases e : h = l
      · rw [if_pos e, e, hy_ss]
      · rw [if_neg e, hy_so _ _ e]; exact rk h hh
    · intro h hh; rw [hM 22 (by omega) (by omega) (by omega), hld_fk, eg, fk_cg (f := fun i => q (25 + 8 * i + 4)) h (fun i hi => hq (25 + 8 * i + 4) (by omega) (by omega))]; exact rh h hh
    · intro h hh; rw [hM 23 (by omega) (by omega) (by omega), tw_fk, et, fk_cg (f := fun i => q (153 + 2 * i + 1)) h (fun i hi => hq (153 + 2 * i + 1) (by omega) (by omega))]; exact rtw h hh
  exact ⟨⟨Zn, Hn, Rn⟩, Qn, fun k hk => by rw [hq (k) (by omega) (by omega)]; exact hX k hk⟩
theorem p_in {M M' : hz_M} {q q' : Nat → Int32} {g l : Nat} (W : hy_W M q) (hg : g < gz q) (hl : l < lz q) (hout : q (25 + 8 * g + 2) = -1) (hkl : kpr q l = -1) (hM : ∀ a, a ≠ 19 → a ≠ 14 → a ≠ 13 → M' a = M a) (h19 : M' 19 = hy_st (M 19) (l) (nI g)) (h14 : M' 14 = hy_st (M 14) (g) (nI l)) (h13 : M' 13 = hy_st (M 13) (g) (nI 0)) (hq : ∀ k, k ≠ 25 + 8 * g + 3 → k ≠ 25 + 8 * g + 2 → q' k = q k) (hv0 : q' (25 + 8 * g + 3) = nI l) (hv1 : q' (25 + 8 * g + 2) = nI 0) : hy_W M' q' := by
  obtain ⟨hC, hQ, hX⟩ := W
  have hC0 := hC
  obtain ⟨hZ, ⟨b3, b4, b5, b6, b7, b8, bag, bnm⟩, hRR⟩ := hC
  have hZ0 := hZ
  obtain ⟨⟨s1, s2, s3, s4, s5, s6⟩, ra, ro, rp, rl, rt, rs, rw', rd, rwt, rpg, rk, rh, rtw⟩ := c_rows hRR
  obtain ⟨⟨z1, z2⟩, ⟨z3, z4, z5⟩, ⟨z6, z7, z8⟩, ⟨z9, z10⟩, ⟨z11, z12, z13⟩, ⟨z14, z15, z16⟩⟩ := hZ
  rw [z1] at b3; rw [z3] at b4; rw [z6] at b5; rw [z9] at b6; rw [z11] at b7; rw [z14] at b8
  obtain ⟨qa, qat, ql, qh, qs, qw, qwt, qpg, jl, jh, jp, qo, qol, qhp, qht, qrm, qgn, qqt, qop⟩ := hQ
  have e11 : q' 11 = q 11 := hq (11) (by omega) (by omega)
  have e0 : q' 0 = q 0 := hq (0) (by omega) (by omega)
  have e1 : q' 1 = q 1 := hq (1) (by omega) (by omega)
  have e2 : q' 2 = q 2 := hq (2) (by omega) (by omega)
  have e3 : q' 3 = q 3 := hq (3) (by omega) (by omega)
  have e4 : q' 4 = q 4 := hq (4) (by omega) (by omega)
  have eg : gz q' = gz q := by unfold gz; rw [e11]
  have el : lz q' = lz q := by unfold lz; rw [e0]
  have ep : pz q' = pz q := by unfold pz; rw [e1]
  have et : tz q' = tz q := by unfold tz; rw [e2]
  have ev : vz q' = vz q := by unfold vz; rw [e3]
  have es : sz q' = sz q := by unfold sz; rw [e4]
  have hno : ∀ k, k < gz q → q (25 + 8 * k + 3) ≠ nI l := by
    rw [kpr_fk] at hkl
    rcases fk_al (fun g => q (25 + 8 * g + 3)) (gz q) l with ⟨_, e⟩ | ⟨i, _, e, _⟩
    · exact e
    · rw [hkl, hy_n1' (by omega)] at e; exact absurd e not_false
  have Zn : hy_Z q' := by
    unfold hy_Z
    rw [e11, e0, e1, e2, e3, e4, eg, el, ep, et, ev, es]
    exact hZ0
  have Hn : hy_Ho M' q' := by
    unfold hy_Ho nmd
    rw [e11, e0, e1, e2, e3, e4, hM 1 (by omega) (by omega) (by omega), hM 2 (by omega) (by omega) (by omega), hM 3 (by omega) (by omega) (by omega), hM 4 (by omega) (by omega) (by omega), eg]
    refine ⟨by rw [b3, z1], by rw [b4, z3], by rw [b5, z6], by rw [b6, z9], by rw [b7, z11], by rw [b8, z14], fun h hh => ?_, fun h hh => ?_⟩
    · rw [hq (25 + 8 * h + 1) (by omega) (by omega)]; exact bag h hh
    · rw [hq (25 + 8 * h) (by omega) (by omega)]; exact bnm h hh
  have Qn : hy_Q q' := by
    unfold hy_Q
    rw [eg, el, ep, et, es]
    refine ⟨?_, ?_, ?_, ?_, ?_, ?_, ?_, ?_, ?_, ?_, ?_, ?_, ?_, ?_, ?_, ?_, ?_, ?_, ?_⟩
    · intro h hh; rw [hq (25 + 8 * h + 1) (by omega) (by omega)]; exact qa h hh
    · intro h hh
      by_cases e : h = g
      · subst e; exact Or.inr ⟨0, by omega, hv1⟩
      · rw [hq (25 + 8 * h + 2) (by omega) (by omega)]; exact qat h hh
    · intro h hh
      by_cases e : h = g
      · subst e; exact Or.inr ⟨l, hl, hv0⟩
      · rw [hq (25 + 8 * h + 3) (by omega) (by omega)]; exact ql h hh
    · intro h hh; rw [hq (25 + 8 * h + 4) (by omega) (by omega)]; exact qh h hh
    · intro h hh; rw [hq (25 + 8 * h + 5) (by omega) (by omega)]; exact qs h hh
    · intro h hh; rw [hq (25 + 8 * h + 6) (by omega) (by omega)]; exact qw h hh
    · intro h hh; rw [hq (153 + 2 * h) (by omega) (by omega)]; exact qwt h hh
    · intro h hh; rw [hq (153 + 2 * h + 1) (by omega) (by omega)]; exact qpg h hh
    · exact inj_on (f := fun i => q (25 + 8 * i + 3)) (f' := fun i => q' (25 + 8 * i + 3)) jl hno hv0 (fun k hk hkn => hq (25 + 8 * k + 3) (by omega) (by omega))
    · intro h i hh hi; rw [hq (25 + 8 * h + 4) (by omega) (by omega), hq (25 + 8 * i + 4) (by omega) (by omega)]; exact jh h i hh hi
    · intro h i hh hi; rw [hq (153 + 2 * h + 1) (by omega) (by omega), hq (153 + 2 * i + 1) (by omega) (by omega)]; exact jp h i hh hi
    · intro h hh e
      by_cases e' : h = g
      · subst e'; rw [hv1, hy_n1 (by omega)] at e; exact absurd e not_false
      · rw [hq (25 + 8 * h + 2) (by omega) (by omega)] at e; rw [hq (25 + 8 * h + 3) (by omega) (by omega), hq (25 + 8 * h + 4) (by omega) (by omega)]; exact qo h hh e
    · intro h hh e
      by_cases e' : h = g
      · subst e'; rw [hv0, hy_n1 (by omega)] at e; exact absurd e not_false
      · rw [hq (25 + 8 * h + 3) (by omega) (by omega)] at e; rw [hq (25 + 8 * h + 2) (by omega) (by omega)]; exact qol h hh e
    · intro h t hh ht; rw [hq (25 + 8 * h + 4) (by omega) (by omega), hq (153 + 2 * t + 1) (by omega) (by omega)]; exact qhp h t hh ht
    · rw [hq (9) (by omega) (by omega)]; exact qht
    · rw [hq (5) (by omega) (by omega)]; exact qrm
    · rw [hq (6) (by omega) (by omega)]; exact qgn
    · rw [hq (7) (by omega) (by omega)]; exact qqt
    · intro h hh; rw [hq (21 + h) (by omega) (by omega)]; exact qop h hh
  have Rn : hy_RC 11 M' q' := by
    unfold hy_RC
    rw [eg, el, ep, et]
    refine ⟨?_, ?_, ?_, ?_, ?_, ?_, ?_, ?_, ?_, ?_, ?_, ?_, ?_, ?_⟩
    · exact ⟨by rw [hM 11 (by omega) (by omega) (by omega), hq (8) (by omega) (by omega)]; exact s1, by rw [hM 11 (by omega) (by omega) (by omega), hq (9) (by omega) (by omega)]; exact s2, by rw [hM 11 (by omega) (by omega) (by omega), hq (10) (by omega) (by omega)]; exact s3, by rw [hM 11 (by omega) (by omega) (by omega), hq (5) (by omega) (by omega)]; exact s4, by rw [hM 11 (by omega) (by omega) (by omega), hq (6) (by omega) (by omega)]; exact s5, by rw [hM 11 (by omega) (by omega) (by omega), hq (7) (by omega) (by omega)]; exact s6⟩
    · intro h hh; rw [hM 24 (by omega) (by omega) (by omega), hq (12 + h) (by omega) (by omega)]; exact ra h hh
    · intro h hh; rw [hM 12 (by omega) (by omega) (by omega), hq (21 + h) (by omega) (by omega)]; exact ro h hh
    · intro h hh
      by_cases e : h = g
      · subst e; rw [h13, hy_ss, hv1]
      · rw [h13, hy_so _ _ e, hq (25 + 8 * h + 2) (by omega) (by omega)]; exact rp h hh
    · intro h hh
      by_cases e : h = g
      · subst e; rw [h14, hy_ss, hv0]
      · rw [h14, hy_so _ _ e, hq (25 + 8 * h + 3) (by omega) (by omega)]; exact rl h hh
    · intro h hh; rw [hM 15 (by omega) (by omega) (by omega), hq (25 + 8 * h + 4) (by omega) (by omega)]; exact rt h hh
    · intro h hh; rw [hM 16 (by omega) (by omega) (by omega), hq (25 + 8 * h + 5) (by omega) (by omega)]; exact rs h hh
    · intro h hh; rw [hM 17 (by omega) (by omega) (by omega), hq (25 + 8 * h + 6) (by omega) (by omega)]; exact rw' h hh
    · intro h hh; rw [hM 18 (by omega) (by omega) (by omega), hq (25 + 8 * h + 7) (by omega) (by omega)]; exact rd h hh
    · intro h hh; rw [hM 20 (by omega) (by omega) (by omega), hq (153 + 2 * h) (by omega) (by omega)]; exact rwt h hh
    · intro h hh; rw [hM 21 (by omega) (by omega) (by omega), hq (153 + 2 * h + 1) (by omega) (by omega)]; exact rpg h hh
    · intro h hh
      rw [kpr_fk, eg, fk_on (f := fun i => q (25 + 8 * i + 3)) (f' := fun i => q' (25 + 8 * i + 3)) jl (i := g) hg (p0 := l) (by omega) (qo g hg hout).1 hno hv0 (fun k hk hkn => hq (25 + 8 * k + 3) (by omega) (by omega)) (p := h) (by omega), h19]
      by_cases e : h = l
      · rw [if_pos e, e, hy_ss]
      · rw [if_neg e, hy_so _ _ e]; exact rk h hh
    · intro h hh; rw [hM 22 (by omega) (by omega) (by omega), hld_fk, eg, fk_cg (f := fun i => q (25 + 8 * i + 4)) h (fun i hi => hq (25 + 8 * i + 4) (by omega) (by omega))]; exact rh h hh
    · intro h hh; rw [hM 23 (by omega) (by omega) (by omega), tw_fk, et, fk_cg (f := fun i => q (153 + 2 * i + 1)) h (fun i hi => hq (153 + 2 * i + 1) (by omega) (by omega))]; exact rtw h hh
  exact ⟨⟨Zn, Hn, Rn⟩, Qn, fun k hk => by rw [hq (k) (by omega) (by omega)]; exact hX k hk⟩

