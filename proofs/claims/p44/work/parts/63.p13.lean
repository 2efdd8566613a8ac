theorem p_noT {M M' : hz_M} {q q' : Nat → Int32} {g : Nat} (W : hy_W M q) (hg : g < gz q) (hhg : q (25 + 8 * g + 4) = -1) (hM : ∀ a, a ≠ 15 → M' a = M a) (h15 : M' 15 = hy_st (M 15) (g) (-1)) (hq : ∀ k, k ≠ 25 + 8 * g + 4 → q' k = q k) (hv0 : q' (25 + 8 * g + 4) = -1) : hy_W M' q' := by
  obtain ⟨hC, hQ, hX⟩ := W
  have hC0 := hC
  obtain ⟨hZ, ⟨b3, b4, b5, b6, b7, b8, bag, bnm⟩, hRR⟩ := hC
  have hZ0 := hZ
  obtain ⟨⟨s1, s2, s3, s4, s5, s6⟩, ra, ro, rp, rl, rt, rs, rw', rd, rwt, rpg, rk, rh, rtw⟩ := c_rows hRR
  obtain ⟨⟨z1, z2⟩, ⟨z3, z4, z5⟩, ⟨z6, z7, z8⟩, ⟨z9, z10⟩, ⟨z11, z12, z13⟩, ⟨z14, z15, z16⟩⟩ := hZ
  rw [z1] at b3; rw [z3] at b4; rw [z6] at b5; rw [z9] at b6; rw [z11] at b7; rw [z14] at b8
  obtain ⟨qa, qat, ql, qh, qs, qw, qwt, qpg, jl, jh, jp, qo, qol, qhp, qht, qrm, qgn, qqt, qop⟩ := hQ
  have e11 : q' 11 = q 11 := hq (11) (by omega)
  have e0 : q' 0 = q 0 := hq (0) (by omega)
  have e1 : q' 1 = q 1 := hq (1) (by omega)
  have e2 : q' 2 = q 2 := hq (2) (by omega)
  have e3 : q' 3 = q 3 := hq (3) (by omega)
  have e4 : q' 4 = q 4 := hq (4) (by omega)
  have eg : gz q' = gz q := by unfold gz; rw [e11]
  have el : lz q' = lz q := by unfold lz; rw [e0]
  have ep : pz q' = pz q := by unfold pz; rw [e1]
  have et : tz q' = tz q := by unfold tz; rw [e2]
  have ev : vz q' = vz q := by unfold vz; rw [e3]
  have es : sz q' = sz q := by unfold sz; rw [e4]
  have Zn : hy_Z q' := by
    unfold hy_Z
    rw [e11, e0, e1, e2, e3, e4, eg, el, ep, et, ev, es]
    exact hZ0
  have Hn : hy_Ho M' q' := by
    unfold hy_Ho nmd
    rw [e11, e0, e1, e2, e3, e4, hM 1 (by omega), hM 2 (by omega), hM 3 (by omega), hM 4 (by omega), eg]
    refine ⟨by rw [b3, z1], by rw [b4, z3], by rw [b5, z6], by rw [b6, z9], by rw [b7, z11], by rw [b8, z14], fun h hh => ?_, fun h hh => ?_⟩
    · rw [hq (25 + 8 * h + 1) (by omega)]; exact bag h hh
    · rw [hq (25 + 8 * h) (by omega)]; exact bnm h hh
  have Qn : hy_Q q' := by
    unfold hy_Q
    rw [eg, el, ep, et, es]
    refine ⟨?_, ?_, ?_, ?_, ?_, ?_, ?_, ?_, ?_, ?_, ?_, ?_, ?_, ?_, ?_, ?_, ?_, ?_, ?_⟩
    · intro h hh; rw [hq (25 + 8 * h + 1) (by omega)]; exact qa h hh
    · intro h hh; rw [hq (25 + 8 * h + 2) (by omega)]; exact qat h hh
    · intro h hh; rw [hq (25 + 8 * h + 3) (by omega)]; exact ql h hh
    · intro h hh
      by_cases e : h = g
      · subst e; exact Or.inl hv0
      · rw [hq (25 + 8 * h + 4) (by omega)]; exact qh h hh
    · intro h hh; rw [hq (25 + 8 * h + 5) (by omega)]; exact qs h hh
    · intro h hh; rw [hq (25 + 8 * h + 6) (by omega)]; exact qw h hh
    · intro h hh; rw [hq (153 + 2 * h) (by omega)]; exact qwt h hh
    · intro h hh; rw [hq (153 + 2 * h + 1) (by omega)]; exact qpg h hh
    · intro h i hh hi; rw [hq (25 + 8 * h + 3) (by omega), hq (25 + 8 * i + 3) (by omega)]; exact jl h i hh hi
    · exact inj_off (f := fun i => q (25 + 8 * i + 4)) (f' := fun i => q' (25 + 8 * i + 4)) jh hv0 (fun k hk hkn => hq (25 + 8 * k + 4) (by omega))
    · intro h i hh hi; rw [hq (153 + 2 * h + 1) (by omega), hq (153 + 2 * i + 1) (by omega)]; exact jp h i hh hi
    · intro h hh e
      rw [hq (25 + 8 * h + 2) (by omega)] at e
      by_cases e' : h = g
      · subst e'; rw [hq (25 + 8 * h + 3) (by omega)]; exact ⟨(qo h hh e).1, hv0⟩
      · rw [hq (25 + 8 * h + 3) (by omega), hq (25 + 8 * h + 4) (by omega)]; exact qo h hh e
    · intro h hh; rw [hq (25 + 8 * h + 2) (by omega), hq (25 + 8 * h + 3) (by omega)]; exact qol h hh
    · intro h i hh hi e
      rw [hq (153 + 2 * i + 1) (by omega)]
      by_cases e2 : h = g
      · subst e2; rw [hv0, hy_n1' (by omega)] at e; exact absurd e not_false
      · rw [hq (25 + 8 * h + 4) (by omega)] at e; exact qhp h i hh hi e
    · rw [hq (9) (by omega)]; exact qht
    · rw [hq (5) (by omega)]; exact qrm
    · rw [hq (6) (by omega)]; exact qgn
    · rw [hq (7) (by omega)]; exact qqt
    · intro h hh; rw [hq (21 + h) (by omega)]; exact qop h hh
  have Rn : hy_RC 11 M' q' := by
    unfold hy_RC
    rw [eg, el, ep, et]
    refine ⟨?_, ?_, ?_, ?_, ?_, ?_, ?_, ?_, ?_, ?_, ?_, ?_, ?_, ?_⟩
    · exact ⟨by rw [hM 11 (by omega), hq (8) (by omega)]; exact s1, by rw [hM 11 (by omega), hq (9) (by omega)]; exact s2, by rw [hM 11 (by omega), hq (10) (by omega)]; exact s3, by rw [hM 11 (by omega), hq (5) (by omega)]; exact s4, by rw [hM 11 (by omega), hq (6) (by omega)]; exact s5, by rw [hM 11 (by omega), hq (7) (by omega)]; exact s6⟩
    · intro h hh; rw [hM 24 (by omega), hq (12 + h) (by omega)]; exact ra h hh
    · intro h hh; rw [hM 12 (by omega), hq (21 + h) (by omega)]; exact ro h hh
    · intro h hh; rw [hM 13 (by omega), hq (25 + 8 * h + 2) (by omega)]; exact rp h hh
    · intro h hh; rw [hM 14 (by omega), hq (25 + 8 * h + 3) (by omega)]; exact rl h hh
    · intro h hh
      by_cases e : h = g
      · subst e; rw [h15, hy_ss, hv0]
      · rw [h15, hy_so _ _ e, hq (25 + 8 * h + 4) (by omega)]; exact rt h hh
    · intro h hh; rw [hM 16 (by omega), hq (25 + 8 * h + 5) (by omega)]; exact rs h hh
    · intro h hh; rw [hM 17 (by omega), hq (25 + 8 * h + 6) (by omega)]; exact rw' h hh
    · intro h hh; rw [hM 18 (by omega), hq (25 + 8 * h + 7) (by omega)]; exact rd h hh
    · intro h hh; rw [hM 20 (by omega), hq (153 + 2 * h) (by omega)]; exact rwt h hh
    · intro h hh; rw [hM 21 (by omega), hq (153 + 2 * h + 1) (by omega)]; exact rpg h hh
    · intro h hh; rw [hM 19 (by omega), kpr_fk, eg, fk_cg (f := fun i => q (25 + 8 * i + 3)) h (fun i hi => hq (25 + 8 * i + 3) (by omega))]; exact rk h hh
    · intro h hh; rw [hM 22 (by omega), hld_fk, eg, fk_cg (f := fun i => q (25 + 8 * i + 4)) h (fun i hi => ?_)]; exact rh h hh
      by_cases e : i = g
      · subst e; show q' (25 + 8 * i + 4) = q (25 + 8 * i + 4); rw [hv0, hhg]
      · exact hq (25 + 8 * i + 4) (by omega)
    · intro h hh; rw [hM 23 (by omega), tw_fk, et, fk_cg (f := fun i => q (153 + 2 * i + 1)) h (fun i hi => hq (153 + 2 * i + 1) (by omega))]; exact rtw h hh
  exact ⟨⟨Zn, Hn, Rn⟩, Qn, fun k hk => by rw [hq (k) (by omega)]; exact hX k hk⟩

def ov (S : List Nat) (M' M : hz_M) : hz_M := fun a => if a ∈ S then M' a else M a
theorem hy_srow (M : hz_M) (i k : Nat) (v : Int32) : hz_set M i k v i = hy_st (M i) k v := by rw [hy_set, hy_rs]
theorem gz_st (q : Nat → Int32) {k : Nat} (v : Int32) (h : k ≠ 11) : gz (hy_st q k v) = gz q := by unfold gz; rw [hy_so _ _ (fun e => h e.symm)]
theorem lz_st (q : Nat → Int32) {k : Nat} (v : Int32) (h : k ≠ 0) : lz (hy_st q k v) = lz q := by unfold lz; rw [hy_so _ _ (fun e => h e.symm)]
theorem pz_st (q : Nat → Int32) {k : Nat} (v : Int32) (h : k ≠ 1) : pz (hy_st q k v) = pz q := by unfold pz; rw [hy_so _ _ (fun e => h e.symm)]
theorem tz_st (q : Nat → Int32) {k : Nat} (v : Int32) (h : k ≠ 2) : tz (hy_st q k v) = tz q := by unfold tz; rw [hy_so _ _ (fun e => h e.symm)]
theorem vz_st (q : Nat → Int32) {k : Nat} (v : Int32) (h : k ≠ 3) : vz (hy_st q k v) = vz q := by unfold vz; rw [hy_so _ _ (fun e => h e.symm)]
theorem sz_st (q : Nat → Int32) {k : Nat} (v : Int32) (h : k ≠ 4) : sz (hy_st q k v) = sz q := by unfold sz; rw [hy_so _ _ (fun e => h e.symm)]
theorem n_isPeg {M : hz_M} {n p : Nat} (h5 : M 1 5 = nI n) (hn : n ≤ 16) (hp : p < n) : f_X3_isPeg (nI p) M = some (1, M) := by
  have e1 : ¬ n ≤ p := by omega
  have e2 : ¬ p < 0 := by omega
  simp (disch := omega) only [f_X3_isPeg, h5, hy_le, hy_0, hy_lt, e1, e2, if_false]
theorem n_isTowel {M : hz_M} {n p : Nat} (h5 : M 1 6 = nI n) (hn : n ≤ 16) (hp : p < n) : f_X3_isTowel (nI p) M = some (1, M) := by
  have e1 : ¬ n ≤ p := by omega
  have e2 : ¬ p < 0 := by omega
  simp (disch := omega) only [f_X3_isTowel, h5, hy_le, hy_0, hy_lt, e1, e2, if_false]
theorem n_isLocker {M : hz_M} {n p : Nat} (h5 : M 1 4 = nI n) (hn : n ≤ 16) (hp : p < n) : f_X3_isLocker (nI p) M = some (1, M) := by
  have e1 : ¬ n ≤ p := by omega
  have e2 : ¬ p < 0 := by omega
  simp (disch := omega) only [f_X3_isLocker, h5, hy_le, hy_0, hy_lt, e1, e2, if_false]
theorem n_give {M : hz_M} {n p0 t g : Nat} (h5 : M 1 5 = nI n) (hn : n ≤ 16) (hp : p0 < n) (ht : t < 16) (hg : g < 16) (h21 : M 21 t = nI p0) :
    f_X7_giveToGuest (nI t) (nI g) M = some (0, hz_set (hz_set (hz_set (hz_set M 23 p0 (-1)) 21 t (-1)) 22 t (nI g)) 15 g (nI t)) := by
  simp (disch := omega) only [f_X7_giveToGuest, h21, n_isPeg h5 hn hp, hy_in, hy_c, hy_gt, hy_cts, hy_lt', hy_jn, hy_lm, hy_f10, if_false]
theorem n_put {M : hz_M} {p t : Nat} (ht : t < 16) (hp : p < 16) :
    f_X7_putOnPeg (nI t) (nI p) M = some (0, hz_set (hz_set (hz_set M 23 p (nI t)) 21 t (nI p)) 22 t (-1)) := by
  simp (disch := omega) only [f_X7_putOnPeg, hy_in, hy_c, hy_gt, hy_lm]
def onp (q : Nat → Int32) (b : Int32) : Prop := b = -1 ∨ ∃ t, t < tz q ∧ b = nI t ∧ ∃ p, p < pz q ∧ q (153 + 2 * t + 1) = nI p
theorem dry_on {q : Nat → Int32} (hZ : hy_Z q) : ∀ (k i : Nat) (b : Int32), i + k ≤ pz q → onp q b → onp q (hy_fold (dryS q) k i b)
  | 0, _, _, _, h => h
  | k + 1, i, b, hk, h => by
    refine dry_on hZ k (i + 1) _ (by omega) ?_
    unfold dryS
    rcases tw_al hZ i with e | ⟨t, ht, e, e2⟩
    · rw [if_pos e]; exact h
    · have h' : onp q (tw q i) := Or.inr ⟨t, ht, e, i, by omega, e2⟩
      split
      · exact h
      · split
        · exact h
        · split
          · exact h'
          · split
            · exact h
            · exact h'
theorem frL_al {q : Nat → Int32} : frL q = -1 ∨ ∃ l, l < lz q ∧ frL q = nI l ∧ kpr q l = -1 := by
  rcases hy_fnd_all (p := fun k => decide (kpr q k = -1)) (lz q) 0 with ⟨h, _⟩ | ⟨t, _, h2, h3, h4, _⟩
  · exact Or.inl h
  · exact Or.inr ⟨t, by omega, h3, of_decide_eq_true h4⟩
theorem frP_al {q : Nat → Int32} : (frP q = -1 ∧ ∀ k, k < pz q → tw q k ≠ -1) ∨ ∃ l, l < pz q ∧ frP q = nI l ∧ tw q l = -1 := by
  rcases hy_fnd_all (p := fun k => decide (tw q k = -1)) (pz q) 0 with ⟨h, h2⟩ | ⟨t, _, h2, h3, h4, _⟩
  · exact Or.inl ⟨h, fun k hk => of_decide_eq_false (h2 k (by omega) (by omega))⟩
  · exact Or.inr ⟨t, by omega, h3, of_decide_eq_true h4⟩

theorem o_letIn {M : hz_M} {q : Nat → Int32} {g l t p0 : Nat} (W : hy_W M q) (hg : g < gz q) (hl : l < lz q) (hfl : frL q = nI l) (hkl : kpr q l = -1) (hd : dry q = nI t) (ht : t < tz q) (hp0 : p0 < pz q) (hpt : q (153 + 2 * t + 1) = nI p0) (hout : q (25 + 8 * g + 2) = -1) : ∃ M', f_X1_letIn (nI g) M = some (nI l, M') ∧ (∀ a, (a < 11 ∨ 24 < a) → M' a = M a) ∧ hy_W M' (hy_st (hy_st (hy_st (hy_st (hy_st (hy_st q (25 + 8 * g + 3) (nI l)) (25 + 8 * g + 2) (nI 0)) (153 + 2 * t + 1) (-1)) (25 + 8 * g + 4) (nI t)) (25 + 8 * g + 5) (nI 0)) (12 + 0) (q 12 + 1)) := by
  have W0 := W
  obtain ⟨hC, hQ, hX⟩ := W
  have hC0 := hC
  obtain ⟨hZ, ⟨b3, b4, b5, b6, b7, b8, bag, bnm⟩, hRR⟩ := hC
  have hZ0 := hZ
  obtain ⟨⟨s1, s2, s3, s4, s5, s6⟩, ra, ro, rp, rl, rt, rs, rw', rd, rwt, rpg, rk, rh, rtw⟩ := c_rows hRR
  obtain ⟨⟨z1, z2⟩, ⟨z3, z4, z5⟩, ⟨z6, z7, z8⟩, ⟨z9, z10⟩, ⟨z11, z12, z13⟩, ⟨z14, z15, z16⟩⟩ := hZ
  rw [z1] at b3; rw [z3] at b4; rw [z6] at b5; rw [z9] at b6; rw [z11] at b7; rw [z14] at b8
  obtain ⟨qa, qat, ql, qh, qs, qw, qwt, qpg, jl, jh, jp, qo, qol, qhp, qht, qrm, qgn, qqt, qop⟩ := hQ
  have ra0 : M 24 0 = q 12 := ra 0 (by omega)
  refine ⟨(hz_set (hz_set (hz_set (hz_set (hz_set (hz_set (hz_set (hz_set (hz_set M 19 (l) (nI g)) 14 (g) (nI l)) 23 (p0) (-1)) 21 (t) (-1)) 22 (t) (nI g)) 15 (g) (nI t)) 13 (g) (nI 0)) 16 (g) (nI 0)) 24 (0) (q 12 + 1)), ?_, ?_, ?_⟩
  · have a1 := c_frL hC0
    have a2 := c_dry hC0
    have e5 := rpg t ht
    rw [hfl] at a1; rw [hd] at a2
    simp (disch := omega) only [f_X1_letIn, a1, a2, n_isLocker b4 (by omega) hl, n_isTowel b6 (by omega) ht, n_give (M := hz_set (hz_set M 19 l (nI g)) 14 g (nI l)) (n := pz q) (p0 := p0) (t := t) (g := g) (by simp (disch := omega) only [hy_seto]; exact b5) (by omega) hp0 (by omega) (by omega) (by simp (disch := omega) only [hy_seto]; rw [e5, hpt]), hy_k0, hy_seto, ra0, hy_in, hy_c, hy_gt, hy_cts, hy_lt', hy_jn, hy_lm, hy_f10, if_false, if_true]
    rfl
  · intro a ha; simp (disch := omega) only [hy_seto]
  · generalize hM' : (hz_set (hz_set (hz_set (hz_set (hz_set (hz_set (hz_set (hz_set (hz_set M 19 (l) (nI g)) 14 (g) (nI l)) 23 (p0) (-1)) 21 (t) (-1)) 22 (t) (nI g)) 15 (g) (nI t)) 13 (g) (nI 0)) 16 (g) (nI 0)) 24 (0) (q 12 + 1)) = M'
    have r19 : M' 19 = hy_st (M 19) (l) (nI g) := by subst hM'; simp (disch := omega) only [hy_seto, hy_srow]
    have r14 : M' 14 = hy_st (M 14) (g) (nI l) := by subst hM'; simp (disch := omega) only [hy_seto, hy_srow]
    have r23 : M' 23 = hy_st (M 23) (p0) (-1) := by subst hM'; simp (disch := omega) only [hy_seto, hy_srow]
    have r21 : M' 21 = hy_st (M 21) (t) (-1) := by subst hM'; simp (disch := omega) only [hy_seto, hy_srow]
    have r22 : M' 22 = hy_st (M 22) (t) (nI g) := by subst hM'; simp (disch := omega) only [hy_seto, hy_srow]
    have r15 : M' 15 = hy_st (M 15) (g) (nI t) := by subst hM'; simp (disch := omega) only [hy_seto, hy_srow]
    have r13 : M' 13 = hy_st (M 13) (g) (nI 0) := by subst hM'; simp (disch := omega) only [hy_seto, hy_srow]
    have r16 : M' 16 = hy_st (M 16) (g) (nI 0) := by subst hM'; simp (disch := omega) only [hy_seto, hy_srow]
    have r24 : M' 24 = hy_st (M 24) (0) (q 12 + 1) := by subst hM'; simp (disch := omega) only [hy_seto, hy_srow]
    have rO : ∀ a, a ≠ 19 → a ≠ 14 → a ≠ 13 → a ≠ 23 → a ≠ 21 → a ≠ 22 → a ≠ 15 → a ≠ 16 → a ≠ 24 → M' a = M a := by
      intro a n19 n14 n13 n23 n21 n22 n15 n16 n24; subst hM'; simp (disch := omega) only [hy_seto]
    have W1 : hy_W (ov [19, 14, 13] M' M) (hy_st (hy_st q (25 + 8 * g + 3) (nI l)) (25 + 8 * g + 2) (nI 0)) := p_in W0 hg hl hout hkl
      (fun a a19 a14 a13 => by simp only [ov, List.mem_cons, List.not_mem_nil, a19, a14, a13, false_or, or_false, if_false])
      (by simp [ov, r19])
      (by simp [ov, r14])
      (by simp [ov, r13])
      (fun k c0 c1 => by simp only [hy_st, c0, c1, if_false])
      (by simp (disch := omega) only [hy_so, hy_ss])
      (by simp (disch := omega) only [hy_so, hy_ss])
    have W2 : hy_W (ov [19, 14, 13, 23, 21, 22, 15] M' M) (hy_st (hy_st (hy_st (hy_st q (25 + 8 * g + 3) (nI l)) (25 + 8 * g + 2) (nI 0)) (153 + 2 * t + 1) (-1)) (25 + 8 * g + 4) (nI t)) := p_take W1 (by simp (disch := omega) only [gz_st, lz_st, pz_st, tz_st, vz_st, sz_st, hy_so]; exact hg) (by simp (disch := omega) only [gz_st, lz_st, pz_st, tz_st, vz_st, sz_st, hy_so]; exact ht) (by simp (disch := omega) only [gz_st, lz_st, pz_st, tz_st, vz_st, sz_st, hy_so]; exact hp0) (by simp (disch := omega) only [gz_st, lz_st, pz_st, tz_st, vz_st, sz_st, hy_so]; exact hpt) (by simp (disch := omega) only [gz_st, lz_st, pz_st, tz_st, vz_st, sz_st, hy_so]; exact (qo g hg hout).2) (by simp (disch := omega) only [hy_ss]; rw [ne_eq, hy_n1 (by omega)]; exact not_false)
      (fun a a23 a21 a22 a15 => by simp only [ov, List.mem_cons, List.not_mem_nil, a23, a21, a22, a15, false_or, or_false, if_false])
      (by simp [ov, r23])
      (by simp [ov, r21])
      (by simp [ov, r22])
      (by simp [ov, r15])
      (fun k c0 c1 => by simp only [hy_st, c0, c1, if_false])
      (by simp (disch := omega) only [hy_so, hy_ss])
      (by simp (disch := omega) only [hy_so, hy_ss])
    have W3 : hy_W (ov [19, 14, 13, 23, 21, 22, 15, 16] M' M) (hy_st (hy_st (hy_st (hy_st (hy_st q (25 + 8 * g + 3) (nI l)) (25 + 8 * g + 2) (nI 0)) (153 + 2 * t + 1) (-1)) (25 + 8 * g + 4) (nI t)) (25 + 8 * g + 5) (nI 0)) := p_str W2 (k := 0) (by simp (disch := omega) only [gz_st, lz_st, pz_st, tz_st, vz_st, sz_st, hy_so]; exact hg) (by omega)
      (fun a a16 => by simp only [ov, List.mem_cons, List.not_mem_nil, a16, false_or, or_false, if_false])
      (by simp [ov, r16])
      (fun k c0 => by simp only [hy_st, c0, if_false])
      (by simp (disch := omega) only [hy_so, hy_ss])
    have W4 : hy_W M' (hy_st (hy_st (hy_st (hy_st (hy_st (hy_st q (25 + 8 * g + 3) (nI l)) (25 + 8 * g + 2) (nI 0)) (153 + 2 * t + 1) (-1)) (25 + 8 * g + 4) (nI t)) (25 + 8 * g + 5) (nI 0)) (12 + 0) (q 12 + 1)) := p_acc W3 (g := 0) (v := q 12 + 1) (by omega)
      (fun a a24 => by
        by_cases hS : a ∈ [19, 14, 13, 23, 21, 22, 15, 16]
        · simp only [ov, hS, if_true]
        · simp only [ov, hS, if_false]; simp only [List.mem_cons, List.not_mem_nil, or_false, not_or] at hS; exact rO a (by omega) (by omega) (by omega) (by omega) (by omega) (by omega) (by omega) (by omega) a24)
      (by simp [ov, r24])
      (fun k c0 => by simp only [hy_st, c0, if_false])
      (by simp (disch := omega) only [hy_so, hy_ss])
    exact W4
theorem o_seat {M : hz_M} {q : Nat → Int32} {g s : Nat} (W : hy_W M q) (hg : g < gz q) (hs : s ≤ sz q) (hin : q (25 + 8 * g + 2) ≠ -1) : ∃ M', f_X1_seat (nI g) (nI s) M = some (q 9 + 6 * nI s, M') ∧ (∀ a, (a < 11 ∨ 24 < a) → M' a = M a) ∧ hy_W M' (hy_st q (25 + 8 * g + 2) (nI s)) := by
  have W0 := W
  obtain ⟨hC, hQ, hX⟩ := W
  have hC0 := hC
  obtain ⟨hZ, ⟨b3, b4, b5, b6, b7, b8, bag, bnm⟩, hRR⟩ := hC
  have hZ0 := hZ
  obtain ⟨⟨s1, s2, s3, s4, s5, s6⟩, ra, ro, rp, rl, rt, rs, rw', rd, rwt, rpg, rk, rh, rtw⟩ := c_rows hRR
  obtain ⟨⟨z1, z2⟩, ⟨z3, z4, z5⟩, ⟨z6, z7, z8⟩, ⟨z9, z10⟩, ⟨z11, z12, z13⟩, ⟨z14, z15, z16⟩⟩ := hZ
  rw [z1] at b3; rw [z3] at b4; rw [z6] at b5; rw [z9] at b6; rw [z11] at b7; rw [z14] at b8
  obtain ⟨qa, qat, ql, qh, qs, qw, qwt, qpg, jl, jh, jp, qo, qol, qhp, qht, qrm, qgn, qqt, qop⟩ := hQ
  refine ⟨(hz_set M 13 (g) (nI s)), ?_, ?_, ?_⟩
  · simp (disch := omega) only [f_X1_seat, f_X7_temperature, hy_seto, s2, hy_in, hy_c, hy_gt, hy_cts, hy_lt', hy_jn, hy_lm, hy_f10, if_false, if_true]
  · intro a ha; simp (disch := omega) only [hy_seto]
  · generalize hM' : (hz_set M 13 (g) (nI s)) = M'
    have r13 : M' 13 = hy_st (M 13) (g) (nI s) := by subst hM'; simp (disch := omega) only [hy_seto, hy_srow]
    have rO : ∀ a, a ≠ 13 → M' a = M a := by
      intro a n13; subst hM'; simp (disch := omega) only [hy_seto]
    have W1 : hy_W M' (hy_st q (25 + 8 * g + 2) (nI s)) := p_move W0 hg hs hin
      (fun a a13 => rO a a13)
      (r13)
      (fun k c0 => by simp only [hy_st, c0, if_false])
      (by simp (disch := omega) only [hy_so, hy_ss])
    exact W1
theorem o_hall {M : hz_M} {q : Nat → Int32} {g : Nat} (W : hy_W M q) (hg : g < gz q) (hin : q (25 + 8 * g + 2) ≠ -1) : ∃ M', f_X1_seatInHall (nI g) M = some (q (25 + 8 * g + 2), M') ∧ (∀ a, (a < 11 ∨ 24 < a) → M' a = M a) ∧ hy_W M' (hy_st q (25 + 8 * g + 2) (nI 0)) := by
  have W0 := W
  obtain ⟨hC, hQ, hX⟩ := W
  have hC0 := hC
  obtain ⟨hZ, ⟨b3, b4, b5, b6, b7, b8, bag, bnm⟩, hRR⟩ := hC
  have hZ0 := hZ
  obtain ⟨⟨s1, s2, s3, s4, s5, s6⟩, ra, ro, rp, rl, rt, rs, rw', rd, rwt, rpg, rk, rh, rtw⟩ := c_rows hRR
  obtain ⟨⟨z1, z2⟩, ⟨z3, z4, z5⟩, ⟨z6, z7, z8⟩, ⟨z9, z10⟩, ⟨z11, z12, z13⟩, ⟨z14, z15, z16⟩⟩ := hZ
  rw [z1] at b3; rw [z3] at b4; rw [z6] at b5; rw [z9] at b6; rw [z11] at b7; rw [z14] at b8
  obtain ⟨qa, qat, ql, qh, qs, qw, qwt, qpg, jl, jh, jp, qo, qol, qhp, qht, qrm, qgn, qqt, qop⟩ := hQ
  refine ⟨(hz_set M 13 (g) (nI 0)), ?_, ?_, ?_⟩
  · simp (disch := omega) only [f_X1_seatInHall, rp g hg, hy_in, hy_c, hy_gt, hy_cts, hy_lt', hy_jn, hy_lm, hy_f10, if_false, if_true]; rfl
  · intro a ha; simp (disch := omega) only [hy_seto]
  · generalize hM' : (hz_set M 13 (g) (nI 0)) = M'
    have r13 : M' 13 = hy_st (M 13) (g) (nI 0) := by subst hM'; simp (disch := omega) only [hy_seto, hy_srow]
    have rO : ∀ a, a ≠ 13 → M' a = M a := by
      intro a n13; subst hM'; simp (disch := omega) only [hy_seto]
    have W1 : hy_W M' (hy_st q (25 + 8 * g + 2) (nI 0)) := p_move W0 (s := 0) hg (by omega) hin
      (fun a a13 => rO a a13)
      (r13)
      (fun k c0 => by simp only [hy_st, c0, if_false])
      (by simp (disch := omega) only [hy_so, hy_ss])
    exact W1
theorem o_hang {M : hz_M} {q : Nat → Int32} {g t p0 : Nat} (W : hy_W M q) (hg : g < gz q) (ht : t < tz q) (hp0 : p0 < pz q) (hhg : q (25 + 8 * g + 4) = nI t) (htw : tw q p0 = -1) : ∃ M', f_X1_hangUp (nI g) (nI p0) M = some (nI t, M') ∧ (∀ a, (a < 11 ∨ 24 < a) → M' a = M a) ∧ hy_W M' (hy_st (hy_st q (153 + 2 * t + 1) (nI p0)) (25 + 8 * g + 4) (-1)) := by
  have W0 := W
  obtain ⟨hC, hQ, hX⟩ := W
  have hC0 := hC
  obtain ⟨hZ, ⟨b3, b4, b5, b6, b7, b8, bag, bnm⟩, hRR⟩ := hC
  have hZ0 := hZ
  obtain ⟨⟨s1, s2, s3, s4, s5, s6⟩, ra, ro, rp, rl, rt, rs, rw', rd, rwt, rpg, rk, rh, rtw⟩ := c_rows hRR
  obtain ⟨⟨z1, z2⟩, ⟨z3, z4, z5⟩, ⟨z6, z7, z8⟩, ⟨z9, z10⟩, ⟨z11, z12, z13⟩, ⟨z14, z15, z16⟩⟩ := hZ
  rw [z1] at b3; rw [z3] at b4; rw [z6] at b5; rw [z9] at b6; rw [z11] at b7; rw [z14] at b8
  obtain ⟨qa, qat, ql, qh, qs, qw, qwt, qpg, jl, jh, jp, qo, qol, qhp, qht, qrm, qgn, qqt, qop⟩ := hQ
  refine ⟨(hz_set (hz_set (hz_set (hz_set M 23 (p0) (nI t)) 21 (t) (nI p0)) 22 (t) (-1)) 15 (g) (-1)), ?_, ?_, ?_⟩
  · simp (disch := omega) only [f_X1_hangUp, rt g hg, hhg, n_isTowel b6 (by omega) ht, n_put, hy_in, hy_c, hy_gt, hy_cts, hy_lt', hy_jn, hy_lm, hy_f10, if_false, if_true]
  · intro a ha; simp (disch := omega) only [hy_seto]
  · generalize hM' : (hz_set (hz_set (hz_set (hz_set M 23 (p0) (nI t)) 21 (t) (nI p0)) 22 (t) (-1)) 15 (g) (-1)) = M'
    have r23 : M' 23 = hy_st (M 23) (p0) (nI t) := by subst hM'; simp (disch := omega) only [hy_seto, hy_srow]
    have r21 : M' 21 = hy_st (M 21) (t) (nI p0) := by subst hM'; simp (disch := omega) only [hy_seto, hy_srow]
    have r22 : M' 22 = hy_st (M 22) (t) (-1) := by subst hM'; simp (disch := omega) only [hy_seto, hy_srow]
    have r15 : M' 15 = hy_st (M 15) (g) (-1) := by subst hM'; simp (disch := omega) only [hy_seto, hy_srow]
    have rO : ∀ a, a ≠ 23 → a ≠ 21 → a ≠ 22 → a ≠ 15 → M' a = M a := by
      intro a n23 n21 n22 n15; subst hM'; simp (disch := omega) only [hy_seto]
    have W1 : hy_W M' (hy_st (hy_st q (153 + 2 * t + 1) (nI p0)) (25 + 8 * g + 4) (-1)) := p_hang W0 hg ht hp0 hhg htw
      (fun a a23 a21 a22 a15 => rO a a23 a21 a22 a15)
      (r23)
      (r21)
      (r22)
      (r15)
      (fun k c0 c1 => by simp only [hy_st, c0, c1, if_false])
      (by simp (disch := omega) only [hy_so, hy_ss])
      (by simp (disch := omega) only [hy_so, hy_ss])
    exact W1
theorem o_take {M : hz_M} {q : Nat → Int32} {g t p0 : Nat} (W : hy_W M q) (hg : g < gz q) (ht : t < tz q) (hp0 : p0 < pz q) (hpt : q (153 + 2 * t + 1) = nI p0) (htw : tw q p0 = nI t) (hhg : q (25 + 8 * g + 4) = -1) (hin : q (25 + 8 * g + 2) ≠ -1) : ∃ M', f_X1_takeDown (nI g) (nI p0) M = some (nI t, M') ∧ (∀ a, (a < 11 ∨ 24 < a) → M' a = M a) ∧ hy_W M' (hy_st (hy_st q (153 + 2 * t + 1) (-1)) (25 + 8 * g + 4) (nI t)) := by
  have W0 := W
  obtain ⟨hC, hQ, hX⟩ := W
  have hC0 := hC
  obtain ⟨hZ, ⟨b3, b4, b5, b6, b7, b8, bag, bnm⟩, hRR⟩ := hC
  have hZ0 := hZ
  obtain ⟨⟨s1, s2, s3, s4, s5, s6⟩, ra, ro, rp, rl, rt, rs, rw', rd, rwt, rpg, rk, rh, rtw⟩ := c_rows hRR
  obtain ⟨⟨z1, z2⟩, ⟨z3, z4, z5⟩, ⟨z6, z7, z8⟩, ⟨z9, z10⟩, ⟨z11, z12, z13⟩, ⟨z14, z15, z16⟩⟩ := hZ
  rw [z1] at b3; rw [z3] at b4; rw [z6] at b5; rw [z9] at b6; rw [z11] at b7; rw [z14] at b8
  obtain ⟨qa, qat, ql, qh, qs, qw, qwt, qpg, jl, jh, jp, qo, qol, qhp, qht, qrm, qgn, qqt, qop⟩ := hQ
  refine ⟨(hz_set (hz_set (hz_set (hz_set M 23 (p0) (-1)) 21 (t) (-1)) 22 (t) (nI g)) 15 (g) (nI t)), ?_, ?_, ?_⟩
  · have e5 := rpg t ht
    rw [hpt] at e5
    simp (disch := omega) only [f_X1_takeDown, rtw p0 hp0, htw, n_isTowel b6 (by omega) ht, n_give b5 (by omega) hp0 (show t < 16 by omega) (show g < 16 by omega) e5, hy_in, hy_c, hy_gt, hy_cts, hy_lt', hy_jn, hy_lm, hy_f10, if_false, if_true]
  · intro a ha; simp (disch := omega) only [hy_seto]
  · generalize hM' : (hz_set (hz_set (hz_set (hz_set M 23 (p0) (-1)) 21 (t) (-1)) 22 (t) (nI g)) 15 (g) (nI t)) = M'
    have r23 : M' 23 = hy_st (M 23) (p0) (-1) := by subst hM'; simp (disch := omega) only [hy_seto, hy_srow]
    have r21 : M' 21 = hy_st (M 21) (t) (-1) := by subst hM'; simp (disch := omega) only [hy_seto, hy_srow]
    have r22 : M' 22 = hy_st (M 22) (t) (nI g) := by subst hM'; simp (disch := omega) only [hy_seto, hy_srow]
    have r15 : M' 15 = hy_st (M 15) (g) (nI t) := by subst hM'; simp (disch := omega) only [hy_seto, hy_srow]
    have rO : ∀ a, a ≠ 23 → a ≠ 21 → a ≠ 22 → a ≠ 15 → M' a = M a := by
      intro a n23 n21 n22 n15; subst hM'; simp (disch := omega) only [hy_seto]
    have W1 : hy_W M' (hy_st (hy_st q (153 + 2 * t + 1) (-1)) (25 + 8 * g + 4) (nI t)) := p_take W0 hg ht hp0 hpt hhg hin
      (fun a a23 a21 a22 a15 => rO a a23 a21 a22 a15)
      (r23)
      (r21)
      (r22)
      (r15)
      (fun k c0 c1 => by simp only [hy_st, c0, c1, if_false])
      (by simp (disch := omega) only [hy_so, hy_ss])
      (by simp (disch := omega) only [hy_so, hy_ss])
    exact W1
theorem o_goT {M : hz_M} {q : Nat → Int32} {g t l : Nat} (W : hy_W M q) (hg : g < gz q) (ht : t < tz q) (hl : l < lz q) (hhg : q (25 + 8 * g + 4) = nI t) (hlg : q (25 + 8 * g + 3) = nI l) : ∃ M', f_X1_letGo (nI g) M = some (nI l, M') ∧ (∀ a, (a < 11 ∨ 24 < a) → M' a = M a) ∧ hy_W M' (hy_st (hy_st (hy_st (hy_st q (25 + 8 * g + 4) (-1)) (25 + 8 * g + 3) (-1)) (25 + 8 * g + 2) (-1)) (12 + 1) (q 13 + 1)) := by
  have W0 := W
  obtain ⟨hC, hQ, hX⟩ := W
  have hC0 := hC
  obtain ⟨hZ, ⟨b3, b4, b5, b6, b7, b8, bag, bnm⟩, hRR⟩ := hC
  have hZ0 := hZ
  obtain ⟨⟨s1, s2, s3, s4, s5, s6⟩, ra, ro, rp, rl, rt, rs, rw', rd, rwt, rpg, rk, rh, rtw⟩ := c_rows hRR
  obtain ⟨⟨z1, z2⟩, ⟨z3, z4, z5⟩, ⟨z6, z7, z8⟩, ⟨z9, z10⟩, ⟨z11, z12, z13⟩, ⟨z14, z15, z16⟩⟩ := hZ
  rw [z1] at b3; rw [z3] at b4; rw [z6] at b5; rw [z9] at b6; rw [z11] at b7; rw [z14] at b8
  obtain ⟨qa, qat, ql, qh, qs, qw, qwt, qpg, jl, jh, jp, qo, qol, qhp, qht, qrm, qgn, qqt, qop⟩ := hQ
  have ra1 : M 24 1 = q 13 := ra 1 (by omega)
  refine ⟨(hz_set (hz_set (hz_set (hz_set (hz_set (hz_set M 19 (l) (-1)) 22 (t) (-1)) 14 (g) (-1)) 15 (g) (-1)) 13 (g) (-1)) 24 (1) (q 13 + 1)), ?_, ?_, ?_⟩
  · simp (disch := omega) only [f_X1_letGo, rl g hg, rt g hg, hhg, hlg, n_isLocker b4 (by omega) hl, n_isTowel (M := hz_set M 19 l (-1)) (n := tz q) (p := t) (by simp (disch := omega) only [hy_seto]; exact b6) (by omega) ht, hy_k1, hy_seto, ra1, hy_in, hy_c, hy_gt, hy_cts, hy_lt', hy_jn, hy_lm, hy_f10, if_false, if_true]
  · intro a ha; simp (disch := omega) only [hy_seto]
  · generalize hM' : (hz_set (hz_set (hz_set (hz_set (hz_set (hz_set M 19 (l) (-1)) 22 (t) (-1)) 14 (g) (-1)) 15 (g) (-1)) 13 (g) (-1)) 24 (1) (q 13 + 1)) = M'
    have r19 : M' 19 = hy_st (M 19) (l) (-1) := by subst hM'; simp (disch := omega) only [hy_seto, hy_srow]
    have r22 : M' 22 = hy_st (M 22) (t) (-1) := by subst hM'; simp (disch := omega) only [hy_seto, hy_srow]
    have r14 : M' 14 = hy_st (M 14) (g) (-1) := by subst hM'; simp (disch := omega) only [hy_seto, hy_srow]
    have r15 : M' 15 = hy_st (M 15) (g) (-1) := by subst hM'; simp (disch := omega) only [hy_seto, hy_srow]
    have r13 : M' 13 = hy_st (M 13) (g) (-1) := by subst hM'; simp (disch := omega) only [hy_seto, hy_srow]
    have r24 : M' 24 = hy_st (M 24) (1) (q 13 + 1) := by subst hM'; simp (disch := omega) only [hy_seto, hy_srow]
    have rO : ∀ a, a ≠ 22 → a ≠ 15 → a ≠ 19 → a ≠ 14 → a ≠ 13 → a ≠ 24 → M' a = M a := by
      intro a n22 n15 n19 n14 n13 n24; subst hM'; simp (disch := omega) only [hy_seto]
    have W1 : hy_W (ov [22, 15] M' M) (hy_st q (25 + 8 * g + 4) (-1)) := p_dropT W0 hg ht hhg
      (fun a a22 a15 => by simp only [ov, List.mem_cons, List.not_mem_nil, a22, a15, false_or, or_false, if_false])
      (by simp [ov, r22])
      (by simp [ov, r15])
      (fun k c0 => by simp only [hy_st, c0, if_false])
      (by simp (disch := omega) only [hy_so, hy_ss])
    have W2 : hy_W (ov [22, 15, 19, 14, 13] M' M) (hy_st (hy_st (hy_st q (25 + 8 * g + 4) (-1)) (25 + 8 * g + 3) (-1)) (25 + 8 * g + 2) (-1)) := p_dropL W1 (by simp (disch := omega) only [gz_st, lz_st, pz_st, tz_st, vz_st, sz_st, hy_so]; exact hg) (by simp (disch := omega) only [gz_st, lz_st, pz_st, tz_st, vz_st, sz_st, hy_so]; exact hl) (by simp (disch := omega) only [hy_ss]) (by simp (disch := omega) only [gz_st, lz_st, pz_st, tz_st, vz_st, sz_st, hy_so]; exact hlg)
      (fun a a19 a14 a13 => by simp only [ov, List.mem_cons, List.not_mem_nil, a19, a14, a13, false_or, or_false, if_false])
      (by simp [ov, r19])
      (by simp [ov, r14])
      (by simp [ov, r13])
      (fun k c0 c1 => by simp only [hy_st, c0, c1, if_false])
      (by simp (disch := omega) only [hy_so, hy_ss])
      (by simp (disch := omega) only [hy_so, hy_ss])
    have W3 : hy_W M' (hy_st (hy_st (hy_st (hy_st q (25 + 8 * g + 4) (-1)) (25 + 8 * g + 3) (-1)) (25 + 8 * g + 2) (-1)) (12 + 1) (q 13 + 1)) := p_acc W2 (g := 1) (v := q 13 + 1) (by omega)
      (fun a a24 => by
        by_cases hS : a ∈ [22, 15, 19, 14, 13]
        · simp only [ov, hS, if_true]
        · simp only [ov, hS, if_false]; simp only [List.mem_cons, List.not_mem_nil, or_false, not_or] at hS; exact rO a (by omega) (by omega) (by omega) (by omega) (by omega) a24)
      (by simp [ov, r24])
      (fun k c0 => by simp only [hy_st, c0, if_false])
      (by simp (disch := omega) only [hy_so, hy_ss])
    exact W3
theorem o_goN {M : hz_M} {q : Nat → Int32} {g l : Nat} (W : hy_W M q) (hg : g < gz q) (hl : l < lz q) (hhg : q (25 + 8 * g + 4) = -1) (hlg : q (25 + 8 * g + 3) = nI l) : ∃ M', f_X1_letGo (nI g) M = some (nI l, M') ∧ (∀ a, (a < 11 ∨ 24 < a) → M' a = M a) ∧ hy_W M' (hy_st (hy_st (hy_st (hy_st q (25 + 8 * g + 4) (-1)) (25 + 8 * g + 3) (-1)) (25 + 8 * g + 2) (-1)) (12 + 1) (q 13 + 1)) := by
  have W0 := W
  obtain ⟨hC, hQ, hX⟩ := W
  have hC0 := hC
  obtain ⟨hZ, ⟨b3, b4, b5, b6, b7, b8, bag, bnm⟩, hRR⟩ := hC
  have hZ0 := hZ
  obtain ⟨⟨s1, s2, s3, s4, s5, s6⟩, ra, ro, rp, rl, rt, rs, rw', rd, rwt, rpg, rk, rh, rtw⟩ := c_rows hRR
  obtain ⟨⟨z1, z2⟩, ⟨z3, z4, z5⟩, ⟨z6, z7, z8⟩, ⟨z9, z10⟩, ⟨z11, z12, z13⟩, ⟨z14, z15, z16⟩⟩ := hZ
  rw [z1] at b3; rw [z3] at b4; rw [z6] at b5; rw [z9] at b6; rw [z11] at b7; rw [z14] at b8
  obtain ⟨qa, qat, ql, qh, qs, qw, qwt, qpg, jl, jh, jp, qo, qol, qhp, qht, qrm, qgn, qqt, qop⟩ := hQ
  have ra1 : M 24 1 = q 13 := ra 1 (by omega)
  refine ⟨(hz_set (hz_set (hz_set (hz_set (hz_set M 19 (l) (-1)) 14 (g) (-1)) 15 (g) (-1)) 13 (g) (-1)) 24 (1) (q 13 + 1)), ?_, ?_, ?_⟩
  · simp (disch := omega) only [f_X1_letGo, rl g hg, rt g hg, hhg, hlg, n_isLocker b4 (by omega) hl, c_isTowelN (M := hz_set M 19 l (-1)) (-1) (by decide), hy_k1, hy_seto, ra1, hy_in, hy_c, hy_gt, hy_cts, hy_lt', hy_jn, hy_lm, hy_f10, if_false, if_true]
  · intro a ha; simp (disch := omega) only [hy_seto]
  · generalize hM' : (hz_set (hz_set (hz_set (hz_set (hz_set M 19 (l) (-1)) 14 (g) (-1)) 15 (g) (-1)) 13 (g) (-1)) 24 (1) (q 13 + 1)) = M'
    have r19 : M' 19 = hy_st (M 19) (l) (-1) := by subst hM'; simp (disch := omega) only [hy_seto, hy_srow]
    have r14 : M' 14 = hy_st (M 14) (g) (-1) := by subst hM'; simp (disch := omega) only [hy_seto, hy_srow]
    have r15 : M' 15 = hy_st (M 15) (g) (-1) := by subst hM'; simp (disch := omega) only [hy_seto, hy_srow]
    have r13 : M' 13 = hy_st (M 13) (g) (-1) := by subst hM'; simp (disch := omega) only [hy_seto, hy_srow]
    have r24 : M' 24 = hy_st (M 24) (1) (q 13 + 1) := by subst hM'; simp (disch := omega) only [hy_seto, hy_srow]
    have rO : ∀ a, a ≠ 15 → a ≠ 19 → a ≠ 14 → a ≠ 13 → a ≠ 24 → M' a = M a := by
      intro a n15 n19 n14 n13 n24; subst hM'; simp (disch := omega) only [hy_seto]
    have W1 : hy_W (ov [15] M' M) (hy_st q (25 + 8 * g + 4) (-1)) := p_noT W0 hg hhg
      (fun a a15 => by simp only [ov, List.mem_cons, List.not_mem_nil, a15, false_or, or_false, if_false])
      (by simp [ov, r15])
      (fun k c0 => by simp only [hy_st, c0, if_false])
      (by simp (disch := omega) only [hy_so, hy_ss])
    have W2 : hy_W (ov [15, 19, 14, 13] M' M) (hy_st (hy_st (hy_st q (25 + 8 * g + 4) (-1)) (25 + 8 * g + 3) (-1)) (25 + 8 * g + 2) (-1)) := p_dropL W1 (by simp (disch := omega) only [gz_st, lz_st, pz_st, tz_st, vz_st, sz_st, hy_so]; exact hg) (by simp (disch := omega) only [gz_st, lz_st, pz_st, tz_st, vz_st, sz_st, hy_so]; exact hl) (by simp (disch := omega) only [hy_ss]) (by simp (disch := omega) only [gz_st, lz_st, pz_st, tz_st, vz_st, sz_st, hy_so]; exact hlg)
      (fun a a19 a14 a13 => by simp only [ov, List.mem_cons, List.not_mem_nil, a19, a14, a13, false_or, or_false, if_false])
      (by simp [ov, r19])
      (by simp [ov, r14])
      (by simp [ov, r13])
      (fun k c0 c1 => by simp only [hy_st, c0, c1, if_false])
      (by simp (disch := omega) only [hy_so, hy_ss])
      (by simp (disch := omega) only [hy_so, hy_ss])
    have W3 : hy_W M' (hy_st (hy_st (hy_st (hy_st q (25 + 8 * g + 4) (-1)) (25 + 8 * g + 3) (-1)) (25 + 8 * g + 2) (-1)) (12 + 1) (q 13 + 1)) := p_acc W2 (g := 1) (v := q 13 + 1) (by omega)
      (fun a a24 => by
        by_cases hS : a ∈ [15, 19, 14, 13]
        · simp only [ov, hS, if_true]
        · simp only [ov, hS, if_false]; simp only [List.mem_cons, List.not_mem_nil, or_false, not_or] at hS; exact rO a (by omega) (by omega) (by omega) (by omega) a24)
      (by simp [ov, r24])
      (fun k c0 => by simp only [hy_st, c0, if_false])
      (by simp (disch := omega) only [hy_so, hy_ss])
    exact W3
theorem o_turn {M : hz_M} {q : Nat → Int32} {g k : Nat} (W : hy_W M q) (hg : g < vz q) (hk : k ≤ 9) : ∃ M', f_X1_turn (nI g) (nI k) M = some (q (21 + g), M') ∧ (∀ a, (a < 11 ∨ 24 < a) → M' a = M a) ∧ hy_W M' (hy_st q (21 + g) (nI k)) := by
  have W0 := W
  obtain ⟨hC, hQ, hX⟩ := W
  have hC0 := hC
  obtain ⟨hZ, ⟨b3, b4, b5, b6, b7, b8, bag, bnm⟩, hRR⟩ := hC
  have hZ0 := hZ
  obtain ⟨⟨s1, s2, s3, s4, s5, s6⟩, ra, ro, rp, rl, rt, rs, rw', rd, rwt, rpg, rk, rh, rtw⟩ := c_rows hRR
  obtain ⟨⟨z1, z2⟩, ⟨z3, z4, z5⟩, ⟨z6, z7, z8⟩, ⟨z9, z10⟩, ⟨z11, z12, z13⟩, ⟨z14, z15, z16⟩⟩ := hZ
  rw [z1] at b3; rw [z3] at b4; rw [z6] at b5; rw [z9] at b6; rw [z11] at b7; rw [z14] at b8
  obtain ⟨qa, qat, ql, qh, qs, qw, qwt, qpg, jl, jh, jp, qo, qol, qhp, qht, qrm, qgn, qqt, qop⟩ := hQ
  refine ⟨(hz_set M 12 (g) (nI k)), ?_, ?_, ?_⟩
  · simp (disch := omega) only [f_X1_turn, ro g (by omega), hy_in, hy_c, hy_gt, hy_cts, hy_lt', hy_jn, hy_lm, hy_f10, if_false, if_true]
  · intro a ha; simp (disch := omega) only [hy_seto]
  · generalize hM' : (hz_set M 12 (g) (nI k)) = M'
    have r12 : M' 12 = hy_st (M 12) (g) (nI k) := by subst hM'; simp (disch := omega) only [hy_seto, hy_srow]
    have rO : ∀ a, a ≠ 12 → M' a = M a := by
      intro a n12; subst hM'; simp (disch := omega) only [hy_seto]
    have W1 : hy_W M' (hy_st q (21 + g) (nI k)) := p_open W0 (by omega) hk
      (fun a a12 => rO a a12)
      (r12)
      (fun k c0 => by simp only [hy_st, c0, if_false])
      (by simp (disch := omega) only [hy_so, hy_ss])
    exact W1

