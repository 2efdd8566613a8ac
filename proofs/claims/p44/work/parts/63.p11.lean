def hy_X (q : Nat → Int32) : Prop := ∀ k, 185 ≤ k → q k = 0
def hy_W (M : hz_M) (q : Nat → Int32) : Prop := hy_C M q ∧ hy_Q q ∧ hy_X q
def fk (f : Nat → Int32) (n p : Nat) : Int32 := hy_fnd (fun i => decide (f i = nI p)) n 0
def inj (f : Nat → Int32) (n : Nat) : Prop := ∀ g h, g < n → h < n → f g = f h → f g = -1 ∨ g = h
theorem fk_cg {f f' : Nat → Int32} {n : Nat} (p : Nat) (h : ∀ i, i < n → f' i = f i) : fk f' n p = fk f n p := by
  unfold fk
  exact hy_fnd_congr n 0 (fun j _ hj => by rw [h j (by omega)])
theorem fk_no {f : Nat → Int32} {n p : Nat} (h : ∀ i, i < n → f i ≠ nI p) : fk f n p = -1 := by
  unfold fk
  exact hy_fnd_none n 0 (fun j _ hj => decide_eq_false (h j (by omega)))
theorem fk_is {f : Nat → Int32} {n p i : Nat} (hp : p < 100) (hi : i < n) (h : f i = nI p) (hj : inj f n) : fk f n p = nI i := by
  unfold fk
  refine hy_fnd_one n 0 (by omega) (by omega) (decide_eq_true h) (fun j _ hji => decide_eq_false (fun e => ?_))
  rcases hj j i (by omega) hi (by rw [e, h]) with e2 | e2
  · rw [e, hy_n1 (by omega)] at e2; exact e2
  · omega
theorem fk_al (f : Nat → Int32) (n p : Nat) : (fk f n p = -1 ∧ ∀ i, i < n → f i ≠ nI p) ∨ ∃ i, i < n ∧ fk f n p = nI i ∧ f i = nI p := by
  rcases hy_fnd_all (p := fun i => decide (f i = nI p)) n 0 with ⟨h, h2⟩ | ⟨t, _, h2, h3, h4, _⟩
  · exact Or.inl ⟨h, fun i hi => of_decide_eq_false (h2 i (by omega) (by omega))⟩
  · exact Or.inr ⟨t, by omega, h3, of_decide_eq_true h4⟩
theorem inj_off {f f' : Nat → Int32} {n i : Nat} (hj : inj f n) (h1 : f' i = -1) (h2 : ∀ k, k ≠ i → k < n → f' k = f k) : inj f' n := by
  intro g h hg hh e
  by_cases a : g = i
  · subst a; exact Or.inl h1
  · by_cases b : h = i
    · subst b; rw [h1] at e; exact Or.inl e
    · rw [h2 g a hg, h2 h b hh] at e
      rw [h2 g a hg]; exact hj g h hg hh e
theorem inj_on {f f' : Nat → Int32} {n i p : Nat} (hj : inj f n) (hn : ∀ k, k < n → f k ≠ nI p) (h1 : f' i = nI p) (h2 : ∀ k, k ≠ i → k < n → f' k = f k) : inj f' n := by
  intro g h hg hh e
  by_cases a : g = i
  · subst a
    by_cases b : h = g
    · exact Or.inr b.symm
    · rw [h1, h2 h b hh] at e; exact absurd e.symm (hn h hh)
  · by_cases b : h = i
    · subst b; rw [h1, h2 g a hg] at e; exact absurd e (hn g hg)
    · rw [h2 g a hg, h2 h b hh] at e
      rw [h2 g a hg]; exact hj g h hg hh e
theorem fk_off {f f' : Nat → Int32} {n i p0 : Nat} (hj : inj f n) (hi : i < n) (hp0 : p0 < 100) (h0 : f i = nI p0) (h1 : f' i = -1) (h2 : ∀ k, k ≠ i → k < n → f' k = f k) {p : Nat} (hp : p < 100) : fk f' n p = if p = p0 then -1 else fk f n p := by
  by_cases e : p = p0
  · rw [if_pos e]
    refine fk_no (fun k hk e2 => ?_)
    by_cases a : k = i
    · subst a; rw [h1, hy_n1' (by omega)] at e2; exact e2
    · rw [h2 k a hk] at e2
      rcases hj k i hk hi (by rw [e2, h0, e]) with e3 | e3
      · rw [e2, hy_n1 (by omega)] at e3; exact e3
      · exact a e3
  · rw [if_neg e]
    rcases fk_al f n p with ⟨e2, e3⟩ | ⟨k, hk, e2, e3⟩
    · rw [e2]
      refine fk_no (fun k hk e4 => ?_)
      by_cases a : k = i
      · subst a; rw [h1, hy_n1' (by omega)] at e4; exact e4
      · rw [h2 k a hk] at e4; exact e3 k hk e4
    · rw [e2]
      have a : k ≠ i := by
        intro a; subst a
        rw [h0, hy_eq (by omega) (by omega)] at e3; exact e e3.symm
      exact fk_is hp hk (by rw [h2 k a hk]; exact e3) (inj_off hj h1 h2)
theorem fk_on {f f' : Nat → Int32} {n i p0 : Nat} (hj : inj f n) (hi : i < n) (hp0 : p0 < 100) (h0 : f i = -1) (hn : ∀ k, k < n → f k ≠ nI p0) (h1 : f' i = nI p0) (h2 : ∀ k, k ≠ i → k < n → f' k = f k) {p : Nat} (hp : p < 100) : fk f' n p = if p = p0 then nI i else fk f n p := by
  by_cases e : p = p0
  · rw [if_pos e]; subst e
    exact fk_is hp hi h1 (inj_on hj hn h1 h2)
  · rw [if_neg e]
    rcases fk_al f n p with ⟨e2, e3⟩ | ⟨k, hk, e2, e3⟩
    · rw [e2]
      refine fk_no (fun k hk e4 => ?_)
      by_cases a : k = i
      · subst a; rw [h1, hy_eq (by omega) (by omega)] at e4; exact e e4.symm
      · rw [h2 k a hk] at e4; exact e3 k hk e4
    · rw [e2]
      have a : k ≠ i := by
        intro a; subst a
        rw [h0, hy_n1' (by omega)] at e3; exact e3
      exact fk_is hp hk (by rw [h2 k a hk]; exact e3) (inj_on hj hn h1 h2)
theorem tw_fk (q : Nat → Int32) (p : Nat) : tw q p = fk (fun t => q (153 + 2 * t + 1)) (tz q) p := rfl
theorem hld_fk (q : Nat → Int32) (p : Nat) : hld q p = fk (fun g => q (25 + 8 * g + 4)) (gz q) p := rfl
theorem kpr_fk (q : Nat → Int32) (p : Nat) : kpr q p = fk (fun g => q (25 + 8 * g + 3)) (gz q) p := rfl

theorem p_move {M M' : hz_M} {q q' : Nat → Int32} {g s : Nat} (W : hy_W M q) (hg : g < gz q) (hs : s ≤ sz q) (hin : q (25 + 8 * g + 2) ≠ -1) (hM : ∀ a, a ≠ 13 → M' a = M a) (h13 : M' 13 = hy_st (M 13) (g) (nI s)) (hq : ∀ k, k ≠ 25 + 8 * g + 2 → q' k = q k) (hv0 : q' (25 + 8 * g + 2) = nI s) : hy_W M' q' := by
  obtain ⟨hC, hQ, hX⟩ := W
  have hC0 := hC
  obtain ⟨hZ, ⟨b3, b4, b5, b6, b7, b8, bag, bnm⟩, hRR⟩ := hC
  have hZ0 := hZ
  obtain ⟨⟨s1, s2, s3, s4, s5, s6⟩, ra, ro, rp, rl, rt, rs, rw', rd, rwt, rpg, rk, rh, rtw⟩ := c_rows hRR
  obtain ⟨⟨z1, z2⟩, ⟨z3, z4, z5⟩, ⟨z6, z7, z8⟩, ⟨z9, z10⟩, ⟨z11, z12, z13⟩, ⟨z14, z15, z16⟩⟩ := hZ
  rw [z1] at b3; rw [z3] at b4; rw [z6] at b5; rw [z9] at b6; rw [z11] at b7; rw [z14] at b8
  obtain ⟨qa, qat, ql, qh, qs, qw, qwt, qpg, jl, jh, jp, qo, qol, qhp, qht, qrm, qgn, qqt, qop⟩ := hQ
  have e11 : q' 11 = q 11 := hq (11) (by omega)
  have e0 : q' 0 = q 0 := hq (0) (by omega)
  have e1 : q' 1 = q 1 := hq (1) (by omega)
  have e2 : q' 2 = q 2 := hq (2) (by omega)
  have e3 : q' 3 = q 3 := hq (3) (by omega)
  have e4 : q' 4 = q 4 := hq (4) (by omega)
  have eg : gz q' = gz q := by unfold gz; rw [e11]
  have el : lz q' = lz q := by unfold lz; rw [e0]
  have ep : pz q' = pz q := by unfold pz; rw [e1]
  have et : tz q' = tz q := by unfold tz; rw [e2]
  have ev : vz q' = vz q := by unfold vz; rw [e3]
  have es : sz q' = sz q := by unfold sz; rw [e4]
  have Zn : hy_Z q' := by
    unfold hy_Z
    rw [e11, e0, e1, e2, e3, e4, eg, el, ep, et, ev, es]
    exact hZ0
  have Hn : hy_Ho M' q' := by
    unfold hy_Ho nmd
    rw [e11, e0, e1, e2, e3, e4, hM 1 (by omega), hM 2 (by omega), hM 3 (by omega), hM 4 (by omega), eg]
    refine ⟨by rw [b3, z1], by rw [b4, z3], by rw [b5, z6], by rw [b6, z9], by rw [b7, z11], by rw [b8, z14], fun h hh => ?_, fun h hh => ?_⟩
    · rw [hq (25 + 8 * h + 1) (by omega)]; exact bag h hh
    · rw [hq (25 + 8 * h) (by omega)]; exact bnm h hh
  have Qn : hy_Q q' := by
    unfold hy_Q
    rw [eg, el, ep, et, es]
    refine ⟨?_, ?_, ?_, ?_, ?_, ?_, ?_, ?_, ?_, ?_, ?_, ?_, ?_, ?_, ?_, ?_, ?_, ?_, ?_⟩
    · intro h hh; rw [hq (25 + 8 * h + 1) (by omega)]; exact qa h hh
    · intro h hh
      by_cases e : h = g
      · subst e; exact Or.inr ⟨s, hs, hv0⟩
      · rw [hq (25 + 8 * h + 2) (by omega)]; exact qat h hh
    · intro h hh; rw [hq (25 + 8 * h + 3) (by omega)]; exact ql h hh
    · intro h hh; rw [hq (25 + 8 * h + 4) (by omega)]; exact qh h hh
    · intro h hh; rw [hq (25 + 8 * h + 5) (by omega)]; exact qs h hh
    · intro h hh; rw [hq (25 + 8 * h + 6) (by omega)]; exact qw h hh
    · intro h hh; rw [hq (153 + 2 * h) (by omega)]; exact qwt h hh
    · intro h hh; rw [hq (153 + 2 * h + 1) (by omega)]; exact qpg h hh
    · intro h i hh hi; rw [hq (25 + 8 * h + 3) (by omega), hq (25 + 8 * i + 3) (by omega)]; exact jl h i hh hi
    · intro h i hh hi; rw [hq (25 + 8 * h + 4) (by omega), hq (25 + 8 * i + 4) (by omega)]; exact jh h i hh hi
    · intro h i hh hi; rw [hq (153 + 2 * h + 1) (by omega), hq (153 + 2 * i + 1) (by omega)]; exact jp h i hh hi
    · intro h hh e
      by_cases e' : h = g
      · subst e'; rw [hv0, hy_n1 (by omega)] at e; exact absurd e not_false
      · rw [hq (25 + 8 * h + 2) (by omega)] at e; rw [hq (25 + 8 * h + 3) (by omega), hq (25 + 8 * h + 4) (by omega)]; exact qo h hh e
    · intro h hh e
      rw [hq (25 + 8 * h + 3) (by omega)] at e
      by_cases e' : h = g
      · subst e'; exact absurd (qol h hh e) hin
      · rw [hq (25 + 8 * h + 2) (by omega)]; exact qol h hh e
    · intro h t hh ht; rw [hq (25 + 8 * h + 4) (by omega), hq (153 + 2 * t + 1) (by omega)]; exact qhp h t hh ht
    · rw [hq (9) (by omega)]; exact qht
    · rw [hq (5) (by omega)]; exact qrm
    · rw [hq (6) (by omega)]; exact qgn
    · rw [hq (7) (by omega)]; exact qqt
    · intro h hh; rw [hq (21 + h) (by omega)]; exact qop h hh
  have Rn : hy_RC 11 M' q' := by
    unfold hy_RC
    rw [eg, el, ep, et]
    refine ⟨?_, ?_, ?_, ?_, ?_, ?_, ?_, ?_, ?_, ?_, ?_, ?_, ?_, ?_⟩
    · exact ⟨by rw [hM 11 (by omega), hq (8) (by omega)]; exact s1, by rw [hM 11 (by omega), hq (9) (by omega)]; exact s2, by rw [hM 11 (by omega), hq (10) (by omega)]; exact s3, by rw [hM 11 (by omega), hq (5) (by omega)]; exact s4, by rw [hM 11 (by omega), hq (6) (by omega)]; exact s5, by rw [hM 11 (by omega), hq (7) (by omega)]; exact s6⟩
    · intro h hh; rw [hM 24 (by omega), hq (12 + h) (by omega)]; exact ra h hh
    · intro h hh; rw [hM 12 (by omega), hq (21 + h) (by omega)]; exact ro h hh
    · intro h hh
      by_cases e : h = g
      · subst e; rw [h13, hy_ss, hv0]
      · rw [h13, hy_so _ _ e, hq (25 + 8 * h + 2) (by omega)]; exact rp h hh
    · intro h hh; rw [hM 14 (by omega), hq (25 + 8 * h + 3) (by omega)]; exact rl h hh
    · intro h hh; rw [hM 15 (by omega), hq (25 + 8 * h + 4) (by omega)]; exact rt h hh
    · intro h hh; rw [hM 16 (by omega), hq (25 + 8 * h + 5) (by omega)]; exact rs h hh
    · intro h hh; rw [hM 17 (by omega), hq (25 + 8 * h + 6) (by omega)]; exact rw' h hh
    · intro h hh; rw [hM 18 (by omega), hq (25 + 8 * h + 7) (by omega)]; exact rd h hh
    · intro h hh; rw [hM 20 (by omega), hq (153 + 2 * h) (by omega)]; exact rwt h hh
    · intro h hh; rw [hM 21 (by omega), hq (153 + 2 * h + 1) (by omega)]; exact rpg h hh
    · intro h hh; rw [hM 19 (by omega), kpr_fk, eg, fk_cg (f := fun i => q (25 + 8 * i + 3)) h (fun i hi => hq (25 + 8 * i + 3) (by omega))]; exact rk h hh
    · intro h hh; rw [hM 22 (by omega), hld_fk, eg, fk_cg (f := fun i => q (25 + 8 * i + 4)) h (fun i hi => hq (25 + 8 * i + 4) (by omega))]; exact rh h hh
    · intro h hh; rw [hM 23 (by omega), tw_fk, et, fk_cg (f := fun i => q (153 + 2 * i + 1)) h (fun i hi => hq (153 + 2 * i + 1) (by omega))]; exact rtw h hh
  exact ⟨⟨Zn, Hn, Rn⟩, Qn, fun k hk => by rw [hq (k) (by omega)]; exact hX k hk⟩
theorem p_str {M M' : hz_M} {q q' : Nat → Int32} {g k : Nat} (W : hy_W M q) (hg : g < gz q) (hk : k ≤ 9) (hM : ∀ a, a ≠ 16 → M' a = M a) (h16 : M' 16 = hy_st (M 16) (g) (nI k)) (hq : ∀ k, k ≠ 25 + 8 * g + 5 → q' k = q k) (hv0 : q' (25 + 8 * g + 5) = nI k) : hy_W M' q' := by
  obtain ⟨hC, hQ, hX⟩ := W
  have hC0 := hC
  obtain ⟨hZ, ⟨b3, b4, b5, b6, b7, b8, bag, bnm⟩, hRR⟩ := hC
  have hZ0 := hZ
  obtain ⟨⟨s1, s2, s3, s4, s5, s6⟩, ra, ro, rp, rl, rt, rs, rw', rd, rwt, rpg, rk, rh, rtw⟩ := c_rows hRR
  obtain ⟨⟨z1, z2⟩, ⟨z3, z4, z5⟩, ⟨z6, z7, z8⟩, ⟨z9, z10⟩, ⟨z11, z12, z13⟩, ⟨z14, z15, z16⟩⟩ := hZ
  rw [z1] at b3; rw [z3] at b4; rw [z6] at b5; rw [z9] at b6; rw [z11] at b7; rw [z14] at b8
  obtain ⟨qa, qat, ql, qh, qs, qw, qwt, qpg, jl, jh, jp, qo, qol, qhp, qht, qrm, qgn, qqt, qop⟩ := hQ
  have e11 : q' 11 = q 11 := hq (11) (by omega)
  have e0 : q' 0 = q 0 := hq (0) (by omega)
  have e1 : q' 1 = q 1 := hq (1) (by omega)
  have e2 : q' 2 = q 2 := hq (2) (by omega)
  have e3 : q' 3 = q 3 := hq (3) (by omega)
  have e4 : q' 4 = q 4 := hq (4) (by omega)
  have eg : gz q' = gz q := by unfold gz; rw [e11]
  have el : lz q' = lz q := by unfold lz; rw [e0]
  have ep : pz q' = pz q := by unfold pz; rw [e1]
  have et : tz q' = tz q := by unfold tz; rw [e2]
  have ev : vz q' = vz q := by unfold vz; rw [e3]
  have es : sz q' = sz q := by unfold sz; rw [e4]
  have Zn : hy_Z q' := by
    unfold hy_Z
    rw [e11, e0, e1, e2, e3, e4, eg, el, ep, et, ev, es]
    exact hZ0
  have Hn : hy_Ho M' q' := by
    unfold hy_Ho nmd
    rw [e11, e0, e1, e2, e3, e4, hM 1 (by omega), hM 2 (by omega), hM 3 (by omega), hM 4 (by omega), eg]
    refine ⟨by rw [b3, z1], by rw [b4, z3], by rw [b5, z6], by rw [b6, z9], by rw [b7, z11], by rw [b8, z14], fun h hh => ?_, fun h hh => ?_⟩
    · rw [hq (25 + 8 * h + 1) (by omega)]; exact bag h hh
    · rw [hq (25 + 8 * h) (by omega)]; exact bnm h hh
  have Qn : hy_Q q' := by
    unfold hy_Q
    rw [eg, el, ep, et, es]
    refine ⟨?_, ?_, ?_, ?_, ?_, ?_, ?_, ?_, ?_, ?_, ?_, ?_, ?_, ?_, ?_, ?_, ?_, ?_, ?_⟩
    · intro h hh; rw [hq (25 + 8 * h + 1) (by omega)]; exact qa h hh
    · intro h hh; rw [hq (25 + 8 * h + 2) (by omega)]; exact qat h hh
    · intro h hh; rw [hq (25 + 8 * h + 3) (by omega)]; exact ql h hh
    · intro h hh; rw [hq (25 + 8 * h + 4) (by omega)]; exact qh h hh
    · intro h hh
      by_cases e : h = g
      · subst e; exact ⟨k, hk, hv0⟩
      · rw [hq (25 + 8 * h + 5) (by omega)]; exact qs h hh
    · intro h hh; rw [hq (25 + 8 * h + 6) (by omega)]; exact qw h hh
    · intro h hh; rw [hq (153 + 2 * h) (by omega)]; exact qwt h hh
    · intro h hh; rw [hq (153 + 2 * h + 1) (by omega)]; exact qpg h hh
    · intro h i hh hi; rw [hq (25 + 8 * h + 3) (by omega), hq (25 + 8 * i + 3) (by omega)]; exact jl h i hh hi
    · intro h i hh hi; rw [hq (25 + 8 * h + 4) (by omega), hq (25 + 8 * i + 4) (by omega)]; exact jh h i hh hi
    · intro h i hh hi; rw [hq (153 + 2 * h + 1) (by omega), hq (153 + 2 * i + 1) (by omega)]; exact jp h i hh hi
    · intro h hh; rw [hq (25 + 8 * h + 2) (by omega), hq (25 + 8 * h + 3) (by omega), hq (25 + 8 * h + 4) (by omega)]; exact qo h hh
    · intro h hh; rw [hq (25 + 8 * h + 2) (by omega), hq (25 + 8 * h + 3) (by omega)]; exact qol h hh
    · intro h t hh ht; rw [hq (25 + 8 * h + 4) (by omega), hq (153 + 2 * t + 1) (by omega)]; exact qhp h t hh ht
    · rw [hq (9) (by omega)]; exact qht
    · rw [hq (5) (by omega)]; exact qrm
    · rw [hq (6) (by omega)]; exact qgn
    · rw [hq (7) (by omega)]; exact qqt
    · intro h hh; rw [hq (21 + h) (by omega)]; exact qop h hh
  have Rn : hy_RC 11 M' q' := by
    unfold hy_RC
    rw [eg, el, ep, et]
    refine ⟨?_, ?_, ?_, ?_, ?_, ?_, ?_, ?_, ?_, ?_, ?_, ?_, ?_, ?_⟩
    · exact ⟨by rw [hM 11 (by omega), hq (8) (by omega)]; exact s1, by rw [hM 11 (by omega), hq (9) (by omega)]; exact s2, by rw [hM 11 (by omega), hq (10) (by omega)]; exact s3, by rw [hM 11 (by omega), hq (5) (by omega)]; exact s4, by rw [hM 11 (by omega), hq (6) (by omega)]; exact s5, by rw [hM 11 (by omega), hq (7) (by omega)]; exact s6⟩
    · intro h hh; rw [hM 24 (by omega), hq (12 + h) (by omega)]; exact ra h hh
    · intro h hh; rw [hM 12 (by omega), hq (21 + h) (by omega)]; exact ro h hh
    · intro h hh; rw [hM 13 (by omega), hq (25 + 8 * h + 2) (by omega)]; exact rp h hh
    · intro h hh; rw [hM 14 (by omega), hq (25 + 8 * h + 3) (by omega)]; exact rl h hh
    · intro h hh; rw [hM 15 (by omega), hq (25 + 8 * h + 4) (by omega)]; exact rt h hh
    · intro h hh
      by_cases e : h = g
      · subst e; rw [h16, hy_ss, hv0]
      · rw [h16, hy_so _ _ e, hq (25 + 8 * h + 5) (by omega)]; exact rs h hh
    · intro h hh; rw [hM 17 (by omega), hq (25 + 8 * h + 6) (by omega)]; exact rw' h hh
    · intro h hh; rw [hM 18 (by omega), hq (25 + 8 * h + 7) (by omega)]; exact rd h hh
    · intro h hh; rw [hM 20 (by omega), hq (153 + 2 * h) (by omega)]; exact rwt h hh
    · intro h hh; rw [hM 21 (by omega), hq (153 + 2 * h + 1) (by omega)]; exact rpg h hh
    · intro h hh; rw [hM 19 (by omega), kpr_fk, eg, fk_cg (f := fun i => q (25 + 8 * i + 3)) h (fun i hi => hq (25 + 8 * i + 3) (by omega))]; exact rk h hh
    · intro h hh; rw [hM 22 (by omega), hld_fk, eg, fk_cg (f := fun i => q (25 + 8 * i + 4)) h (fun i hi => hq (25 + 8 * i + 4) (by omega))]; exact rh h hh
    · intro h hh; rw [hM 23 (by omega), tw_fk, et, fk_cg (f := fun i => q (153 + 2 * i + 1)) h (fun i hi => hq (153 + 2 * i + 1) (by omega))]; exact rtw h hh
  exact ⟨⟨Zn, Hn, Rn⟩, Qn, fun k hk => by rw [hq (k) (by omega)]; exact hX k hk⟩
theorem p_wrn {M M' : hz_M} {q q' : Nat → Int32} {g k : Nat} (W : hy_W M q) (hg : g < gz q) (hk : k ≤ 2) (hM : ∀ a, a ≠ 17 → M' a = M a) (h17 : M' 17 = hy_st (M 17) (g) (nI k)) (hq : ∀ k, k ≠ 25 + 8 * g + 6 → q' k = q k) (hv0 : q' (25 + 8 * g + 6) = nI k) : hy_W M' q' := by
  obtain ⟨hC, hQ, hX⟩ := W
  have hC0 := hC
  obtain ⟨hZ, ⟨b3, b4, b5, b6, b7, b8, bag, bnm⟩, hRR⟩ := hC
  have hZ0 := hZ
  obtain ⟨⟨s1, s2, s3, s4, s5, s6⟩, ra, ro, rp, rl, rt, rs, rw', rd, rwt, rpg, rk, rh, rtw⟩ := c_rows hRR
  obtain ⟨⟨z1, z2⟩, ⟨z3, z4, z5⟩, ⟨z6, z7, z8⟩, ⟨z9, z10⟩, ⟨z11, z12, z13⟩, ⟨z14, z15, z16⟩⟩ := hZ
  rw [z1] at b3; rw [z3] at b4; rw [z6] at b5; rw [z9] at b6; rw [z11] at b7; rw [z14] at b8
  obtain ⟨qa, qat, ql, qh, qs, qw, qwt, qpg, jl, jh, jp, qo, qol, qhp, qht, qrm, qgn, qqt, qop⟩ := hQ
  have e11 : q' 11 = q 11 := hq (11) (by omega)
  have e0 : q' 0 = q 0 := hq (0) (by omega)
  have e1 : q' 1 = q 1 := hq (1) (by omega)
  have e2 : q' 2 = q 2 := hq (2) (by omega)
  have e3 : q' 3 = q 3 := hq (3) (by omega)
  have e4 : q' 4 = q 4 := hq (4) (by omega)
  have eg : gz q' = gz q := by unfold gz; rw [e11]
  have el : lz q' = lz q := by unfold lz; rw [e0]
  have ep : pz q' = pz q := by unfold pz; rw [e1]
  have et : tz q' = tz q := by unfold tz; rw [e2]
  have ev : vz q' = vz q := by unfold vz; rw [e3]
  have es : sz q' = sz q := by unfold sz; rw [e4]
  have Zn : hy_Z q' := by
    unfold hy_Z
    rw [e11, e0, e1, e2, e3, e4, eg, el, ep, et, ev, es]
    exact hZ0
  have Hn : hy_Ho M' q' := by
    unfold hy_Ho nmd
    rw [e11, e0, e1, e2, e3, e4, hM 1 (by omega), hM 2 (by omega), hM 3 (by omega), hM 4 (by omega), eg]
    refine ⟨by rw [b3, z1], by rw [b4, z3], by rw [b5, z6], by rw [b6, z9], by rw [b7, z11], by rw [b8, z14], fun h hh => ?_, fun h hh => ?_⟩
    · rw [hq (25 + 8 * h + 1) (by omega)]; exact bag h hh
    · rw [hq (25 + 8 * h) (by omega)]; exact bnm h hh
  have Qn : hy_Q q' := by
    unfold hy_Q
    rw [eg, el, ep, et, es]
    refine ⟨?_, ?_, ?_, ?_, ?_, ?_, ?_, ?_, ?_, ?_, ?_, ?_, ?_, ?_, ?_, ?_, ?_, ?_, ?_⟩
    · intro h hh; rw [hq (25 + 8 * h + 1) (by omega)]; exact qa h hh
    · intro h hh; rw [hq (25 + 8 * h + 2) (by omega)]; exact qat h hh
    · intro h hh; rw [hq (25 + 8 * h + 3) (by omega)]; exact ql h hh
    · intro h hh; rw [hq (25 + 8 * h + 4) (by omega)]; exact qh h hh
    · intro h hh; rw [hq (25 + 8 * h + 5) (by omega)]; exact qs h hh
    · intro h hh
      by_cases e : h = g
      · subst e; exact ⟨k, hk, hv0⟩
      · rw [hq (25 + 8 * h + 6) (by omega)]; exact qw h hh
    · intro h hh; rw [hq (153 + 2 * h) (by omega)]; exact qwt h hh
    · intro h hh; rw [hq (153 + 2 * h + 1) (by omega)]; exact qpg h hh
    · intro h i hh hi; rw [hq (25 + 8 * h + 3) (by omega), hq (25 + 8 * i + 3) (by omega)]; exact jl h i hh hi
    · intro h i hh hi; rw [hq (25 + 8 * h + 4) (by omega), hq (25 + 8 * i + 4) (by omega)]; exact jh h i hh hi
    · intro h i hh hi; rw [hq (153 + 2 * h + 1) (by omega), hq (153 + 2 * i + 1) (by omega)]; exact jp h i hh hi
    · intro h hh; rw [hq (25 + 8 * h + 2) (by omega), hq (25 + 8 * h + 3) (by omega), hq (25 + 8 * h + 4) (by omega)]; exact qo h hh
    · intro h hh; rw [hq (25 + 8 * h + 2) (by omega), hq (25 + 8 * h + 3) (by omega)]; exact qol h hh
    · intro h t hh ht; rw [hq (25 + 8 * h + 4) (by omega), hq (153 + 2 * t + 1) (by omega)]; exact qhp h t hh ht
    · rw [hq (9) (by omega)]; exact qht
    · rw [hq (5) (by omega)]; exact qrm
    · rw [hq (6) (by omega)]; exact qgn
    · rw [hq (7) (by omega)]; exact qqt
    · intro h hh; rw [hq (21 + h) (by omega)]; exact qop h hh
  have Rn : hy_RC 11 M' q' := by
    unfold hy_RC
    rw [eg, el, ep, et]
    refine ⟨?_, ?_, ?_, ?_, ?_, ?_, ?_, ?_, ?_, ?_, ?_, ?_, ?_, ?_⟩
    · exact ⟨by rw [hM 11 (by omega), hq (8) (by omega)]; exact s1, by rw [hM 11 (by omega), hq (9) (by omega)]; exact s2, by rw [hM 11 (by omega), hq (10) (by omega)]; exact s3, by rw [hM 11 (by omega), hq (5) (by omega)]; exact s4, by rw [hM 11 (by omega), hq (6) (by omega)]; exact s5, by rw [hM 11 (by omega), hq (7) (by omega)]; exact s6⟩
    · intro h hh; rw [hM 24 (by omega), hq (12 + h) (by omega)]; exact ra h hh
    · intro h hh; rw [hM 12 (by omega), hq (21 + h) (by omega)]; exact ro h hh
    · intro h hh; rw [hM 13 (by omega), hq (25 + 8 * h + 2) (by omega)]; exact rp h hh
    · intro h hh; rw [hM 14 (by omega), hq (25 + 8 * h + 3) (by omega)]; exact rl h hh
    · intro h hh; rw [hM 15 (by omega), hq (25 + 8 * h + 4) (by omega)]; exact rt h hh
    · intro h hh; rw [hM 16 (by omega), hq (25 + 8 * h + 5) (by omega)]; exact rs h hh
    · intro h hh
      by_cases e : h = g
      · subst e; rw [h17, hy_ss, hv0]
      · rw [h17, hy_so _ _ e, hq (25 + 8 * h + 6) (by omega)]; exact rw' h hh
    · intro h hh; rw [hM 18 (by omega), hq (25 + 8 * h + 7) (by omega)]; exact rd h hh
    · intro h hh; rw [hM 20 (by omega), hq (153 + 2 * h) (by omega)]; exact rwt h hh
    · intro h hh; rw [hM 21 (by omega), hq (153 + 2 * h + 1) (by omega)]; exact rpg h hh
    · intro h hh; rw [hM 19 (by omega), kpr_fk, eg, fk_cg (f := fun i => q (25 + 8 * i + 3)) h (fun i hi => hq (25 + 8 * i + 3) (by omega))]; exact rk h hh
    · intro h hh; rw [hM 22 (by omega), hld_fk, eg, fk_cg (f := fun i => q (25 + 8 * i + 4)) h (fun i hi => hq (25 + 8 * i + 4) (by omega))]; exact rh h hh
    · intro h hh; rw [hM 23 (by omega), tw_fk, et, fk_cg (f := fun i => q (153 + 2 * i + 1)) h (fun i hi => hq (153 + 2 * i + 1) (by omega))]; exact rtw h hh
  exact ⟨⟨Zn, Hn, Rn⟩, Qn, fun k hk => by rw [hq (k) (by omega)]; exact hX k hk⟩
theorem p_sent {M M' : hz_M} {q q' : Nat → Int32} {g : Nat} {v : Int32} (W : hy_W M q) (hg : g < gz q) (hM : ∀ a, a ≠ 18 → M' a = M a) (h18 : M' 18 = hy_st (M 18) (g) (v)) (hq : ∀ k, k ≠ 25 + 8 * g + 7 → q' k = q k) (hv0 : q' (25 + 8 * g + 7) = v) : hy_W M' q' := by
  obtain ⟨hC, hQ, hX⟩ := W
  have hC0 := hC
  obtain ⟨hZ, ⟨b3, b4, b5, b6, b7, b8, bag, bnm⟩, hRR⟩ := hC
  have hZ0 := hZ
  obtain ⟨⟨s1, s2, s3, s4, s5, s6⟩, ra, ro, rp, rl, rt, rs, rw', rd, rwt, rpg, rk, rh, rtw⟩ := c_rows hRR
  obtain ⟨⟨z1, z2⟩, ⟨z3, z4, z5⟩, ⟨z6, z7, z8⟩, ⟨z9, z10⟩, ⟨z11, z12, z13⟩, ⟨z14, z15, z16⟩⟩ := hZ
  rw [z1] at b3; rw [z3] at b4; rw [z6] at b5; rw [z9] at b6; rw [z11] at b7; rw [z14] at b8
  obtain ⟨qa, qat, ql, qh, qs, qw, qwt, qpg, jl, jh, jp, qo, qol, qhp, qht, qrm, qgn, qqt, qop⟩ := hQ
  have e11 : q' 11 = q 11 := hq (11) (by omega)
  have e0 : q' 0 = q 0 := hq (0) (by omega)
  have e1 : q' 1 = q 1 := hq (1) (by omega)
  have e2 : q' 2 = q 2 := hq (2) (by omega)
  have e3 : q' 3 = q 3 := hq (3) (by omega)
  have e4 : q' 4 = q 4 := hq (4) (by omega)
  have eg : gz q' = gz q := by unfold gz; rw [e11]
  have el : lz q' = lz q := by unfold lz; rw [e0]
  have ep : pz q' = pz q := by unfold pz; rw [e1]
  have et : tz q' = tz q := by unfold tz; rw [e2]
  have ev : vz q' = vz q := by unfold vz; rw [e3]
  have es : sz q' = sz q := by unfold sz; rw [e4]
  have Zn : hy_Z q' := by
    unfold hy_Z
    rw [e11, e0, e1, e2, e3, e4, eg, el, ep, et, ev, es]
    exact hZ0
  have Hn : hy_Ho M' q' := by
    unfold hy_Ho nmd
    rw [e11, e0, e1, e2, e3, e4, hM 1 (by omega), hM 2 (by omega), hM 3 (by omega), hM 4 (by omega), eg]
    refine ⟨by rw [b3, z1], by rw [b4, z3], by rw [b5, z6], by rw [b6, z9], by rw [b7, z11], by rw [b8, z14], fun h hh => ?_, fun h hh => ?_⟩
    · rw [hq (25 + 8 * h + 1) (by omega)]; exact bag h hh
    · rw [hq (25 + 8 * h) (by omega)]; exact bnm h hh
  have Qn : hy_Q q' := by
    unfold hy_Q
    rw [eg, el, ep, et, es]
    refine ⟨?_, ?_, ?_, ?_, ?_, ?_, ?_, ?_, ?_, ?_, ?_, ?_, ?_, ?_, ?_, ?_, ?_, ?_, ?_⟩
    · intro h hh; rw [hq (25 + 8 * h + 1) (by omega)]; exact qa h hh
    · intro h hh; rw [hq (25 + 8 * h + 2) (by omega)]; exact qat h hh
    · intro h hh; rw [hq (25 + 8 * h + 3) (by omega)]; exact ql h hh
    · intro h hh; rw [hq (25 + 8 * h + 4) (by omega)]; exact qh h hh
    · intro h hh; rw [hq (25 + 8 * h + 5) (by omega)]; exact qs h hh
    · intro h hh; rw [hq (25 + 8 * h + 6) (by omega)]; exact qw h hh
    · intro h hh; rw [hq (153 + 2 * h) (by omega)]; exact qwt h hh
    · intro h hh; rw [hq (153 + 2 * h + 1) (by omega)]; exact qpg h hh
    · intro h i hh hi; rw [hq (25 + 8 * h + 3) (by omega), hq (25 + 8 * i + 3) (by omega)]; exact jl h i hh hi
    · intro h i hh hi; rw [hq (25 + 8 * h + 4) (by omega), hq (25 + 8 * i + 4) (by omega)]; exact jh h i hh hi
    · intro h i hh hi; rw [hq (153 + 2 * h + 1) (by omega), hq (153 + 2 * i + 1) (by omega)]; exact jp h i hh hi
    · intro h hh; rw [hq (25 + 8 * h + 2) (by omega), hq (25 + 8 * h + 3) (by omega), hq (25 + 8 * h + 4) (by omega)]; exact qo h hh
    · intro h hh; rw [hq (25 + 8 * h + 2) (by omega), hq (25 + 8 * h + 3) (by omega)]; exact qol h hh
    · intro h t hh ht; rw [hq (25 + 8 * h + 4) (by omega), hq (153 + 2 * t + 1) (by omega)]; exact qhp h t hh ht
    · rw [hq (9) (by omega)]; exact qht
    · rw [hq (5) (by omega)]; exact qrm
    · rw [hq (6) (by omega)]; exact qgn
    · rw [hq (7) (by omega)]; exact qqt
    · intro h hh; rw [hq (21 + h) (by omega)]; exact qop h hh
  have Rn : hy_RC 11 M' q' := by
    unfold hy_RC
    rw [eg, el, ep, et]
    refine ⟨?_, ?_, ?_, ?_, ?_, ?_, ?_, ?_, ?_, ?_, ?_, ?_, ?_, ?_⟩
    · exact ⟨by rw [hM 11 (by omega), hq (8) (by omega)]; exact s1, by rw [hM 11 (by omega), hq (9) (by omega)]; exact s2, by rw [hM 11 (by omega), hq (10) (by omega)]; exact s3, by rw [hM 11 (by omega), hq (5) (by omega)]; exact s4, by rw [hM 11 (by omega), hq (6) (by omega)]; exact s5, by rw [hM 11 (by omega), hq (7) (by omega)]; exact s6⟩
    · intro h hh; rw [hM 24 (by omega), hq (12 + h) (by omega)]; exact ra h hh
    · intro h hh; rw [hM 12 (by omega), hq (21 + h) (by omega)]; exact ro h hh
    · intro h hh; rw [hM 13 (by omega), hq (25 + 8 * h + 2) (by omega)]; exact rp h hh
    · intro h hh; rw [hM 14 (by omega), hq (25 + 8 * h + 3) (by omega)]; exact rl h hh
    · intro h hh; rw [hM 15 (by omega), hq (25 + 8 * h + 4) (by omega)]; exact rt h hh
    · intro h hh; rw [hM 16 (by omega), hq (25 + 8 * h + 5) (by omega)]; exact rs h hh
    · intro h hh; rw [hM 17 (by omega), hq (25 + 8 * h + 6) (by omega)]; exact rw' h hh
    · intro h hh
      by_cases e : h = g
      · subst e; rw [h18, hy_ss, hv0]
      · rw [h18, hy_so _ _ e, hq (25 + 8 * h + 7) (by omega)]; exact rd h hh
    · intro h hh; rw [hM 20 (by omega), hq (153 + 2 * h) (by omega)]; exact rwt h hh
    · intro h hh; rw [hM 21 (by omega), hq (153 + 2 * h + 1) (by omega)]; exact rpg h hh
    · intro h hh; rw [hM 19 (by omega), kpr_fk, eg, fk_cg (f := fun i => q (25 + 8 * i + 3)) h (fun i hi => hq (25 + 8 * i + 3) (by omega))]; exact rk h hh
    · intro h hh; rw [hM 22 (by omega), hld_fk, eg, fk_cg (f := fun i => q (25 + 8 * i + 4)) h (fun i hi => hq (25 + 8 * i + 4) (by omega))]; exact rh h hh
    · intro h hh; rw [hM 23 (by omega), tw_fk, et, fk_cg (f := fun i => q (153 + 2 * i + 1)) h (fun i hi => hq (153 + 2 * i + 1) (by omega))]; exact rtw h hh
  exact ⟨⟨Zn, Hn, Rn⟩, Qn, fun k hk => by rw [hq (k) (by omega)]; exact hX k hk⟩
theorem p_acc {M M' : hz_M} {q q' : Nat → Int32} {g : Nat} {v : Int32} (W : hy_W M q) (hg : g < 9) (hM : ∀ a, a ≠ 24 → M' a = M a) (h24 : M' 24 = hy_st (M 24) (g) (v)) (hq : ∀ k, k ≠ 12 + g → q' k = q k) (hv0 : q' (12 + g) = v) : hy_W M' q' := by
  obtain ⟨hC, hQ, hX⟩ := W
  have hC0 := hC
  obtain ⟨hZ, ⟨b3, b4, b5, b6, b7, b8, bag, bnm⟩, hRR⟩ := hC
  have hZ0 := hZ
  obtain ⟨⟨s1, s2, s3, s4, s5, s6⟩, ra, ro, rp, rl, rt, rs, rw', rd, rwt, rpg, rk, rh, rtw⟩ := c_rows hRR
  obtain ⟨⟨z1, z2⟩, ⟨z3, z4, z5⟩, ⟨z6, z7, z8⟩, ⟨z9, z10⟩, ⟨z11, z12, z13⟩, ⟨z14, z15, z16⟩⟩ := hZ
  rw [z1] at b3; rw [z3] at b4; rw [z6] at b5; rw [z9] at b6; rw [z11] at b7; rw [z14] at b8
  obtain ⟨qa, qat, ql, qh, qs, qw, qwt, qpg, jl, jh, jp, qo, qol, qhp, qht, qrm, qgn, qqt, qop⟩ := hQ
  have e11 : q' 11 = q 11 := hq (11) (by omega)
  have e0 : q' 0 = q 0 := hq (0) (by omega)
  have e1 : q' 1 = q 1 := hq (1) (by omega)
  have e2 : q' 2 = q 2 := hq (2) (by omega)
  have e3 : q' 3 = q 3 := hq (3) (by omega)
  have e4 : q' 4 = q 4 := hq (4) (by omega)
  have eg : gz q' = gz q := by unfold gz; rw [e11]
  have el : lz q' = lz q := by unfold lz; rw [e0]
  have ep : pz q' = pz q := by unfold pz; rw [e1]
  have et : tz q' = tz q := by unfold tz; rw [e2]
  have ev : vz q' = vz q := by unfold vz; rw [e3]
  have es : sz q' = sz q := by unfold sz; rw [e4]
  have Zn : hy_Z q' := by
    unfold hy_Z
    rw [e11, e0, e1, e2, e3, e4, eg, el, ep, et, ev, es]
    exact hZ0
  have Hn : hy_Ho M' q' := by
    unfold hy_Ho nmd
    rw [e11, e0, e1, e2, e3, e4, hM 1 (by omega), hM 2 (by omega), hM 3 (by omega), hM 4 (by omega), eg]
    refine ⟨by rw [b3, z1], by rw [b4, z3], by rw [b5, z6], by rw [b6, z9], by rw [b7, z11], by rw [b8, z14], fun h hh => ?_, fun h hh => ?_⟩
    · rw [hq (25 + 8 * h + 1) (by omega)]; exact bag h hh
    · rw [hq (25 + 8 * h) (by omega)]; exact bnm h hh
  have Qn : hy_Q q' := by
    unfold hy_Q
    rw [eg, el, ep, et, es]
    refine ⟨?_, ?_, ?_, ?_, ?_, ?_, ?_, ?_, ?_, ?_, ?_, ?_, ?_, ?_, ?_, ?_, ?_, ?_, ?_⟩
    · intro h hh; rw [hq (25 + 8 * h + 1) (by omega)]; exact qa h hh
    · intro h hh; rw [hq (25 + 8 * h + 2) (by omega)]; exact qat h hh
    · intro h hh; rw [hq (25 + 8 * h + 3) (by omega)]; exact ql h hh
    · intro h hh; rw [hq (25 + 8 * h + 4) (by omega)]; exact qh h hh
    · intro h hh; rw [hq (25 + 8 * h + 5) (by omega)]; exact qs h hh
    · intro h hh; rw [hq (25 + 8 * h + 6) (by omega)]; exact qw h hh
    · intro h hh; rw [hq (153 + 2 * h) (by omega)]; exact qwt h hh
    · intro h hh; rw [hq (153 + 2 * h + 1) (by omega)]; exact qpg h hh
    · intro h i hh hi; rw [hq (25 + 8 * h + 3) (by omega), hq (25 + 8 * i + 3) (by omega)]; exact jl h i hh hi
    · intro h i hh hi; rw [hq (25 + 8 * h + 4) (by omega), hq (25 + 8 * i + 4) (by omega)]; exact jh h i hh hi
    · intro h i hh hi; rw [hq (153 + 2 * h + 1) (by omega), hq (153 + 2 * i + 1) (by omega)]; exact jp h i hh hi
    · intro h hh; rw [hq (25 + 8 * h + 2) (by omega), hq (25 + 8 * h + 3) (by omega), hq (25 + 8 * h + 4) (by omega)]; exact qo h hh
    · intro h hh; rw [hq (25 + 8 * h + 2) (by omega), hq (25 + 8 * h + 3) (by omega)]; exact qol h hh
    · intro h t hh ht; rw [hq (25 + 8 * h + 4) (by omega), hq (153 + 2 * t + 1) (by omega)]; exact qhp h t hh ht
    · rw [hq (9) (by omega)]; exact qht
    · rw [hq (5) (by omega)]; exact qrm
    · rw [hq (6) (by omega)]; exact qgn
    · rw [hq (7) (by omega)]; exact qqt
    · intro h hh; rw [hq (21 + h) (by omega)]; exact qop h hh
  have Rn : hy_RC 11 M' q' := by
    unfold hy_RC
    rw [eg, el, ep, et]
    refine ⟨?_, ?_, ?_, ?_, ?_, ?_, ?_, ?_, ?_, ?_, ?_, ?_, ?_, ?_⟩
    · exact ⟨by rw [hM 11 (by omega), hq (8) (by omega)]; exact s1, by rw [hM 11 (by omega), hq (9) (by omega)]; exact s2, by rw [hM 11 (by omega), hq (10) (by omega)]; exact s3, by rw [hM 11 (by omega), hq (5) (by omega)]; exact s4, by rw [hM 11 (by omega), hq (6) (by omega)]; exact s5, by rw [hM 11 (by omega), hq (7) (by omega)]; exact s6⟩
    · intro h hh
      by_cases e : h = g
      · subst e; rw [h24, hy_ss, hv0]
      · rw [h24, hy_so _ _ e, hq (12 + h) (by omega)]; exact ra h hh
    · intro h hh; rw [hM 12 (by omega), hq (21 + h) (by omega)]; exact ro h hh
    · intro h hh; rw [hM 13 (by omega), hq (25 + 8 * h + 2) (by omega)]; exact rp h hh
    · intro h hh; rw [hM 14 (by omega), hq (25 + 8 * h + 3) (by omega)]; exact rl h hh
    · intro h hh; rw [hM 15 (by omega), hq (25 + 8 * h + 4) (by omega)]; exact rt h hh
    · intro h hh; rw [hM 16 (by omega), hq (25 + 8 * h + 5) (by omega)]; exact rs h hh
    · intro h hh; rw [hM 17 (by omega), hq (25 + 8 * h + 6) (by omega)]; exact rw' h hh
    · intro h hh; rw [hM 18 (by omega), hq (25 + 8 * h + 7) (by omega)]; exact rd h hh
    · intro h hh; rw [hM 20 (by omega), hq (153 + 2 * h) (by omega)]; exact rwt h hh
    · intro h hh; rw [hM 21 (by omega), hq (153 + 2 * h + 1) (by omega)]; exact rpg h hh
    · intro h hh; rw [hM 19 (by omega), kpr_fk, eg, fk_cg (f := fun i => q (25 + 8 * i + 3)) h (fun i hi => hq (25 + 8 * i + 3) (by omega))]; exact rk h hh
    · intro h hh; rw [hM 22 (by omega), hld_fk, eg, fk_cg (f := fun i => q (25 + 8 * i + 4)) h (fun i hi => hq (25 + 8 * i + 4) (by omega))]; exact rh h hh
    · intro h hh; rw [hM 23 (by omega), tw_fk, et, fk_cg (f := fun i => q (153 + 2 * i + 1)) h (fun i hi => hq (153 + 2 * i + 1) (by omega))]; exact rtw h hh
  exact ⟨⟨Zn, Hn, Rn⟩, Qn, fun k hk => by rw [hq (k) (by omega)]; exact hX k hk⟩
theorem p_wet {M M' : hz_M} {q q' : Nat → Int32} {g k : Nat} (W : hy_W M q) (hg : g < tz q) (hk : k ≤ 9) (hM : ∀ a, a ≠ 20 → M' a = M a) (h20 : M' 20 = hy_st (M 20) (g) (nI k)) (hq : ∀ k, k ≠ 153 + 2 * g → q' k = q k) (hv0 : q' (153 + 2 * g) = nI k) : hy_W M' q' := by
  obtain ⟨hC, hQ, hX⟩ := W
  have hC0 := hC
  obtain ⟨hZ, ⟨b3, b4, b5, b6, b7, b8, bag, bnm⟩, hRR⟩ := hC
  have hZ0 := hZ
  obtain ⟨⟨s1, s2, s3, s4, s5, s6⟩, ra, ro, rp, rl, rt, rs, rw', rd, rwt, rpg, rk, rh, rtw⟩ := c_rows hRR
  obtain ⟨⟨z1, z2⟩, ⟨z3, z4, z5⟩, ⟨z6, z7, z8⟩, ⟨z9, z10⟩, ⟨z11, z12, z13⟩, ⟨z14, z15, z16⟩⟩ := hZ
  rw [z1] at b3; rw [z3] at b4; rw [z6] at b5; rw [z9] at b6; rw [z11] at b7; rw [z14] at b8
  obtain ⟨qa, qat, ql, qh, qs, qw, qwt, qpg, jl, jh, jp, qo, qol, qhp, qht, qrm, qgn, qqt, qop⟩ := hQ
  have e11 : q' 11 = q 11 := hq (11) (by omega)
  have e0 : q' 0 = q 0 := hq (0) (by omega)
  have e1 : q' 1 = q 1 := hq (1) (by omega)
  have e2 : q' 2 = q 2 := hq (2) (by omega)
  have e3 : q' 3 = q 3 := hq (3) (by omega)
  have e4 : q' 4 = q 4 := hq (4) (by omega)
  have eg : gz q' = gz q := by unfold gz; rw [e11]
  have el : lz q' = lz q := by unfold lz; rw [e0]
  have ep : pz q' = pz q := by unfold pz; rw [e1]
  have et : tz q' = tz q := by unfold tz; rw [e2]
  have ev : vz q' = vz q := by unfold vz; rw [e3]
  have es : sz q' = sz q := by unfold sz; rw [e4]
  have Zn : hy_Z q' := by
    unfold hy_Z
    rw [e11, e0, e1, e2, e3, e4, eg, el, ep, et, ev, es]
    exact hZ0
  have Hn : hy_Ho M' q' := by
    unfold hy_Ho nmd
    rw [e11, e0, e1, e2, e3, e4, hM 1 (by omega), hM 2 (by omega), hM 3 (by omega), hM 4 (by omega), eg]
    refine ⟨by rw [b3, z1], by rw [b4, z3], by rw [b5, z6], by rw [b6, z9], by rw [b7, z11], by rw [b8, z14], fun h hh => ?_, fun h hh => ?_⟩
    · rw [hq (25 + 8 * h + 1) (by omega)]; exact bag h hh
    · rw [hq (25 + 8 * h) (by omega)]; exact bnm h hh
  have Qn : hy_Q q' := by
    unfold hy_Q
    rw [eg, el, ep, et, es]
    refine ⟨?_, ?_, ?_, ?_, ?_, ?_, ?_, ?_, ?_, ?_, ?_, ?_, ?_, ?_, ?_, ?_, ?_, ?_, ?_⟩
    · intro h hh; rw [hq (25 + 8 * h + 1) (by omega)]; exact qa h hh
    · intro h hh; rw [hq (25 + 8 * h + 2) (by omega)]; exact qat h hh
    · intro h hh; rw [hq (25 + 8 * h + 3) (by omega)]; exact ql h hh
    · intro h hh; rw [hq (25 + 8 * h + 4) (by omega)]; exact qh h hh
    · intro h hh; rw [hq (25 + 8 * h + 5) (by omega)]; exact qs h hh
    · intro h hh; rw [hq (25 + 8 * h + 6) (by omega)]; exact qw h hh
    · intro h hh
      by_cases e : h = g
      · subst e; exact ⟨k, hk, hv0⟩
      · rw [hq (153 + 2 * h) (by omega)]; exact qwt h hh
    · intro h hh; rw [hq (153 + 2 * h + 1) (by omega)]; exact qpg h hh
    · intro h i hh hi; rw [hq (25 + 8 * h + 3) (by omega), hq (25 + 8 * i + 3) (by omega)]; exact jl h i hh hi
    · intro h i hh hi; rw [hq (25 + 8 * h + 4) (by omega), hq (25 + 8 * i + 4) (by omega)]; exact jh h i hh hi
    · intro h i hh hi; rw [hq (153 + 2 * h + 1) (by omega), hq (153 + 2 * i + 1) (by omega)]; exact jp h i hh hi
    · intro h hh; rw [hq (25 + 8 * h + 2) (by omega), hq (25 + 8 * h + 3) (by omega), hq (25 + 8 * h + 4) (by omega)]; exact qo h hh
    · intro h hh; rw [hq (25 + 8 * h + 2) (by omega), hq (25 + 8 * h + 3) (by omega)]; exact qol h hh
    · intro h t hh ht; rw [hq (25 + 8 * h + 4) (by omega), hq (153 + 2 * t + 1) (by omega)]; exact qhp h t hh ht
    · rw [hq (9) (by omega)]; exact qht
    · rw [hq (5) (by omega)]; exact qrm
    · rw [hq (6) (by omega)]; exact qgn
    · rw [hq (7) (by omega)]; exact qqt
    · intro h hh; rw [hq (21 + h) (by omega)]; exact qop h hh
  have Rn : hy_RC 11 M' q' := by
    unfold hy_RC
    rw [eg, el, ep, et]
    refine ⟨?_, ?_, ?_, ?_, ?_, ?_, ?_, ?_, ?_, ?_, ?_, ?_, ?_, ?_⟩
    · exact ⟨by rw [hM 11 (by omega), hq (8) (by omega)]; exact s1, by rw [hM 11 (by omega), hq (9) (by omega)]; exact s2, by rw [hM 11 (by omega), hq (10) (by omega)]; exact s3, by rw [hM 11 (by omega), hq (5) (by omega)]; exact s4, by rw [hM 11 (by omega), hq (6) (by omega)]; exact s5, by rw [hM 11 (by omega), hq (7) (by omega)]; exact s6⟩
    · intro h hh; rw [hM 24 (by omega), hq (12 + h) (by omega)]; exact ra h hh
    · intro h hh; rw [hM 12 (by omega), hq (21 + h) (by omega)]; exact ro h hh
    · intro h hh; rw [hM 13 (by omega), hq (25 + 8 * h + 2) (by omega)]; exact rp h hh
    · intro h hh; rw [hM 14 (by omega), hq (25 + 8 * h + 3) (by omega)]; exact rl h hh
    · intro h hh; rw [hM 15 (by omega), hq (25 + 8 * h + 4) (by omega)]; exact rt h hh
    · intro h hh; rw [hM 16 (by omega), hq (25 + 8 * h + 5) (by omega)]; exact rs h hh
    · intro h hh; rw [hM 17 (by omega), hq (25 + 8 * h + 6) (by omega)]; exact rw' h hh
    · intro h hh; rw [hM 18 (by omega), hq (25 + 8 * h + 7) (by omega)]; exact rd h hh
    · intro h hh
      by_cases e : h = g
      · subst e; rw [h20, hy_ss, hv0]
      · rw [h20, hy_so _ _ e, hq (153 + 2 * h) (by omega)]; exact rwt h hh
    · intro h hh; rw [hM 21 (by omega), hq (153 + 2 * h + 1) (by omega)]; exact rpg h hh
    · intro h hh; rw [hM 19 (by omega), kpr_fk, eg, fk_cg (f := fun i => q (25 + 8 * i + 3)) h (fun i hi => hq (25 + 8 * i + 3) (by omega))]; exact rk h hh
    · intro h hh; rw [hM 22 (by omega), hld_fk, eg, fk_cg (f := fun i => q (25 + 8 * i + 4)) h (fun i hi => hq (25 + 8 * i + 4) (by omega))]; exact rh h hh
    · intro h hh; rw [hM 23 (by omega), tw_fk, et, fk_cg (f := fun i => q (153 + 2 * i + 1)) h (fun i hi => hq (153 + 2 * i + 1) (by omega))]; exact rtw h hh
  exact ⟨⟨Zn, Hn, Rn⟩, Qn, fun k hk => by rw [hq (k) (by omega)]; exact hX k hk⟩
theorem p_open {M M' : hz_M} {q q' : Nat → Int32} {g k : Nat} (W : hy_W M q) (hg : g < 4) (hk : k ≤ 9) (hM : ∀ a, a ≠ 12 → M' a = M a) (h12 : M' 12 = hy_st (M 12) (g) (nI k)) (hq : ∀ k, k ≠ 21 + g → q' k = q k) (hv0 : q' (21 + g) = nI k) : hy_W M' q' := by
  obtain ⟨hC, hQ, hX⟩ := W
  have hC0 := hC
  obtain ⟨hZ, ⟨b3, b4, b5, b6, b7, b8, bag, bnm⟩, hRR⟩ := hC
  have hZ0 := hZ
  obtain ⟨⟨s1, s2, s3, s4, s5, s6⟩, ra, ro, rp, rl, rt, rs, rw', rd, rwt, rpg, rk, rh, rtw⟩ := c_rows hRR
  obtain ⟨⟨z1, z2⟩, ⟨z3, z4, z5⟩, ⟨z6, z7, z8⟩, ⟨z9, z10⟩, ⟨z11, z12, z13⟩, ⟨z14, z15, z16⟩⟩ := hZ
  rw [z1] at b3; rw [z3] at b4; rw [z6] at b5; rw [z9] at b6; rw [z11] at b7; rw [z14] at b8
  obtain ⟨qa, qat, ql, qh, qs, qw, qwt, qpg, jl, jh, jp, qo, qol, qhp, qht, qrm, qgn, qqt, qop⟩ := hQ
  have e11 : q' 11 = q 11 := hq (11) (by omega)
  have e0 : q' 0 = q 0 := hq (0) (by omega)
  have e1 : q' 1 = q 1 := hq (1) (by omega)
  have e2 : q' 2 = q 2 := hq (2) (by omega)
  have e3 : q' 3 = q 3 := hq (3) (by omega)
  have e4 : q' 4 = q 4 := hq (4) (by omega)
  have eg : gz q' = gz q := by unfold gz; rw [e11]
  have el : lz q' = lz q := by unfold lz; rw [e0]
  have ep : pz q' = pz q := by unfold pz; rw [e1]
  have et : tz q' = tz q := by unfold tz; rw [e2]
  have ev : vz q' = vz q := by unfold vz; rw [e3]
  have es : sz q' = sz q := by unfold sz; rw [e4]
  have Zn : hy_Z q' := by
    unfold hy_Z
    rw [e11, e0, e1, e2, e3, e4, eg, el, ep, et, ev, es]
    exact hZ0
  have Hn : hy_Ho M' q' := by
    unfold hy_Ho nmd
    rw [e11, e0, e1, e2, e3, e4, hM 1 (by omega), hM 2 (by omega), hM 3 (by omega), hM 4 (by omega), eg]
    refine ⟨by rw [b3, z1], by rw [b4, z3], by rw [b5, z6], by rw [b6, z9], by rw [b7, z11], by rw [b8, z14], fun h hh => ?_, fun h hh => ?_⟩
    · rw [hq (25 + 8 * h + 1) (by omega)]; exact bag h hh
    · rw [hq (25 + 8 * h) (by omega)]; exact bnm h hh
  have Qn : hy_Q q' := by
    unfold hy_Q
    rw [eg, el, ep, et, es]
    refine ⟨?_, ?_, ?_, ?_, ?_, ?_, ?_, ?_, ?_, ?_, ?_, ?_, ?_, ?_, ?_, ?_, ?_, ?_, ?_⟩
    · intro h hh; rw [hq (25 + 8 * h + 1) (by omega)]; exact qa h hh
    · intro h hh; rw [hq (25 + 8 * h + 2) (by omega)]; exact qat h hh
    · intro h hh; rw [hq (25 + 8 * h + 3) (by omega)]; exact ql h hh
    · intro h hh; rw [hq (25 + 8 * h + 4) (by omega)]; exact qh h hh
    · intro h hh; rw [hq (25 + 8 * h + 5) (by omega)]; exact qs h hh
    · intro h hh; rw [hq (25 + 8 * h + 6) (by omega)]; exact qw h hh
    · intro h hh; rw [hq (153 + 2 * h) (by omega)]; exact qwt h hh
    · intro h hh; rw [hq (153 + 2 * h + 1) (by omega)]; exact qpg h hh
    · intro h i hh hi; rw [hq (25 + 8 * h + 3) (by omega), hq (25 + 8 * i + 3) (by omega)]; exact jl h i hh hi
    · intro h i hh hi; rw [hq (25 + 8 * h + 4) (by omega), hq (25 + 8 * i + 4) (by omega)]; exact jh h i hh hi
    · intro h i hh hi; rw [hq (153 + 2 * h + 1) (by omega), hq (153 + 2 * i + 1) (by omega)]; exact jp h i hh hi
    · intro h hh; rw [hq (25 + 8 * h + 2) (by omega), hq (25 + 8 * h + 3) (by omega), hq (25 + 8 * h + 4) (by omega)]; exact qo h hh
    · intro h hh; rw [hq (25 + 8 * h + 2) (by omega), hq (25 + 8 * h + 3) (by omega)]; exact qol h hh
    · intro h t hh ht; rw [hq (25 + 8 * h + 4) (by omega), hq (153 + 2 * t + 1) (by omega)]; exact qhp h t hh ht
    · rw [hq (9) (by omega)]; exact qht
    · rw [hq (5) (by omega)]; exact qrm
    · rw [hq (6) (by omega)]; exact qgn
    · rw [hq (7) (by omega)]; exact qqt
    · intro h hh
      by_cases e : h = g
      · subst e; exact ⟨k, hk, hv0⟩
      · rw [hq (21 + h) (by omega)]; exact qop h hh
  have Rn : hy_RC 11 M' q' := by
    unfold hy_RC
    rw [eg, el, ep, et]
    refine ⟨?_, ?_, ?_, ?_, ?_, ?_, ?_, ?_, ?_, ?_, ?_, ?_, ?_, ?_⟩
    · exact ⟨by rw [hM 11 (by omega), hq (8) (by omega)]; exact s1, by rw [hM 11 (by omega), hq (9) (by omega)]; exact s2, by rw [hM 11 (by omega), hq (10) (by omega)]; exact s3, by rw [hM 11 (by omega), hq (5) (by omega)]; exact s4, by rw [hM 11 (by omega), hq (6) (by omega)]; exact s5, by rw [hM 11 (by omega), hq (7) (by omega)]; exact s6⟩
    · intro h hh; rw [hM 24 (by omega), hq (12 + h) (by omega)]; exact ra h hh
    · intro h hh
      by_cases e : h = g
      · subst e; rw [h12, hy_ss, hv0]
      · rw [h12, hy_so _ _ e, hq (21 + h) (by omega)]; exact ro h hh
    · intro h hh; rw [hM 13 (by omega), hq (25 + 8 * h + 2) (by omega)]; exact rp h hh
    · intro h hh; rw [hM 14 (by omega), hq (25 + 8 * h + 3) (by omega)]; exact rl h hh
    · intro h hh; rw [hM 15 (by omega), hq (25 + 8 * h + 4) (by omega)]; exact rt h hh
    · intro h hh; rw [hM 16 (by omega), hq (25 + 8 * h + 5) (by omega)]; exact rs h hh
    · intro h hh; rw [hM 17 (by omega), hq (25 + 8 * h + 6) (by omega)]; exact rw' h hh
    · intro h hh; rw [hM 18 (by omega), hq (25 + 8 * h + 7) (by omega)]; exact rd h hh
    · intro h hh; rw [hM 20 (by omega), hq (153 + 2 * h) (by omega)]; exact rwt h hh
    · intro h hh; rw [hM 21 (by omega), hq (153 + 2 * h + 1) (by omega)]; exact rpg h hh
    · intro h hh; rw [hM 19 (by omega), kpr_fk, eg, fk_cg (f := fun i => q (25 + 8 * i + 3)) h (fun i hi => hq (25 + 8 * i + 3) (by omega))]; exact rk h hh
    · intro h hh; rw [hM 22 (by omega), hld_fk, eg, fk_cg (f := fun i => q (25 + 8 * i + 4)) h (fun i hi => hq (25 + 8 * i + 4) (by omega))]; exact rh h hh
    · intro h hh; rw [hM 23 (by omega), tw_fk, et, fk_cg (f := fun i => q (153 + 2 * i + 1)) h (fun i hi => hq (153 + 2 * i + 1) (by omega))]; exact rtw h hh
  exact ⟨⟨Zn, Hn, Rn⟩, Qn, fun k hk => by rw [hq (k) (by omega)]; exact hX k hk⟩
theorem p_time {M M' : hz_M} {q q' : Nat → Int32} {v : Int32} (W : hy_W M q)  (hM : ∀ a, a ≠ 11 → M' a = M a) (h11 : ∀ k, k ≠ 14 → M' 11 k = M 11 k) (hf14 : M' 11 14 = v) (hq : ∀ k, k ≠ 8 → q' k = q k) (hv0 : q' (8) = v) : hy_W M' q' := by
  obtain ⟨hC, hQ, hX⟩ := W
  have hC0 := hC
  obtain ⟨hZ, ⟨b3, b4, b5, b6, b7, b8, bag, bnm⟩, hRR⟩ := hC
  have hZ0 := hZ
  obtain ⟨⟨s1, s2, s3, s4, s5, s6⟩, ra, ro, rp, rl, rt, rs, rw', rd, rwt, rpg, rk, rh, rtw⟩ := c_rows hRR
  obtain ⟨⟨z1, z2⟩, ⟨z3, z4, z5⟩, ⟨z6, z7, z8⟩, ⟨z9, z10⟩, ⟨z11, z12, z13⟩, ⟨z14, z15, z16⟩⟩ := hZ
  rw [z1] at b3; rw [z3] at b4; rw [z6] at b5; rw [z9] at b6; rw [z11] at b7; rw [z14] at b8
  obtain ⟨qa, qat, ql, qh, qs, qw, qwt, qpg, jl, jh, jp, qo, qol, qhp, qht, qrm, qgn, qqt, qop⟩ := hQ
  have e11 : q' 11 = q 11 := hq (11) (by omega)
  have e0 : q' 0 = q 0 := hq (0) (by omega)
  have e1 : q' 1 = q 1 := hq (1) (by omega)
  have e2 : q' 2 = q 2 := hq (2) (by omega)
  have e3 : q' 3 = q 3 := hq (3) (by omega)
  have e4 : q' 4 = q 4 := hq (4) (by omega)
  have eg : gz q' = gz q := by unfold gz; rw [e11]
  have el : lz q' = lz q := by unfold lz; rw [e0]
  have ep : pz q' = pz q := by unfold pz; rw [e1]
  have et : tz q' = tz q := by unfold tz; rw [e2]
  have ev : vz q' = vz q := by unfold vz; rw [e3]
  have es : sz q' = sz q := by unfold sz; rw [e4]
  have Zn : hy_Z q' := by
    unfold hy_Z
    rw [e11, e0, e1, e2, e3, e4, eg, el, ep, et, ev, es]
    exact hZ0
  have Hn : hy_Ho M' q' := by
    unfold hy_Ho nmd
    rw [e11, e0, e1, e2, e3, e4, hM 1 (by omega), hM 2 (by omega), hM 3 (by omega), hM 4 (by omega), eg]
    refine ⟨by rw [b3, z1], by rw [b4, z3], by rw [b5, z6], by rw [b6, z9], by rw [b7, z11], by rw [b8, z14], fun h hh => ?_, fun h hh => ?_⟩
    · rw [hq (25 + 8 * h + 1) (by omega)]; exact bag h hh
    · rw [hq (25 + 8 * h) (by omega)]; exact bnm h hh
  have Qn : hy_Q q' := by
    unfold hy_Q
    rw [eg, el, ep, et, es]
    refine ⟨?_, ?_, ?_, ?_, ?_, ?_, ?_, ?_, ?_, ?_, ?_, ?_, ?_, ?_, ?_, ?_, ?_, ?_, ?_⟩
    · intro h hh; rw [hq (25 + 8 * h + 1) (by omega)]; exact qa h hh
    · intro h hh; rw [hq (25 + 8 * h + 2) (by omega)]; exact qat h hh
    · intro h hh; rw [hq (25 + 8 * h + 3) (by omega)]; exact ql h hh
    · intro h hh; rw [hq (25 + 8 * h + 4) (by omega)]; exact qh h hh
    · intro h hh; rw [hq (25 + 8 * h + 5) (by omega)]; exact qs h hh
    · intro h hh; rw [hq (25 + 8 * h + 6) (by omega)]; exact qw h hh
    · intro h hh; rw [hq (153 + 2 * h) (by omega)]; exact qwt h hh
    · intro h hh; rw [hq (153 + 2 * h + 1) (by omega)]; exact qpg h hh
    · intro h i hh hi; rw [hq (25 + 8 * h + 3) (by omega), hq (25 + 8 * i + 3) (by omega)]; exact jl h i hh hi
    · intro h i hh hi; rw [hq (25 + 8 * h + 4) (by omega), hq (25 + 8 * i + 4) (by omega)]; exact jh h i hh hi
    · intro h i hh hi; rw [hq (153 + 2 * h + 1) (by omega), hq (153 + 2 * i + 1) (by omega)]; exact jp h i hh hi
    · intro h hh; rw [hq (25 + 8 * h + 2) (by omega), hq (25 + 8 * h + 3) (by omega), hq (25 + 8 * h + 4) (by omega)]; exact qo h hh
    · intro h hh; rw [hq (25 + 8 * h + 2) (by omega), hq (25 + 8 * h + 3) (by omega)]; exact qol h hh
    · intro h t hh ht; rw [hq (25 + 8 * h + 4) (by omega), hq (153 + 2 * t + 1) (by omega)]; exact qhp h t hh ht
    · rw [hq (9) (by omega)]; exact qht
    · rw [hq (5) (by omega)]; exact qrm
    · rw [hq (6) (by omega)]; exact qgn
    · rw [hq (7) (by omega)]; exact qqt
    · intro h hh; rw [hq (21 + h) (by omega)]; exact qop h hh
  have Rn : hy_RC 11 M' q' := by
    unfold hy_RC
    rw [eg, el, ep, et]
    refine ⟨?_, ?_, ?_, ?_, ?_, ?_, ?_, ?_, ?_, ?_, ?_, ?_, ?_, ?_⟩
    · exact ⟨by rw [hf14, hv0], by rw [h11 15 (by omega), hq (9) (by omega)]; exact s2, by rw [h11 16 (by omega), hq (10) (by omega)]; exact s3, by rw [h11 17 (by omega), hq (5) (by omega)]; exact s4, by rw [h11 18 (by omega), hq (6) (by omega)]; exact s5, by rw [h11 19 (by omega), hq (7) (by omega)]; exact s6⟩
    · intro h hh; rw [hM 24 (by omega), hq (12 + h) (by omega)]; exact ra h hh
    · intro h hh; rw [hM 12 (by omega), hq (21 + h) (by omega)]; exact ro h hh
    · intro h hh; rw [hM 13 (by omega), hq (25 + 8 * h + 2) (by omega)]; exact rp h hh
    · intro h hh; rw [hM 14 (by omega), hq (25 + 8 * h + 3) (by omega)]; exact rl h hh
    · intro h hh; rw [hM 15 (by omega), hq (25 + 8 * h + 4) (by omega)]; exact rt h hh
    · intro h hh; rw [hM 16 (by omega), hq (25 + 8 * h + 5) (by omega)]; exact rs h hh
    · intro h hh; rw [hM 17 (by omega), hq (25 + 8 * h + 6) (by omega)]; exact rw' h hh
    · intro h hh; rw [hM 18 (by omega), hq (25 + 8 * h + 7) (by omega)]; exact rd h hh
    · intro h hh; rw [hM 20 (by omega), hq (153 + 2 * h) (by omega)]; exact rwt h hh
    · intro h hh; rw [hM 21 (by omega), hq (153 + 2 * h + 1) (by omega)]; exact rpg h hh
    · intro h hh; rw [hM 19 (by omega), kpr_fk, eg, fk_cg (f := fun i => q (25 + 8 * i + 3)) h (fun i hi => hq (25 + 8 * i + 3) (by omega))]; exact rk h hh
    · intro h hh; rw [hM 22 (by omega), hld_fk, eg, fk_cg (f := fun i => q (25 + 8 * i + 4)) h (fun i hi => hq (25 + 8 * i + 4) (by omega))]; exact rh h hh
    · intro h hh; rw [hM 23 (by omega), tw_fk, et, fk_cg (f := fun i => q (153 + 2 * i + 1)) h (fun i hi => hq (153 + 2 * i + 1) (by omega))]; exact rtw h hh
  exact ⟨⟨Zn, Hn, Rn⟩, Qn, fun k hk => by rw [hq (k) (by omega)]; exact hX k hk⟩
theorem p_since {M M' : hz_M} {q q' : Nat → Int32} {v : Int32} (W : hy_W M q)  (hM : ∀ a, a ≠ 11 → M' a = M a) (h11 : ∀ k, k ≠ 16 → M' 11 k = M 11 k) (hf16 : M' 11 16 = v) (hq : ∀ k, k ≠ 10 → q' k = q k) (hv0 : q' (10) = v) : hy_W M' q' := by
  obtain ⟨hC, hQ, hX⟩ := W
  have hC0 := hC
  obtain ⟨hZ, ⟨b3, b4, b5, b6, b7, b8, bag, bnm⟩, hRR⟩ := hC
  have hZ0 := hZ
  obtain ⟨⟨s1, s2, s3, s4, s5, s6⟩, ra, ro, rp, rl, rt, rs, rw', rd, rwt, rpg, rk, rh, rtw⟩ := c_rows hRR
  obtain ⟨⟨z1, z2⟩, ⟨z3, z4, z5⟩, ⟨z6, z7, z8⟩, ⟨z9, z10⟩, ⟨z11, z12, z13⟩, ⟨z14, z15, z16⟩⟩ := hZ
  rw [z1] at b3; rw [z3] at b4; rw [z6] at b5; rw [z9] at b6; rw [z11] at b7; rw [z14] at b8
  obtain ⟨qa, qat, ql, qh, qs, qw, qwt, qpg, jl, jh, jp, qo, qol, qhp, qht, qrm, qgn, qqt, qop⟩ := hQ
  have e11 : q' 11 = q 11 := hq (11) (by omega)
  have e0 : q' 0 = q 0 := hq (0) (by omega)
  have e1 : q' 1 = q 1 := hq (1) (by omega)
  have e2 : q' 2 = q 2 := hq (2) (by omega)
  have e3 : q' 3 = q 3 := hq (3) (by omega)
  have e4 : q' 4 = q 4 := hq (4) (by omega)
  have eg : gz q' = gz q := by unfold gz; rw [e11]
  have el : lz q' = lz q := by unfold lz; rw [e0]
  have ep : pz q' = pz q := by unfold pz; rw [e1]
  have et : tz q' = tz q := by unfold tz; rw [e2]
  have ev : vz q' = vz q := by unfold vz; rw [e3]
  have es : sz q' = sz q := by unfold sz; rw [e4]
  have Zn : hy_Z q' := by
    unfold hy_Z
    rw [e11, e0, e1, e2, e3, e4, eg, el, ep, et, ev, es]
    exact hZ0
  have Hn : hy_Ho M' q' := by
    unfold hy_Ho nmd
    rw [e11, e0, e1, e2, e3, e4, hM 1 (by omega), hM 2 (by omega), hM 3 (by omega), hM 4 (by omega), eg]
    refine ⟨by rw [b3, z1], by rw [b4, z3], by rw [b5, z6], by rw [b6, z9], by rw [b7, z11], by rw [b8, z14], fun h hh => ?_, fun h hh => ?_⟩
    · rw [hq (25 + 8 * h + 1) (by omega)]; exact bag h hh
    · rw [hq (25 + 8 * h) (by omega)]; exact bnm h hh
  have Qn : hy_Q q' := by
    unfold hy_Q
    rw [eg, el, ep, et, es]
    refine ⟨?_, ?_, ?_, ?_, ?_, ?_, ?_, ?_, ?_, ?_, ?_, ?_, ?_, ?_, ?_, ?_, ?_, ?_, ?_⟩
    · intro h hh; rw [hq (25 + 8 * h + 1) (by omega)]; exact qa h hh
    · intro h hh; rw [hq (25 + 8 * h + 2) (by omega)]; exact qat h hh
    · intro h hh; rw [hq (25 + 8 * h + 3) (by omega)]; exact ql h hh
    · intro h hh; rw [hq (25 + 8 * h + 4) (by omega)]; exact qh h hh
    · intro h hh; rw [hq (25 + 8 * h + 5) (by omega)]; exact qs h hh
    · intro h hh; rw [hq (25 + 8 * h + 6) (by omega)]; exact qw h hh
    · intro h hh; rw [hq (153 + 2 * h) (by omega)]; exact qwt h hh
    · intro h hh; rw [hq (153 + 2 * h + 1) (by omega)]; exact qpg h hh
    · intro h i hh hi; rw [hq (25 + 8 * h + 3) (by omega), hq (25 + 8 * i + 3) (by omega)]; exact jl h i hh hi
    · intro h i hh hi; rw [hq (25 + 8 * h + 4) (by omega), hq (25 + 8 * i + 4) (by omega)]; exact jh h i hh hi
    · intro h i hh hi; rw [hq (153 + 2 * h + 1) (by omega), hq (153 + 2 * i + 1) (by omega)]; exact jp h i hh hi
    · intro h hh; rw [hq (25 + 8 * h + 2) (by omega), hq (25 + 8 * h + 3) (by omega), hq (25 + 8 * h + 4) (by omega)]; exact qo h hh
    · intro h hh; rw [hq (25 + 8 * h + 2) (by omega), hq (25 + 8 * h + 3) (by omega)]; exact qol h hh
    · intro h t hh ht; rw [hq (25 + 8 * h + 4) (by omega), hq (153 + 2 * t + 1) (by omega)]; exact qhp h t hh ht
    · rw [hq (9) (by omega)]; exact qht
    · rw [hq (5) (by omega)]; exact qrm
    · rw [hq (6) (by omega)]; exact qgn
    · rw [hq (7) (by omega)]; exact qqt
    · intro h hh; rw [hq (21 + h) (by omega)]; exact qop h hh
  have Rn : hy_RC 11 M' q' := by
    unfold hy_RC
    rw [eg, el, ep, et]
    refine ⟨?_, ?_, ?_, ?_, ?_, ?_, ?_, ?_, ?_, ?_, ?_, ?_, ?_, ?_⟩
    · exact ⟨by rw [h11 14 (by omega), hq (8) (by omega)]; exact s1, by rw [h11 15 (by omega), hq (9) (by omega)]; exact s2, by rw [hf16, hv0], by rw [h11 17 (by omega), hq (5) (by omega)]; exact s4, by rw [h11 18 (by omega), hq (6) (by omega)]; exact s5, by rw [h11 19 (by omega), hq (7) (by omega)]; exact s6⟩
    · intro h hh; rw [hM 24 (by omega), hq (12 + h) (by omega)]; exact ra h hh
    · intro h hh; rw [hM 12 (by omega), hq (21 + h) (by omega)]; exact ro h hh
    · intro h hh; rw [hM 13 (by omega), hq (25 + 8 * h + 2) (by omega)]; exact rp h hh
    · intro h hh; rw [hM 14 (by omega), hq (25 + 8 * h + 3) (by omega)]; exact rl h hh
    · intro h hh; rw [hM 15 (by omega), hq (25 + 8 * h + 4) (by omega)]; exact rt h hh
    · intro h hh; rw [hM 16 (by omega), hq (25 + 8 * h + 5) (by omega)]; exact rs h hh
    · intro h hh; rw [hM 17 (by omega), hq (25 + 8 * h + 6) (by omega)]; exact rw' h hh
    · intro h hh; rw [hM 18 (by omega), hq (25 + 8 * h + 7) (by omega)]; exact rd h hh
    · intro h hh; rw [hM 20 (by omega), hq (153 + 2 * h) (by omega)]; exact rwt h hh
    · intro h hh; rw [hM 21 (by omega), hq (153 + 2 * h + 1) (by omega)]; exact rpg h hh
    · intro h hh; rw [hM 19 (by omega), kpr_fk, eg, fk_cg (f := fun i => q (25 + 8 * i + 3)) h (fun i hi => hq (25 + 8 * i + 3) (by omega))]; exact rk h hh
    · intro h hh; rw [hM 22 (by omega), hld_fk, eg, fk_cg (f := fun i => q (25 + 8 * i + 4)) h (fun i hi => hq (25 + 8 * i + 4) (by omega))]; exact rh h hh
    · intro h hh; rw [hM 23 (by omega), tw_fk, et, fk_cg (f := fun i => q (153 + 2 * i + 1)) h (fun i hi => hq (153 + 2 * i + 1) (by omega))]; exact rtw h hh
  exact ⟨⟨Zn, Hn, Rn⟩, Qn, fun k hk => by rw [hq (k) (by omega)]; exact hX k hk⟩
theorem p_heat {M M' : hz_M} {q q' : Nat → Int32} {k : Nat} (W : hy_W M q) (hk : k ≤ 100) (hM : ∀ a, a ≠ 11 → M' a = M a) (h11 : ∀ k, k ≠ 15 → M' 11 k = M 11 k) (hf15 : M' 11 15 = nI k) (hq : ∀ k, k ≠ 9 → q' k = q k) (hv0 : q' (9) = nI k) : hy_W M' q' := by
  obtain ⟨hC, hQ, hX⟩ := W
  have hC0 := hC
  obtain ⟨hZ, ⟨b3, b4, b5, b6, b7, b8, bag, bnm⟩, hRR⟩ := hC
  have hZ0 := hZ
  obtain ⟨⟨s1, s2, s3, s4, s5, s6⟩, ra, ro, rp, rl, rt, rs, rw', rd, rwt, rpg, rk, rh, rtw⟩ := c_rows hRR
  obtain ⟨⟨z1, z2⟩, ⟨z3, z4, z5⟩, ⟨z6, z7, z8⟩, ⟨z9, z10⟩, ⟨z11, z12, z13⟩, ⟨z14, z15, z16⟩⟩ := hZ
  rw [z1] at b3; rw [z3] at b4; rw [z6] at b5; rw [z9] at b6; rw [z11] at b7; rw [z14] at b8
  obtain ⟨qa, qat, ql, qh, qs, qw, qwt, qpg, jl, jh, jp, qo, qol, qhp, qht, qrm, qgn, qqt, qop⟩ := hQ
  have e11 : q' 11 = q 11 := hq (11) (by omega)
  have e0 : q' 0 = q 0 := hq (0) (by omega)
  have e1 : q' 1 = q 1 := hq (1) (by omega)
  have e2 : q' 2 = q 2 := hq (2) (by omega)
  have e3 : q' 3 = q 3 := hq (3) (by omega)
  have e4 : q' 4 = q 4 := hq (4) (by omega)
  have eg : gz q' = gz q := by unfold gz; rw [e11]
  have el : lz q' = lz q := by unfold lz; rw [e0]
  have ep : pz q' = pz q := by unfold pz; rw [e1]
  have et : tz q' = tz q := by unfold tz; rw [e2]
  have ev : vz q' = vz q := by unfold vz; rw [e3]
  have es : sz q' = sz q := by unfold sz; rw [e4]
  have Zn : hy_Z q' := by
    unfold hy_Z
    rw [e11, e0, e1, e2, e3, e4, eg, el, ep, et, ev, es]
    exact hZ0
  have Hn : hy_Ho M' q' := by
    unfold hy_Ho nmd
    rw [e11, e0, e1, e2, e3, e4, hM 1 (by omega), hM 2 (by omega), hM 3 (by omega), hM 4 (by omega), eg]
    refine ⟨by rw [b3, z1], by rw [b4, z3], by rw [b5, z6], by rw [b6, z9], by rw [b7, z11], by rw [b8, z14], fun h hh => ?_, fun h hh => ?_⟩
    · rw [hq (25 + 8 * h + 1) (by omega)]; exact bag h hh
    · rw [hq (25 + 8 * h) (by omega)]; exact bnm h hh
  have Qn : hy_Q q' := by
    unfold hy_Q
    rw [eg, el, ep, et, es]
    refine ⟨?_, ?_, ?_, ?_, ?_, ?_, ?_, ?_, ?_, ?_, ?_, ?_, ?_, ?_, ?_, ?_, ?_, ?_, ?_⟩
    · intro h hh; rw [hq (25 + 8 * h + 1) (by omega)]; exact qa h hh
    · intro h hh; rw [hq (25 + 8 * h + 2) (by omega)]; exact qat h hh
    · intro h hh; rw [hq (25 + 8 * h + 3) (by omega)]; exact ql h hh
    · intro h hh; rw [hq (25 + 8 * h + 4) (by omega)]; exact qh h hh
    · intro h hh; rw [hq (25 + 8 * h + 5) (by omega)]; exact qs h hh
    · intro h hh; rw [hq (25 + 8 * h + 6) (by omega)]; exact qw h hh
    · intro h hh; rw [hq (153 + 2 * h) (by omega)]; exact qwt h hh
    · intro h hh; rw [hq (153 + 2 * h + 1) (by omega)]; exact qpg h hh
    · intro h i hh hi; rw [hq (25 + 8 * h + 3) (by omega), hq (25 + 8 * i + 3) (by omega)]; exact jl h i hh hi
    · intro h i hh hi; rw [hq (25 + 8 * h + 4) (by omega), hq (25 + 8 * i + 4) (by omega)]; exact jh h i hh hi
    · intro h i hh hi; rw [hq (153 + 2 * h + 1) (by omega), hq (153 + 2 * i + 1) (by omega)]; exact jp h i hh hi
    · intro h hh; rw [hq (25 + 8 * h + 2) (by omega), hq (25 + 8 * h + 3) (by omega), hq (25 + 8 * h + 4) (by omega)]; exact qo h hh
    · intro h hh; rw [hq (25 + 8 * h + 2) (by omega), hq (25 + 8 * h + 3) (by omega)]; exact qol h hh
    · intro h t hh ht; rw [hq (25 + 8 * h + 4) (by omega), hq (153 + 2 * t + 1) (by omega)]; exact qhp h t hh ht
    · exact ⟨k, hk, hv0⟩
    · rw [hq (5) (by omega)]; exact qrm
    · rw [hq (6) (by omega)]; exact qgn
    · rw [hq (7) (by omega)]; exact qqt
    · intro h hh; rw [hq (21 + h) (by omega)]; exact qop h hh
  have Rn : hy_RC 11 M' q' := by
    unfold hy_RC
    rw [eg, el, ep, et]
    refine ⟨?_, ?_, ?_, ?_, ?_, ?_, ?_, ?_, ?_, ?_, ?_, ?_, ?_, ?_⟩
    · exact ⟨by rw [h11 14 (by omega), hq (8) (by omega)]; exact s1, by rw [hf15, hv0], by rw [h11 16 (by omega), hq (10) (by omega)]; exact s3, by rw [h11 17 (by omega), hq (5) (by omega)]; exact s4, by rw [h11 18 (by omega), hq (6) (by omega)]; exact s5, by rw [h11 19 (by omega), hq (7) (by omega)]; exact s6⟩
    · intro h hh; rw [hM 24 (by omega), hq (12 + h) (by omega)]; exact ra h hh
    · intro h hh; rw [hM 12 (by omega), hq (21 + h) (by omega)]; exact ro h hh
    · intro h hh; rw [hM 13 (by omega), hq (25 + 8 * h + 2) (by omega)]; exact rp h hh
    · intro h hh; rw [hM 14 (by omega), hq (25 + 8 * h + 3) (by omega)]; exact rl h hh
    · intro h hh; rw [hM 15 (by omega), hq (25 + 8 * h + 4) (by omega)]; exact rt h hh
    · intro h hh; rw [hM 16 (by omega), hq (25 + 8 * h + 5) (by omega)]; exact rs h hh
    · intro h hh; rw [hM 17 (by omega), hq (25 + 8 * h + 6) (by omega)]; exact rw' h hh
    · intro h hh; rw [hM 18 (by omega), hq (25 + 8 * h + 7) (by omega)]; exact rd h hh
    · intro h hh; rw [hM 20 (by omega), hq (153 + 2 * h) (by omega)]; exact rwt h hh
    · intro h hh; rw [hM 21 (by omega), hq (153 + 2 * h + 1) (by omega)]; exact rpg h hh
    · intro h hh; rw [hM 19 (by omega), kpr_fk, eg, fk_cg (f := fun i => q (25 + 8 * i + 3)) h (fun i hi => hq (25 + 8 * i + 3) (by omega))]; exact rk h hh
    · intro h hh; rw [hM 22 (by omega), hld_fk, eg, fk_cg (f := fun i => q (25 + 8 * i + 4)) h (fun i hi => hq (25 + 8 * i + 4) (by omega))]; exact rh h hh
    · intro h hh; rw [hM 23 (by omega), tw_fk, et, fk_cg (f := fun i => q (153 + 2 * i + 1)) h (fun i hi => hq (153 + 2 * i + 1) (by omega))]; exact rtw h hh
  exact ⟨⟨Zn, Hn, Rn⟩, Qn, fun k hk => by rw [hq (k) (by omega)]; exact hX k hk⟩
theorem p_room {M M' : hz_M} {q q' : Nat → Int32} {k : Nat} (W : hy_W M q) (h1 : 1 ≤ k) (hk : k ≤ 9) (hM : ∀ a, a ≠ 11 → M' a = M a) (h11 : ∀ k, k ≠ 17 → M' 11 k = M 11 k) (hf17 : M' 11 17 = nI k) (hq : ∀ k, k ≠ 5 → q' k = q k) (hv0 : q' (5) = nI k) : hy_W M' q' := by
  obtain ⟨hC, hQ, hX⟩ := W
  have hC0 := hC
  obtain ⟨hZ, ⟨b3, b4, b5, b6, b7, b8, bag, bnm⟩, hRR⟩ := hC
  have hZ0 := hZ
  obtain ⟨⟨s1, s2, s3, s4, s5, s6⟩, ra, ro, rp, rl, rt, rs, rw', rd, rwt, rpg, rk, rh, rtw⟩ := c_rows hRR
  obtain ⟨⟨z1, z2⟩, ⟨z3, z4, z5⟩, ⟨z6, z7, z8⟩, ⟨z9, z10⟩, ⟨z11, z12, z13⟩, ⟨z14, z15, z16⟩⟩ := hZ
  rw [z1] at b3; rw [z3] at b4; rw [z6] at b5; rw [z9] at b6; rw [z11] at b7; rw [z14] at b8
  obtain ⟨qa, qat, ql, qh, qs, qw, qwt, qpg, jl, jh, jp, qo, qol, qhp, qht, qrm, qgn, qqt, qop⟩ := hQ
  have e11 : q' 11 = q 11 := hq (11) (by omega)
  have e0 : q' 0 = q 0 := hq (0) (by omega)
  have e1 : q' 1 = q 1 := hq (1) (by omega)
  have e2 : q' 2 = q 2 := hq (2) (by omega)
  have e3 : q' 3 = q 3 := hq (3) (by omega)
  have e4 : q' 4 = q 4 := hq (4) (by omega)
  have eg : gz q' = gz q := by unfold gz; rw [e11]
  have el : lz q' = lz q := by unfold lz; rw [e0]
  have ep : pz q' = pz q := by unfold pz; rw [e1]
  have et : tz q' = tz q := by unfold tz; rw [e2]
  have ev : vz q' = vz q := by unfold vz; rw [e3]
  have es : sz q' = sz q := by unfold sz; rw [e4]
  have Zn : hy_Z q' := by
    unfold hy_Z
    rw [e11, e0, e1, e2, e3, e4, eg, el, ep, et, ev, es]
    exact hZ0
  have Hn : hy_Ho M' q' := by
    unfold hy_Ho nmd
    rw [e11, e0, e1, e2, e3, e4, hM 1 (by omega), hM 2 (by omega), hM 3 (by omega), hM 4 (by omega), eg]
    refine ⟨by rw [b3, z1], by rw [b4, z3], by rw [b5, z6], by rw [b6, z9], by rw [b7, z11], by rw [b8, z14], fun h hh => ?_, fun h hh => ?_⟩
    · rw [hq (25 + 8 * h + 1) (by omega)]; exact bag h hh
    · rw [hq (25 + 8 * h) (by omega)]; exact bnm h hh
  have Qn : hy_Q q' := by
    unfold hy_Q
    rw [eg, el, ep, et, es]
    refine ⟨?_, ?_, ?_, ?_, ?_, ?_, ?_, ?_, ?_, ?_, ?_, ?_, ?_, ?_, ?_, ?_, ?_, ?_, ?_⟩
    · intro h hh; rw [hq (25 + 8 * h + 1) (by omega)]; exact qa h hh
    · intro h hh; rw [hq (25 + 8 * h + 2) (by omega)]; exact qat h hh
    · intro h hh; rw [hq (25 + 8 * h + 3) (by omega)]; exact ql h hh
    · intro h hh; rw [hq (25 + 8 * h + 4) (by omega)]; exact qh h hh
    · intro h hh; rw [hq (25 + 8 * h + 5) (by omega)]; exact qs h hh
    · intro h hh; rw [hq (25 + 8 * h + 6) (by omega)]; exact qw h hh
    · intro h hh; rw [hq (153 + 2 * h) (by omega)]; exact qwt h hh
    · intro h hh; rw [hq (153 + 2 * h + 1) (by omega)]; exact qpg h hh
    · intro h i hh hi; rw [hq (25 + 8 * h + 3) (by omega), hq (25 + 8 * i + 3) (by omega)]; exact jl h i hh hi
    · intro h i hh hi; rw [hq (25 + 8 * h + 4) (by omega), hq (25 + 8 * i + 4) (by omega)]; exact jh h i hh hi
    · intro h i hh hi; rw [hq (153 + 2 * h + 1) (by omega), hq (153 + 2 * i + 1) (by omega)]; exact jp h i hh hi
    · intro h hh; rw [hq (25 + 8 * h + 2) (by omega), hq (25 + 8 * h + 3) (by omega), hq (25 + 8 * h + 4) (by omega)]; exact qo h hh
    · intro h hh; rw [hq (25 + 8 * h + 2) (by omega), hq (25 + 8 * h + 3) (by omega)]; exact qol h hh
    · intro h t hh ht; rw [hq (25 + 8 * h + 4) (by omega), hq (153 + 2 * t + 1) (by omega)]; exact qhp h t hh ht
    · rw [hq (9) (by omega)]; exact qht
    · exact ⟨k, h1, hk, hv0⟩
    · rw [hq (6) (by omega)]; exact qgn
    · rw [hq (7) (by omega)]; exact qqt
    · intro h hh; rw [hq (21 + h) (by omega)]; exact qop h hh
  have Rn : hy_RC 11 M' q' := by
    unfold hy_RC
    rw [eg, el, ep, et]
    refine ⟨?_, ?_, ?_, ?_, ?_, ?_, ?_, ?_, ?_, ?_, ?_, ?_, ?_, ?_⟩
    · exact ⟨by rw [h11 14 (by omega), hq (8) (by omega)]; exact s1, by rw [h11 15 (by omega), hq (9) (by omega)]; exact s2, by rw [h11 16 (by omega), hq (10) (by omega)]; exact s3, by rw [hf17, hv0], by rw [h11 18 (by omega), hq (6) (by omega)]; exact s5, by rw [h11 19 (by omega), hq (7) (by omega)]; exact s6⟩
    · intro h hh; rw [hM 24 (by omega), hq (12 + h) (by omega)]; exact ra h hh
    · intro h hh; rw [hM 12 (by omega), hq (21 + h) (by omega)]; exact ro h hh
    · intro h hh; rw [hM 13 (by omega), hq (25 + 8 * h + 2) (by omega)]; exact rp h hh
    · intro h hh; rw [hM 14 (by omega), hq (25 + 8 * h + 3) (by omega)]; exact rl h hh
    · intro h hh; rw [hM 15 (by omega), hq (25 + 8 * h + 4) (by omega)]; exact rt h hh
    · intro h hh; rw [hM 16 (by omega), hq (25 + 8 * h + 5) (by omega)]; exact rs h hh
    · intro h hh; rw [hM 17 (by omega), hq (25 + 8 * h + 6) (by omega)]; exact rw' h hh
    · intro h hh; rw [hM 18 (by omega), hq (25 + 8 * h + 7) (by omega)]; exact rd h hh
    · intro h hh; rw [hM 20 (by omega), hq (153 + 2 * h) (by omega)]; exact rwt h hh
    · intro h hh; rw [hM 21 (by omega), hq (153 + 2 * h + 1) (by omega)]; exact rpg h hh
    · intro h hh; rw [hM 19 (by omega), kpr_fk, eg, fk_cg (f := fun i => q (25 + 8 * i + 3)) h (fun i hi => hq (25 + 8 * i + 3) (by omega))]; exact rk h hh
    · intro h hh; rw [hM 22 (by omega), hld_fk, eg, fk_cg (f := fun i => q (25 + 8 * i + 4)) h (fun i hi => hq (25 + 8 * i + 4) (by omega))]; exact rh h hh
    · intro h hh; rw [hM 23 (by omega), tw_fk, et, fk_cg (f := fun i => q (153 + 2 * i + 1)) h (fun i hi => hq (153 + 2 * i + 1) (by omega))]; exact rtw h hh
  exact ⟨⟨Zn, Hn, Rn⟩, Qn, fun k hk => by rw [hq (k) (by omega)]; exact hX k hk⟩
theorem p_gong {M M' : hz_M} {q q' : Nat → Int32} {k : Nat} (W : hy_W M q) (h1 : 2 ≤ k) (hk : k ≤ 60) (hM : ∀ a, a ≠ 11 → M' a = M a) (h11 : ∀ k, k ≠ 18 → M' 11 k = M 11 k) (hf18 : M' 11 18 = nI k) (hq : ∀ k, k ≠ 6 → q' k = q k) (hv0 : q' (6) = nI k) : hy_W M' q' := by
  obtain ⟨hC, hQ, hX⟩ := W
  have hC0 := hC
  obtain ⟨hZ, ⟨b3, b4, b5, b6, b7, b8, bag, bnm⟩, hRR⟩ := hC
  have hZ0 := hZ
  obtain ⟨⟨s1, s2, s3, s4, s5, s6⟩, ra, ro, rp, rl, rt, rs, rw', rd, rwt, rpg, rk, rh, rtw⟩ := c_rows hRR
  obtain ⟨⟨z1, z2⟩, ⟨z3, z4, z5⟩, ⟨z6, z7, z8⟩, ⟨z9, z10⟩, ⟨z11, z12, z13⟩, ⟨z14, z15, z16⟩⟩ := hZ
  rw [z1] at b3; rw [z3] at b4; rw [z6] at b5; rw [z9] at b6; rw [z11] at b7; rw [z14] at b8
  obtain ⟨qa, qat, ql, qh, qs, qw, qwt, qpg, jl, jh, jp, qo, qol, qhp, qht, qrm, qgn, qqt, qop⟩ := hQ
  have e11 : q' 11 = q 11 := hq (11) (by omega)
  have e0 : q' 0 = q 0 := hq (0) (by omega)
  have e1 : q' 1 = q 1 := hq (1) (by omega)
  have e2 : q' 2 = q 2 := hq (2) (by omega)
  have e3 : q' 3 = q 3 := hq (3) (by omega)
  have e4 : q' 4 = q 4 := hq (4) (by omega)
  have eg : gz q' = gz q := by unfold gz; rw [e11]
  have el : lz q' = lz q := by unfold lz; rw [e0]
  have ep : pz q' = pz q := by unfold pz; rw [e1]
  have et : tz q' = tz q := by unfold tz; rw [e2]
  have ev : vz q' = vz q := by unfold vz; rw [e3]
  have es : sz q' = sz q := by unfold sz; rw [e4]
  have Zn : hy_Z q' := by
    unfold hy_Z
    rw [e11, e0, e1, e2, e3, e4, eg, el, ep, et, ev, es]
    exact hZ0
  have Hn : hy_Ho M' q' := by
    unfold hy_Ho nmd
    rw [e11, e0, e1, e2, e3, e4, hM 1 (by omega), hM 2 (by omega), hM 3 (by omega), hM 4 (by omega), eg]
    refine ⟨by rw [b3, z1], by rw [b4, z3], by rw [b5, z6], by rw [b6, z9], by rw [b7, z11], by rw [b8, z14], fun h hh => ?_, fun h hh => ?_⟩
    · rw [hq (25 + 8 * h + 1) (by omega)]; exact bag h hh
    · rw [hq (25 + 8 * h) (by omega)]; exact bnm h hh
  have Qn : hy_Q q' := by
    unfold hy_Q
    rw [eg, el, ep, et, es]
    refine ⟨?_, ?_, ?_, ?_, ?_, ?_, ?_, ?_, ?_, ?_, ?_, ?_, ?_, ?_, ?_, ?_, ?_, ?_, ?_⟩
    · intro h hh; rw [hq (25 + 8 * h + 1) (by omega)]; exact qa h hh
    · intro h hh; rw [hq (25 + 8 * h + 2) (by omega)]; exact qat h hh
    · intro h hh; rw [hq (25 + 8 * h + 3) (by omega)]; exact ql h hh
    · intro h hh; rw [hq (25 + 8 * h + 4) (by omega)]; exact qh h hh
    · intro h hh; rw [hq (25 + 8 * h + 5) (by omega)]; exact qs h hh
    · intro h hh; rw [hq (25 + 8 * h + 6) (by omega)]; exact qw h hh
    · intro h hh; rw [hq (153 + 2 * h) (by omega)]; exact qwt h hh
    · intro h hh; rw [hq (153 + 2 * h + 1) (by omega)]; exact qpg h hh
    · intro h i hh hi; rw [hq (25 + 8 * h + 3) (by omega), hq (25 + 8 * i + 3) (by omega)]; exact jl h i hh hi
    · intro h i hh hi; rw [hq (25 + 8 * h + 4) (by omega), hq (25 + 8 * i + 4) (by omega)]; exact jh h i hh hi
    · intro h i hh hi; rw [hq (153 + 2 * h + 1) (by omega), hq (153 + 2 * i + 1) (by omega)]; exact jp h i hh hi
    · intro h hh; rw [hq (25 + 8 * h + 2) (by omega), hq (25 + 8 * h + 3) (by omega), hq (25 + 8 * h + 4) (by omega)]; exact qo h hh
    · intro h hh; rw [hq (25 + 8 * h + 2) (by omega), hq (25 + 8 * h + 3) (by omega)]; exact qol h hh
    · intro h t hh ht; rw [hq (25 + 8 * h + 4) (by omega), hq (153 + 2 * t + 1) (by omega)]; exact qhp h t hh ht
    · rw [hq (9) (by omega)]; exact qht
    · rw [hq (5) (by omega)]; exact qrm
    · exact ⟨k, h1, hk, hv0⟩
    · rw [hq (7) (by omega)]; exact qqt
    · intro h hh; rw [hq (21 + h) (by omega)]; exact qop h hh
  have Rn : hy_RC 11 M' q' := by
    unfold hy_RC
    rw [eg, el, ep, et]
    refine ⟨?_, ?_, ?_, ?_, ?_, ?_, ?_, ?_, ?_, ?_, ?_, ?_, ?_, ?_⟩
    · exact ⟨by rw [h11 14 (by omega), hq (8) (by omega)]; exact s1, by rw [h11 15 (by omega), hq (9) (by omega)]; exact s2, by rw [h11 16 (by omega), hq (10) (by omega)]; exact s3, by rw [h11 17 (by omega), hq (5) (by omega)]; exact s4, by rw [hf18, hv0], by rw [h11 19 (by omega), hq (7) (by omega)]; exact s6⟩
    · intro h hh; rw [hM 24 (by omega), hq (12 + h) (by omega)]; exact ra h hh
    · intro h hh; rw [hM 12 (by omega), hq (21 + h) (by omega)]; exact ro h hh
    · intro h hh; rw [hM 13 (by omega), hq (25 + 8 * h + 2) (by omega)]; exact rp h hh
    · intro h hh; rw [hM 14 (by omega), hq (25 + 8 * h + 3) (by omega)]; exact rl h hh
    · intro h hh; rw [hM 15 (by omega), hq (25 + 8 * h + 4) (by omega)]; exact rt h hh
    · intro h hh; rw [hM 16 (by omega), hq (25 + 8 * h + 5) (by omega)]; exact rs h hh
    · intro h hh; rw [hM 17 (by omega), hq (25 + 8 * h + 6) (by omega)]; exact rw' h hh
    · intro h hh; rw [hM 18 (by omega), hq (25 + 8 * h + 7) (by omega)]; exact rd h hh
    · intro h hh; rw [hM 20 (by omega), hq (153 + 2 * h) (by omega)]; exact rwt h hh
    · intro h hh; rw [hM 21 (by omega), hq (153 + 2 * h + 1) (by omega)]; exact rpg h hh
    · intro h hh; rw [hM 19 (by omega), kpr_fk, eg, fk_cg (f := fun i => q (25 + 8 * i + 3)) h (fun i hi => hq (25 + 8 * i + 3) (by omega))]; exact rk h hh
    · intro h hh; rw [hM 22 (by omega), hld_fk, eg, fk_cg (f := fun i => q (25 + 8 * i + 4)) h (fun i hi => hq (25 + 8 * i + 4) (by omega))]; exact rh h hh
    · intro h hh; rw [hM 23 (by omega), tw_fk, et, fk_cg (f := fun i => q (153 + 2 * i + 1)) h (fun i hi => hq (153 + 2 * i + 1) (by omega))]; exact rtw h hh
  exact ⟨⟨Zn, Hn, Rn⟩, Qn, fun k hk => by rw [hq (k) (by omega)]; exact hX k hk⟩
theorem p_quiet {M M' : hz_M} {q q' : Nat → Int32} {k : Nat} (W : hy_W M q) (hk : k ≤ 30) (hM : ∀ a, a ≠ 11 → M' a = M a) (h11 : ∀ k, k ≠ 19 → M' 11 k = M 11 k) (hf19 : M' 11 19 = nI k) (hq : ∀ k, k ≠ 7 → q' k = q k) (hv0 : q' (7) = nI k) : hy_W M' q' := by
  obtain ⟨hC, hQ, hX⟩ := W
  have hC0 := hC
  obtain ⟨hZ, ⟨b3, b4, b5, b6, b7, b8, bag, bnm⟩, hRR⟩ := hC
  have hZ0 := hZ
  obtain ⟨⟨s1, s2, s3, s4, s5, s6⟩, ra, ro, rp, rl, rt, rs, rw', rd, rwt, rpg, rk, rh, rtw⟩ := c_rows hRR
  obtain ⟨⟨z1, z2⟩, ⟨z3, z4, z5⟩, ⟨z6, z7, z8⟩, ⟨z9, z10⟩, ⟨z11, z12, z13⟩, ⟨z14, z15, z16⟩⟩ := hZ
  rw [z1] at b3; rw [z3] at b4; rw [z6] at b5; rw [z9] at b6; rw [z11] at b7; rw [z14] at b8
  obtain ⟨qa, qat, ql, qh, qs, qw, qwt, qpg, jl, jh, jp, qo, qol, qhp, qht, qrm, qgn, qqt, qop⟩ := hQ
  have e11 : q' 11 = q 11 := hq (11) (by omega)
  have e0 : q' 0 = q 0 := hq (0) (by omega)
  have e1 : q' 1 = q 1 := hq (1) (by omega)
  have e2 : q' 2 = q 2 := hq (2) (by omega)
  have e3 : q' 3 = q 3 := hq (3) (by omega)
  have e4 : q' 4 = q 4 := hq (4) (by omega)
  have eg : gz q' = gz q := by unfold gz; rw [e11]
  have el : lz q' = lz q := by unfold lz; rw [e0]
  have ep : pz q' = pz q := by unfold pz; rw [e1]
  have et : tz q' = tz q := by unfold tz; rw [e2]
  have ev : vz q' = vz q := by unfold vz; rw [e3]
  have es : sz q' = sz q := by unfold sz; rw [e4]
  have Zn : hy_Z q' := by
    unfold hy_Z
    rw [e11, e0, e1, e2, e3, e4, eg, el, ep, et, ev, es]
    exact hZ0
  have Hn : hy_Ho M' q' := by
    unfold hy_Ho nmd
    rw [e11, e0, e1, e2, e3, e4, hM 1 (by omega), hM 2 (by omega), hM 3 (by omega), hM 4 (by omega), eg]
    refine ⟨by rw [b3, z1], by rw [b4, z3], by rw [b5, z6], by rw [b6, z9], by rw [b7, z11], by rw [b8, z14], fun h hh => ?_, fun h hh => ?_⟩
    · rw [hq (25 + 8 * h + 1) (by omega)]; exact bag h hh
    · rw [hq (25 + 8 * h) (by omega)]; exact bnm h hh
  have Qn : hy_Q q' := by
    unfold hy_Q
    rw [eg, el, ep, et, es]
    refine ⟨?_, ?_, ?_, ?_, ?_, ?_, ?_, ?_, ?_, ?_, ?_, ?_, ?_, ?_, ?_, ?_, ?_, ?_, ?_⟩
    · intro h hh; rw [hq (25 + 8 * h + 1) (by omega)]; exact qa h hh
    · intro h hh; rw [hq (25 + 8 * h + 2) (by omega)]; exact qat h hh
    · intro h hh; rw [hq (25 + 8 * h + 3) (by omega)]; exact ql h hh
    · intro h hh; rw [hq (25 + 8 * h + 4) (by omega)]; exact qh h hh
    · intro h hh; rw [hq (25 + 8 * h + 5) (by omega)]; exact qs h hh
    · intro h hh; rw [hq (25 + 8 * h + 6) (by omega)]; exact qw h hh
    · intro h hh; rw [hq (153 + 2 * h) (by omega)]; exact qwt h hh
    · intro h hh; rw [hq (153 + 2 * h + 1) (by omega)]; exact qpg h hh
    · intro h i hh hi; rw [hq (25 + 8 * h + 3) (by omega), hq (25 + 8 * i + 3) (by omega)]; exact jl h i hh hi
    · intro h i hh hi; rw [hq (25 + 8 * h + 4) (by omega), hq (25 + 8 * i + 4) (by omega)]; exact jh h i hh hi
    · intro h i hh hi; rw [hq (153 + 2 * h + 1) (by omega), hq (153 + 2 * i + 1) (by omega)]; exact jp h i hh hi
    · intro h hh; rw [hq (25 + 8 * h + 2) (by omega), hq (25 + 8 * h + 3) (by omega), hq (25 + 8 * h + 4) (by omega)]; exact qo h hh
    · intro h hh; rw [hq (25 + 8 * h + 2) (by omega), hq (25 + 8 * h + 3) (by omega)]; exact qol h hh
    · intro h t hh ht; rw [hq (25 + 8 * h + 4) (by omega), hq (153 + 2 * t + 1) (by omega)]; exact qhp h t hh ht
    · rw [hq (9) (by omega)]; exact qht
    · rw [hq (5) (by omega)]; exact qrm
    · rw [hq (6) (by omega)]; exact qgn
    · exact ⟨k, hk, hv0⟩
    · intro h hh; rw [hq (21 + h) (by omega)]; exact qop h hh
  have Rn : hy_RC 11 M' q' := by
    unfold hy_RC
    rw [eg, el, ep, et]
    refine ⟨?_, ?_, ?_, ?_, ?_, ?_, ?_, ?_, ?_, ?_, ?_, ?_, ?_, ?_⟩
    · exact ⟨by rw [h11 14 (by omega), hq (8) (by omega)]; exact s1, by rw [h11 15 (by omega), hq (9) (by omega)]; exact s2, by rw [h11 16 (by omega), hq (10) (by omega)]; exact s3, by rw [h11 17 (by omega), hq (5) (by omega)]; exact s4, by rw [h11 18 (by omega), hq (6) (by omega)]; exact s5, by rw [hf19, hv0]⟩
    · intro h hh; rw [hM 24 (by omega), hq (12 + h) (by omega)]; exact ra h hh
    · intro h hh; rw [hM 12 (by omega), hq (21 + h) (by omega)]; exact ro h hh
    · intro h hh; rw [hM 13 (by omega), hq (25 + 8 * h + 2) (by omega)]; exact rp h hh
    · intro h hh; rw [hM 14 (by omega), hq (25 + 8 * h + 3) (by omega)]; exact rl h hh
    · intro h hh; rw [hM 15 (by omega), hq (25 + 8 * h + 4) (by omega)]; exact rt h hh
    · intro h hh; rw [hM 16 (by omega), hq (25 + 8 * h + 5) (by omega)]; exact rs h hh
    · intro h hh; rw [hM 17 (by omega), hq (25 + 8 * h + 6) (by omega)]; exact rw' h hh
    · intro h hh; rw [hM 18 (by omega), hq (25 + 8 * h + 7) (by omega)]; exact rd h hh
    · intro h hh; rw [hM 20 (by omega), hq (153 + 2 * h) (by omega)]; exact rwt h hh
    · intro h hh; rw [hM 21 (by omega), hq (153 + 2 * h + 1) (by omega)]; exact rpg h hh
    · intro h hh; rw [hM 19 (by omega), kpr_fk, eg, fk_cg (f := fun i => q (25 + 8 * i + 3)) h (fun i hi => hq (25 + 8 * i + 3) (by omega))]; exact rk h hh
    · intro h hh; rw [hM 22 (by omega), hld_fk, eg, fk_cg (f := fun i => q (25 + 8 * i + 4)) h (fun i hi => hq (25 + 8 * i + 4) (by omega))]; exact rh h hh
    · intro h hh; rw [hM 23 (by omega), tw_fk, et, fk_cg (f := fun i => q (153 + 2 * i + 1)) h (fun i hi => hq (153 + 2 * i + 1) (by omega))]; exact rtw h hh
  exact ⟨⟨Zn, Hn, Rn⟩, Qn, fun k hk => by rw [hq (k) (by omega)]; exact hX k hk⟩

