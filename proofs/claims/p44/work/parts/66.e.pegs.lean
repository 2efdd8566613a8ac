def drw (h w : Int32) : Int32 := if 60 ≤ h then w else if w ≤ 0 then w else w - 1
def OPg (q c0 : Nat → Int32) (i : Nat) (c : Nat → Int32) : Prop :=
  (∀ k, k < 153 → c k = c0 k) ∧ (∀ t, c (153 + 2 * t + 1) = c0 (153 + 2 * t + 1)) ∧ (∀ t, t < tz q → (∀ p, p < i → tw q p ≠ nI t) → c (153 + 2 * t) = c0 (153 + 2 * t)) ∧
  (∀ p, p < i → ∀ t, t < tz q → tw q p = nI t → c (153 + 2 * t) = drw (q 9) (c0 (153 + 2 * t)))
theorem OPg_0 (q c0 : Nat → Int32) : OPg q c0 0 c0 := ⟨fun _ _ => rfl, fun _ => rfl, fun _ _ _ => rfl, fun p h => absurd h (Nat.not_lt_zero p)⟩
theorem tw_two {q : Nat → Int32} (hZ : hy_Z q) (hQ : hy_Q q) {p p' t : Nat} (hp : p < pz q) (hp' : p' < pz q) (ht : t < tz q) (h : tw q p = nI t) (h' : tw q p' = nI t) : p = p' := by
  have z8 := hZ.2.2.1.2.2
  rw [tw_is hZ hQ ht hp] at h
  rw [tw_is hZ hQ ht hp', h, hy_eq (by omega) (by omega)] at h'
  exact h'
theorem OPg_k {q c0 c : Nat → Int32} {i : Nat} (hZ : hy_Z q) (hQ : hy_Q q) (hi : i < pz q) (h : OPg q c0 i c) (hs : tw q i = -1 ∨ ∃ t, t < tz q ∧ tw q i = nI t ∧ drw (q 9) (c0 (153 + 2 * t)) = c0 (153 + 2 * t)) : OPg q c0 (i + 1) c := by
  have z10 := hZ.2.2.2.1.2
  have z8 := hZ.2.2.1.2.2
  obtain ⟨h1, h2, h3, h4⟩ := h
  refine ⟨h1, h2, fun t ht hg => h3 t ht (fun p hp => hg p (by omega)), fun p hp t ht e => ?_⟩
  by_cases c1 : p = i
  · subst c1
    rcases hs with hs | ⟨t', ht', hs, hd⟩
    · rw [e, hy_n1 (by omega)] at hs
      exact hs.elim
    · rw [e, hy_eq (by omega) (by omega)] at hs
      subst hs
      rw [hd]
      exact h3 t ht (fun p' hp' e' => by have := tw_two hZ hQ (by omega) hi ht e' e; omega)
  · exact h4 p (by omega) t ht e
theorem OPg_s {q c0 c : Nat → Int32} {i t0 : Nat} (hZ : hy_Z q) (hQ : hy_Q q) (hi : i < pz q) (h : OPg q c0 i c) (ht0 : t0 < tz q) (e0 : tw q i = nI t0) (hd : drw (q 9) (c0 (153 + 2 * t0)) = c0 (153 + 2 * t0) - 1) : OPg q c0 (i + 1) (hy_st c (153 + 2 * t0) (c (153 + 2 * t0) - 1)) ∧ c (153 + 2 * t0) = c0 (153 + 2 * t0) := by
  have z10 := hZ.2.2.2.1.2
  have z8 := hZ.2.2.1.2.2
  obtain ⟨h1, h2, h3, h4⟩ := h
  have hno : ∀ p, p < i → tw q p ≠ nI t0 := fun p hp e => by have := tw_two hZ hQ (by omega) hi ht0 e e0; omega
  have ec := h3 t0 ht0 hno
  refine ⟨⟨fun k hk => by rw [hy_so _ _ (by omega)]; exact h1 k hk, fun t => by rw [hy_so _ _ (by omega)]; exact h2 t, fun t ht hg => ?_, fun p hp t ht e => ?_⟩, ec⟩
  · have ne : t ≠ t0 := fun x => hg i (by omega) (by rw [x]; exact e0)
    rw [hy_so _ _ (by omega)]
    exact h3 t ht (fun p hp => hg p (by omega))
  · by_cases c1 : p = i
    · subst c1
      rw [e0, hy_eq (by omega) (by omega)] at e
      subst e
      rw [hy_ss, ec, hd]
    · have ne : t ≠ t0 := fun x => hno p (by omega) (by rw [← x]; exact e)
      rw [hy_so _ _ (by omega)]
      exact h4 p (by omega) t ht e
theorem O_m142 {b : Nat} (kk : hz_M → hz_O) {q c0 : Nat → Int32} (hZ : hy_Z q) (hQ : hy_Q q) (hG : OG q (gz q) c0) : ∀ (k i f : Nat) (M : hz_M) (c : Nat → Int32), RO b M c → OPg q c0 i c → i + k = pz q → k < f → ∃ M' c', f_X11_minute_L142 b kk f (nI i) M = kk M' ∧ (∀ a, (a < b ∨ b + 11 < a) → M' a = M a) ∧ RO b M' c' ∧ OPg q c0 (pz q) c'
  | 0, i, f, M, c, hR, hP, hi, hf => by
    have z8 := hZ.2.2.1
    have b1 := hR.1.2.1
    rw [hP.1 1 (by omega), hG.1 1 (by omega) (by omega), z8.1] at b1
    obtain ⟨f, rfl⟩ : ∃ e, f = e + 1 := ⟨f - 1, by omega⟩
    refine ⟨M, c, ?_, fun _ _ => rfl, hR, by rw [show pz q = i by omega]; exact hP⟩
    rw [show i = pz q by omega]
    simp (disch := omega) only [f_X11_minute_L142, b1, hy_le, Nat.le_refl, if_true]
  | k + 1, i, f, M, c, hR, hP, hi, hf => by
    have z8 := hZ.2.2.1
    have z10 := hZ.2.2.2.1.2
    have e12 : ∀ k, k < 12 → c k = q k := fun k hk => by rw [hP.1 k (by omega), hG.1 k (by omega) (by omega)]
    have Zc := Z_ag e12 hZ
    have pc : pz c = pz q := by unfold pz; rw [e12 1 (by omega)]
    have tc : tz c = tz q := by unfold tz; rw [e12 2 (by omega)]
    have b1 := hR.1.2.1
    rw [hP.1 1 (by omega), hG.1 1 (by omega) (by omega), z8.1] at b1
    have b9 := hR.1.2.2.2.2.2.2.2.2.2.1
    rw [e12 9 (by omega)] at b9
    have rpg := hR.2.2.1 i (by rw [pc]; omega)
    have etw : tw c i = tw q i := by
      rw [tw_fk, tw_fk, tc]
      exact fk_cg i (fun t _ => by rw [hP.2.1, hG.2.1])
    rw [etw] at rpg
    obtain ⟨f, rfl⟩ : ∃ e, f = e + 1 := ⟨f - 1, by omega⟩
    have hi' : ¬ pz q ≤ i := by omega
    have skip := fun hs => O_m142 kk hZ hQ hG k (i + 1) f M c hR (OPg_k hZ hQ (by omega) hP hs) (by omega) (by omega)
    rcases tw_al hZ i with e1 | ⟨t, ht, e1, -⟩
    · obtain ⟨M', c', e, r⟩ := skip (Or.inl e1)
      refine ⟨M', c', ?_, r⟩
      simp (disch := omega) only [f_X11_minute_L142, b1, hi', if_false, hy_cts, hy_gt, hy_lt', hy_lm, hy_jn, hy_c, hy_in, hy_le, hy_add1, hy_k0, hy_k1, hy_k2, hy_k3, hy_k4, hy_k5, hy_k6, hy_k7, hy_k8, hy_k9, hy_k10, hy_k11, hy_k12, hy_k13, rpg, e1, show ((-1 : Int32) < 0) = True from eq_true (by decide), if_true]
      exact e
    · have nt : ¬ nI t < 0 := Int32.not_lt.mpr (hy_nn (by omega))
      have hno : ∀ p, p < i → tw q p ≠ nI t := fun p hp e => by have := tw_two hZ hQ (by omega) (by omega) ht e e1; omega
      have ec := hP.2.2.1 t ht hno
      have rw1 := hR.2.2.2.2.1 t (by rw [tc]; exact ht)
      rw [ec] at rw1
      by_cases e2 : (60 : Int32) ≤ q 9
      · obtain ⟨M', c', e, r⟩ := skip (Or.inr ⟨t, ht, e1, by unfold drw; rw [if_pos e2]⟩)
        refine ⟨M', c', ?_, r⟩
        simp (disch := omega) only [f_X11_minute_L142, b1, hi', if_false, hy_cts, hy_gt, hy_lt', hy_lm, hy_jn, hy_c, hy_in, hy_le, hy_add1, hy_k0, hy_k1, hy_k2, hy_k3, hy_k4, hy_k5, hy_k6, hy_k7, hy_k8, hy_k9, hy_k10, hy_k11, hy_k12, hy_k13, rpg, e1, nt, b9, e2, if_true]
        exact e
      · by_cases e3 : c0 (153 + 2 * t) ≤ 0
        · obtain ⟨M', c', e, r⟩ := skip (Or.inr ⟨t, ht, e1, by unfold drw; rw [if_neg e2, if_pos e3]⟩)
          refine ⟨M', c', ?_, r⟩
          simp (disch := omega) only [f_X11_minute_L142, b1, hi', if_false, hy_cts, hy_gt, hy_lt', hy_lm, hy_jn, hy_c, hy_in, hy_le, hy_add1, hy_k0, hy_k1, hy_k2, hy_k3, hy_k4, hy_k5, hy_k6, hy_k7, hy_k8, hy_k9, hy_k10, hy_k11, hy_k12, hy_k13, rpg, e1, nt, b9, e2, rw1, e3, if_true]
          exact e
        · obtain ⟨hP', -⟩ := OPg_s hZ hQ (by omega) hP ht e1 (by unfold drw; rw [if_neg e2, if_neg e3])
          have R1 := ro_wet hR Zc (t := t) (v := c (153 + 2 * t) - 1) (by rw [tc]; exact ht)
          obtain ⟨M', c', e, fr, r⟩ := O_m142 kk hZ hQ hG k (i + 1) f _ _ R1 hP' (by omega) (by omega)
          refine ⟨M', c', ?_, fun a ha => by rw [fr a ha, hy_seto _ _ _ (by omega)], r⟩
          rw [ec] at e
          simp (disch := omega) only [f_X11_minute_L142, b1, hi', if_false, hy_cts, hy_gt, hy_lt', hy_lm, hy_jn, hy_c, hy_in, hy_le, hy_add1, hy_k0, hy_k1, hy_k2, hy_k3, hy_k4, hy_k5, hy_k6, hy_k7, hy_k8, hy_k9, hy_k10, hy_k11, hy_k12, hy_k13, rpg, e1, nt, b9, e2, rw1, e3]
          exact e
def wetR (q : Nat → Int32) (t : Nat) : Bool := decide (¬ hld q t = -1 ∧ ¬ q (25 + 8 * Int32.toNatClampNeg (hld q t) + 2) ≤ 0 ∧ ¬ 9 ≤ q (153 + 2 * t))
theorem hld_cg {q c : Nat → Int32} (h : ∀ k, k < 153 → k ≠ 18 → c k = q k) (hz : gz q ≤ 16) (t : Nat) : hld c t = hld q t := by
  rw [hld_fk, hld_fk, show gz c = gz q by unfold gz; rw [h 11 (by omega) (by omega)]]
  exact fk_cg t (fun g hg => h _ (by omega) (by omega))
theorem towN_18 {q : Nat → Int32} (hZ : hy_Z q) : ∀ (k i : Nat) (c : Nat → Int32), (∀ k, k < 153 → k ≠ 18 → c k = q k) → (∀ t, i ≤ t → t < i + k → c (153 + 2 * t) = q (153 + 2 * t)) → towN c k i 18 = c 18 + nI (cN (wetR q) k i)
  | 0, i, c, _, _ => by
    show c 18 = c 18 + 0
    rw [Int32.add_zero]
  | k + 1, i, c, h, hw => by
    have z2 := hZ.1.2
    have hl := hld_cg h z2 i
    have ih := towN_18 hZ k (i + 1) (tow c i) (fun m hm h18 => by rw [tow_o (by omega) h18]; exact h m hm h18) (fun t h1 h2 => by rw [tow_o (by omega) (by omega)]; exact hw t (by omega) (by omega))
    show towN (tow c i) k (i + 1) 18 = _
    rw [ih]
    show _ = c 18 + nI ((if wetR q i = true then 1 else 0) + cN (wetR q) k (i + 1))
    have e : tow c i 18 = c 18 + nI (if wetR q i = true then 1 else 0) := by
      unfold tow wetR
      rw [hl, hw i (by omega) (by omega)]
      rcases hld_al hZ i with e1 | ⟨g, hg, e1, -⟩
      · rw [e1]
        simp only [if_true, not_true_eq_false, false_and, decide_false, Bool.false_eq_true, if_false]
        rw [show c 18 + nI 0 = c 18 from Int32.add_zero _]
        split
        · rfl
        · split
          · rfl
          · rw [hy_so _ _ (by omega)]
      · rw [e1, hy_c (by omega), h (25 + 8 * g + 2) (by omega) (by omega)]
        have n1 := hy_n1 (a := g) (by omega)
        simp only [n1, if_false, not_false_eq_true, true_and]
        by_cases x1 : q (25 + 8 * g + 2) ≤ 0
        · simp only [x1, if_true, not_true_eq_false, false_and, decide_false, Bool.false_eq_true, if_false]
          rw [show c 18 + nI 0 = c 18 from Int32.add_zero _]
        · by_cases x2 : 9 ≤ q (153 + 2 * i)
          · simp only [x1, x2, if_true, if_false, not_true_eq_false, and_false, decide_false, Bool.false_eq_true]
            rw [show c 18 + nI 0 = c 18 from Int32.add_zero _]
          · simp only [x1, x2, if_false, not_false_eq_true, and_self, decide_true, if_true]
            rw [hy_ss]
            rfl
    rw [e, Int32.add_assoc, hy_add]
theorem wet_cnt {q : Nat → Int32} (hZ : hy_Z q) (hQ : hy_Q q) : cN (wetR q) (tz q) 0 = cN (wetP q) (gz q) 0 := by
  have z2 := hZ.1.2
  have z8 := hZ.2.2.1.2.2
  have z10 := hZ.2.2.2.1.2
  have z16 := hZ.2.2.2.2.2.2.2
  have hr : ∀ i, i < gz q → (if wetP q i = true then q (25 + 8 * i + 4) else -1) = -1 ∨ ∃ p, p < tz q ∧ (if wetP q i = true then q (25 + 8 * i + 4) else -1) = nI p := by
    intro i hi
    split
    · exact hQ.2.2.2.1 i hi
    · exact Or.inl rfl
  have hj : inj (fun g => if wetP q g = true then q (25 + 8 * g + 4) else -1) (gz q) := by
    intro g h hg hh e
    have e' : (if wetP q g = true then q (25 + 8 * g + 4) else -1) = (if wetP q h = true then q (25 + 8 * h + 4) else -1) := e
    show (if wetP q g = true then q (25 + 8 * g + 4) else -1) = -1 ∨ g = h
    by_cases x : wetP q g = true
    · by_cases y : wetP q h = true
      · rw [if_pos x, if_pos y] at e'
        rw [if_pos x]
        exact hQ_h hQ g h hg hh e'
      · rw [if_neg y] at e'
        exact Or.inl e'
    · exact Or.inl (if_neg x)
  have h := im_cnt (f := fun g => if wetP q g = true then q (25 + 8 * g + 4) else -1) (m := tz q) (by omega) (gz q) hj hr
  rw [cN_cg (tz q) 0 (p := wetR q) (r := imf (fun g => if wetP q g = true then q (25 + 8 * g + 4) else -1) (gz q)) (fun t _ ht => ?_), h]
  · refine cN_cg (gz q) 0 (fun g _ hg => ?_)
    by_cases x : wetP q g = true
    · rw [x]
      have x' := of_decide_eq_true x
      exact decide_eq_true (fun e => x'.2.1 (by rw [if_pos rfl] at e; exact e))
    · have x2 : wetP q g = false := by cases hh : wetP q g <;> simp_all
      rw [x2]
      exact decide_eq_false (fun e => e (by simp))
  · unfold wetR imf
    refine decide_eq_decide.mpr ⟨fun ⟨h1, h2, h3⟩ => ?_, fun ⟨g, hg, e⟩ => ?_⟩
    · rcases hld_al hZ t with e1 | ⟨g, hg, e1, e2⟩
      · exact absurd e1 h1
      · rw [e1, hy_c (by omega)] at h2
        refine ⟨g, hg, ?_⟩
        have hw : wetP q g = true := by
          refine decide_eq_true ⟨?_, ?_, ?_⟩
          · rw [hy_lt1 (n := sz q + 1) (by omega) ((hQ.2.1 g hg).imp id (fun ⟨k, a, c⟩ => ⟨k, by omega, c⟩))]
            exact h2
          · rw [e2, hy_n1 (by omega)]
            exact not_false
          · rw [e2, hy_c (by omega)]
            intro e9
            exact h3 (by rw [e9]; exact Int32.le_refl _)
        show (if wetP q g = true then q (25 + 8 * g + 4) else -1) = nI t
        rw [if_pos hw]
        exact e2
    · have e : (if wetP q g = true then q (25 + 8 * g + 4) else -1) = nI t := e
      by_cases x : wetP q g = true
      · rw [if_pos x] at e
        have x' := of_decide_eq_true x
        have hl : hld q t = nI g := by
          rw [hld_fk]
          exact fk_is (by omega) hg e (hQ_h hQ)
        rw [hl, hy_c (by omega)]
        refine ⟨by rw [hy_n1 (by omega)]; exact not_false, ?_, ?_⟩
        · rw [← hy_lt1 (n := sz q + 1) (by omega) ((hQ.2.1 g hg).imp id (fun ⟨k, a, c⟩ => ⟨k, by omega, c⟩))]
          exact x'.1
        · intro h9
          obtain ⟨w, hw, ew⟩ := hQ.2.2.2.2.2.2.1 t (by omega)
          have x3 := x'.2.2
          rw [e, hy_c (by omega), ew] at x3
          rw [ew] at h9
          have := hy_le (a := 9) (b := w) (by omega) (by omega)
          have h9' := this.mp h9
          exact x3 (by rw [show w = 9 by omega]; rfl)
      · rw [if_neg x] at e
        have := hy_n1' (a := t) (by omega)
        rw [this] at e
        exact e.elim
