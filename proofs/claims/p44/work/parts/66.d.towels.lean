theorem RO_ag {b : Nat} {M : hz_M} {q q' : Nat → Int32} (h : ∀ k, k < 153 → q' k = q k) (h1 : ∀ t, t < tz q → q' (153 + 2 * t) = q (153 + 2 * t)) (h2 : ∀ t, t < tz q → q' (153 + 2 * t + 1) = q (153 + 2 * t + 1)) (hZ : hy_Z q) (hR : RO b M q) : RO b M q' := by
  obtain ⟨⟨z1, z2⟩, ⟨z3, z4, z5⟩, ⟨z6, z7, z8⟩, ⟨z9, z10⟩, ⟨z11, z12, z13⟩, ⟨z14, z15, z16⟩⟩ := id hZ
  have eg : gz q' = gz q := by unfold gz; rw [h 11 (by omega)]
  have el : lz q' = lz q := by unfold lz; rw [h 0 (by omega)]
  have ep : pz q' = pz q := by unfold pz; rw [h 1 (by omega)]
  have et : tz q' = tz q := by unfold tz; rw [h 2 (by omega)]
  have etw : ∀ p, tw q' p = tw q p := fun p => by rw [tw_fk, tw_fk, et]; exact fk_cg p (fun t ht => h2 t ht)
  have ekp : ∀ p, kpr q' p = kpr q p := fun p => by rw [kpr_fk, kpr_fk, eg]; exact fk_cg p (fun t ht => h _ (by omega))
  obtain ⟨⟨f0, f1, f2, f3, f4, f5, f6, f7, f8, f9, f10, f11⟩, rop, rpg, rlk, rwt, rac, rag, rat, rhs, rst, rwn, rsd⟩ := hR
  refine ⟨⟨by rw [h _ (by omega)]; exact f0, by rw [h _ (by omega)]; exact f1, by rw [h _ (by omega)]; exact f2, by rw [h _ (by omega)]; exact f3, by rw [h _ (by omega)]; exact f4, by rw [h _ (by omega)]; exact f5, by rw [h _ (by omega)]; exact f6, by rw [h _ (by omega)]; exact f7, by rw [h _ (by omega)]; exact f8, by rw [h _ (by omega)]; exact f9, by rw [h _ (by omega)]; exact f10, by rw [h _ (by omega)]; exact f11⟩, fun k hk => by rw [h _ (by omega)]; exact rop k hk, fun k hk => by rw [ep] at hk; rw [etw]; exact rpg k hk, fun k hk => by rw [el] at hk; rw [ekp]; exact rlk k hk, fun k hk => by rw [et] at hk; rw [h1 k hk]; exact rwt k hk, fun k hk => by rw [h _ (by omega)]; exact rac k hk, fun k hk => by rw [eg] at hk; rw [h _ (by omega)]; exact rag k hk, fun k hk => by rw [eg] at hk; rw [h _ (by omega)]; exact rat k hk, fun k hk => by rw [eg] at hk; rw [h _ (by omega)]; exact rhs k hk, fun k hk => by rw [eg] at hk; rw [h _ (by omega)]; exact rst k hk, fun k hk => by rw [eg] at hk; rw [h _ (by omega)]; exact rwn k hk, fun k hk => by rw [eg] at hk; rw [h _ (by omega)]; exact rsd k hk⟩
/-- a guest wets the towel -/
def wetP (q : Nat → Int32) (g : Nat) : Bool := decide (¬ q (25 + 8 * g + 2) < 1 ∧ ¬ q (25 + 8 * g + 4) = -1 ∧ ¬ q (153 + 2 * Int32.toNatClampNeg (q (25 + 8 * g + 4))) = 9)
def OG (q : Nat → Int32) (i : Nat) (c : Nat → Int32) : Prop :=
  (∀ k, k < 153 → k ≠ 18 → c k = q k) ∧ (∀ t, c (153 + 2 * t + 1) = q (153 + 2 * t + 1)) ∧ (∀ t, t < tz q → (∀ g, g < i → q (25 + 8 * g + 4) ≠ nI t) → c (153 + 2 * t) = q (153 + 2 * t)) ∧
  (∀ g, g < i → ∀ t, t < tz q → q (25 + 8 * g + 4) = nI t → c (153 + 2 * t) = if wetP q g = true then q (153 + 2 * t) + 1 else q (153 + 2 * t)) ∧ c 18 = q 18 + nI (cN (wetP q) i 0)
theorem OG_0 (q : Nat → Int32) : OG q 0 q := ⟨fun _ _ _ => rfl, fun _ => rfl, fun _ _ _ => rfl, fun g h => absurd h (Nat.not_lt_zero g), by show q 18 = q 18 + 0; rw [Int32.add_zero]⟩
theorem OG_n {q c : Nat → Int32} {i : Nat} (hZ : hy_Z q) (hQ : hy_Q q) (hi : i < gz q) (h : OG q i c) (hw : wetP q i = false) : OG q (i + 1) c := by
  have z10 := hZ.2.2.2.1.2
  have z8 := hZ.2.2.1.2.2
  obtain ⟨h1, h2, h3, h4, h5⟩ := h
  refine ⟨h1, h2, fun t ht hg => h3 t ht (fun g hg' => hg g (by omega)), fun g hg t ht e => ?_, ?_⟩
  · by_cases c0 : g = i
    · subst c0
      rw [hw]
      refine h3 t ht (fun g' hg' e' => ?_)
      rcases hQ_h hQ g' g (by omega) hi (by show q _ = q _; rw [e, e']) with x | x
      · have x' : q (25 + 8 * g' + 4) = -1 := x
        rw [e', hy_n1 (by omega)] at x'
        exact x'
      · omega
    · exact h4 g (by omega) t ht e
  · rw [cN_sn, Nat.zero_add, hw, h5]
    rfl
theorem OG_s {q c : Nat → Int32} {i t0 : Nat} (hZ : hy_Z q) (hQ : hy_Q q) (hi : i < gz q) (h : OG q i c) (hw : wetP q i = true) (ht0 : t0 < tz q) (e0 : q (25 + 8 * i + 4) = nI t0) : OG q (i + 1) (hy_st (hy_st c (153 + 2 * t0) (c (153 + 2 * t0) + 1)) (12 + 6) (c 18 + 1)) ∧ c (153 + 2 * t0) = q (153 + 2 * t0) := by
  have z2 := hZ.1.2
  have z10 := hZ.2.2.2.1.2
  have z8 := hZ.2.2.1.2.2
  obtain ⟨h1, h2, h3, h4, h5⟩ := h
  have hno : ∀ g, g < i → q (25 + 8 * g + 4) ≠ nI t0 := fun g hg e => by
    rcases hQ_h hQ g i (by omega) hi (by show q _ = q _; rw [e, e0]) with x | x
    · have x' : q (25 + 8 * g + 4) = -1 := x
      rw [e, hy_n1 (by omega)] at x'
      exact x'
    · omega
  have ec := h3 t0 ht0 hno
  refine ⟨⟨fun k hk h18 => by rw [hy_so _ _ (by omega), hy_so _ _ (by omega)]; exact h1 k hk h18, fun t => by rw [hy_so _ _ (by omega), hy_so _ _ (by omega)]; exact h2 t, fun t ht hg => ?_, fun g hg t ht e => ?_, ?_⟩, ec⟩
  · have ne : t ≠ t0 := fun x => hg i (by omega) (by rw [x]; exact e0)
    rw [hy_so _ _ (by omega), hy_so _ _ (by omega)]
    exact h3 t ht (fun g hg' => hg g (by omega))
  · rw [hy_so _ _ (by omega)]
    by_cases c0 : g = i
    · subst c0
      rw [e0, hy_eq (by omega) (by omega)] at e
      subst e
      rw [hy_ss, hw, ec]
      rfl
    · have ne : t ≠ t0 := fun x => hno g (by omega) (by rw [← x]; exact e)
      rw [hy_so _ _ (by omega)]
      exact h4 g (by omega) t ht e
  · rw [hy_ss, cN_sn, Nat.zero_add, hw, h5, if_pos rfl, ← hy_add1, Int32.add_assoc]
theorem hy_lt1 {x : Int32} {n : Nat} (hn : n ≤ 1000) (h : x = -1 ∨ ∃ k, k < n ∧ x = nI k) : (x < 1) = (x ≤ 0) := by
  rcases h with h | ⟨k, hk, h⟩
  · subst h
    decide
  · subst h
    rw [hy_1, hy_0, hy_lt (by omega) (by omega), hy_le (by omega) (by omega)]
    exact propext ⟨fun _ => by omega, fun _ => by omega⟩
theorem OG_sz {q c : Nat → Int32} {i : Nat} (hZ : hy_Z q) (h : OG q i c) : hy_Z c ∧ gz c = gz q ∧ tz c = tz q ∧ pz c = pz q := by
  have e : ∀ k, k < 12 → c k = q k := fun k hk => h.1 k (by omega) (by omega)
  refine ⟨Z_ag e hZ, ?_, ?_, ?_⟩
  · unfold gz; rw [e 11 (by omega)]
  · unfold tz; rw [e 2 (by omega)]
  · unfold pz; rw [e 1 (by omega)]
theorem O_m62 {b : Nat} (kk : hz_M → hz_O) {q : Nat → Int32} (hZ : hy_Z q) (hQ : hy_Q q) : ∀ (k i f : Nat) (M : hz_M) (c : Nat → Int32), RO b M c → OG q i c → i + k = gz q → k < f → ∃ M' c', f_X11_minute_L62 b kk f (nI i) M = kk M' ∧ (∀ a, (a < b ∨ b + 11 < a) → M' a = M a) ∧ RO b M' c' ∧ OG q (gz q) c'
  | 0, i, f, M, c, hR, hG, hi, hf => by
    have z2 := hZ.1.2
    have b10 := hR.1.2.2.2.2.2.2.2.2.2.2.1
    rw [hG.1 11 (by omega) (by omega), hZ.1.1] at b10
    obtain ⟨f, rfl⟩ : ∃ e, f = e + 1 := ⟨f - 1, by omega⟩
    refine ⟨M, c, ?_, fun _ _ => rfl, hR, by rw [show gz q = i by omega]; exact hG⟩
    rw [show i = gz q by omega]
    simp (disch := omega) only [f_X11_minute_L62, b10, hy_le, Nat.le_refl, if_true]
  | k + 1, i, f, M, c, hR, hG, hi, hf => by
    have z2 := hZ.1.2
    have z10 := hZ.2.2.2.1.2
    have z8 := hZ.2.2.1.2.2
    have z16 := hZ.2.2.2.2.2.2.2
    obtain ⟨Zc, gc, tc, pc⟩ := OG_sz hZ hG
    have b10 := hR.1.2.2.2.2.2.2.2.2.2.2.1
    rw [hG.1 11 (by omega) (by omega), hZ.1.1] at b10
    have rat := hR.2.2.2.2.2.2.2.1 i (by omega)
    have rhs := hR.2.2.2.2.2.2.2.2.1 i (by omega)
    rw [hG.1 _ (by omega) (by omega)] at rat rhs
    obtain ⟨f, rfl⟩ : ∃ e, f = e + 1 := ⟨f - 1, by omega⟩
    have hi' : ¬ gz q ≤ i := by omega
    have skip : wetP q i = false → ∃ M' c', f_X11_minute_L62 b kk f (nI (i + 1)) M = kk M' ∧ (∀ a, (a < b ∨ b + 11 < a) → M' a = M a) ∧ RO b M' c' ∧ OG q (gz q) c' := fun hw => O_m62 kk hZ hQ k (i + 1) f M c hR (OG_n hZ hQ (by omega) hG hw) (by omega) (by omega)
    by_cases e1 : q (25 + 8 * i + 2) < 1
    · obtain ⟨M', c', e, r⟩ := skip (decide_eq_false (fun h => h.1 e1))
      refine ⟨M', c', ?_, r⟩
      simp (disch := omega) only [f_X11_minute_L62, b10, hi', if_false, hy_cts, hy_gt, hy_lt', hy_lm, hy_jn, hy_c, hy_in, hy_le, hy_add1, hy_k0, hy_k1, hy_k2, hy_k3, hy_k4, hy_k5, hy_k6, hy_k7, hy_k8, hy_k9, hy_k10, hy_k11, hy_k12, hy_k13, rat, e1, if_true]
      exact e
    · rcases hQ.2.2.2.1 i (by omega) with e2 | ⟨t, ht, e2⟩
      · obtain ⟨M', c', e, r⟩ := skip (decide_eq_false (fun h => h.2.1 e2))
        refine ⟨M', c', ?_, r⟩
        simp (disch := omega) only [f_X11_minute_L62, b10, hi', if_false, hy_cts, hy_gt, hy_lt', hy_lm, hy_jn, hy_c, hy_in, hy_le, hy_add1, hy_k0, hy_k1, hy_k2, hy_k3, hy_k4, hy_k5, hy_k6, hy_k7, hy_k8, hy_k9, hy_k10, hy_k11, hy_k12, hy_k13, rat, e1, rhs, e2, show ((-1 : Int32) < 0) = True from eq_true (by decide), if_true]
        exact e
      · have nt : ¬ nI t < 0 := Int32.not_lt.mpr (hy_nn (by omega))
        have n1 := hy_n1 (a := t) (by omega)
        have rw1 := hR.2.2.2.2.1 t (by rw [tc]; exact ht)
        have hno : ∀ g, g < i → q (25 + 8 * g + 4) ≠ nI t := fun g hg e => by
          rcases hQ_h hQ g i (by omega) (by omega) (by show q _ = q _; rw [e, e2]) with x | x
          · have x' : q (25 + 8 * g + 4) = -1 := x
            rw [e, hy_n1 (by omega)] at x'
            exact x'
          · omega
        have ec := hG.2.2.1 t ht hno
        rw [ec] at rw1
        by_cases e3 : q (153 + 2 * t) = 9
        · obtain ⟨M', c', e, r⟩ := skip (decide_eq_false (fun h => h.2.2 (by rw [e2, hy_c (by omega)]; exact e3)))
          refine ⟨M', c', ?_, r⟩
          simp (disch := omega) only [f_X11_minute_L62, b10, hi', if_false, hy_cts, hy_gt, hy_lt', hy_lm, hy_jn, hy_c, hy_in, hy_le, hy_add1, hy_k0, hy_k1, hy_k2, hy_k3, hy_k4, hy_k5, hy_k6, hy_k7, hy_k8, hy_k9, hy_k10, hy_k11, hy_k12, hy_k13, rat, e1, rhs, e2, nt, rw1, e3, if_true]
          exact e
        · have hw : wetP q i = true := decide_eq_true ⟨e1, by rw [e2, n1]; exact not_false, by rw [e2, hy_c (by omega)]; exact e3⟩
          obtain ⟨hG', -⟩ := OG_s hZ hQ (by omega) hG hw ht e2
          have R1 := ro_wet hR Zc (t := t) (v := c (153 + 2 * t) + 1) (by rw [tc]; exact ht)
          have R2 := ro_acc R1 (Z_st (i := 153 + 2 * t) (c (153 + 2 * t) + 1) (by omega) (by omega) Zc) (a := 6) (v := c 18 + 1) (by omega)
          have a18 : M (b + 5) 6 = c 18 := hR.2.2.2.2.2.1 6 (by omega)
          obtain ⟨M', c', e, fr, r⟩ := O_m62 kk hZ hQ k (i + 1) f _ _ R2 hG' (by omega) (by omega)
          refine ⟨M', c', ?_, fun a ha => by rw [fr a ha, hy_seto _ _ _ (by omega), hy_seto _ _ _ (by omega)], r⟩
          rw [ec] at e
          simp (disch := omega) only [f_X11_minute_L62, b10, hi', if_false, hy_cts, hy_gt, hy_lt', hy_lm, hy_jn, hy_c, hy_in, hy_le, hy_add1, hy_k0, hy_k1, hy_k2, hy_k3, hy_k4, hy_k5, hy_k6, hy_k7, hy_k8, hy_k9, hy_k10, hy_k11, hy_k12, hy_k13, rat, e1, rhs, e2, nt, rw1, e3, hy_seto, a18]
          exact e
