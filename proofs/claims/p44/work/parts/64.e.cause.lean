theorem O_causeL {b : Nat} {M : hz_M} {q : Nat → Int32} (hR : RO b M q) (hZ : hy_Z q) {g : Nat} {d : Int32} (kk : Int32 → Int32 → Int32 → Int32 → hz_M → hz_O) : ∀ (p f : Nat), p ≤ gz q → p < f → f_X11_cause_L18 b kk f (nI g) d (8 : Int32) (hy_fnd (fun o => decide (¬ nI o = nI g ∧ q (25 + 8 * o + 2) = d - 10)) (gz q - p) p) (nI p - 1) M = kk (nI g) d (8 : Int32) (fOn q (nI g) (d - 10)) M
  | 0, f, _, hf => by
    obtain ⟨f, rfl⟩ : ∃ e, f = e + 1 := ⟨f - 1, by omega⟩
    rw [f_X11_cause_L18, if_pos (by decide)]
    rfl
  | p + 1, f, hp, hf => by
    have ih := O_causeL hR hZ (g := g) (d := d) kk p
    have z2 := hZ.1.2
    have rat := hR.2.2.2.2.2.2.2.1
    obtain ⟨f, rfl⟩ : ∃ e, f = e + 1 := ⟨f - 1, by omega⟩
    have ihf := ih f (by omega) (by omega)
    rw [show gz q - p = (gz q - (p + 1)) + 1 by omega, hy_fnd] at ihf
    rw [show nI (p + 1) - 1 = nI p by rw [hy_1, hy_sub (by omega)]; rfl]
    have np : ¬ nI p < 0 := Int32.not_lt.mpr (hy_nn (by omega))
    have e9 : nI p + -1 = nI p - 1 := by grind
    simp (disch := omega) only [f_X11_cause_L18, np, if_false, if_true, hy_cts, hy_gt, hy_lt', hy_lm, hy_jn, hy_c, hy_in, hy_le, hy_add1, hy_k0, hy_k1, hy_k2, hy_k3, hy_k4, hy_k5, hy_k6, hy_k7, hy_k8, hy_k9, hy_k10, hy_k11, hy_k12, hy_k13, rat p (by omega), e9]
    by_cases e1 : nI p = nI g
    · simp only [e1, if_true]
      rw [← e1]
      simpa [e1] using ihf
    · by_cases e2 : q (25 + 8 * p + 2) = d - 10
      · simp only [e1, e2, if_true, if_false]
        simpa [e1, e2] using ihf
      · simp only [e1, e2, if_false]
        simpa [e1, e2] using ihf
theorem O_cause {b : Nat} {M : hz_M} {q : Nat → Int32} (hR : RO b M q) (hZ : hy_Z q) (hQ : hy_Q q) {g : Nat} (hg : g < gz q) {d : Int32} (hd : deed q d) : f_X11_cause b (nI g) d M = some (csn q g d (rsn q g d), M) := by
  have hno := O_no hR hZ hQ hg hd
  have h10 := fun h => rsn_10 hZ hd (g := g) h
  have hL := fun kk => O_causeL hR hZ (g := g) (d := d) kk (gz q) hz_FU (Nat.le_refl _) (hy_FU (by have := hZ.1.2; omega))
  have hZ0 := hZ
  obtain ⟨⟨b0, b1, b2, b3, b4, b5, b6, b7, b8, b9, b10, b11⟩, rop, rpg, rlk, rwt, rac, rag, rat, rhs, rst, rwn, rsd⟩ := hR
  obtain ⟨⟨z1, z2⟩, ⟨z3, z4, z5⟩, ⟨z6, z7, z8⟩, ⟨z9, z10⟩, ⟨z11, z12, z13⟩, ⟨z14, z15, z16⟩⟩ := hZ
  rw [z1] at b10; rw [z3] at b0; rw [z6] at b1; rw [z9] at b2; rw [z11] at b3; rw [z14] at b4
  generalize hr : rsn q g d = r at hno h10
  have key : ∀ v4 : Int32, (r = 8 → v4 = fOn q (nI g) (d - 10)) → (if r = (2 : Int32) then (some (((700 : Int32) - ((M b 8) - (M b 8) / (600 : Int32) * (600 : Int32))), M) : hz_O) else if r = (3 : Int32) then some (((200 : Int32) + (M b 0)), M) else if r = (7 : Int32) then hz_gd (hz_in (nI g) 16) <| some ((((300 : Int32) + ((5 : Int32) * (d - (11 : Int32)))) - (M (b + 6) (Int32.toNatClampNeg (nI g)))), M) else if r = (8 : Int32) then some (((400 : Int32) + v4), M) else if r = (9 : Int32) then hz_gd (hz_in (nI g) 16) <| some (((500 : Int32) + (M (b + 7) (Int32.toNatClampNeg (nI g)))), M) else if r = (10 : Int32) then hz_gd (hz_in (d - (20 : Int32)) 16) <| some (((600 : Int32) + (M (b + 2) (Int32.toNatClampNeg (d - (20 : Int32))))), M) else some ((0 : Int32), M)) = some (csn q g d r, M) := by
    intro v4 h8
    unfold csn
    by_cases c2 : r = 2
    · simp only [c2, if_true, b8]
    · by_cases c3 : r = 3
      · subst c3
        simp only [if_true, b0, z3, show ((3 : Int32) = 2) = False from eq_false (by decide), if_false]
      · by_cases c7 : r = 7
        · subst c7
          simp (disch := omega) only [if_true, if_false, hy_cts, hy_gt, hy_lt', hy_lm, hy_jn, hy_c, hy_in, hy_le, hy_add1, hy_k0, hy_k1, hy_k2, hy_k3, hy_k4, hy_k5, hy_k6, hy_k7, hy_k8, hy_k9, hy_k10, hy_k11, hy_k12, hy_k13, rag g hg, show ((7 : Int32) = 2) = False from eq_false (by decide), show ((7 : Int32) = 3) = False from eq_false (by decide)]
          congr 2
          grind
        · by_cases c8 : r = 8
          · simp only [c8, if_true, h8 c8, show ((8 : Int32) = 2) = False from eq_false (by decide), show ((8 : Int32) = 3) = False from eq_false (by decide), show ((8 : Int32) = 7) = False from eq_false (by decide), if_false]
          · by_cases c9 : r = 9
            · subst c9
              simp (disch := omega) only [if_true, if_false, hy_cts, hy_gt, hy_lt', hy_lm, hy_jn, hy_c, hy_in, hy_le, hy_add1, hy_k0, hy_k1, hy_k2, hy_k3, hy_k4, hy_k5, hy_k6, hy_k7, hy_k8, hy_k9, hy_k10, hy_k11, hy_k12, hy_k13, rat g hg, show ((9 : Int32) = 2) = False from eq_false (by decide), show ((9 : Int32) = 3) = False from eq_false (by decide), show ((9 : Int32) = 7) = False from eq_false (by decide), show ((9 : Int32) = 8) = False from eq_false (by decide)]
            · by_cases c10 : r = 10
              · obtain ⟨p, hp, ep⟩ := h10 (by rw [← hr] at c10; exact hr ▸ c10)
                subst ep
                simp (disch := omega) only [c2, c3, c7, c8, c9, c10, if_true, if_false, hy_cts, hy_gt, hy_lt', hy_lm, hy_jn, hy_c, hy_in, hy_le, hy_add1, hy_k0, hy_k1, hy_k2, hy_k3, hy_k4, hy_k5, hy_k6, hy_k7, hy_k8, hy_k9, hy_k10, hy_k11, hy_k12, hy_k13, hy_s20, rpg p hp, show ((10 : Int32) = 2) = False from eq_false (by decide), show ((10 : Int32) = 3) = False from eq_false (by decide), show ((10 : Int32) = 7) = False from eq_false (by decide), show ((10 : Int32) = 8) = False from eq_false (by decide), show ((10 : Int32) = 9) = False from eq_false (by decide)]
              · simp only [c2, c3, c7, c8, c9, c10, if_false]
  unfold f_X11_cause
  rw [hno]
  simp only [hy_cts, hy_lt', hy_jn, b10]
  by_cases c8 : r = 8
  · subst c8
    have h1 := hL
    rw [Nat.sub_self] at h1
    rw [show (-1 : Int32) = hy_fnd (fun o => decide (¬ nI o = nI g ∧ q (25 + 8 * o + 2) = d - 10)) 0 (gz q) from rfl, h1]
    exact key _ (fun _ => rfl)
  · obtain ⟨f, ef⟩ := hy_FUs
    rw [ef, f_X11_cause_L18]
    have e1 := key (-1) (fun h => absurd h c8)
    rw [if_neg c8] at e1
    split
    · exact e1
    · exact e1
