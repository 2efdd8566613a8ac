/-! THE LAW'S OWN LOOP -/
theorem bo_ok {bo : Nat} (h : bo = 178 ∨ (191 ≤ bo ∧ (bo - 191) % 12 = 0)) (h2 : bo < 767) : hz_bo (nI (bo + 1)) = true ∧ hz_pl (nI (bo + 1)) = bo := by
  have e : hz_pl (nI (bo + 1)) = bo := by
    unfold hz_pl
    rw [hy_c (by omega)]
    omega
  refine ⟨?_, e⟩
  unfold hz_bo
  have n0 : ¬ nI (bo + 1) = 0 := by
    rw [hy_0, hy_eq (by omega) (by omega)]
    omega
  rw [e, beq_false_of_ne n0]
  rcases h with h | ⟨h, h3⟩
  · rw [h]
    rfl
  · rw [decide_eq_true h, decide_eq_true h2, h3]
    simp
theorem hLS_fr {b : Nat} {M M' : hz_M} {q : Nat → Int32} {qs : Nat → Nat → Int32} {n : Nat} {rf : Int32} (fr : ∀ a, (a < 178 ∨ (b ≤ a ∧ a ≤ b + 11)) → M' a = M a) (h : hLS b M q qs n rf) : hLS b M' q qs n rf := by
  obtain ⟨W, T, N, E, R, G, F⟩ := h
  exact ⟨W_fr (fun a ha => fr a (by omega)) W T, T, N, E, RO_fr (fun a h1 h2 => fr a (by omega)) R, Ring_fr (fun a ha => fr a (by omega)) G, by rw [fr 26 (by omega)]; exact F⟩
theorem lawL (xs : Nat → Int32) {L : Nat} (hL : L ≤ 260) : ∀ (d t f bo kept : Nat) (rf : Int32) (M : hz_M) (q : Nat → Int32) (qs : Nat → Nat → Int32) (pb : Nat → Nat) (T : Nat), t + d = 36 → d < f → kept ≤ t → hLS bo M q qs kept rf → Past M qs kept bo pb → (bo = 178 ∨ (191 ≤ bo ∧ (bo - 191) % 12 = 0)) → bo + 12 ≤ hz_Nt t → q 8 = nI T → T ≤ 60 * t → ∃ M', f_lawL xs L f_lawE f t bo kept rf M = some (1, M')
  | 0, t, f, bo, kept, rf, M, q, qs, pb, T, ht, hf, hk, h, P, hbo, hN, h8, hT => by
    obtain ⟨f, rfl⟩ : ∃ e, f = e + 1 := ⟨f - 1, by omega⟩
    obtain ⟨M', e⟩ := lawE (by omega) h P
    refine ⟨M', ?_⟩
    rw [f_lawL, if_pos (by omega)]
    exact e
  | d + 1, t, f, bo, kept, rf, M, q, qs, pb, T, ht, hf, hk, h, P, hbo, hN, h8, hT => by
    obtain ⟨f, rfl⟩ : ∃ e, f = e + 1 := ⟨f - 1, by omega⟩
    have hNp1 : hz_Np t + 12 = hz_Nt (t + 1) := by unfold hz_Np hz_Nt; omega
    have hNNp : hz_Nt t ≤ hz_Np t := by unfold hz_Np hz_Nt; omega
    have hNp9 : hz_Np t + 12 ≤ 767 := by unfold hz_Np; omega
    have hNpm : 191 ≤ hz_Np t ∧ (hz_Np t - 191) % 12 = 0 := by unfold hz_Np; omega
    have hb : 178 ≤ bo := by omega
    have ia : f_L_isAs bo rf M = some (1, M) := by
      obtain ⟨W, T, N, E, R, G, F⟩ := h
      exact L_isAs W.1 W.2.1 R T N E F
    have nz1 : hz_nz (1 : Int32) = true := by decide
    have key : ∀ M1 : hz_M, (∀ a, a < hz_Nt t → M1 a = M a) → ∃ M', (hz_ct (f_X11_copy bo (hz_Np t) (hz_mo (hz_Np t) M1)) fun _ M2 =>
      hz_ct (f_L_acts (hz_Np t) xs L (nI (20 + 6 * t)) M2) fun r3 M3 =>
      hz_gd (hz_nz r3) <|
      if 0 ≤ r3 then
        hz_ct (f_X10_size (16 : Int32) (hz_set M3 190 kept (nI (bo + 1)))) fun r5 M5 =>
        hz_gd (r5 == (if nI (kept + 1) < 8 then nI (kept + 1) else 8)) <|
        f_lawL xs L f_lawE f (t + 1) (hz_Np t) (kept + 1) rf M5
      else f_lawL xs L f_lawE f (t + 1) bo kept (rf + 1) M3) = some (1, M') := by
      intro M1 f1
      have hZ := h.1.1.1
      obtain ⟨M2, e2, f2, R2⟩ := O_copy (b := bo) (b2 := hz_Np t) (M := hz_mo (hz_Np t) M1) (q := q) (Or.inl (by omega)) (RO_fr (fun a h1 h2 => by rw [mo_o (by omega), f1 a (by omega)]) h.2.2.2.2.1) hZ
      have g2 : ∀ a, a < hz_Nt t → M2 a = M a := fun a ha => by rw [f2 a (by omega), mo_o (by omega), f1 a ha]
      have h2 : hLS (hz_Np t) M2 q qs kept rf := by
        obtain ⟨W, T, N, E, R, G, F⟩ := h
        exact ⟨W_fr (fun a ha => g2 a (by omega)) W T, T, N, E, R2, Ring_fr (fun a ha => g2 a (by omega)) G, by rw [g2 26 (by omega)]; exact F⟩
      obtain ⟨r3, M3, e3, f3, hr⟩ := L_acts (b := hz_Np t) (by omega) h2 xs (a := 20 + 6 * t) hL (by omega) h8 (by omega)
      have g3 : ∀ a, 178 ≤ a → a < hz_Nt t → M3 a = M a := fun a h1 h2 => by rw [f3 a h1 (by omega), g2 a h2]
      rw [e2, hy_cts, e3, hy_cts]
      rcases hr with ⟨rfl, W3, G3, F3⟩ | ⟨rfl, q', h3, h8'⟩
      · rw [show hz_nz (-1 : Int32) = true from by decide, hy_gt, if_neg (show ¬ (0 : Int32) ≤ -1 by decide)]
        have hh : hLS bo M3 q qs kept (rf + 1) := by
          obtain ⟨W, T, N, E, R, G, F⟩ := h
          exact ⟨W3, T, N, E, RO_fr (fun a h1 h2 => g3 a (by omega) (by omega)) R, G3, F3⟩
        exact lawL xs hL d (t + 1) f bo kept (rf + 1) M3 q qs pb T (by omega) (by omega) (by omega) hh (Past_fr (fun a h1 h2 => g3 a h1 (by omega)) (g3 190 (by omega) (by unfold hz_Nt; omega)) (Nat.le_refl _) P) hbo (by omega) h8 (by omega)
      · obtain ⟨j, hj, ej⟩ := h8' T h8
        have f5 : ∀ a, a ≠ 190 → hz_set M3 190 kept (nI (bo + 1)) a = M3 a := fun a ha => hy_seto _ _ _ ha
        have e190 : ∀ i, hz_set M3 190 kept (nI (bo + 1)) 190 i = if i = kept then nI (bo + 1) else M 190 i := fun i => by
          by_cases e : i = kept
          · rw [if_pos e, e, hy_setk]
          · rw [if_neg e, hy_setn _ _ _ e, g3 190 (by omega) (by unfold hz_Nt; omega)]
        have hh : hLS (hz_Np t) (hz_set M3 190 kept (nI (bo + 1))) q' (qadd qs kept q) (kept + 1) rf := hLS_fr (fun a ha => f5 a (by omega)) h3
        obtain ⟨pb', hp1, hp2⟩ : ∃ pb' : Nat → Nat, pb' kept = bo ∧ ∀ i, i ≠ kept → pb' i = pb i := ⟨fun i => if i = kept then bo else pb i, if_pos rfl, fun i h => if_neg h⟩
        have hP : Past (hz_set M3 190 kept (nI (bo + 1))) (qadd qs kept q) (kept + 1) (hz_Np t) pb' := by
          intro i hi
          by_cases e : i = kept
          · subst e
            have eb := bo_ok hbo (by omega)
            rw [hp1, e190 i, if_pos rfl, show qadd qs i q i = q from if_pos rfl]
            exact ⟨⟨hb, by omega, by omega⟩, ⟨rfl, eb.1, eb.2⟩, RO_fr (fun a h1 h2 => by rw [f5 a (by omega), g3 a (by omega) (by omega)]) h.2.2.2.2.1, h.2.2.1, h.2.2.2.1⟩
          · obtain ⟨⟨p1, p2, p3⟩, ⟨p4, p5, p6⟩, p7, p8⟩ := P i (by omega)
            rw [hp2 i e, e190 i, if_neg e, show qadd qs kept q i = qs i from if_neg e]
            exact ⟨⟨p1, by omega, p3⟩, ⟨p4, p5, p6⟩, RO_fr (fun a h1 h2 => by rw [f5 a (by omega), g3 a (by omega) (by omega)]) p7, p8⟩
        have e16 := cq_size16 (hz_set M3 190 kept (nI (bo + 1)))
        rw [f5 32 (by omega), Ring_n (by omega) h3.2.2.2.2.2.1] at e16
        rw [nz1, hy_gt, if_pos (show (0 : Int32) ≤ 1 by decide), e16, hy_cts, beq_self_eq_true, hy_gt]
        exact lawL xs hL d (t + 1) f (hz_Np t) (kept + 1) rf _ q' (qadd qs kept q) _ j (by omega) (by omega) (by omega) hh hP (Or.inr hNpm) (by omega) ej (by omega)
    rw [f_lawL, if_neg (by omega), ia, hy_cts, nz1, hy_gt]
    unfold f_lawF
    by_cases c5 : t % 6 = 5
    · rw [if_pos c5]
      obtain ⟨g, hg, p1⟩ := L_pick xs (a := 20 + 6 * t + 3) (n := 9) hL (by omega) (by omega) (by omega)
      obtain ⟨tw1, ht1, p2⟩ := L_pick xs (a := 20 + 6 * t + 4) (n := 9) hL (by omega) (by omega) (by omega)
      obtain ⟨m, hm, p3⟩ := L_pick xs (a := 20 + 6 * t + 5) (n := 201) hL (by omega) (by omega) (by omega)
      have p1' : ∀ M, f_L_pick xs L (nI (20 + 6 * t) + 3) (9 : Int32) M = some (nI g, M) := fun M => by
        rw [show nI (20 + 6 * t) + (3 : Int32) = nI (20 + 6 * t + 3) from hy_add _ 3]
        exact p1 M
      have p2' : ∀ M, f_L_pick xs L (nI (20 + 6 * t) + 4) (9 : Int32) M = some (nI tw1, M) := fun M => by
        rw [show nI (20 + 6 * t) + (4 : Int32) = nI (20 + 6 * t + 4) from hy_add _ 4]
        exact p2 M
      have p3' : ∀ M, f_L_pick xs L (nI (20 + 6 * t) + 5) (201 : Int32) M = some (nI m, M) := fun M => by
        rw [show nI (20 + 6 * t) + (5 : Int32) = nI (20 + 6 * t + 5) from hy_add _ 5]
        exact p3 M
      obtain ⟨M4, e4, f4⟩ := L_fore (N := hz_Nt t) hb hN h hg ht1 (show m ≤ 200 by omega) h8 (by omega)
      obtain ⟨M', e'⟩ := key M4 f4
      refine ⟨M', ?_⟩
      rw [p1', hy_cts, p2', hy_cts, p3', hy_cts, e4, hy_cts, nz1, hy_gt]
      exact e'
    · rw [if_neg c5]
      exact key M (fun _ _ => rfl)
theorem hz_pure44 (xs : Nat → Int32) {L : Nat} (hL : L ≤ 260) : ∃ (r0 : Int32) (M0 : hz_M) (rE : Int32) (ME : hz_M), f_X10_init (fun _ _ => 0) = some (r0, M0) ∧ f_law xs L (hz_mo 178 M0) = some (rE, ME) := by
  obtain ⟨r0, M0, e0, h9, h32⟩ := c_init
  obtain ⟨M1, q, e1, h1, h8⟩ := L_begins xs hL (M := hz_mo 178 M0) (by rw [mo_o (by omega)]; exact h9) (by rw [mo_o (by omega)]; exact h32) (fun a ha c => by
    unfold hz_mo
    rw [if_neg (by omega)])
  have h2 : hLS 178 (hz_m3 M1) q (fun _ _ => 0) 0 0 := hLS_fr (fun a ha => by
    funext c
    unfold hz_m3
    rw [if_neg (by omega)]) h1
  obtain ⟨ME, eE⟩ := lawL xs hL 36 0 40 178 0 0 (hz_m3 M1) q (fun _ _ => 0) (fun _ => 0) 0 (by omega) (by omega) (by omega) h2 (fun i hi => absurd hi (Nat.not_lt_zero i)) (Or.inl rfl) (by unfold hz_Nt; omega) h8 (by omega)
  refine ⟨r0, M0, 1, ME, e0, ?_⟩
  unfold f_law
  rw [e1, hy_cts, show hz_nz (1 : Int32) = true from by decide, hy_gt]
  exact eE
