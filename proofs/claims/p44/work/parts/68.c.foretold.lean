def okN (N : Nat) (M : hz_M) (res : hz_O) : Prop := ∃ M', res = some (1, M') ∧ ∀ a, a < N → M' a = M a
theorem mo_o {N a : Nat} {M : hz_M} (h : a < N) : hz_mo N M a = M a := by
  funext c
  unfold hz_mo
  rw [if_pos h]
theorem L_fore3 {b N : Nat} {M M3 : hz_M} {q : Nat → Int32} (hb : 178 ≤ b) (hN : b + 12 ≤ N) (W : hy_W M3 q) (T : hy_T q) (R : RO b M3 q) (R3 : RO (N + 12) M3 q) {g t m : Nat} (hg : g < 9) (ht : t < 9) (hm : m ≤ 200) {V6 V7 V8 : Int32} (h6 : g < gz q → V6 = if q (25 + 8 * g + 2) ≤ 0 then 0 else fDn g 200 0 q) (h7 : t < tz q → V7 = fDry t 201 0 q) (h8 : V8 = fSil 201 0 q) (f3 : ∀ a, a < N → M3 a = M a) : okN N M (f_L_fore3 b (N + 12) (nI g) (nI t) (nI m) V6 V7 V8 M3) := by
  have hZ := W.1.1
  obtain ⟨⟨z1, z2⟩, ⟨z3, z4, z5⟩, ⟨z6, z7, z8⟩, ⟨z9, z10⟩, ⟨z11, z12, z13⟩, ⟨z14, z15, z16⟩⟩ := W.1.1
  have hk : m % 10 ≤ 9 := by omega
  have em : nI m - nI m / (10 : Int32) * (10 : Int32) = nI (m % 10) := hy_mod (b := 10) (by omega) (by omega) (by omega)
  unfold f_L_fore3
  rw [em, hy_k0, hy_lm]
  have fr : ∀ a, a < N → hz_set M3 (N + 12 + 1) 0 (nI (m % 10)) a = M3 a := fun a ha => hy_seto _ _ _ (by omega)
  have W4 : hy_W (hz_set M3 (N + 12 + 1) 0 (nI (m % 10))) q := W_fr (fun a ha => fr a (by omega)) W T
  have R4 : RO b (hz_set M3 (N + 12 + 1) 0 (nI (m % 10))) q := RO_fr (fun a h1 h2 => fr a (by omega)) R
  have R5 : RO (N + 12) (hz_set M3 (N + 12 + 1) 0 (nI (m % 10))) (hy_st q 21 (nI (m % 10))) := ro_op (a := 0) (v := nI (m % 10)) R3 hZ (by omega)
  have fM : ∀ a, a < N → hz_set M3 (N + 12 + 1) 0 (nI (m % 10)) a = M a := fun a ha => by rw [fr a ha, f3 a ha]
  generalize hz_set M3 (N + 12 + 1) 0 (nI (m % 10)) = M4 at W4 R4 R5 fM
  have hZ5 : hy_Z (hy_st q 21 (nI (m % 10))) := Z_st _ (by omega) (by omega) hZ
  have nh := O_nextHeat R5 hZ5
  rw [hy_so _ _ (by omega)] at nh
  have b10 : M4 b 10 = nI (gz q) := by rw [R4.1.2.2.2.2.2.2.2.2.2.2.1, z1]
  have b2 : M4 b 2 = nI (tz q) := by rw [R4.1.2.2.1, z9]
  refine hy_jnP (P := okN N M) (fun k27 h27 => ?_)
  have key27 : okN N M (k27 (nI t) (nI m) V7 V8 M4) := by
    rw [h27]
    dsimp only
    refine hy_jnP (P := okN N M) (fun k21 h21 => ?_)
    have key21 : okN N M (k21 (nI m) V8 M4) := by
      rw [h21]
      dsimp only
      rw [cq_silenceIn W4 T, hy_cts, if_pos h8.symm, em, cq_ifValve W4 hk, hy_cts, nh, hy_cts, if_pos rfl]
      exact ⟨M4, rfl, fM⟩
    rw [b2]
    by_cases c : nI (tz q) ≤ nI t
    · rw [if_pos c]
      exact key21
    · have ht' : t < tz q := by
        rw [hy_le (by omega) (by omega)] at c
        omega
      rw [if_neg c, cq_dryIn W4 ht', hy_cts, if_pos (h7 ht').symm]
      exact key21
  rw [b10]
  by_cases c : nI (gz q) ≤ nI g
  · rw [if_pos c]
    exact key27
  · have hg' : g < gz q := by
      rw [hy_le (by omega) (by omega)] at c
      omega
    rw [if_neg c, cq_downIn W4 hg', hy_cts, if_pos (h6 hg').symm]
    exact key27
theorem L_fore {b N : Nat} {M : hz_M} {q : Nat → Int32} {qs : Nat → Nat → Int32} {n : Nat} {rf : Int32} (hb : 178 ≤ b) (hN : b + 12 ≤ N) (h : hLS b M q qs n rf) {g t m tm : Nat} (hg : g < 9) (ht : t < 9) (hm : m ≤ 200) (h8 : q 8 = nI tm) (htm : tm + 300 ≤ 9999) : okN N M (f_L_isForetold b N (nI g) (nI t) (nI m) M) := by
  obtain ⟨W, T, Nn, E, R, G, F⟩ := h
  have hZ := W.1.1
  obtain ⟨⟨z1, z2⟩, ⟨z3, z4, z5⟩, ⟨z6, z7, z8⟩, ⟨z9, z10⟩, ⟨z11, z12, z13⟩, ⟨z14, z15, z16⟩⟩ := W.1.1
  obtain ⟨Ma, e1, f1, R1⟩ := O_copy (b := b) (b2 := N) (M := hz_mo N M) (q := q) (Or.inl hN) (RO_fr (fun a h1 h2 => mo_o (by omega)) R) hZ
  have fa : ∀ a, a < N → Ma a = M a := fun a ha => by rw [f1 a (by omega), mo_o ha]
  have Wa : hy_W Ma q := W_fr (fun a ha => fa a (by omega)) W T
  have Ra : RO b Ma q := RO_fr (fun a h1 h2 => fa a (by omega)) R
  have key : ∀ v6 : Int32, (g < gz q → U6 g 201 0 q v6 = if q (25 + 8 * g + 2) ≤ 0 then 0 else fDn g 200 0 q) → okN N M (f_L_isForetold_L39 b N (f_L_fore2 b (N + 12)) hz_FU (nI g) (nI t) (nI m) v6 (-1 : Int32) (-1 : Int32) (0 : Int32) Ma) := by
    intro v6 h6
    obtain ⟨M2, e2, f2⟩ := F_loop (q0 := q) hN hb (f_L_fore2 b (N + 12)) hg ht hm h8 htm T 201 0 hz_FU Ma Ma v6 (-1) (-1) Wa Ra Wa R1 rfl (hy_FU (by omega))
    have e2' : f_L_isForetold_L39 b N (f_L_fore2 b (N + 12)) hz_FU (nI g) (nI t) (nI m) v6 (-1 : Int32) (-1 : Int32) (0 : Int32) Ma = f_L_fore2 b (N + 12) (nI g) (nI t) (nI m) (U6 g 201 0 q v6) (U7 (tz q) t 201 0 q (-1)) (U8 201 0 q (-1)) M2 := e2
    rw [e2']
    have f2a : ∀ a, a < N → M2 a = M a := fun a ha => by rw [f2 a (by omega), fa a ha]
    obtain ⟨M3, e3, f3, R3⟩ := O_copy (b := b) (b2 := N + 12) (M := hz_mo (N + 12) M2) (q := q) (Or.inl (by omega)) (RO_fr (fun a h1 h2 => by rw [mo_o (by omega), f2a a (by omega)]) R) hZ
    have f3a : ∀ a, a < N → M3 a = M a := fun a ha => by rw [f3 a (by omega), mo_o (by omega), f2a a ha]
    unfold f_L_fore2
    rw [e3, hy_cts]
    exact L_fore3 hb hN (W_fr (fun a ha => f3a a (by omega)) W T) T (RO_fr (fun a h1 h2 => f3a a (by omega)) R) R3 hg ht hm h6 (fun ht' => U7_n ht' (by omega) 201 0 q (by omega)) (U8_n 201 0 q (by omega)) f3a
  unfold f_L_isForetold
  rw [e1, hy_cts]
  unfold f_L_fore1
  have b10 : Ma b 10 = nI (gz q) := by rw [Ra.1.2.2.2.2.2.2.2.2.2.2.1, z1]
  refine hy_jnP (P := okN N M) (fun k99 h99 => ?_)
  refine hy_jnP (P := okN N M) (fun k104 h104 => ?_)
  rw [b10]
  by_cases c : nI (gz q) ≤ nI g
  · have hg' : ¬ g < gz q := by
      rw [hy_le (by omega) (by omega)] at c
      omega
    rw [if_pos c, h104]
    dsimp only
    rw [h99]
    dsimp only
    exact key 0 (fun x => absurd x hg')
  · have hg' : g < gz q := by
      rw [hy_le (by omega) (by omega)] at c
      omega
    rw [if_neg c, hy_in (by omega) (by omega), hy_gt, hy_c (by omega), Ra.2.2.2.2.2.2.2.1 g hg']
    by_cases c2 : q (25 + 8 * g + 2) ≤ 0
    · rw [if_pos c2, h104]
      dsimp only
      rw [h99]
      dsimp only
      exact key 0 (fun _ => by rw [if_pos c2]; exact U6_p g 201 0 q 0 (by decide))
    · rw [if_neg c2, h99]
      dsimp only
      exact key (-1) (fun _ => by rw [if_neg c2]; exact U6_n hg 200 0 q z2 hg' rfl)
