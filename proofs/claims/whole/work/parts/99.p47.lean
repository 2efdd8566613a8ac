
/-! play -/
theorem r_play {Y R1_ R3 R4 K : hz_M} {r b : Int32} {M' : hz_M} (h1 : f_X11_starts (hz_set Y 178 8 0) = some (0, R1_)) (h2 : f_X11_readsOrders 4 0 (hz_set R1_ 178 22 0) = some (0, R3)) (h3 : f_X11_must (if R3 178 15 = 0 then 1 else 0) 1 R3 = some (r, R4)) (e : R4 178 17 = 0) (h4 : f_X11_keeps (hz_set R4 178 11 0) = some (0, K))
    (h5 : f_X11_doesAll 4 0 (hz_set (hz_set K 178 24 1) 178 23 0 178 22) (hz_set (hz_set K 178 24 1) 178 23 0) = some (b, M')) : f_X11_play Y = some (hz_set M' 178 24 0 178 23, hz_set M' 178 24 0) := by
  have e' : hz_set R4 178 11 0 178 17 = 0 := by rw [hy_setn _ _ _ (by omega)]; exact e
  unfold f_X11_play
  simp only [hy_lm, h1, hy_cts, h2, hy_jn]
  by_cases k : R3 178 15 = 0
  · rw [if_pos k] at h3 ⊢
    simp only [h3, hy_cts, e', if_true, h4, h5]
  · rw [if_neg k] at h3 ⊢
    simp only [h3, hy_cts, e', if_true, h4, h5]
theorem r_playE {Y R1_ R3 R4 : hz_M} {r : Int32} (h1 : f_X11_starts (hz_set Y 178 8 0) = some (0, R1_)) (h2 : f_X11_readsOrders 4 0 (hz_set R1_ 178 22 0) = some (0, R3)) (h3 : f_X11_must (if R3 178 15 = 0 then 1 else 0) 1 R3 = some (r, R4)) (e : ¬ R4 178 17 = 0) : f_X11_play Y = some (-20 - R4 178 17, hz_set R4 178 11 0) := by
  have e' : hz_set R4 178 11 0 178 17 = R4 178 17 := hy_setn _ _ _ (by omega)
  unfold f_X11_play
  simp only [hy_lm, h1, hy_cts, h2, hy_jn]
  by_cases k : R3 178 15 = 0
  · rw [if_pos k] at h3 ⊢
    simp only [h3, hy_cts, e', e, if_false]
  · rw [if_neg k] at h3 ⊢
    simp only [h3, hy_cts, e', e, if_false]
theorem g_2 {M : hz_M} (I : Inv M) : ∃ M', fs_2 M = some (0, M') ∧ Inv M' := by
  show ∃ M', hy_ge (f_X10_play M) f_X11_play = some (0, M') ∧ Inv M'
  have W := I_W I
  have T := I_T I
  have gz16 : gz (M 179) ≤ 16 := W.1.1.1.2
  have z1 : M 179 11 = nI (gz (M 179)) := W.1.1.1.1
  obtain ⟨i1, ⟨u, w, hu, hw, h6, h4, h3, hS⟩, i3, i4, i5, ⟨n, hn, t1, t2, t3⟩, i7, i8⟩ := I
  generalize hX : hz_set (hz_set (hz_set M 27 6 0) 27 7 0) 27 8 0 = X
  have x0 : ∀ a, a ≠ 27 → X a = M a := fun a h => by subst hX; rw [hy_seto _ _ _ h, hy_seto _ _ _ h, hy_seto _ _ _ h]
  have x6 : X 27 6 = 0 := by subst hX; rw [hy_setn _ _ _ (by omega), hy_setn _ _ _ (by omega), hy_setk]
  have x7 : X 27 7 = 0 := by subst hX; rw [hy_setn _ _ _ (by omega), hy_setk]
  have x8 : X 27 8 = 0 := by subst hX; rw [hy_setk]
  have HX : hy_Ho X (M 179) := Ho_fr (fun a ha => x0 a (by omega)) W.1.2.1
  have run := fun (Y : hz_M) (y2 : Y 186 = M 186) (y3 : Y 178 11 = M 178 11) => j_script (n := n) (q := M 179) (Mc := X) (Mr := hz_set Y 178 8 0) ⟨hn, by rw [x0 9 (by omega)]; exact t1, by rw [hy_setn _ _ _ (by omega), y3]; exact t2, fun i hi => by rw [x0 10 (by omega), hy_seto _ _ _ (by omega), y2]; exact t3 i hi⟩ HX gz16 z1 x6
  obtain ⟨C1, C3, C4, _, _, _, _, k1, k2, k3, _, _, _, _, _, ke, fo, _, kw⟩ := run M rfl rfl
  have same : ∀ C1' C3' C4' : hz_M, f_X8_rewind X = some (0, C1') → f_X6_readOrders 4 0 C1' = some (0, C3') → f_X8_needEnd C3' = some (0, C4') → C4' = C4 := fun C1' C3' C4' g1 g2 g3 => by
    have e1 := hy_injM k1 g1
    subst e1
    have e2 := hy_injM k2 g2
    subst e2
    exact hy_injM k3 g3
  have cl : f_X6_clear M = some (0, X) := by
    subst hX
    simp only [f_X6_clear, hy_lm]
  by_cases e : C4 9 6 = 0
  · obtain ⟨k, hk4, hk6, hk7⟩ := ke
    have k0 : k = 0 := by rw [hk6, hy_0, hy_eq (by omega) (by omega)] at e; exact e
    have c97 := hk7 k0
    have end_ : f_X10_endReading C4 = some (0, hz_set (hz_set C4 0 9 (-1)) 9 1 0) := by simp only [f_X10_endReading, hy_jn, e, if_true, hy_lm, f_X8_clear, hy_cts]
    generalize hC5 : hz_set (hz_set C4 0 9 (-1)) 9 1 0 = C5 at end_
    have c5 : ∀ a, a ≠ 0 → a ≠ 9 → C5 a = C4 a := fun a h1 h2 => by subst hC5; rw [hy_seto _ _ _ h2, hy_seto _ _ _ h1]
    have c56 : C5 9 6 = 0 := by subst hC5; rw [hy_setn _ _ _ (by omega), hy_seto _ _ _ (by omega)]; exact e
    have c5M : ∀ a, a ≠ 0 → a ≠ 9 → a ≠ 27 → (a < 28 ∨ 31 < a) → C5 a = M a := fun a h1 h2 h3 h4 => by rw [c5 a h1 h2, fo.1 a h2 h3 h4, x0 a h3]
    have S5 : Snap 11 C5 (C5 179) := by
      rw [c5M 179 (by omega) (by omega) (by omega) (by omega)]
      exact Snap_fr (fun a ha => c5M a (by omega) (by omega) (by omega) (by omega)) i1
    obtain ⟨C6, q0, q3, q4, qS, qf⟩ := c_record (M := C5) hw hu (by rw [c5M 32 (by omega) (by omega) (by omega) (by omega)]; exact h3) (by rw [c5M 32 (by omega) (by omega) (by omega) (by omega)]; exact h4) S5
    have c6 : ∀ a, a ≠ 32 → (a < 36 ∨ 147 < a) → C6 a = C5 a := fun a h1 h2 => qf a h1 (by omega)
    have c6M : ∀ a, a ≠ 32 → (a < 36 ∨ 147 < a) → a ≠ 0 → a ≠ 9 → a ≠ 27 → (a < 28 ∨ 31 < a) → C6 a = M a := fun a h1 h2 h3 h4 h5 h6 => by rw [c6 a h1 h2, c5M a h3 h4 h5 h6]
    have W6 : hy_W C6 (M 179) := W_fr (fun a ha => c6M a (by omega) (by omega) (by omega) (by omega) (by omega) (by omega)) W T
    have c27 : C6 27 = C4 27 := by rw [c6 27 (by omega) (by omega), c5 27 (by omega) (by omega)]
    obtain ⟨to, _, to6, _, _⟩ := kw e
    have c276 : C6 27 6 = nI to := by rw [c27]; exact to6
    -- the running, for every place where the reference begins
    have big : ∀ Y : hz_M, Y 178 = M 178 → Y 179 = M 179 → Y 186 = M 186 → Y 182 = M 182 → ∃ (q' : Nat → Int32) (d' : Nat) (Mf Mr' : hz_M), f_X6_runOrders 4 0 (C6 27 6) 0 C6 = some (0, Mf) ∧ f_X11_play Y = some (nI d', hz_set Mr' 178 24 0) ∧ FRc C6 Mf ∧ RS q' d' Mf Mr' ∧
        (∀ a, a ≠ 178 → a ≠ 179 → a ≠ 182 → a ≠ 185 → (a < 187 ∨ 190 < a) → Mr' a = Y a) ∧ Mr' 178 12 = -1 ∧ Mr' 178 11 = 0 ∧ Mr' 182 = keepRow (M 182) (M 179) u ∧ Mr' 178 6 = nI (if u = 8 then 8 else u + 1) ∧ Mr' 178 27 = M 178 27 := by
      intro Y y1 y2 y3 y4
      obtain ⟨C1', C3', C4', Rs, R3, R4, r, g1, g2, g3, g4, g5, g6, g7, g8, _, _, fp, gw⟩ := run Y y3 (by rw [y1])
      have ec := same C1' C3' C4' g1 g2 g3
      subst ec
      obtain ⟨to', w1, w2, w3, w4⟩ := gw e
      have et : to' = to := by
        have := w2.symm.trans to6
        rw [hy_eq (by omega) (by omega)] at this; omega
      subst et
      have er : R4 178 17 = 0 := by rw [← g7]; exact e
      have r4 : ∀ a, a ≠ 178 → (a < 187 ∨ 190 < a) → R4 a = Y a := fun a h1 h2 => by rw [fp.1 a h1 h2, hy_seto _ _ _ h1]
      have r48 : ∀ b, b ≠ 22 → b ≠ 8 → (b < 12 ∨ 17 < b) → R4 178 b = M 178 b := fun b h1 h2 h3 => by rw [fp.2.1 b h1 h3, hy_setn _ _ _ h2, y1]
      obtain ⟨K, m1, m2, m3, m4, m5⟩ := r_keeps (M := hz_set R4 178 11 0) hu (by rw [hy_setn _ _ _ (by omega), r48 6 (by omega) (by omega) (by omega)]; exact h6)
      generalize hK : hz_set (hz_set K 178 24 1) 178 23 0 = K2
      have kk : ∀ a, a ≠ 178 → a ≠ 182 → K2 a = R4 a := fun a h1 h2 => by subst hK; rw [hy_seto _ _ _ h1, hy_seto _ _ _ h1, m5 a h1 h2, hy_seto _ _ _ h1]
      have kb : ∀ b, b ≠ 6 → b ≠ 11 → b ≠ 23 → b ≠ 24 → K2 178 b = R4 178 b := fun b h1 h2 h3 h4 => by subst hK; rw [hy_setn _ _ _ h3, hy_setn _ _ _ h4, m4 b h1, hy_setn _ _ _ h2]
      have k22 : K2 178 22 = nI to' := by rw [kb 22 (by omega) (by omega) (by omega) (by omega)]; exact w3
      have k23 : K2 178 23 = 0 := by subst hK; exact hy_setk _ _ _ _
      have k24 : K2 178 24 = 1 := by subst hK; rw [hy_setn _ _ _ (by omega), hy_setk]
      have k11 : K2 178 11 = 0 := by subst hK; rw [hy_setn _ _ _ (by omega), hy_setn _ _ _ (by omega), m4 11 (by omega), hy_setk]
      have k182 : K2 182 = keepRow (M 182) (M 179) u := by
        subst hK
        rw [hy_seto _ _ _ (by omega), hy_seto _ _ _ (by omega), m2, hy_seto _ _ _ (by omega), hy_seto _ _ _ (by omega), r4 182 (by omega) (by omega), r4 179 (by omega) (by omega), y2, y4]
      have k6 : K2 178 6 = nI (if u = 8 then 8 else u + 1) := by subst hK; rw [hy_setn _ _ _ (by omega), hy_setn _ _ _ (by omega)]; exact m3
      have RS0 : RS (M 179) 0 C6 K2 := by
        refine ⟨W6, T, ?_, by omega, ?_, k23, ?_, k24⟩
        · rw [kk 179 (by omega) (by omega), r4 179 (by omega) (by omega), y2]
        · rw [c27, fo.2.2.1 7 (by omega)]; exact x7
        · rw [c6M 26 (by omega) (by omega) (by omega) (by omega) (by omega) (by omega), kb 7 (by omega) (by omega) (by omega) (by omega), r48 7 (by omega) (by omega) (by omega)]; exact i4
      have c8 : C6 27 8 = (if (0 : Nat) < 40 then 0 else 1) := by
        rw [if_pos (by omega), c27, fo.2.2.1 8 (by omega)]; exact x8
      have WF : WFo C6 K2 to' 0 0 to' := WFo_gen (lo := 0) (hi := to') (by rw [c6 1 (by omega) (by omega), c5 1 (by omega) (by omega)]) (by rw [c6 3 (by omega) (by omega), c5 3 (by omega) (by omega)]) (by rw [c6 4 (by omega) (by omega), c5 4 (by omega) (by omega)]) (fun a n1 n2 b _ _ => by rw [c6 a (by omega) (by omega), c5 a (by omega) (by omega)]) (fun a n1 n2 b _ _ => by rw [kk a (by omega) (by omega)]) to' 0 0 to' (by omega) (Nat.le_refl _) w4
      obtain ⟨rr, q', d', Mf, Mr', o1, o2, o3, o4, o5, _⟩ := run_all to' 0 0 to' 3 hz_FU hz_FU to' (M 179) 0 C6 K2 WF (by omega) (Nat.le_refl _) w1 c276 RS0 c8 (by omega) (by have := hy_FU (n := to') (by omega); omega) (by have := hy_FU (n := to') (by omega); omega)
      have o1' : f_X6_runOrders 4 0 (C6 27 6) 0 C6 = some (0, Mf) := by
        rw [c276]; exact Eq.trans (eq_cR 3 0 (nI to') 0 C6) o1
      have o2' : f_X11_doesAll 4 0 (K2 178 22) K2 = some (rr, Mr') := by
        rw [k22]; exact Eq.trans (eq_rR 3 0 (nI to') K2) o2
      have pl := r_play g4 g5 g6 er m1 (b := rr) (M' := Mr') (by rw [hK]; exact o2')
      have d23 : hz_set Mr' 178 24 0 178 23 = nI d' := by rw [hy_setn _ _ _ (by omega)]; exact o5.2.2.2.2.2.1
      rw [d23] at pl
      refine ⟨q', d', Mf, Mr', o1', pl, o3, o5, fun a h1 h2 h3 h4 h5 => ?_, ?_, ?_, ?_, ?_, ?_⟩
      · rw [o4.1 a h1 h2 h4, kk a h1 h3, r4 a h1 h5]
      · rw [o4.2 12 (by omega) (by omega), kb 12 (by omega) (by omega) (by omega) (by omega), ← g8]; exact c97
      · rw [o4.2 11 (by omega) (by omega)]; exact k11
      · rw [o4.1 182 (by omega) (by omega) (by omega)]; exact k182
      · rw [o4.2 6 (by omega) (by omega)]; exact k6
      · rw [o4.2 27 (by omega) (by omega), kb 27 (by omega) (by omega) (by omega) (by omega), r48 27 (by omega) (by omega) (by omega)]
    obtain ⟨_, _, Mf, _, p1, _, pc, _⟩ := big M rfl rfl rfl rfl
    have fM : ∀ a, (a < 11 ∨ 24 < a) → a ≠ 26 → a ≠ 27 → a ≠ 32 → (a < 36 ∨ 147 < a) → a ≠ 0 → a ≠ 9 → (a < 28 ∨ 31 < a) → Mf a = M a := fun a h1 h2 h3 h4 h5 h6 h7 h8 => by rw [pc.1 a h1 h2 h3, c6M a h4 h5 h6 h7 h3 h8]
    obtain ⟨q', d', Mf', Mr', p1', p2, _, pR, p5, p12, p11, p182, p6, p27⟩ := big Mf (fM 178 (by omega) (by omega) (by omega) (by omega) (by omega) (by omega) (by omega) (by omega)) (fM 179 (by omega) (by omega) (by omega) (by omega) (by omega) (by omega) (by omega) (by omega)) (fM 186 (by omega) (by omega) (by omega) (by omega) (by omega) (by omega) (by omega) (by omega)) (fM 182 (by omega) (by omega) (by omega) (by omega) (by omega) (by omega) (by omega) (by omega))
    have em := hy_injM p1 p1'
    subst em
    obtain ⟨RW, RT, R179, _, R7, R23, R26, R24⟩ := pR
    have key : f_X10_play M = some (nI d', Mf') := by
      simp only [f_X10_play, cl, hy_cts, k1, k2, k3, end_, c56, if_true, q0, p1, R7]
    have nf : ∀ a, a ≠ 178 → a ≠ 179 → a ≠ 182 → a ≠ 185 → (a < 187 ∨ 190 < a) → hz_set Mr' 178 24 0 a = Mf' a := fun a h1 h2 h3 h4 h5 => by rw [hy_seto _ _ _ h1]; exact p5 a h1 h2 h3 h4 h5
    refine ⟨hz_set Mr' 178 24 0, hy_gec key p2, Inv_mk (q := q') (W_fr (fun a ha => nf a (by omega) (by omega) (by omega) (by omega) (by omega)) RW RT) RT (by rw [hy_seto _ _ _ (by omega)]; exact R179) ?_ (Save_fr (fun a ha => ?_) i3) ?_ ?_ ?_ (Rep_fr (fun a ha => ?_) ?_ i7) (hy_setk _ _ _ _)⟩
    · refine hist_new (M := C5) (Mc := C6) hw hu (fun j hj => ?_) q3 q4 qS qf (fun a ha => ?_) ?_ ?_
      · rw [c5M 182 (by omega) (by omega) (by omega) (by omega)]
        exact Snap_fr (fun a ha => c5M a (by omega) (by omega) (by omega) (by omega)) (hS j hj)
      · rw [nf a (by omega) (by omega) (by omega) (by omega) (by omega)]; exact pc.1 a (by omega) (by omega) (by omega)
      · rw [hy_seto _ _ _ (by omega), p182, c5M 182 (by omega) (by omega) (by omega) (by omega), c5M 179 (by omega) (by omega) (by omega) (by omega)]
      · rw [hy_setn _ _ _ (by omega)]; exact p6
    · rw [nf a (by omega) (by omega) (by omega) (by omega) (by omega)]; exact fM a (by omega) (by omega) (by omega) (by omega) (by omega) (by omega) (by omega) (by omega)
    · rw [nf 26 (by omega) (by omega) (by omega) (by omega) (by omega), hy_setn _ _ _ (by omega)]; exact R26
    · rw [nf 0 (by omega) (by omega) (by omega) (by omega) (by omega), hy_setn _ _ _ (by omega), p12, pc.1 0 (by omega) (by omega) (by omega), c6 0 (by omega) (by omega)]
      subst hC5; rw [hy_seto _ _ _ (by omega), hy_setk]
    · refine ⟨0, by omega, ?_, ?_, fun i hi => by omega⟩
      · rw [nf 9 (by omega) (by omega) (by omega) (by omega) (by omega), pc.1 9 (by omega) (by omega) (by omega), c6 9 (by omega) (by omega)]
        subst hC5; rw [hy_setk]; rfl
      · rw [hy_setn _ _ _ (by omega), p11]; rfl
    · rw [nf a (by omega) (by omega) (by omega) (by omega) (by omega)]; exact fM a (by omega) (by omega) (by omega) (by omega) (by omega) (by omega) (by omega) (by omega)
    · rw [hy_setn _ _ _ (by omega)]; exact p27
  · have end_ : f_X10_endReading C4 = some (0, hz_set (hz_set C4 0 9 (C4 9 7)) 9 1 0) := by simp only [f_X10_endReading, hy_jn, e, if_false, hy_lm, f_X8_clear, hy_cts]
    generalize hC5 : hz_set (hz_set C4 0 9 (C4 9 7)) 9 1 0 = Mf at end_
    have c56 : Mf 9 6 = C4 9 6 := by subst hC5; rw [hy_setn _ _ _ (by omega), hy_seto _ _ _ (by omega)]
    have e5 : ¬ Mf 9 6 = 0 := by rw [c56]; exact e
    have key : f_X10_play M = some (-20 - C4 9 6, Mf) := by
      simp only [f_X10_play, cl, hy_cts, k1, k2, k3, end_, c56, e, if_false]
    have mfM : ∀ a, a ≠ 0 → a ≠ 9 → a ≠ 27 → (a < 28 ∨ 31 < a) → Mf a = M a := fun a h1 h2 h3 h4 => by subst hC5; rw [hy_seto _ _ _ h2, hy_seto _ _ _ h1, fo.1 a h2 h3 h4, x0 a h3]
    obtain ⟨C1', C3', C4', Rs, R3, R4, r, g1, g2, g3, g4, g5, g6, g7, g8, _, _, fp, _⟩ := run Mf (mfM 186 (by omega) (by omega) (by omega) (by omega)) (by rw [mfM 178 (by omega) (by omega) (by omega) (by omega)])
    have ec := same C1' C3' C4' g1 g2 g3
    subst ec
    have nr : ¬ R4 178 17 = 0 := by rw [← g7]; exact e
    have pl := r_playE g4 g5 g6 nr
    rw [← g7] at pl
    have nf : ∀ a, a ≠ 178 → (a < 187 ∨ 190 < a) → hz_set R4 178 11 0 a = Mf a := fun a h1 h2 => by rw [hy_seto _ _ _ h1, fp.1 a h1 h2, hy_seto _ _ _ h1]
    have g0 : ∀ a, a ≠ 0 → a ≠ 9 → a ≠ 27 → (a < 28 ∨ 31 < a) → a ≠ 178 → (a < 187 ∨ 190 < a) → hz_set R4 178 11 0 a = M a := fun a h1 h2 h3 h4 h5 h6 => by rw [nf a h5 h6, mfM a h1 h2 h3 h4]
    have m8 : ∀ b, b ≠ 22 → b ≠ 8 → b ≠ 11 → (b < 12 ∨ 17 < b) → hz_set R4 178 11 0 178 b = M 178 b := fun b h1 h2 h3 h4 => by rw [hy_setn _ _ _ h3, fp.2.1 b h1 h4, hy_setn _ _ _ h2, mfM 178 (by omega) (by omega) (by omega) (by omega)]
    refine ⟨_, hy_gec key pl, Inv_mk (q := M 179) (W_fr (fun a ha => g0 a (by omega) (by omega) (by omega) (by omega) (by omega) (by omega)) W T) T (g0 179 (by omega) (by omega) (by omega) (by omega) (by omega) (by omega)) (Hist_fr (fun a ha => g0 a (by omega) (by omega) (by omega) (by omega) (by omega) (by omega)) (m8 6 (by omega) (by omega) (by omega) (by omega)) ⟨u, w, hu, hw, h6, h4, h3, hS⟩) (Save_fr (fun a ha => g0 a (by omega) (by omega) (by omega) (by omega) (by omega) (by omega)) i3) ?_ ?_ ?_ (Rep_fr (fun a ha => g0 a (by omega) (by omega) (by omega) (by omega) (by omega) (by omega)) (m8 27 (by omega) (by omega) (by omega) (by omega)) i7) ?_⟩
    · rw [g0 26 (by omega) (by omega) (by omega) (by omega) (by omega) (by omega), m8 7 (by omega) (by omega) (by omega) (by omega)]; exact i4
    · rw [hy_setn _ _ _ (by omega), ← g8, nf 0 (by omega) (by omega)]
      subst hC5; rw [hy_seto _ _ _ (by omega), hy_setk]
    · refine ⟨0, by omega, ?_, ?_, fun i hi => by omega⟩
      · rw [nf 9 (by omega) (by omega)]; subst hC5; rw [hy_setk]; rfl
      · rw [hy_setk]; rfl
    · rw [m8 24 (by omega) (by omega) (by omega) (by omega)]; exact i8
theorem hz_pure {L : Nat} (hL : L ≤ 3072) (xs : Nat → Int32) : ∃ (r0 : Int32) (M0 : hz_M) (r1 : Int32) (M1 : hz_M) (r2 : Int32) (ME : hz_M), f_X10_init (fun _ _ => 0) = some (r0, M0) ∧ f_X11_init (hz_m1 M0) = some (r1, M1) ∧ f_loop xs L 600 0 (hz_m2 M1) = some (r2, ME) :=
  hz_pure_of (fun _ I => g_2 I) hL xs
theorem hz_flags (l : Launch) (h : l.flags = flags0) : l.stackTraces = false := by
  unfold Launch.stackTraces
  rw [h]
  decide +kernel
