
theorem cph {M : hz_M} : ∃ M', f_X3_copyFrom M = some (0, M') ∧ (∀ a, a ≠ 1 → a ≠ 2 → a ≠ 3 → a ≠ 4 → M' a = M a) ∧ (∀ b, 3 ≤ b → b ≤ 11 → M' 1 b = M 5 b) ∧ (∀ b, b < 16 → M' 2 b = M 6 b) ∧ (∀ b, b < 96 → M' 3 b = M 7 b) ∧ ∀ b, b < 16 → M' 4 b = M 8 b := by
  unfold f_X3_copyFrom
  simp only [hy_lm]
  refine ⟨_, rfl, fun a h1 h2 h3 h4 => ?_, fun b h1 h2 => ?_, fun b h => ?_, fun b h => ?_, fun b h => ?_⟩
  · simp (disch := omega) only [hy_seto, cpy_o]
  · have : b = 3 ∨ b = 4 ∨ b = 5 ∨ b = 6 ∨ b = 7 ∨ b = 8 ∨ b = 9 ∨ b = 10 ∨ b = 11 := by omega
    rcases this with rfl | rfl | rfl | rfl | rfl | rfl | rfl | rfl | rfl <;> simp (disch := omega) only [hy_setn, hy_setk, hy_seto, cpy_o]
  · simp (disch := omega) only [hy_seto, cpy_o, cpy_k]
  · simp (disch := omega) only [hy_seto, cpy_o, cpy_k]
  · simp (disch := omega) only [hy_seto, cpy_o, cpy_k]
theorem c_forget (M : hz_M) : f_X2_forgetAll M = some (0, hz_set (hz_set (hz_set M 32 4 0) 35 0 0) 35 1 0) := by
  obtain ⟨m, hm⟩ := hy_FU6
  unfold f_X2_forgetAll
  rw [hm]
  simp only [hy_lm, f_X2_forgetAll_L7, show ((2 : Int32) ≤ 0) = False from eq_false (by decide), if_false, show hz_in (0 : Int32) 2 = true from by decide, hy_gt, hy_lt', hy_k0, show (0 : Int32) + 1 = 1 from rfl, show ((2 : Int32) ≤ 1) = False from eq_false (by decide), show hz_in (1 : Int32) 2 = true from by decide, hy_k1, show (1 : Int32) + 1 = 2 from rfl, show ((2 : Int32) ≤ 2) = True from eq_true (by decide), if_true]
/-- where the reference begins to read -/
def ldR (Y : hz_M) : hz_M := hy_row (hy_row (hz_set Y 178 8 0) 181 (fun b => if 0 ≤ b ∧ b < 185 then (hz_set Y 178 8 0) 179 b else (hz_set Y 178 8 0) 181 b)) 179 (fun b => if 0 ≤ b ∧ b < 185 then 0 else (hz_set Y 178 8 0) 179 b)
theorem g_1 {M : hz_M} (I : Inv M) : ∃ M', fs_1 M = some (0, M') ∧ Inv M' := by
  show ∃ M', hy_ge (f_X10_load M) f_X11_load = some (0, M') ∧ Inv M'
  have hX := (I_W I).2.2
  have W := I_W I
  have T := I_T I
  obtain ⟨n, hn, t1, t2, t3⟩ := I.2.2.2.2.2.1
  have run := fun (Y : hz_M) (y1 : Y 179 = M 179) (y2 : Y 186 = M 186) (y3 : Y 178 11 = M 178 11) => j_read (th := 5) (n := n) (Mc := M) (Mr := ldR Y) (by omega) (by
    refine ⟨hn, t1, ?_, fun i hi => ?_⟩
    · unfold ldR; rw [hy_ro _ _ (by omega), hy_ro _ _ (by omega), hy_setn _ _ _ (by omega), y3]; exact t2
    · unfold ldR; rw [hy_ro _ _ (by omega), hy_ro _ _ (by omega), hy_seto _ _ _ (by omega), y2]; exact t3 i hi) (by
    intro b
    unfold ldR
    rw [hy_rs]
    by_cases hb : b < 185
    · rw [if_pos (by omega)]
    · rw [if_neg (by omega), hy_seto _ _ _ (by omega), y1]; exact hX b (by omega))
  obtain ⟨C, _, _, k1, _, _, _, _, k6, k7, _, _⟩ := run M rfl rfl rfl
  have same : ∀ C' : hz_M, f_X3_read 5 M = some (0, C') → C' = C := fun C' h => by
    rw [k1] at h; injection h with e; injection e with e1 e2; exact e2.symm
  have k10 : ∀ a, 10 ≤ a → C a = M a := fun a ha => k7 a (by omega) (by omega) (by omega) (by omega) (by omega)
  -- how the reference goes on
  have ref : ∀ (Y Rs R' : hz_M), f_X11_starts (ldR Y) = some (0, Rs) → f_X11_readsSetup Rs = some (0, R') → f_X11_load Y = (if (hz_set R' 178 11 0) 178 17 = 0 then (some ((hz_set (hz_set (hz_set (hz_set (hz_set R' 178 11 0) 178 6 0) 178 7 0) 184 0 0) 184 1 0) 179 11, hz_set (hz_set (hz_set (hz_set (hz_set R' 178 11 0) 178 6 0) 178 7 0) 184 0 0) 184 1 0)) else f_X11_load_L61 (fun (M15 : hz_M) => some (((-20 : Int32) - (M15 178 17)), M15)) hz_FU (0 : Int32) (hz_set R' 178 11 0)) := by
    intro Y Rs R' h1 h2
    have l7 := k_l7 (fun (M2 : hz_M) => hz_ct (f_X11_starts M2) fun r3 M4 => hz_ct (f_X11_readsSetup M4) fun r6 M7 => if (hz_set M7 178 11 (0 : Int32)) 178 17 = 0 then (some ((hz_set (hz_set (hz_set (hz_set (hz_set M7 178 11 0) 178 6 0) 178 7 0) 184 0 0) 184 1 0) 179 11, hz_set (hz_set (hz_set (hz_set (hz_set M7 178 11 0) 178 6 0) 178 7 0) 184 0 0) 184 1 0)) else f_X11_load_L61 (fun (M15 : hz_M) => some (((-20 : Int32) - (M15 178 17)), M15)) hz_FU (0 : Int32) (hz_set M7 178 11 (0 : Int32))) 185 0 hz_FU (hz_set Y 178 8 0) (by omega) (hy_FU (by omega))
    simp only [f_X11_load, hy_lm, hy_jn, hy_k0, hy_k1, hy_k2, hy_k3, hy_k4, hy_k5, hy_k6, hy_k7, hy_k8, hy_k9, hy_k10, hy_k11, hy_k12, hy_k13]
    refine Eq.trans l7 ?_
    show hz_ct (f_X11_starts (ldR Y)) _ = _
    rw [h1, hy_cts, h2, hy_cts]
  by_cases e : C 9 6 = 0
  · -- read
    obtain ⟨k, hk4, hk6, hk7⟩ := k6
    have k0 : k = 0 := by rw [hk6, hy_0, hy_eq (by omega) (by omega)] at e; exact e
    have c97 := hk7 k0
    have end_ : f_X10_endReading C = some (0, hz_set (hz_set C 0 9 (-1)) 9 1 0) := by simp only [f_X10_endReading, hy_jn, e, if_true, hy_lm, f_X8_clear, hy_cts]
    generalize hC5 : hz_set (hz_set C 0 9 (-1)) 9 1 0 = C5 at end_
    have c5 : ∀ a, a ≠ 0 → a ≠ 9 → C5 a = C a := fun a h1 h2 => by subst hC5; rw [hy_seto _ _ _ h2, hy_seto _ _ _ h1]
    have c56 : C5 9 6 = 0 := by subst hC5; rw [hy_setn _ _ _ (by omega), hy_seto _ _ _ (by omega)]; exact e
    obtain ⟨C6, q1, q2, q3, q4, q5, q6⟩ := cph (M := C5)
    obtain ⟨_, _, R1, _, _, _, _, _, _, _, _, ok1⟩ := run M rfl rfl rfl
    -- the sizes
    have sz6 : ∃ T, T ≤ 16 ∧ C6 1 6 = nI T := by
      obtain ⟨C', Rs, R', z1, z2, z3, z4, z5, z6, z7, z8, z9⟩ := run M rfl rfl rfl
      have ec := same C' z1
      subst ec
      obtain ⟨i, T', i16, T16, g3, HDD, r2, _⟩ := z9 e
      obtain ⟨l, p, t, v, st, r, g, u, l1, l2, p1, p2, t1', v1, v2, st1, st2, r1, r2', g1, g2, u1, ⟨d4, d5, d6, _⟩, _⟩ := HDD
      exact ⟨t, by omega, by rw [q3 6 (by omega) (by omega), c5 5 (by omega) (by omega)]; exact d6⟩
    obtain ⟨T', T16, s6⟩ := sz6
    obtain ⟨C7, b1, b2, b3, b4, b5, b6, b7, b8, b9⟩ := c_begin T16 s6
    generalize hMf : hz_set (hz_set (hz_set (hz_set C7 26 3 0) 32 4 0) 35 0 0) 35 1 0 = Mf
    have key : f_X10_load M = some (Mf 1 3, Mf) := by
      simp only [f_X10_load, k1, hy_cts, end_, c56, if_true, q1, b1, hy_lm, c_forget, hMf]
    have mf : ∀ a, a ≠ 26 → a ≠ 32 → a ≠ 35 → Mf a = C7 a := fun a h1 h2 h3 => by subst hMf; rw [hy_seto _ _ _ h3, hy_seto _ _ _ h3, hy_seto _ _ _ h2, hy_seto _ _ _ h1]
    have mfM : ∀ a, 25 ≤ a → a ≠ 26 → a ≠ 32 → a ≠ 35 → Mf a = M a := fun a h0 h1 h2 h3 => by rw [mf a h1 h2 h3, b2 a (by omega), q2 a (by omega) (by omega) (by omega) (by omega), c5 a (by omega) (by omega), k10 a (by omega)]
    obtain ⟨C', Rs, R', z1, z2, z3, z4, z5, z6, z7, z8, z9⟩ := run Mf (mfM 179 (by omega) (by omega) (by omega) (by omega)) (mfM 186 (by omega) (by omega) (by omega) (by omega)) (by rw [mfM 178 (by omega) (by omega) (by omega) (by omega)])
    have ec := same C' z1
    subst ec
    obtain ⟨i, T2, i16, T216, g3, HDD, r2, r11, r9, r10, GSS, pgs, zz⟩ := z9 e
    have eT : T' = T2 := by
      obtain ⟨l, p, t, v, st, r, g, u, l1, l2, p1, p2, t1', v1, v2, st1, st2, r1, r2', g1, g2, u1, ⟨d4, d5, d6, _⟩, ⟨x0, x1, x2, _⟩⟩ := HDD
      rw [q3 6 (by omega) (by omega), c5 5 (by omega) (by omega), d6, hy_eq (by omega) (by omega)] at s6
      rw [x2, hy_eq (by omega) (by omega)] at r2
      omega
    subst eT
    have rc : R' 178 17 = 0 := by rw [← z4]; exact e
    generalize hMr : hz_set (hz_set (hz_set (hz_set (hz_set R' 178 11 0) 178 6 0) 178 7 0) 184 0 0) 184 1 0 = Mr
    have rf := ref Mf Rs R' z2 z3
    rw [hMr, if_pos (by rw [hy_setn _ _ _ (by omega)]; exact rc)] at rf
    have m1 : ∀ a, a ≠ 178 → a ≠ 184 → Mr a = R' a := fun a h1 h2 => by subst hMr; rw [hy_seto _ _ _ h2, hy_seto _ _ _ h2, hy_seto _ _ _ h1, hy_seto _ _ _ h1, hy_seto _ _ _ h1]
    have m2 : ∀ a, a ≠ 178 → a ≠ 179 → a ≠ 181 → a ≠ 184 → Mr a = Mf a := fun a h1 h2 h3 h4 => by
      rw [m1 a h1 h4, z8.1 a h1 h2]; unfold ldR
      rw [hy_ro _ _ h2, hy_ro _ _ h3, hy_seto _ _ _ h1]
    have m8 : ∀ b, b ≠ 6 → b ≠ 7 → b ≠ 11 → b ≠ 8 → (b < 12 ∨ 17 < b) → Mr 178 b = M 178 b := fun b h6 h7 h11 h8 hb => by
      subst hMr
      rw [hy_seto _ _ _ (by omega), hy_seto _ _ _ (by omega), hy_setn _ _ _ h7, hy_setn _ _ _ h6, hy_setn _ _ _ h11, z8.2.1 b hb]; unfold ldR
      rw [hy_ro _ _ (by omega), hy_ro _ _ (by omega), hy_setn _ _ _ h8, mfM 178 (by omega) (by omega) (by omega) (by omega)]
    have mr179 : Mr 179 = R' 179 := m1 179 (by omega) (by omega)
    have f13 : Mf 1 3 = nI i := by rw [mf 1 (by omega) (by omega) (by omega), b2 1 (by omega), q3 3 (by omega) (by omega), c5 5 (by omega) (by omega)]; exact g3
    have cr : ∀ a, a < 11 → Mf a = C6 a := fun a ha => by rw [mf a (by omega) (by omega) (by omega), b2 a (by omega)]
    have crr : ∀ a, 11 ≤ a → a ≤ 24 → Mf a = C7 a := fun a h1 h2 => mf a (by omega) (by omega) (by omega)
    obtain ⟨Wn, Tn⟩ := W_fresh (M := Mf) (C := C') (q := R' 179) i16 T16 HDD r2 r11 r9 r10 (fun g hg => ⟨R', rfl, GSS g hg⟩) pgs zz ⟨f13, fun b h1 h2 => by rw [cr 1 (by omega), q3 b (by omega) h2, c5 5 (by omega) (by omega)]⟩
      (fun b hb => by rw [cr 2 (by omega), q4 b hb, c5 6 (by omega) (by omega)]) (fun b hb => by rw [cr 3 (by omega), q5 b hb, c5 7 (by omega) (by omega)]) (fun b hb => by rw [cr 4 (by omega), q6 b hb, c5 8 (by omega) (by omega)])
      (by rw [crr 11 (by omega) (by omega), cr 1 (by omega)]; exact b3) (fun b hb => by rw [crr 12 (by omega) (by omega)]; exact b4 b hb)
      (fun b hb => by rw [crr 13 (by omega) (by omega), crr 14 (by omega) (by omega), crr 15 (by omega) (by omega), crr 16 (by omega) (by omega), crr 17 (by omega) (by omega), crr 18 (by omega) (by omega), crr 20 (by omega) (by omega)]; exact b5 b hb)
      (fun b hb => by rw [crr 19 (by omega) (by omega)]; exact b6 b hb) (fun b hb => by rw [crr 24 (by omega) (by omega)]; exact b7 b hb)
      (fun b hb => by rw [crr 23 (by omega) (by omega), crr 22 (by omega) (by omega)]; exact b8 b hb) (fun b hb => by rw [crr 21 (by omega) (by omega)]; exact b9 b hb)
    obtain ⟨i1, ⟨u, w, hu, hw, h6, h4, h3, hS⟩, i3, i4, i5, i6, i7, i8⟩ := I
    refine ⟨Mr, hy_gec (M1 := Mf) (r := nI i) (by rw [key, f13]) (by rw [rf, mr179, r11]), Inv_mk (W_fr (fun a ha => m2 a (by omega) (by omega) (by omega) (by omega)) Wn Tn) Tn mr179 ?_ ?_ ?_ ?_ ?_ (Rep_fr (fun a ha => by rw [m2 a (by omega) (by omega) (by omega) (by omega), mfM a (by omega) (by omega) (by omega) (by omega)]) (m8 27 (by omega) (by omega) (by omega) (by omega) (by omega)) i7) ?_⟩
    · refine ⟨0, w, by omega, hw, ?_, ?_, ?_, fun j hj => by omega⟩
      · subst hMr; rw [hy_seto _ _ _ (by omega), hy_seto _ _ _ (by omega), hy_setn _ _ _ (by omega), hy_setk]; rfl
      · rw [m2 32 (by omega) (by omega) (by omega) (by omega)]; subst hMf; rw [hy_seto _ _ _ (by omega), hy_seto _ _ _ (by omega), hy_setk]; rfl
      · rw [m2 32 (by omega) (by omega) (by omega) (by omega)]; subst hMf; rw [hy_seto _ _ _ (by omega), hy_seto _ _ _ (by omega), hy_setn _ _ _ (by omega), hy_seto _ _ _ (by omega), b2 32 (by omega), q2 32 (by omega) (by omega) (by omega) (by omega), c5 32 (by omega) (by omega), k10 32 (by omega)]; exact h3
    · intro s hs
      have a1 : Mr 35 s = 0 := by
        rw [m2 35 (by omega) (by omega) (by omega) (by omega)]; subst hMf
        rw [hy_srow]; unfold hy_st
        by_cases e1 : s = 1
        · rw [if_pos e1]
        · rw [if_neg e1, show s = 0 by omega, hy_setk]
      have a2 : Mr 184 s = 0 := by
        subst hMr
        rw [hy_srow]; unfold hy_st
        by_cases e1 : s = 1
        · rw [if_pos e1]
        · rw [if_neg e1, show s = 0 by omega, hy_setk]
      exact ⟨by rw [a1, a2], Or.inl a1⟩
    · rw [m2 26 (by omega) (by omega) (by omega) (by omega)]
      subst hMf hMr
      rw [hy_seto _ _ _ (by omega), hy_seto _ _ _ (by omega), hy_seto _ _ _ (by omega), hy_setk, hy_seto _ _ _ (by omega), hy_seto _ _ _ (by omega), hy_setk]
    · have a1 : Mr 178 12 = -1 := by
        subst hMr
        rw [hy_seto _ _ _ (by omega), hy_seto _ _ _ (by omega), hy_setn _ _ _ (by omega), hy_setn _ _ _ (by omega), hy_setn _ _ _ (by omega), ← z5]; exact c97
      have a2 : Mr 0 9 = -1 := by
        rw [m2 0 (by omega) (by omega) (by omega) (by omega), cr 0 (by omega), q2 0 (by omega) (by omega) (by omega) (by omega)]; subst hC5; rw [hy_seto _ _ _ (by omega), hy_setk]
      rw [a1, a2]
    · refine ⟨0, by omega, ?_, ?_, fun i hi => by omega⟩
      · rw [m2 9 (by omega) (by omega) (by omega) (by omega), cr 9 (by omega), q2 9 (by omega) (by omega) (by omega) (by omega)]; subst hC5; rw [hy_setk]; rfl
      · subst hMr; rw [hy_seto _ _ _ (by omega), hy_seto _ _ _ (by omega), hy_setn _ _ _ (by omega), hy_setn _ _ _ (by omega), hy_setk]; rfl
    · rw [m8 24 (by omega) (by omega) (by omega) (by omega) (by omega)]; exact i8
  · -- not read
    have end_ : f_X10_endReading C = some (0, hz_set (hz_set C 0 9 (C 9 7)) 9 1 0) := by simp only [f_X10_endReading, hy_jn, e, if_false, hy_lm, f_X8_clear, hy_cts]
    generalize hC5 : hz_set (hz_set C 0 9 (C 9 7)) 9 1 0 = Mf at end_
    have c56 : Mf 9 6 = C 9 6 := by subst hC5; rw [hy_setn _ _ _ (by omega), hy_seto _ _ _ (by omega)]
    have e5 : ¬ Mf 9 6 = 0 := by rw [c56]; exact e
    have key : f_X10_load M = some (-20 - C 9 6, Mf) := by
      simp only [f_X10_load, k1, hy_cts, end_, c56, e, if_false]
    have mfM : ∀ a, a ≠ 0 → a ≠ 9 → a ≠ 5 → a ≠ 6 → a ≠ 7 → a ≠ 8 → Mf a = M a := fun a h1 h2 h5 h6 h7 h8 => by subst hC5; rw [hy_seto _ _ _ h2, hy_seto _ _ _ h1]; exact k7 a h2 h5 h6 h7 h8
    obtain ⟨C', Rs, R', z1, z2, z3, z4, z5, z6, z7, z8, z9⟩ := run Mf (mfM 179 (by omega) (by omega) (by omega) (by omega) (by omega) (by omega)) (mfM 186 (by omega) (by omega) (by omega) (by omega) (by omega) (by omega)) (by rw [mfM 178 (by omega) (by omega) (by omega) (by omega) (by omega) (by omega)])
    have ec := same C' z1
    subst ec
    have rc : ¬ R' 178 17 = 0 := by rw [← z4]; exact e
    have rf := ref Mf Rs R' z2 z3
    rw [if_neg (by rw [hy_setn _ _ _ (by omega)]; exact rc)] at rf
    have l61 := k_l61 (fun (M15 : hz_M) => some (((-20 : Int32) - (M15 178 17)), M15)) 185 0 hz_FU (hz_set R' 178 11 0) (by omega) (hy_FU (by omega))
    have er : (fun b => if 0 + 0 ≤ b ∧ b < 0 + 185 then (hz_set R' 178 11 0) 181 (b - 0 + 0) else (hz_set R' 178 11 0) 179 b) = M 179 := by
      funext b
      rw [hy_seto _ _ _ (by omega), hy_seto _ _ _ (by omega), z8.1 181 (by omega) (by omega)]
      by_cases hb : b < 185
      · rw [if_pos (by omega)]; unfold ldR
        rw [hy_ro _ _ (by omega), hy_rs, if_pos (by omega), hy_seto _ _ _ (by omega), mfM 179 (by omega) (by omega) (by omega) (by omega) (by omega) (by omega)]; rfl
      · rw [if_neg (by omega), z8.2.2 b (by omega)]; unfold ldR
        rw [hy_rs, if_neg (by omega), hy_seto _ _ _ (by omega), mfM 179 (by omega) (by omega) (by omega) (by omega) (by omega) (by omega)]
    rw [er] at l61
    generalize hMr : hy_row (hz_set R' 178 11 0) 179 (M 179) = Mr at l61
    have m2 : ∀ a, a ≠ 178 → a ≠ 179 → a ≠ 181 → Mr a = Mf a := fun a h1 h2 h3 => by
      subst hMr
      rw [hy_ro _ _ h2, hy_seto _ _ _ h1, z8.1 a h1 h2]; unfold ldR
      rw [hy_ro _ _ h2, hy_ro _ _ h3, hy_seto _ _ _ h1]
    have m8 : ∀ b, b ≠ 11 → b ≠ 8 → (b < 12 ∨ 17 < b) → Mr 178 b = M 178 b := fun b h11 h8 hb => by
      subst hMr
      rw [hy_ro _ _ (by omega), hy_setn _ _ _ h11, z8.2.1 b hb]; unfold ldR
      rw [hy_ro _ _ (by omega), hy_ro _ _ (by omega), hy_setn _ _ _ h8, mfM 178 (by omega) (by omega) (by omega) (by omega) (by omega) (by omega)]
    have g0 : ∀ a, a ≠ 0 → a ≠ 9 → a ≠ 5 → a ≠ 6 → a ≠ 7 → a ≠ 8 → a ≠ 178 → a ≠ 179 → a ≠ 181 → Mr a = M a := fun a h0 h9 h5 h6 h7 h8 h1 h2 h3 => by rw [m2 a h1 h2 h3, mfM a h0 h9 h5 h6 h7 h8]
    obtain ⟨i1, i2, i3, i4, i5, i6, i7, i8⟩ := I
    refine ⟨Mr, hy_gec key ?_, Inv_mk (W_fr (fun a ha => g0 a (by omega) (by omega) (by omega) (by omega) (by omega) (by omega) (by omega) (by omega) (by omega)) W T) T (by subst hMr; rw [hy_rs]) (Hist_fr (fun a ha => g0 a (by omega) (by omega) (by omega) (by omega) (by omega) (by omega) (by omega) (by omega) (by omega)) (m8 6 (by omega) (by omega) (by omega)) i2) (Save_fr (fun a ha => g0 a (by omega) (by omega) (by omega) (by omega) (by omega) (by omega) (by omega) (by omega) (by omega)) i3) ?_ ?_ ?_ (Rep_fr (fun a ha => g0 a (by omega) (by omega) (by omega) (by omega) (by omega) (by omega) (by omega) (by omega) (by omega)) (m8 27 (by omega) (by omega) (by omega)) i7) ?_⟩
    · rw [rf]
      refine Eq.trans l61 ?_
      show some (-20 - Mr 178 17, Mr) = _
      have a1 : Mr 178 17 = C' 9 6 := by subst hMr; rw [hy_ro _ _ (by omega), hy_setn _ _ _ (by omega)]; exact z4.symm
      rw [a1]
    · rw [g0 26 (by omega) (by omega) (by omega) (by omega) (by omega) (by omega) (by omega) (by omega) (by omega), m8 7 (by omega) (by omega) (by omega)]; exact i4
    · have a1 : Mr 178 12 = C' 9 7 := by subst hMr; rw [hy_ro _ _ (by omega), hy_setn _ _ _ (by omega)]; exact z5.symm
      rw [a1, m2 0 (by omega) (by omega) (by omega)]; subst hC5; rw [hy_seto _ _ _ (by omega), hy_setk]
    · refine ⟨0, by omega, ?_, ?_, fun i hi => by omega⟩
      · rw [m2 9 (by omega) (by omega) (by omega)]; subst hC5; rw [hy_setk]; rfl
      · subst hMr; rw [hy_ro _ _ (by omega), hy_setk]; rfl
    · rw [m8 24 (by omega) (by omega) (by omega)]; exact i8

