
/-! frames of reading a script -/
def FO (k : Nat) (Mc Mc' : hz_M) : Prop := (∀ a, a ≠ 9 → a ≠ 27 → (a < 28 ∨ 31 < a) → Mc' a = Mc a) ∧ Mc' 9 1 = Mc 9 1 ∧ (∀ b, b ≠ 6 → Mc' 27 b = Mc 27 b) ∧ ∀ a, 28 ≤ a → a ≤ 31 → ∀ b, b < k → Mc' a b = Mc a b
def FP (k : Nat) (Mr Mr' : hz_M) : Prop := (∀ a, a ≠ 178 → (a < 187 ∨ 190 < a) → Mr' a = Mr a) ∧ (∀ b, b ≠ 22 → (b < 12 ∨ 17 < b) → Mr' 178 b = Mr 178 b) ∧ ∀ a, 187 ≤ a → a ≤ 190 → ∀ b, b < k → Mr' a b = Mr a b
theorem FO_r (k : Nat) (a : hz_M) : FO k a a := ⟨fun _ _ _ _ => rfl, rfl, fun _ _ => rfl, fun _ _ _ _ _ => rfl⟩
theorem FP_r (k : Nat) (a : hz_M) : FP k a a := ⟨fun _ _ _ => rfl, fun _ _ _ => rfl, fun _ _ _ _ _ => rfl⟩
theorem FO_t {k j : Nat} {a b c : hz_M} (hj : k ≤ j) (h : FO k a b) (g : FO j b c) : FO k a c := ⟨fun x h1 h2 h3 => by rw [g.1 x h1 h2 h3, h.1 x h1 h2 h3], by rw [g.2.1, h.2.1], fun x h1 => by rw [g.2.2.1 x h1, h.2.2.1 x h1], fun x h1 h2 y hy => by rw [g.2.2.2 x h1 h2 y (by omega), h.2.2.2 x h1 h2 y hy]⟩
theorem FP_t {k j : Nat} {a b c : hz_M} (hj : k ≤ j) (h : FP k a b) (g : FP j b c) : FP k a c := ⟨fun x h1 h2 => by rw [g.1 x h1 h2, h.1 x h1 h2], fun x h1 h2 => by rw [g.2.1 x h1 h2, h.2.1 x h1 h2], fun x h1 h2 y hy => by rw [g.2.2 x h1 h2 y (by omega), h.2.2 x h1 h2 y hy]⟩
theorem FO_E (k : Nat) {a b : hz_M} (h : FE a b) : FO k a b := ⟨fun x h1 _ _ => h.1 x h1, h.2, fun x _ => by rw [h.1 27 (by omega)], fun x h1 h2 y _ => by rw [h.1 x (by omega)]⟩
theorem FP_H (k : Nat) {a b : hz_M} (h : FH a b) : FP k a b := ⟨fun x h1 _ => h.1 x h1, fun x _ h1 => h.2 x h1, fun x h1 h2 y _ => by rw [h.1 x (by omega)]⟩
theorem FO_s {k : Nat} (M : hz_M) (a : Nat) (v : Int32) (h : 28 ≤ a ∧ a ≤ 31) : FO k M (hz_set M a k v) := ⟨fun x h1 h2 h3 => hy_seto _ _ _ (by omega), by rw [hy_seto _ _ _ (by omega)], fun x h1 => by rw [hy_seto _ _ _ (by omega)], fun x h1 h2 y hy => by
  by_cases e : x = a
  · subst e; rw [hy_setn _ _ _ (by omega)]
  · rw [hy_seto _ _ _ e]⟩
theorem FP_s {k : Nat} (M : hz_M) (a : Nat) (v : Int32) (h : 187 ≤ a ∧ a ≤ 190) : FP k M (hz_set M a k v) := ⟨fun x h1 h2 => hy_seto _ _ _ (by omega), fun x h1 h2 => by rw [hy_seto _ _ _ (by omega)], fun x h1 h2 y hy => by
  by_cases e : x = a
  · subst e; rw [hy_setn _ _ _ (by omega)]
  · rw [hy_seto _ _ _ e]⟩
theorem FO_n {k : Nat} (M : hz_M) (v : Int32) : FO k M (hz_set M 27 6 v) := ⟨fun x h1 h2 h3 => hy_seto _ _ _ (by omega), by rw [hy_seto _ _ _ (by omega)], fun x h1 => by rw [hy_setn _ _ _ h1], fun x h1 h2 y hy => by rw [hy_seto _ _ _ (by omega)]⟩
theorem FP_n {k : Nat} (M : hz_M) (v : Int32) : FP k M (hz_set M 178 22 v) := ⟨fun x h1 h2 => hy_seto _ _ _ (by omega), fun x h1 h2 => by rw [hy_setn _ _ _ h1], fun x h1 h2 y hy => by rw [hy_seto _ _ _ (by omega)]⟩
theorem nmc_fr {M M' : hz_M} (v : Int32) (h1 : M' 1 = M 1) (h3 : M' 3 = M 3) (h4 : M' 4 = M 4) : nmc M' v = nmc M v := by
  unfold nmc
  rw [h1, h3, h4]
theorem PJ_c2 {n : Nat} {Mc Mr Mc' Mr' : hz_M} (h1 : Mc' 9 = Mc 9) (h2 : Mc' 10 = Mc 10) (h3 : ∀ b, b ≠ 22 → Mr' 178 b = Mr 178 b) (h4 : Mr' 186 = Mr 186) (P : PJ n Mc Mr) : PJ n Mc' Mr' := by
  unfold PJ TX TK at *
  rw [h1, h2, h3 11 (by omega), h3 12 (by omega), h3 13 (by omega), h3 14 (by omega), h3 15 (by omega), h3 16 (by omega), h3 17 (by omega), h4]
  exact P
theorem Ho_fr {M M' : hz_M} {q : Nat → Int32} (h : ∀ a, a = 1 ∨ a = 2 ∨ a = 3 ∨ a = 4 → M' a = M a) (H : hy_Ho M q) : hy_Ho M' q := by
  unfold hy_Ho nmd at *
  rw [h 1 (by omega), h 2 (by omega), h 3 (by omega), h 4 (by omega)]
  exact H
theorem OR_ext {Mc Mr Mc' Mr' : hz_M} {b k c : Nat} (h1 : FO b Mc Mc') (h2 : FP b Mr Mr') (hk : k < b) (O : OR Mc Mr k c) : OR Mc' Mr' k c := by
  unfold OR at *
  rw [nmc_fr _ (h1.1 1 (by omega) (by omega) (by omega)) (h1.1 3 (by omega) (by omega) (by omega)) (h1.1 4 (by omega) (by omega) (by omega)), h1.2.2.2 28 (by omega) (by omega) k hk, h1.2.2.2 29 (by omega) (by omega) k hk, h1.2.2.2 30 (by omega) (by omega) k hk, h2.2.2 187 (by omega) (by omega) k hk, h2.2.2 188 (by omega) (by omega) k hk, h2.2.2 189 (by omega) (by omega) k hk, h2.2.2 190 (by omega) (by omega) k hk]
  exact O
theorem WFo_ext {Mc Mr Mc' Mr' : hz_M} {b0 : Nat} (h1 : FO b0 Mc Mc') (h2 : FP b0 Mr Mr') : ∀ w lvl fr to, to ≤ b0 → WFo Mc Mr w lvl fr to → WFo Mc' Mr' w lvl fr to
  | 0, _, _, _, _, h => h
  | w + 1, lvl, fr, to, ht, h => by
    unfold WFo at *
    rcases h with h | ⟨a1, a2, b, a3, a4, a5, a6, a7⟩
    · exact Or.inl h
    · refine Or.inr ⟨a1, a2, b, a3, a4, by rw [h1.2.2.2 31 (by omega) (by omega) fr (by omega)]; exact a5, ?_, WFo_ext h1 h2 w lvl b to ht a7⟩
      rcases a6 with ⟨e, c, O⟩ | ⟨l, k1, k2, k3, ⟨m, m1, m2, m3⟩, k4⟩
      · exact Or.inl ⟨e, c, OR_ext h1 h2 (by omega) O⟩
      · exact Or.inr ⟨l, by rw [h1.2.2.2 28 (by omega) (by omega) fr (by omega)]; exact k1, by rw [h2.2.2 187 (by omega) (by omega) fr (by omega)]; exact k2, by rw [h2.2.2 190 (by omega) (by omega) fr (by omega)]; exact k3, ⟨m, m1, by rw [h1.2.2.2 30 (by omega) (by omega) fr (by omega)]; exact m2, by rw [h2.2.2 189 (by omega) (by omega) fr (by omega)]; exact m3⟩, WFo_ext h1 h2 w (lvl + 1) (fr + 1) b (by omega) k4⟩
/-- a single order's subject and number, the class's way -/
def sgC (k c : Nat) (M : hz_M) : hz_O := hz_ct (f_X6_readSubject (nI (c + 1)) M) fun g M1 => if hz_eF 3 (nI (c + 1)) = -1 then some (0, hz_set M1 29 k g) else f_X8_needNumber (hz_eF 2 (nI (c + 1))) (hz_eF 3 (nI (c + 1))) (hz_set M1 29 k g)
theorem j_numN {n : Nat} {Mc Mr : hz_M} (l h : Nat) (hl : l ≤ h) (hh : h ≤ 999) (P : PJ n Mc Mr) :
    ∃ vc vr Mc' Mr', f_X8_needNumber (nI l) (nI h) Mc = some (vc, Mc') ∧ f_X11_number (nI l) (nI h) Mr = some (vr, Mr') ∧ PJ n Mc' Mr' ∧ FE Mc Mc' ∧ FH Mr Mr' ∧ (Mc' 9 6 = 0 → Mc 9 6 = 0 ∧ vc = vr ∧ ∃ a, vc = nI a ∧ l ≤ a ∧ a ≤ h) := by
  obtain ⟨vc, vr, Mc', Mr', a1, a2, a3, a4, a5, a6⟩ := j_num0 (nI l) (nI h) (nI l) (nI h) P (fun _ => ⟨l, h, hh, rfl, rfl, rfl, rfl, by omega⟩)
  refine ⟨vc, vr, Mc', Mr', a1, a2, a3, a4, a5, fun e => ?_⟩
  obtain ⟨b1, b2, a, b3, b4, b5, b6⟩ := a6 e
  rw [hy_le (by omega) (by omega)] at b5 b6
  exact ⟨b1, b2, a, b3, b5, b6⟩
theorem eF_ok : hz_eF 3 8 = -1 ∧ hz_eF 1 8 = 0 ∧ hz_eF 2 9 = nI 0 ∧ hz_eF 3 9 = nI 9 ∧ hz_eF 1 10 = 0 ∧ hz_eF 2 10 = nI 1 ∧ hz_eF 3 10 = nI 60 ∧ hz_eF 1 11 = 0 ∧ hz_eF 2 11 = nI 0 ∧ hz_eF 3 11 = nI 20 := by decide
theorem eF_s : ∀ c, c < 7 → hz_eF 1 (nI (c + 1)) = 1 ∧ hz_vo (nI (c + 1)) = true ∧ hz_nn (nI (c + 1)) = true ∧ ¬ nI (c + 1) = 9 ∧ (hz_eF 2 (nI (c + 1)) = if c = 1 then nI 1 else nI 0) ∧ hz_eF 3 (nI (c + 1)) = (if c = 1 then nI 6 else if c = 3 ∨ c = 4 then nI 15 else -1) := by decide
theorem j_single {N k c : Nat} {q : Nat → Int32} {Mc Mr : hz_M} (hk : k < 30) (hc : c ≤ 9) (P : PJ N Mc Mr) (h28 : Mc 28 k = nI (c + 1)) (h187 : Mr 187 k = nI c) (H : hy_Ho Mc q) (hz : gz q ≤ 16) (z1 : q 11 = nI (gz q)) :
    ∃ v Mc' Mr', sgC k c Mc = some (v, Mc') ∧ f_X11_readsSingle (nI k) Mr = some (0, Mr') ∧ PJ N Mc' Mr' ∧ FO k Mc Mc' ∧ FP k Mr Mr' ∧ Mc' 27 = Mc 27 ∧ Mr' 178 22 = Mr 178 22 ∧ (Mc' 9 6 = 0 → Mc 9 6 = 0 ∧ OR (hz_set Mc' 30 k v) Mr' k c) := by
  obtain ⟨e1, e2, e3, e4, e5, e6, e7, _⟩ := eF_ok
  by_cases c7 : c = 7
  · subst c7
    refine ⟨0, hz_set Mc 29 k 0, Mr, ?_, ?_, PJ_c (hy_seto _ _ _ (by omega)) (hy_seto _ _ _ (by omega)) rfl rfl P, FO_s _ _ _ (by omega), FP_r _ _, hy_seto _ _ _ (by omega), rfl, fun h => ⟨by rw [hy_seto _ _ _ (by omega)] at h; exact h, ?_⟩⟩
    · unfold sgC f_X6_readSubject
      rw [show nI (7 + 1) = 8 from rfl]
      simp only [show hz_vo 8 = true from by decide, hy_gt, show ¬ (8 : Int32) = 9 from by decide, if_false, show hz_nn 8 = true from by decide, e2, if_true, hy_cts, e1]
    · unfold f_X11_readsSingle
      simp (disch := omega) only [hy_in, hy_gt, hy_c, h187, hy_lt', show nI 7 = (7 : Int32) from rfl, if_true]
    · unfold OR
      refine ⟨by omega, ?_, h187, fun h => absurd rfl h, fun h => by omega, fun h => by omega, fun h => by omega, fun h => by omega⟩
      rw [hy_seto _ _ _ (by omega), hy_seto _ _ _ (by omega)]; exact h28
  by_cases c8 : c = 8
  · subst c8
    obtain ⟨v1, w1, C1, R1_, a1, a2, a3, a4, a5, a6⟩ := j_numN 0 3 (by omega) (by omega) P
    obtain ⟨v2, w2, C2, R2, b1, b2, b3, b4, b5, b6⟩ := j_numN (Mc := hz_set C1 29 k v1) (Mr := hz_set R1_ 189 k w1) 0 9 (by omega) (by omega) (PJ_c (hy_seto _ _ _ (by omega)) (hy_seto _ _ _ (by omega)) (hy_seto _ _ _ (by omega)) (hy_seto _ _ _ (by omega)) a3)
    refine ⟨v2, C2, hz_set R2 190 k w2, ?_, ?_, PJ_c rfl rfl (hy_seto _ _ _ (by omega)) (hy_seto _ _ _ (by omega)) b3, FO_t (Nat.le_refl k) (FO_E k a4) (FO_t (Nat.le_refl k) (FO_s C1 29 v1 (by omega)) (FO_E k b4)), FP_t (Nat.le_refl k) (FP_H k a5) (FP_t (Nat.le_refl k) (FP_s R1_ 189 w1 (by omega)) (FP_t (Nat.le_refl k) (FP_H k b5) (FP_s R2 190 w2 (by omega)))), ?_, ?_, fun h => ?_⟩
    · unfold sgC f_X6_readSubject
      rw [show nI (8 + 1) = 9 from rfl]
      simp only [show hz_vo 9 = true from by decide, hy_gt, if_true, show f_X8_needNumber 0 3 Mc = some (v1, C1) from a1, hy_cts, e3, e4, show ¬ nI 9 = -1 from by decide, if_false, b1]
    · unfold f_X11_readsSingle
      simp (disch := omega) only [hy_in, hy_gt, hy_c, h187, hy_lt', show ¬ (8 : Int32) = (7 : Int32) from by decide, if_false, show nI 8 = (8 : Int32) from rfl, if_true, hy_cts, hy_lm, show f_X11_number 0 3 Mr = some (w1, R1_) from a2, show f_X11_number 0 9 (hz_set R1_ 189 k w1) = some (w2, R2) from b2]
    · rw [b4.1 27 (by omega), hy_seto _ _ _ (by omega), a4.1 27 (by omega)]
    · rw [hy_seto _ _ _ (by omega), b5.2 22 (by omega), hy_seto _ _ _ (by omega), a5.2 22 (by omega)]
    · obtain ⟨f1, f2, a, f3, f4, f5⟩ := b6 h
      rw [hy_seto _ _ _ (by omega)] at f1
      obtain ⟨g1, g2, a', g3, g4, g5⟩ := a6 f1
      refine ⟨g1, by omega, ?_, ?_, fun _ h => absurd rfl h, fun h => by omega, fun h => by omega, fun _ => ⟨a', a, g5, f5, ?_, ?_, ?_, ?_⟩, fun h => by omega⟩
      · rw [hy_seto _ _ _ (by omega), b4.1 28 (by omega), hy_seto _ _ _ (by omega), a4.1 28 (by omega)]; exact h28
      · rw [hy_seto _ _ _ (by omega), b5.1 187 (by omega), hy_seto _ _ _ (by omega), a5.1 187 (by omega)]; exact h187
      · rw [hy_seto _ _ _ (by omega), b4.1 29 (by omega), hy_setk]; exact g3
      · rw [hy_seto _ _ _ (by omega), b5.1 189 (by omega), hy_setk, ← g2]; exact g3
      · rw [hy_setk]; exact f3
      · rw [hy_setk, ← f2]; exact f3
  by_cases c9 : c = 9
  · subst c9
    obtain ⟨v1, w1, C1, R1_, a1, a2, a3, a4, a5, a6⟩ := j_numN (Mc := hz_set Mc 29 k 0) (Mr := Mr) 1 60 (by omega) (by omega) (PJ_c (hy_seto _ _ _ (by omega)) (hy_seto _ _ _ (by omega)) rfl rfl P)
    refine ⟨v1, C1, hz_set R1_ 189 k w1, ?_, ?_, PJ_c rfl rfl (hy_seto _ _ _ (by omega)) (hy_seto _ _ _ (by omega)) a3, FO_t (Nat.le_refl k) (FO_s Mc 29 0 (by omega)) (FO_E k a4), FP_t (Nat.le_refl k) (FP_H k a5) (FP_s R1_ 189 w1 (by omega)), ?_, ?_, fun h => ?_⟩
    · unfold sgC f_X6_readSubject
      rw [show nI (9 + 1) = 10 from rfl]
      simp only [show hz_vo 10 = true from by decide, hy_gt, show ¬ (10 : Int32) = 9 from by decide, if_false, show hz_nn 10 = true from by decide, e5, if_true, hy_cts, e6, e7, show ¬ nI 60 = -1 from by decide, a1]
    · unfold f_X11_readsSingle
      simp (disch := omega) only [hy_in, hy_gt, hy_c, h187, hy_lt', show ¬ (9 : Int32) = (7 : Int32) from by decide, if_false, show ¬ (9 : Int32) = (8 : Int32) from by decide, show nI 9 = (9 : Int32) from rfl, if_true, hy_cts, hy_lm, show f_X11_number 1 60 Mr = some (w1, R1_) from a2]
    · rw [a4.1 27 (by omega), hy_seto _ _ _ (by omega)]
    · rw [hy_seto _ _ _ (by omega), a5.2 22 (by omega)]
    · obtain ⟨f1, f2, a, f3, f4, f5⟩ := a6 h
      rw [hy_seto _ _ _ (by omega)] at f1
      refine ⟨f1, by omega, ?_, ?_, fun _ _ h => absurd rfl h, fun h => by omega, fun h => by omega, fun h => by omega, fun _ => ⟨a, f5, ?_, ?_⟩⟩
      · rw [hy_seto _ _ _ (by omega), a4.1 28 (by omega), hy_seto _ _ _ (by omega)]; exact h28
      · rw [hy_seto _ _ _ (by omega), a5.1 187 (by omega)]; exact h187
      · rw [hy_setk]; exact f3
      · rw [hy_setk, ← f2]; exact f3
  have c6 : c ≤ 6 := by omega
  obtain ⟨s1, s2, s3, s4, s5, s6⟩ := eF_s c (by omega)
  obtain ⟨g, v, C1, R1_, a1, a2, a3, a4, a5, a6⟩ := j_subj P H hz z1
  have n7 : ¬ nI c = 7 := by rw [show (7 : Int32) = nI 7 from rfl, hy_eq (by omega) (by omega)]; omega
  have n8 : ¬ nI c = 8 := by rw [show (8 : Int32) = nI 8 from rfl, hy_eq (by omega) (by omega)]; omega
  have n9 : ¬ nI c = 9 := by rw [show (9 : Int32) = nI 9 from rfl, hy_eq (by omega) (by omega)]; omega
  have x1 : (nI c = (1 : Int32)) = (c = 1) := by rw [show (1 : Int32) = nI 1 from rfl, hy_eq (by omega) (by omega)]
  have x3 : (nI c = (3 : Int32)) = (c = 3) := by rw [show (3 : Int32) = nI 3 from rfl, hy_eq (by omega) (by omega)]
  have x4 : (nI c = (4 : Int32)) = (c = 4) := by rw [show (4 : Int32) = nI 4 from rfl, hy_eq (by omega) (by omega)]
  have rs : f_X6_readSubject (nI (c + 1)) Mc = some (g, C1) := by
    unfold f_X6_readSubject
    simp only [s2, hy_gt, s4, if_false, s3, s1, hy_f10]
    exact a1
  have P1 : PJ N (hz_set C1 29 k g) (hz_set R1_ 188 k v) := PJ_c (hy_seto _ _ _ (by omega)) (hy_seto _ _ _ (by omega)) (hy_seto _ _ _ (by omega)) (hy_seto _ _ _ (by omega)) a3
  have k187 : hz_set R1_ 188 k v 187 k = nI c := by rw [hy_seto _ _ _ (by omega), a5.1 187 (by omega)]; exact h187
  have nm : ∀ M : hz_M, M 1 = C1 1 → M 3 = C1 3 → M 4 = C1 4 → nmc M v = nmc Mc v := fun M h1 h3 h4 => nmc_fr v (by rw [h1, a4.1 1 (by omega)]) (by rw [h3, a4.1 3 (by omega)]) (by rw [h4, a4.1 4 (by omega)])
  by_cases c1 : c = 1
  · subst c1
    obtain ⟨v2, w2, C2, R2, b1, b2, b3, b4, b5, b6⟩ := j_numN 1 6 (by omega) (by omega) P1
    refine ⟨v2, C2, hz_set R2 189 k w2, ?_, ?_, PJ_c rfl rfl (hy_seto _ _ _ (by omega)) (hy_seto _ _ _ (by omega)) b3, FO_t (Nat.le_refl k) (FO_E k a4) (FO_t (Nat.le_refl k) (FO_s C1 29 g (by omega)) (FO_E k b4)), FP_t (Nat.le_refl k) (FP_H k a5) (FP_t (Nat.le_refl k) (FP_s R1_ 188 v (by omega)) (FP_t (Nat.le_refl k) (FP_H k b5) (FP_s R2 189 w2 (by omega)))), ?_, ?_, fun h => ?_⟩
    · unfold sgC
      rw [rs, hy_cts, s6, s5]
      simp only [if_true, show ¬ nI 6 = -1 from by decide, if_false, b1]
    · unfold f_X11_readsSingle
      have k187' : hz_set R2 189 k w2 187 k = nI 1 := by rw [hy_seto _ _ _ (by omega), b5.1 187 (by omega)]; exact k187
      simp (disch := omega) only [hy_in, hy_gt, hy_c, h187, hy_lt', n7, n8, n9, if_false, if_true, a2, hy_cts, hy_lm, hy_jn, k187, k187', x1, x3, x4, show ¬ (1 : Nat) = 3 from by decide, show ¬ (1 : Nat) = 4 from by decide, show f_X11_number 1 6 (hz_set R1_ 188 k v) = some (w2, R2) from b2]
    · rw [b4.1 27 (by omega), hy_seto _ _ _ (by omega), a4.1 27 (by omega)]
    · rw [hy_seto _ _ _ (by omega), b5.2 22 (by omega), hy_seto _ _ _ (by omega), a5.2 22 (by omega)]
    · obtain ⟨f1, f2, a, f3, f4, f5⟩ := b6 h
      rw [hy_seto _ _ _ (by omega)] at f1
      obtain ⟨g1, g2⟩ := a6 f1
      refine ⟨g1, by omega, ?_, ?_, fun _ _ _ => ?_, fun _ => ⟨a, f4, f5, ?_, ?_⟩, fun h => by omega, fun h => by omega, fun h => by omega⟩
      · rw [hy_seto _ _ _ (by omega), b4.1 28 (by omega), hy_seto _ _ _ (by omega), a4.1 28 (by omega)]; exact h28
      · rw [hy_seto _ _ _ (by omega), b5.1 187 (by omega)]; exact k187
      · rw [hy_seto _ _ _ (by omega), b4.1 29 (by omega), hy_setk, hy_seto _ _ _ (by omega), b5.1 188 (by omega), hy_setk, g2]
        exact (nm _ (by rw [hy_seto _ _ _ (by omega), b4.1 1 (by omega), hy_seto _ _ _ (by omega)]) (by rw [hy_seto _ _ _ (by omega), b4.1 3 (by omega), hy_seto _ _ _ (by omega)]) (by rw [hy_seto _ _ _ (by omega), b4.1 4 (by omega), hy_seto _ _ _ (by omega)])).symm
      · rw [hy_setk]; exact f3
      · rw [hy_setk, ← f2]; exact f3
  by_cases c34 : c = 3 ∨ c = 4
  · obtain ⟨v2, w2, C2, R2, b1, b2, b3, b4, b5, b6⟩ := j_numN 0 15 (by omega) (by omega) P1
    refine ⟨v2, C2, hz_set R2 189 k w2, ?_, ?_, PJ_c rfl rfl (hy_seto _ _ _ (by omega)) (hy_seto _ _ _ (by omega)) b3, FO_t (Nat.le_refl k) (FO_E k a4) (FO_t (Nat.le_refl k) (FO_s C1 29 g (by omega)) (FO_E k b4)), FP_t (Nat.le_refl k) (FP_H k a5) (FP_t (Nat.le_refl k) (FP_s R1_ 188 v (by omega)) (FP_t (Nat.le_refl k) (FP_H k b5) (FP_s R2 189 w2 (by omega)))), ?_, ?_, fun h => ?_⟩
    · unfold sgC
      rw [rs, hy_cts, s6, s5, if_neg c1, if_pos c34, if_neg c1, if_neg (by decide), b1]
    · unfold f_X11_readsSingle
      rcases c34 with rfl | rfl
      · simp (disch := omega) only [hy_in, hy_gt, hy_c, h187, hy_lt', n7, n8, n9, if_false, if_true, a2, hy_cts, hy_lm, hy_jn, k187, x1, c1, x3, show f_X11_number 0 15 (hz_set R1_ 188 k v) = some (w2, R2) from b2]
      · simp (disch := omega) only [hy_in, hy_gt, hy_c, h187, hy_lt', n7, n8, n9, if_false, if_true, a2, hy_cts, hy_lm, hy_jn, k187, x1, c1, x3, show ¬ (4 : Nat) = 3 from by decide, x4, show f_X11_number 0 15 (hz_set R1_ 188 k v) = some (w2, R2) from b2]
    · rw [b4.1 27 (by omega), hy_seto _ _ _ (by omega), a4.1 27 (by omega)]
    · rw [hy_seto _ _ _ (by omega), b5.2 22 (by omega), hy_seto _ _ _ (by omega), a5.2 22 (by omega)]
    · obtain ⟨f1, f2, a, f3, f4, f5⟩ := b6 h
      rw [hy_seto _ _ _ (by omega)] at f1
      obtain ⟨g1, g2⟩ := a6 f1
      refine ⟨g1, by omega, ?_, ?_, fun _ _ _ => ?_, fun h => by omega, fun _ => ⟨a, f5, ?_, ?_⟩, fun h => by omega, fun h => by omega⟩
      · rw [hy_seto _ _ _ (by omega), b4.1 28 (by omega), hy_seto _ _ _ (by omega), a4.1 28 (by omega)]; exact h28
      · rw [hy_seto _ _ _ (by omega), b5.1 187 (by omega)]; exact k187
      · rw [hy_seto _ _ _ (by omega), b4.1 29 (by omega), hy_setk, hy_seto _ _ _ (by omega), b5.1 188 (by omega), hy_setk, g2]
        exact (nm _ (by rw [hy_seto _ _ _ (by omega), b4.1 1 (by omega), hy_seto _ _ _ (by omega)]) (by rw [hy_seto _ _ _ (by omega), b4.1 3 (by omega), hy_seto _ _ _ (by omega)]) (by rw [hy_seto _ _ _ (by omega), b4.1 4 (by omega), hy_seto _ _ _ (by omega)])).symm
      · rw [hy_setk]; exact f3
      · rw [hy_setk, ← f2]; exact f3
  · refine ⟨0, hz_set C1 29 k g, hz_set R1_ 188 k v, ?_, ?_, P1, FO_t (Nat.le_refl k) (FO_E k a4) (FO_s C1 29 g (by omega)), FP_t (Nat.le_refl k) (FP_H k a5) (FP_s R1_ 188 v (by omega)), ?_, ?_, fun h => ?_⟩
    · unfold sgC
      rw [rs, hy_cts, s6, if_neg c1, if_neg c34, if_pos rfl]
    · unfold f_X11_readsSingle
      simp (disch := omega) only [hy_in, hy_gt, hy_c, h187, hy_lt', n7, n8, n9, if_false, a2, hy_cts, hy_lm, hy_jn, k187, x1, c1, x3, x4, show ¬ c = 3 from fun h => c34 (Or.inl h), show ¬ c = 4 from fun h => c34 (Or.inr h)]
    · rw [hy_seto _ _ _ (by omega), a4.1 27 (by omega)]
    · rw [hy_seto _ _ _ (by omega), a5.2 22 (by omega)]
    · rw [hy_seto _ _ _ (by omega)] at h
      obtain ⟨g1, g2⟩ := a6 h
      refine ⟨g1, by omega, ?_, k187, fun _ _ _ => ?_, fun h => by omega, fun h => by omega, fun h => by omega, fun h => by omega⟩
      · rw [hy_seto _ _ _ (by omega), hy_seto _ _ _ (by omega), a4.1 28 (by omega)]; exact h28
      · rw [hy_seto _ _ _ (by omega), hy_setk, hy_setk, g2]
        exact (nm _ (by rw [hy_seto _ _ _ (by omega), hy_seto _ _ _ (by omega)]) (by rw [hy_seto _ _ _ (by omega), hy_seto _ _ _ (by omega)]) (by rw [hy_seto _ _ _ (by omega), hy_seto _ _ _ (by omega)])).symm
