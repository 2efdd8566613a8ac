
theorem lpE {N lvl fr : Nat} {rc rr : Int32 → hz_M → hz_O} {Mc Mr : hz_M} (l i : Int32) (f g : Nat) (P : PJ N Mc Mr) (e : ¬ Mc 9 6 = 0) : hy_RP N lvl fr Mc Mr (r_X6_readOrders_L2 rc (f + 1) l i Mc) (r_X11_readsOrders_L0 rr (g + 1) l Mr) := by
  have nr : ¬ Mr 178 17 = 0 := by rw [← P.2.2.1]; exact e
  refine ⟨Mc, Mr, ?_, ?_, FO_r _ _, FP_r _ _, Or.inl ⟨P, fun h => absurd h e⟩⟩
  · simp only [r_X6_readOrders_L2, e, if_false]
    split <;> rfl
  · simp only [r_X11_readsOrders_L0, nr, if_false]
/-- one order read, both ways -/
def hy_ONE (lvl fr b : Nat) (Mc Mr : hz_M) : Prop := Mc 31 fr = nI b ∧ ((b = fr + 1 ∧ ∃ c, OR Mc Mr fr c) ∨ (lvl < 2 ∧ Mc 28 fr = 11 ∧ Mr 187 fr = 10 ∧ Mr 190 fr = nI b ∧ (∃ m, m ≤ 20 ∧ Mc 30 fr = nI m ∧ Mr 189 fr = nI m) ∧ ∀ w, b - (fr + 1) ≤ w → WFo Mc Mr w (lvl + 1) (fr + 1) b))
theorem j_one {N lvl fr : Nat} {q : Nat → Int32} {rc rr : Int32 → hz_M → hz_O} {Mc Mr : hz_M} (hl : lvl ≤ 2) (hfr : fr ≤ 30) (P : PJ N Mc Mr) (e : Mc 9 6 = 0) (H : hy_Ho Mc q) (hz : gz q ≤ 16) (z1 : q 11 = nI (gz q)) (h6 : Mc 27 6 = nI fr) (h22 : Mr 178 22 = nI fr)
    (hE : ∀ (l : Int32) (M : hz_M), ¬ M 178 17 = 0 → rr l M = some (0, M))
    (hR : ∀ C R : hz_M, PJ N C R → C 9 6 = 0 → hy_Ho C q → C 27 6 = nI (fr + 1) → R 178 22 = nI (fr + 1) → fr + 1 ≤ 30 → lvl < 2 → hy_RP N (lvl + 1) (fr + 1) C R (rc (nI (lvl + 1)) C) (rr (nI (lvl + 1)) R)) :
    ∃ r Ma Mc' Mr', r_X6_readOrder rc (nI lvl) Mc = some (r, Ma) ∧ f_X8_needSign 59 Ma = some (0, Mc') ∧ r_X11_readsOrder rr (nI lvl) Mr = some (0, Mr') ∧ PJ N Mc' Mr' ∧ FO fr Mc Mc' ∧ FP fr Mr Mr' ∧
      (Mc' 9 6 = 0 → ∃ b, fr < b ∧ b ≤ 30 ∧ Mc' 27 6 = nI b ∧ Mr' 178 22 = nI b ∧ hy_ONE lvl fr b Mc' Mr') := by
  have er : Mr 178 17 = 0 := by rw [← P.2.2.1]; exact e
  rcases j_order P e with ⟨o1, o2⟩ | ⟨c, hc, o1, o2⟩
  · obtain ⟨C1, R1_, a1, a2, a3, a4, a5, a6⟩ := j_fail (k := 1) (by omega) P
    have a1' : f_X8_fail 1 Mc = some (0, C1) := a1
    have a2' : f_X11_must 0 1 Mr = some (0, R1_) := a2
    refine ⟨0, C1, C1, R1_, ?_, signE _ _ a6, ?_, a3, FO_E _ a4, FP_H _ a5, fun h => absurd h a6⟩
    · simp only [r_X6_readOrder, o1, hy_cts, if_true, a1']
    · simp only [r_X11_readsOrder, o2, hy_cts, hy_jn, if_true, a2']
  by_cases f30 : fr = 30
  · subst f30
    obtain ⟨C1, R1_, a1, a2, a3, a4, a5, a6⟩ := j_fail (k := 4) (by omega) P
    have a1' : f_X8_fail 4 Mc = some (0, C1) := a1
    have a2' : f_X11_must 0 4 Mr = some (0, R1_) := a2
    obtain ⟨_, _, n3, n4⟩ := nn_ok c (by omega)
    refine ⟨0, C1, C1, R1_, ?_, signE _ _ a6, ?_, a3, FO_E _ a4, FP_H _ a5, fun h => absurd h a6⟩
    · simp only [r_X6_readOrder, o1, hy_cts, n3, if_false, h6, show ¬ nI 30 < 30 from by decide, a1']
    · simp only [r_X11_readsOrder, o2, hy_cts, hy_jn, n4, if_false, must1, er, if_true, hy_f10, h22, show (30 : Int32) ≤ nI 30 from by decide, a2']
  have f29 : fr < 30 := by omega
  obtain ⟨C2, R2, b1, b2, b3, b4, b5, b6⟩ := j_advP (n := N) (Mc := hz_set Mc 27 6 (nI (fr + 1))) (Mr := hz_set (hz_set Mr 187 fr (nI c)) 178 22 (nI (fr + 1))) (PJ_c2 (hy_seto _ _ _ (by omega)) (hy_seto _ _ _ (by omega)) (fun b hb => by rw [hy_setn _ _ _ hb, hy_seto _ _ _ (by omega)]) (by rw [hy_seto _ _ _ (by omega), hy_seto _ _ _ (by omega)]) P)
  have fo2 : FO fr Mc C2 := FO_t (Nat.le_refl _) (FO_n Mc _) (FO_E _ b4)
  have fp2 : FP fr Mr R2 := FP_t (Nat.le_refl _) (FP_s Mr 187 _ (by omega)) (FP_t (Nat.le_refl _) (FP_n _ _) (FP_H _ b5))
  have c276 : C2 27 6 = nI (fr + 1) := by rw [b4.1 27 (by omega), hy_setk]
  have r22 : R2 178 22 = nI (fr + 1) := by rw [b5.2 22 (by omega), hy_setk]
  have r187 : R2 187 fr = nI c := by rw [b5.1 187 (by omega), hy_seto _ _ _ (by omega), hy_setk]
  have H2 : hy_Ho C2 q := Ho_fr (fun a ha => by rw [b4.1 a (by omega), hy_seto _ _ _ (by omega)]) H
  have rB := r_rdo rr (l := nI lvl) hc f29 er o2 h22 b2
  by_cases c10 : c = 10
  · subst c10
    obtain ⟨_, _, _, _, _, _, _, e8, e9, e10⟩ := eF_ok
    obtain ⟨v, w, C3, R3, d1, d2, d3, d4, d5, d6⟩ := j_numN (n := N) (Mc := hz_set (hz_set C2 28 fr (nI (10 + 1))) 29 fr 0) (Mr := R2) 0 20 (by omega) (by omega) (PJ_c (by rw [hy_seto _ _ _ (by omega), hy_seto _ _ _ (by omega)]) (by rw [hy_seto _ _ _ (by omega), hy_seto _ _ _ (by omega)]) rfl rfl b3)
    have sg : sgC fr 10 (hz_set C2 28 fr (nI (10 + 1))) = some (v, C3) := by
      unfold sgC f_X6_readSubject
      rw [show hz_eF 3 (nI (10 + 1)) = nI 20 from e10, show hz_eF 2 (nI (10 + 1)) = nI 0 from e9]
      simp only [show hz_vo (nI (10 + 1)) = true from by decide, hy_gt, show ¬ nI (10 + 1) = 9 from by decide, if_false, show hz_nn (nI (10 + 1)) = true from by decide, show hz_eF 1 (nI (10 + 1)) = 0 from e8, if_true, hy_cts, show ¬ nI 20 = -1 from by decide, d1]
    have cB := c_rdo rc (l := nI lvl) (by omega) f29 o1 h6 b1 sg
    have P3 : PJ N (hz_set C3 30 fr v) (hz_set R3 189 fr w) := PJ_c (hy_seto _ _ _ (by omega)) (hy_seto _ _ _ (by omega)) (hy_seto _ _ _ (by omega)) (hy_seto _ _ _ (by omega)) d3
    obtain ⟨C4, R4, g1, g2, g3, g4, g5, g6⟩ := j_again (rc := rc) (rr := rr) hl f29 P3 hE (fun C R PC eC fC fR l2 => hR C R PC eC (Ho_fr (fun a ha => by rw [fC.1 a (by omega), hy_seto _ _ _ (by omega), d4.1 a (by omega), hy_seto _ _ _ (by omega), hy_seto _ _ _ (by omega)]) H2) (by rw [fC.1 27 (by omega), hy_seto _ _ _ (by omega), d4.1 27 (by omega), hy_seto _ _ _ (by omega), hy_seto _ _ _ (by omega)]; exact c276) (by rw [fR.2 22 (by omega), hy_seto _ _ _ (by omega), d5.2 22 (by omega)]; exact r22) (by omega) l2)
    have P5 : PJ N (hz_set C4 31 fr (C4 27 6)) (hz_set R4 190 fr (R4 178 22)) := PJ_c (hy_seto _ _ _ (by omega)) (hy_seto _ _ _ (by omega)) (hy_seto _ _ _ (by omega)) (hy_seto _ _ _ (by omega)) g3
    obtain ⟨C6, R6, s1, s2, s3, s4, s5, s6⟩ := j_needSign 59 (by omega) P5
    have s1' : f_X8_needSign 59 (hz_set C4 31 fr (C4 27 6)) = some (0, C6) := s1
    have s2' : f_X11_takesSign 59 (hz_set R4 190 fr (R4 178 22)) = some (0, R6) := s2
    have g4' : FO fr (hz_set C3 30 fr v) C4 := ⟨g4.1, g4.2.1, g4.2.2.1, fun a h1 h2 b hb => g4.2.2.2 a h1 h2 b (by omega)⟩
    have g5' : FP fr (hz_set R3 189 fr w) R4 := ⟨g5.1, g5.2.1, fun a h1 h2 b hb => g5.2.2 a h1 h2 b (by omega)⟩
    refine ⟨0, hz_set C4 31 fr (C4 27 6), C6, R6, ?_, s1', ?_, s3, ?_, ?_, fun h => ?_⟩
    · rw [cB, if_pos rfl, g1, hy_cts]
    · rw [rB, if_pos rfl, r_again rr f29 d2, g2, hy_cts, s2', hy_cts]
    · exact FO_t (Nat.le_refl _) fo2 (FO_t (Nat.le_refl _) (FO_s C2 28 _ (by omega)) (FO_t (Nat.le_refl _) (FO_s _ 29 _ (by omega)) (FO_t (Nat.le_refl _) (FO_E _ d4) (FO_t (Nat.le_refl _) (FO_s C3 30 _ (by omega)) (FO_t (Nat.le_refl _) g4' (FO_t (Nat.le_refl _) (FO_s C4 31 _ (by omega)) (FO_E _ s4)))))))
    · exact FP_t (Nat.le_refl _) fp2 (FP_t (Nat.le_refl _) (FP_H _ d5) (FP_t (Nat.le_refl _) (FP_s R3 189 _ (by omega)) (FP_t (Nat.le_refl _) g5' (FP_t (Nat.le_refl _) (FP_s R4 190 _ (by omega)) (FP_H _ s5)))))
    · have h4 := (s6 h).1
      rw [hy_seto _ _ _ (by omega)] at h4
      obtain ⟨h3, l2, b, x1, x2, x3, x4, x5⟩ := g6 h4
      rw [hy_seto _ _ _ (by omega)] at h3
      obtain ⟨_, y1, a, y2, y3, y4⟩ := d6 h3
      refine ⟨b, by omega, x2, by rw [s4.1 27 (by omega), hy_seto _ _ _ (by omega)]; exact x3, by rw [s5.2 22 (by omega), hy_seto _ _ _ (by omega)]; exact x4, by rw [s4.1 31 (by omega), hy_setk]; exact x3, Or.inr ⟨l2, ?_, ?_, ?_, ⟨a, y4, ?_, ?_⟩, fun w hw => ?_⟩⟩
      · rw [s4.1 28 (by omega), hy_seto _ _ _ (by omega), g4.2.2.2 28 (by omega) (by omega) fr (by omega), hy_seto _ _ _ (by omega), d4.1 28 (by omega), hy_seto _ _ _ (by omega), hy_setk]; rfl
      · rw [s5.1 187 (by omega), hy_seto _ _ _ (by omega), g5.2.2 187 (by omega) (by omega) fr (by omega), hy_seto _ _ _ (by omega), d5.1 187 (by omega), r187]; rfl
      · rw [s5.1 190 (by omega), hy_setk]; exact x4
      · rw [s4.1 30 (by omega), hy_seto _ _ _ (by omega), g4.2.2.2 30 (by omega) (by omega) fr (by omega), hy_setk]; exact y2
      · rw [s5.1 189 (by omega), hy_seto _ _ _ (by omega), g5.2.2 189 (by omega) (by omega) fr (by omega), hy_setk, ← y1]; exact y2
      · exact WFo_gen (lo := fr + 1) (hi := b) (by rw [s4.1 1 (by omega), hy_seto _ _ _ (by omega)]) (by rw [s4.1 3 (by omega), hy_seto _ _ _ (by omega)]) (by rw [s4.1 4 (by omega), hy_seto _ _ _ (by omega)])
          (fun a k1 k2 x k3 k4 => by
            rw [s4.1 a (by omega)]
            by_cases ea : a = 31
            · subst ea; rw [hy_setn _ _ _ (by omega)]
            · rw [hy_seto _ _ _ ea])
          (fun a k1 k2 x k3 k4 => by
            rw [s5.1 a (by omega)]
            by_cases ea : a = 190
            · subst ea; rw [hy_setn _ _ _ (by omega)]
            · rw [hy_seto _ _ _ ea]) w (lvl + 1) (fr + 1) b (Nat.le_refl _) (Nat.le_refl _) (x5 w hw)
  · have hc9 : c ≤ 9 := by omega
    obtain ⟨v, C3, R3, d1, d2, d3, d4, d5, d6, d7, d8⟩ := j_single (N := N) (Mc := hz_set C2 28 fr (nI (c + 1))) (Mr := R2) f29 hc9 (PJ_c (hy_seto _ _ _ (by omega)) (hy_seto _ _ _ (by omega)) rfl rfl b3) (hy_setk _ _ _ _) r187 (Ho_fr (fun a ha => hy_seto _ _ _ (by omega)) H2) hz z1
    have cB := c_rdo rc (l := nI lvl) hc f29 o1 h6 b1 d1
    have c36 : C3 27 6 = nI (fr + 1) := by rw [d6, hy_seto _ _ _ (by omega)]; exact c276
    rw [if_neg c10, c36] at cB
    rw [if_neg c10, d2, hy_cts] at rB
    have P5 : PJ N (hz_set (hz_set C3 30 fr v) 31 fr (nI (fr + 1))) R3 := PJ_c (by rw [hy_seto _ _ _ (by omega), hy_seto _ _ _ (by omega)]) (by rw [hy_seto _ _ _ (by omega), hy_seto _ _ _ (by omega)]) rfl rfl d3
    obtain ⟨C6, R6, s1, s2, s3, s4, s5, s6⟩ := j_needSign 59 (by omega) P5
    have s2' : f_X11_takesSign 59 R3 = some (0, R6) := s2
    refine ⟨0, _, C6, R6, cB, s1, by rw [rB, s2', hy_cts], s3, ?_, ?_, fun h => ?_⟩
    · exact FO_t (Nat.le_refl _) fo2 (FO_t (Nat.le_refl _) (FO_s C2 28 _ (by omega)) (FO_t (Nat.le_refl _) d4 (FO_t (Nat.le_refl _) (FO_s C3 30 _ (by omega)) (FO_t (Nat.le_refl _) (FO_s _ 31 _ (by omega)) (FO_E _ s4)))))
    · exact FP_t (Nat.le_refl _) fp2 (FP_t (Nat.le_refl _) d5 (FP_H _ s5))
    · have h4 := (s6 h).1
      rw [hy_seto _ _ _ (by omega), hy_seto _ _ _ (by omega)] at h4
      obtain ⟨_, O⟩ := d8 h4
      refine ⟨fr + 1, by omega, by omega, ?_, ?_, ?_, Or.inl ⟨rfl, c, ?_⟩⟩
      · rw [s4.1 27 (by omega), hy_seto _ _ _ (by omega), hy_seto _ _ _ (by omega)]; exact c36
      · rw [s5.2 22 (by omega), d7]; exact r22
      · rw [s4.1 31 (by omega), hy_setk]
      · exact OR_gen (by rw [s4.1 1 (by omega), hy_seto _ _ _ (by omega)]) (by rw [s4.1 3 (by omega), hy_seto _ _ _ (by omega)]) (by rw [s4.1 4 (by omega), hy_seto _ _ _ (by omega)]) (by rw [s4.1 28 (by omega), hy_seto _ _ _ (by omega)]) (by rw [s4.1 29 (by omega), hy_seto _ _ _ (by omega)]) (by rw [s4.1 30 (by omega), hy_seto _ _ _ (by omega)]) (by rw [s5.1 187 (by omega)]) (by rw [s5.1 188 (by omega)]) (by rw [s5.1 189 (by omega)]) (by rw [s5.1 190 (by omega)]) O
theorem j_orders {N : Nat} {q : Nat → Int32} (hz : gz q ≤ 16) (z1 : q 11 = nI (gz q)) : ∀ (n lvl : Nat), lvl + n = 3 → lvl ≤ 2 → ∀ (k fr i f g : Nat) (Mc Mr : hz_M), PJ N Mc Mr → hy_Ho Mc q → (Mc 9 6 = 0 → Mc 27 6 = nI fr ∧ Mr 178 22 = nI fr) → fr ≤ 30 → 31 ≤ fr + k → i ≤ fr → k < f → k < g →
    hy_RP N lvl fr Mc Mr (r_X6_readOrders_L2 (f_X6_readOrders n) f (nI lvl) (nI i) Mc) (r_X11_readsOrders_L0 (f_X11_readsOrders n) g (nI lvl) Mr)
  | 0, lvl, hl, h2 => by omega
  | n + 1, lvl, hl, h2 => by
    intro k
    induction k with
    | zero => intro fr i f g Mc Mr P H hcnt hfr hk; omega
    | succ k ih =>
      intro fr i f g Mc Mr P H hcnt hfr hk hi hf hg
      obtain ⟨f, rfl⟩ : ∃ x, f = x + 1 := ⟨f - 1, by omega⟩
      obtain ⟨g, rfl⟩ : ∃ x, g = x + 1 := ⟨g - 1, by omega⟩
      by_cases e : Mc 9 6 = 0
      rotate_left
      · exact lpE _ _ f g P e
      obtain ⟨h6, h22⟩ := hcnt e
      have er : Mr 178 17 = 0 := by rw [← P.2.2.1]; exact e
      have n30 : ¬ (30 : Int32) < nI i := by rw [show (30 : Int32) = nI 30 from rfl, hy_lt (by omega) (by omega)]; omega
      have sg : f_X11_isSign 41 Mr = some (if Mc 9 2 = 41 then 1 else 0, Mr) := j_isSign 41 (by omega) P e
      have tk := P.2.1
      obtain ⟨s, e', _, _, _, _, _, _, h7⟩ := tk
      by_cases t1 : Mc 9 2 = 1
      · have t15 : ¬ Mr 178 15 = 0 := by
          rcases h7 with ⟨a, b⟩ | ⟨a, b, _⟩ | ⟨a, b, _⟩ | ⟨_, b, a, _⟩ | ⟨a, b⟩
          · rw [t1] at a; exact absurd a (by decide)
          · rw [b]; decide
          · rw [b]; decide
          · rw [b]; decide
          · rw [b]; decide
        rw [t1, if_neg (by decide)] at sg
        obtain ⟨r, Ma, C1, R1_, a1, a2, a3, P1, fo, fp, hb⟩ := j_one (rc := f_X6_readOrders (n + 1)) (rr := f_X11_readsOrders (n + 1)) (lvl := lvl) h2 hfr P e H hz z1 h6 h22 (recE n) (fun C R PC eC HC c6 r22 hf1 l2 => by
          have L := j_orders hz z1 n (lvl + 1) (by omega) (by omega) 31 (fr + 1) 0 hz_FU hz_FU C R PC HC (fun _ => ⟨c6, r22⟩) hf1 (by omega) (by omega) (hy_FU (by omega)) (hy_FU (by omega))
          simp only [f_X6_readOrders, r_X6_readOrders, f_X11_readsOrders, r_X11_readsOrders]
          exact L)
        have cs : r_X6_readOrders_L2 (f_X6_readOrders (n + 1)) (f + 1) (nI lvl) (nI i) Mc = r_X6_readOrders_L2 (f_X6_readOrders (n + 1)) f (nI lvl) (nI (i + 1)) C1 := by
          simp only [r_X6_readOrders_L2, n30, if_false, e, if_true, t1, a1, hy_cts, a2, hy_lt', hy_add1]
        have rs : r_X11_readsOrders_L0 (f_X11_readsOrders (n + 1)) (g + 1) (nI lvl) Mr = r_X11_readsOrders_L0 (f_X11_readsOrders (n + 1)) g (nI lvl) R1_ := by
          simp only [r_X11_readsOrders_L0, er, if_true, t15, if_false, sg, hy_cts, a3]
        rw [cs, rs]
        by_cases e1 : C1 9 6 = 0
        · obtain ⟨b, b1, b2, b3, b4, b5, b6⟩ := hb e1
          obtain ⟨C', R', l1, l2, l3, l4, l5⟩ := ih b (i + 1) f g C1 R1_ P1 (Ho_fr (fun a ha => fo.1 a (by omega) (by omega) (by omega)) H) (fun _ => ⟨b3, b4⟩) b2 (by omega) (by omega) (by omega) (by omega)
          refine ⟨C', R', l1, l2, FO_t (by omega) fo l3, FP_t (by omega) fp l4, ?_⟩
          rcases l5 with ⟨PP, h⟩ | h
          · refine Or.inl ⟨PP, fun e2 => ?_⟩
            obtain ⟨to, t1, t2, t3, t4, t5⟩ := h e2
            refine ⟨to, by omega, t2, t3, t4, fun w hw => ?_⟩
            obtain ⟨w, rfl⟩ : ∃ w', w = w' + 1 := ⟨w - 1, by omega⟩
            unfold WFo
            refine Or.inr ⟨by omega, by omega, b, b1, t1, by rw [l3.2.2.2 31 (by omega) (by omega) fr b1]; exact b5, ?_, t5 w (by omega)⟩
            rcases b6 with ⟨eb, c, O⟩ | ⟨q1, q2, q3, q4, ⟨m, m1, m2, m3⟩, q5⟩
            · exact Or.inl ⟨eb, c, OR_ext l3 l4 b1 O⟩
            · exact Or.inr ⟨q1, by rw [l3.2.2.2 28 (by omega) (by omega) fr b1]; exact q2, by rw [l4.2.2 187 (by omega) (by omega) fr b1]; exact q3, by rw [l4.2.2 190 (by omega) (by omega) fr b1]; exact q4, ⟨m, m1, by rw [l3.2.2.2 30 (by omega) (by omega) fr b1]; exact m2, by rw [l4.2.2 189 (by omega) (by omega) fr b1]; exact m3⟩, WFo_ext l3 l4 w (lvl + 1) (fr + 1) b (Nat.le_refl b) (q5 w (by omega))⟩
          · exact Or.inr h
        · obtain ⟨f, rfl⟩ : ∃ x, f = x + 1 := ⟨f - 1, by omega⟩
          obtain ⟨g, rfl⟩ : ∃ x, g = x + 1 := ⟨g - 1, by omega⟩
          obtain ⟨C', R', l1, l2, l3, l4, l5⟩ := lpE (rc := f_X6_readOrders (n + 1)) (rr := f_X11_readsOrders (n + 1)) (lvl := lvl) (fr := fr) (nI lvl) (nI (i + 1)) f g P1 e1
          exact ⟨C', R', l1, l2, FO_t (Nat.le_refl _) fo l3, FP_t (Nat.le_refl _) fp l4, l5⟩
      · have cs : r_X6_readOrders_L2 (f_X6_readOrders (n + 1)) (f + 1) (nI lvl) (nI i) Mc = some (0, Mc) := by
          simp only [r_X6_readOrders_L2, n30, if_false, e, if_true, t1]
        have out : r_X11_readsOrders_L0 (f_X11_readsOrders (n + 1)) (g + 1) (nI lvl) Mr = some (0, Mr) → hy_RP N lvl fr Mc Mr (r_X6_readOrders_L2 (f_X6_readOrders (n + 1)) (f + 1) (nI lvl) (nI i) Mc) (r_X11_readsOrders_L0 (f_X11_readsOrders (n + 1)) (g + 1) (nI lvl) Mr) := fun h =>
          ⟨Mc, Mr, cs, h, FO_r _ _, FP_r _ _, Or.inl ⟨P, fun _ => ⟨fr, Nat.le_refl _, hfr, h6, h22, fun w _ => WFo_0 Mc Mr lvl fr w⟩⟩⟩
        by_cases t0 : Mr 178 15 = 0
        · exact out (by simp only [r_X11_readsOrders_L0, er, if_true, t0])
        by_cases t41 : Mc 9 2 = 41
        · rw [if_pos t41] at sg
          exact out (by simp only [r_X11_readsOrders_L0, er, if_true, t0, if_false, sg, hy_cts, hy_f10])
        rw [if_neg t41] at sg
        have t15 : ¬ Mr 178 15 = 1 := by
          rcases h7 with ⟨a, b⟩ | ⟨a, b, _⟩ | ⟨a, b, _⟩ | ⟨_, b, a, _⟩ | ⟨a, b⟩
          · rw [b]; decide
          · exact absurd a t1
          · rw [b]; decide
          · rw [b]; decide
          · rw [b]; decide
        have t2 : ¬ Mc 9 2 = 0 := by
          rcases h7 with ⟨a, b⟩ | ⟨a, b, _⟩ | ⟨a, b, _⟩ | ⟨_, b, a, c⟩ | ⟨a, b⟩
          · exact absurd b t0
          · exact absurd a t1
          · rw [a]; decide
          · rw [a]; rcases c with c | c | c <;> (rw [c]; decide)
          · rw [a]; decide
        obtain ⟨C1, R1_, a1, a2, a3, a4, a5, a6⟩ := j_fail (k := 1) (by omega) P
        have a2' : f_X11_must 0 1 Mr = some (0, R1_) := a2
        have nr : ¬ R1_ 178 17 = 0 := by rw [← a3.2.2.1]; exact a6
        have ro : r_X11_readsOrder (f_X11_readsOrders (n + 1)) (nI lvl) Mr = some (0, R1_) := by
          simp only [r_X11_readsOrder, noOrd Mr er t15, hy_cts, hy_jn, if_true, a2']
        refine ⟨Mc, R1_, cs, ?_, FO_r _ _, FP_H _ a5, Or.inr ⟨e, t2, t41, Mr, P, a2'⟩⟩
        obtain ⟨g, rfl⟩ : ∃ x, g = x + 1 := ⟨g - 1, by omega⟩
        simp only [r_X11_readsOrders_L0, er, if_true, t0, if_false, sg, hy_cts, ro, nr]
