
theorem run_any {q : Nat → Int32} {d k c : Nat} {Mc Mr : hz_M} (R : RS q d Mc Mr) (hd : d < 40) (hk : k < 30) (O : OR Mc Mr k c) : R1 q d Mc Mr (f_X6_runOrder (nI k) Mc) (f_X11_does (nI k) Mr) := by
  have h : c = 0 ∨ c = 1 ∨ c = 2 ∨ c = 3 ∨ c = 4 ∨ c = 5 ∨ c = 6 ∨ c = 7 ∨ c = 8 ∨ c = 9 := by have := O.1; omega
  rcases h with rfl | rfl | rfl | rfl | rfl | rfl | rfl | rfl | rfl | rfl
  · exact run_0 R hd hk O
  · exact run_1 R hd hk O
  · exact run_2 R hd hk O
  · exact run_3 R hd hk O
  · exact run_4 R hd hk O
  · exact run_5 R hd hk O
  · exact run_6 R hd hk O
  · exact run_7 R hd hk O
  · exact run_8 R hd hk O
  · exact run_9 R hd hk O
theorem FRs_of {a b : hz_M} (h : FRr a b) : FRs a b := ⟨h.1, fun x h1 _ => h.2 x h1⟩
/-- an again of the reference at forty -/
theorem aL40 (rec : Int32 → Int32 → hz_M → hz_O) (kk : Int32 → Int32 → hz_M → hz_O) {Mr : hz_M} {to fr b m : Nat} {b2 : Int32} (hf : fr < 30) (hm : m ≤ 20) (m3 : Mr 189 fr = nI m) (k3 : Mr 190 fr = nI b) (hb2 : b2 = 0 ∨ b2 = 1) (r1 : rec (nI (fr + 1)) (nI b) Mr = some (b2, Mr)) : ∀ (k t g : Nat), m ≤ t + k → t ≤ 1000 → k < g →
    r_X11_doesAll_L21 rec kk g (nI to) (nI fr) (nI t) Mr = some (0, Mr) ∨ r_X11_doesAll_L21 rec kk g (nI to) (nI fr) (nI t) Mr = kk (nI to) (nI fr) Mr
  | 0, t, g, ht, h10, hg => by
    obtain ⟨g, rfl⟩ : ∃ e, g = e + 1 := ⟨g - 1, by omega⟩
    have e3 : m ≤ t := by omega
    right
    simp (disch := omega) only [r_X11_doesAll_L21, hy_in, hy_gt, hy_c, m3, hy_le, e3, if_true]
  | k + 1, t, g, ht, h10, hg => by
    obtain ⟨g, rfl⟩ : ∃ e, g = e + 1 := ⟨g - 1, by omega⟩
    by_cases e3 : m ≤ t
    · right
      simp (disch := omega) only [r_X11_doesAll_L21, hy_in, hy_gt, hy_c, m3, hy_le, e3, if_true]
    · rcases hb2 with rfl | rfl
      · left
        simp (disch := omega) only [r_X11_doesAll_L21, hy_in, hy_gt, hy_c, m3, hy_le, e3, if_false, hy_add1, k3, r1, hy_cts, if_true]
      · have ih := aL40 rec kk (to := to) hf hm m3 k3 (Or.inr rfl) r1 k (t + 1) g (by omega) (by omega) (by omega)
        simp (disch := omega) only [r_X11_doesAll_L21, hy_in, hy_gt, hy_c, m3, hy_le, e3, if_false, hy_add1, k3, r1, hy_cts, hy_f10, hy_lt']
        exact ih
theorem OUT_t {Mc Mr Mc1 Mr1 : hz_M} {oc orf : hz_O} (h1 : FRc Mc Mc1) (h2 : FRs Mr Mr1) (O : OUT Mc1 Mr1 oc orf) : OUT Mc Mr oc orf := by
  obtain ⟨r, q', d', Mc', Mr', a1, a2, a3, a4, a5⟩ := O
  exact ⟨r, q', d', Mc', Mr', a1, a2, FRc_t h1 a3, FRs_t h2 a4, a5⟩
theorem run_all : ∀ (w lvl fr to n f g cnt : Nat) (q : Nat → Int32) (d : Nat) (Mc Mr : hz_M), WFo Mc Mr w lvl fr to → lvl + n = 3 → to ≤ cnt → cnt ≤ 30 → Mc 27 6 = nI cnt → RS q d Mc Mr → Mc 27 8 = (if d < 40 then 0 else 1) → fr ≤ to → to < fr + f → to < fr + g →
    OUT Mc Mr (r_X6_runOrders_L6 (f_X6_runOrders n) f (nI to) (nI lvl) (nI fr) (nI fr) Mc) (r_X11_doesAll_L2 (f_X11_doesAll n) g (nI to) (nI fr) Mr)
  | 0, lvl, fr, to, n, f, g, cnt, q, d, Mc, Mr, W, hl, htc, hc30, hcnt, R, h8, hft, hf, hg => by
    have e : fr = to := W
    obtain ⟨f, rfl⟩ : ∃ e, f = e + 1 := ⟨f - 1, by omega⟩
    obtain ⟨g, rfl⟩ : ∃ e, g = e + 1 := ⟨g - 1, by omega⟩
    have e1 : to ≤ fr := by omega
    refine ⟨1, q, d, Mc, Mr, ?_, ?_, FRc_r _, FRs_r _, R, Or.inl ⟨rfl, h8⟩⟩
    · simp (disch := omega) only [r_X6_runOrders_L6, hy_le, e1, if_true]
    · simp (disch := omega) only [r_X11_doesAll_L2, hy_le, e1, if_true]
  | w + 1, lvl, fr, to, n, f, g, cnt, q, d, Mc, Mr, W, hl, htc, hc30, hcnt, R, h8, hft, hf, hg => by
    have W0 := W
    by_cases hd : d < 40
    · unfold WFo at W
      rw [if_pos hd] at h8
      rcases W with e | ⟨a1, a2, b, a3, a4, a5, a6, a7⟩
      · obtain ⟨f, rfl⟩ : ∃ e, f = e + 1 := ⟨f - 1, by omega⟩
        obtain ⟨g, rfl⟩ : ∃ e, g = e + 1 := ⟨g - 1, by omega⟩
        have e1 : to ≤ fr := by omega
        refine ⟨1, q, d, Mc, Mr, ?_, ?_, FRc_r _, FRs_r _, R, Or.inl ⟨rfl, by rw [if_pos hd]; exact h8⟩⟩
        · simp (disch := omega) only [r_X6_runOrders_L6, hy_le, e1, if_true]
        · simp (disch := omega) only [r_X11_doesAll_L2, hy_le, e1, if_true]
      · obtain ⟨f, rfl⟩ : ∃ e, f = e + 1 := ⟨f - 1, by omega⟩
        obtain ⟨g, rfl⟩ : ∃ e, g = e + 1 := ⟨g - 1, by omega⟩
        have e1 : ¬ to ≤ fr := by omega
        have e2 : ¬ cnt ≤ fr := by omega
        have e3 : ¬ fr < fr := by omega
        rcases a6 with ⟨eb, c, O⟩ | ⟨l2, k1, k2, k3, ⟨m, m1, m2, m3⟩, k4⟩
        · -- one order
          have hc9 := O.1
          have n10 : ¬ nI c = 10 := by rw [show (10 : Int32) = nI 10 from rfl, hy_eq (by omega) (by omega)]; omega
          have n11 : ¬ nI (c + 1) = 11 := by rw [show (11 : Int32) = nI 11 from rfl, hy_eq (by omega) (by omega)]; omega
          have vo : hz_vo (nI (c + 1)) = true := by
            have : c = 0 ∨ c = 1 ∨ c = 2 ∨ c = 3 ∨ c = 4 ∨ c = 5 ∨ c = 6 ∨ c = 7 ∨ c = 8 ∨ c = 9 := by omega
            rcases this with rfl | rfl | rfl | rfl | rfl | rfl | rfl | rfl | rfl | rfl <;> decide
          have n40 : ¬ Mr 178 23 = 40 := by rw [R.2.2.2.2.2.1, show (40 : Int32) = nI 40 from rfl, hy_eq (by omega) (by omega)]; omega
          obtain ⟨b0, q', Mc1, Mr1, x1, x2, fc, fr_, w1, t1, x3, x4, x5⟩ := run_any R hd a2 O
          have cst : r_X6_runOrders_L6 (f_X6_runOrders n) (f + 1) (nI to) (nI lvl) (nI fr) (nI fr) Mc = r_X6_runOrders_L6 (f_X6_runOrders n) f (nI to) (nI lvl) (nI b) (nI (fr + 1)) Mc1 := by
            simp (disch := omega) only [r_X6_runOrders_L6, hy_le (a := to) (b := fr), e1, if_false, hcnt, hy_le (a := cnt) (b := fr), e2, hy_jn, hy_lt (a := fr) (b := fr), e3, h8, if_true, hy_in, hy_gt, hy_lt', hy_c, a5, O.2.1, vo, n11, x1, hy_cts, hy_add1]
          rcases x5 with ⟨rfl, y1, y2⟩ | ⟨rfl, y1, y2⟩
          · have rst : r_X11_doesAll_L2 (f_X11_doesAll n) (g + 1) (nI to) (nI fr) Mr = r_X11_doesAll_L2 (f_X11_doesAll n) g (nI to) (nI (fr + 1)) (hz_set Mr1 178 23 (nI (d + 1))) := by
              have z : Mr1 178 23 = nI d := by rw [fr_.2 23 (by omega)]; exact R.2.2.2.2.2.1
              simp (disch := omega) only [r_X11_doesAll_L2, hy_le, e1, if_false, hy_in, hy_gt, hy_c, O.2.2.1, n10, n40, x2, hy_cts, hy_f10, hy_lm, z, hy_add1, hy_lt']
            have fs2 : FRs Mr (hz_set Mr1 178 23 (nI (d + 1))) := FRs_t (FRs_of fr_) ⟨fun a h _ _ => hy_seto _ _ _ h, fun x _ h => hy_setn _ _ _ h⟩
            have R2 : RS q' (d + 1) Mc1 (hz_set Mr1 178 23 (nI (d + 1))) := ⟨w1, t1, by rw [hy_seto _ _ _ (by omega)]; exact x3, by omega, y1, hy_setk _ _ _ _, by rw [hy_setn _ _ _ (by omega)]; exact x4, by rw [hy_setn _ _ _ (by omega), fr_.2 24 (by omega)]; exact R.2.2.2.2.2.2.2⟩
            rw [cst, rst, ← eb]
            exact OUT_t fc fs2 (run_all w lvl b to n f g cnt q' (d + 1) Mc1 _ (WFo_fr fc fs2 w lvl b to a7) hl htc hc30 (by rw [fc.2 6 (by omega) (by omega)]; exact hcnt) R2 y2 a4 (by omega) (by omega))
          · have rst : r_X11_doesAll_L2 (f_X11_doesAll n) (g + 1) (nI to) (nI fr) Mr = some (0, Mr1) := by
              simp (disch := omega) only [r_X11_doesAll_L2, hy_le, e1, if_false, hy_in, hy_gt, hy_c, O.2.2.1, n10, n40, x2, hy_cts, if_true]
            rw [cst, rst, c_end (f_X6_runOrders n) (nI lvl) (nI b) (to := to) (by omega) y2 (to - (fr + 1)) (fr + 1) f (by omega) (by omega) (by omega)]
            exact ⟨0, q', d, Mc1, Mr1, rfl, rfl, fc, FRs_of fr_, ⟨w1, t1, x3, by omega, y1, by rw [fr_.2 23 (by omega)]; exact R.2.2.2.2.2.1, x4, by rw [fr_.2 24 (by omega)]; exact R.2.2.2.2.2.2.2⟩, Or.inr ⟨rfl, y2⟩⟩
        · obtain ⟨n', rfl⟩ : ∃ n', n = n' + 1 := ⟨n - 1, by omega⟩
          generalize hKK : (fun (v2_14 : Int32) (v3_15 : Int32) (M16 : hz_M) => hz_gd (hz_in v3_15 30) <| hz_lt ((M16 190 (Int32.toNatClampNeg v3_15))) fun x18 => r_X11_doesAll_L2 (f_X11_doesAll (n' + 1)) g v2_14 x18 M16) = KK
          have rst : r_X11_doesAll_L2 (f_X11_doesAll (n' + 1)) (g + 1) (nI to) (nI fr) Mr = r_X11_doesAll_L21 (f_X11_doesAll (n' + 1)) KK hz_FU (nI to) (nI fr) (nI 0) Mr := by
            rw [← hKK]
            simp (disch := omega) only [r_X11_doesAll_L2, hy_le, e1, if_false, hy_in, hy_gt, hy_c, k2, if_true, hy_jn]
            rfl
          have nl2 : ¬ (2 : Int32) ≤ nI lvl := by rw [show (2 : Int32) = nI 2 from rfl, hy_le (by omega) (by omega)]; omega
          have loop : ∀ (k t f1 g1 : Nat) (q1 : Nat → Int32) (d1 : Nat) (Mc1 Mr1 : hz_M), FRc Mc Mc1 → FRs Mr Mr1 → RS q1 d1 Mc1 Mr1 → Mc1 27 8 = (if d1 < 40 then 0 else 1) → t + k = m → k < f1 → k < g1 →
              ∃ (q2 : Nat → Int32) (d2 : Nat) (Mc2 Mr2 : hz_M), r_X6_runAgain_L2 (f_X6_runOrders (n' + 1)) f1 (nI fr) (nI lvl) (nI t) Mc1 = some (0, Mc2) ∧ FRc Mc Mc2 ∧ FRs Mr Mr2 ∧ RS q2 d2 Mc2 Mr2 ∧
                ((r_X11_doesAll_L21 (f_X11_doesAll (n' + 1)) KK g1 (nI to) (nI fr) (nI t) Mr1 = KK (nI to) (nI fr) Mr2 ∧ Mc2 27 8 = (if d2 < 40 then 0 else 1)) ∨ (r_X11_doesAll_L21 (f_X11_doesAll (n' + 1)) KK g1 (nI to) (nI fr) (nI t) Mr1 = some (0, Mr2) ∧ Mc2 27 8 = 1)) := by
            intro k
            induction k with
            | zero =>
              intro t f1 g1 q1 d1 Mc1 Mr1 fc fs R1' h81 ht' hf1 hg1
              obtain ⟨f1, rfl⟩ : ∃ e, f1 = e + 1 := ⟨f1 - 1, by omega⟩
              obtain ⟨g1, rfl⟩ : ∃ e, g1 = e + 1 := ⟨g1 - 1, by omega⟩
              have e4 : m ≤ t := by omega
              have m2' : Mc1 30 fr = nI m := by rw [fc.1 30 (by omega) (by omega) (by omega)]; exact m2
              have m3' : Mr1 189 fr = nI m := by rw [fs.1 189 (by omega) (by omega) (by omega)]; exact m3
              refine ⟨q1, d1, Mc1, Mr1, ?_, fc, fs, R1', Or.inl ⟨?_, h81⟩⟩
              · simp (disch := omega) only [r_X6_runAgain_L2, hy_in, hy_gt, hy_c, m2', hy_le, e4, if_true]
              · simp (disch := omega) only [r_X11_doesAll_L21, hy_in, hy_gt, hy_c, m3', hy_le, e4, if_true]
            | succ k ih =>
              intro t f1 g1 q1 d1 Mc1 Mr1 fc fs R1' h81 ht' hf1 hg1
              obtain ⟨f1, rfl⟩ : ∃ e, f1 = e + 1 := ⟨f1 - 1, by omega⟩
              obtain ⟨g1, rfl⟩ : ∃ e, g1 = e + 1 := ⟨g1 - 1, by omega⟩
              have e4 : ¬ m ≤ t := by omega
              have m2' : Mc1 30 fr = nI m := by rw [fc.1 30 (by omega) (by omega) (by omega)]; exact m2
              have m3' : Mr1 189 fr = nI m := by rw [fs.1 189 (by omega) (by omega) (by omega)]; exact m3
              have k3' : Mr1 190 fr = nI b := by rw [fs.1 190 (by omega) (by omega) (by omega)]; exact k3
              have a5' : Mc1 31 fr = nI b := by rw [fc.1 31 (by omega) (by omega) (by omega)]; exact a5
              by_cases hd1 : d1 < 40
              · have h810 : Mc1 27 8 = 0 := by rw [h81, if_pos hd1]
                obtain ⟨r, q2, d2, Mc2, Mr2, y1, y2, y3, y4, y5, y6⟩ := run_all w (lvl + 1) (fr + 1) b n' hz_FU hz_FU cnt q1 d1 Mc1 Mr1 (WFo_fr fc fs w (lvl + 1) (fr + 1) b k4) (by omega) (by omega) hc30 (by rw [fc.2 6 (by omega) (by omega)]; exact hcnt) R1' h81 (by omega) (hy_FUx (by omega)) (hy_FUx (by omega))
                have rc : f_X6_runOrders (n' + 1) (nI (fr + 1)) (nI b) (nI (lvl + 1)) Mc1 = some (0, Mc2) := y1
                have rr : f_X11_doesAll (n' + 1) (nI (fr + 1)) (nI b) Mr1 = some (r, Mr2) := y2
                have cs : r_X6_runAgain_L2 (f_X6_runOrders (n' + 1)) (f1 + 1) (nI fr) (nI lvl) (nI t) Mc1 = r_X6_runAgain_L2 (f_X6_runOrders (n' + 1)) f1 (nI fr) (nI lvl) (nI (t + 1)) Mc2 := by
                  simp (disch := omega) only [r_X6_runAgain_L2, hy_in, hy_gt, hy_c, m2', hy_le (a := m) (b := t), e4, if_false, h810, if_true, nl2, a5', hy_add1, rc, hy_cts, hy_lt']
                rcases y6 with ⟨rfl, y7⟩ | ⟨rfl, y7⟩
                · obtain ⟨q3, d3, Mc3, Mr3, x1, x2, x3, x4, x5⟩ := ih (t + 1) f1 g1 q2 d2 Mc2 Mr2 (FRc_t fc y3) (FRs_t fs y4) y5 y7 (by omega) (by omega) (by omega)
                  have rs : r_X11_doesAll_L21 (f_X11_doesAll (n' + 1)) KK (g1 + 1) (nI to) (nI fr) (nI t) Mr1 = r_X11_doesAll_L21 (f_X11_doesAll (n' + 1)) KK g1 (nI to) (nI fr) (nI (t + 1)) Mr2 := by
                    simp (disch := omega) only [r_X11_doesAll_L21, hy_in, hy_gt, hy_c, m3', hy_le, e4, if_false, hy_add1, k3', rr, hy_cts, hy_f10, hy_lt']
                  exact ⟨q3, d3, Mc3, Mr3, by rw [cs, x1], x2, x3, x4, by rw [rs]; exact x5⟩
                · have m2'' : Mc2 30 fr = nI m := by rw [(FRc_t fc y3).1 30 (by omega) (by omega) (by omega)]; exact m2
                  refine ⟨q2, d2, Mc2, Mr2, ?_, FRc_t fc y3, FRs_t fs y4, y5, Or.inr ⟨?_, y7⟩⟩
                  · rw [cs]
                    obtain ⟨f1, rfl⟩ : ∃ e, f1 = e + 1 := ⟨f1 - 1, by omega⟩
                    simp (disch := omega) only [r_X6_runAgain_L2, hy_in, hy_gt, hy_c, m2'', y7, hy_f10, if_false]
                    split <;> rfl
                  · simp (disch := omega) only [r_X11_doesAll_L21, hy_in, hy_gt, hy_c, m3', hy_le, e4, if_false, hy_add1, k3', rr, hy_cts, if_true]
              · have d40 : d1 = 40 := by have := R1'.2.2.2.1; omega
                subst d40
                have h811 : Mc1 27 8 = 1 := by rw [h81, if_neg (by omega)]
                have cs : r_X6_runAgain_L2 (f_X6_runOrders (n' + 1)) (f1 + 1) (nI fr) (nI lvl) (nI t) Mc1 = some (0, Mc1) := by
                  simp (disch := omega) only [r_X6_runAgain_L2, hy_in, hy_gt, hy_c, m2', hy_le (a := m) (b := t), e4, if_false, h811, hy_f10]
                obtain ⟨b2, hb2, r40i⟩ := r_40 (Mc := Mc1) (Mr := Mr1) R1'.2.2.2.2.2.1 w (lvl + 1) (fr + 1) b n' hz_FU (WFo_fr fc fs w (lvl + 1) (fr + 1) b k4) (by omega) (by omega) (hy_FUx (by omega))
                have rr : f_X11_doesAll (n' + 1) (nI (fr + 1)) (nI b) Mr1 = some (b2, Mr1) := r40i
                rcases aL40 (f_X11_doesAll (n' + 1)) KK (to := to) a2 m1 m3' k3' hb2 rr (k + 1) t (g1 + 1) (by omega) (by omega) (by omega) with h | h
                · exact ⟨q1, 40, Mc1, Mr1, cs, fc, fs, R1', Or.inr ⟨h, h811⟩⟩
                · exact ⟨q1, 40, Mc1, Mr1, cs, fc, fs, R1', Or.inl ⟨h, h81⟩⟩
          obtain ⟨q2, d2, Mc2, Mr2, x1, x2, x3, x4, x5⟩ := loop m 0 hz_FU hz_FU q d Mc Mr (FRc_r _) (FRs_r _) R (by rw [if_pos hd]; exact h8) (by omega) (hy_FU (by omega)) (hy_FU (by omega))
          have ra : r_X6_runAgain (f_X6_runOrders (n' + 1)) (nI fr) (nI lvl) Mc = some (0, Mc2) := x1
          have vo : hz_vo (11 : Int32) = true := by decide
          have cst : r_X6_runOrders_L6 (f_X6_runOrders (n' + 1)) (f + 1) (nI to) (nI lvl) (nI fr) (nI fr) Mc = r_X6_runOrders_L6 (f_X6_runOrders (n' + 1)) f (nI to) (nI lvl) (nI b) (nI (fr + 1)) Mc2 := by
            simp (disch := omega) only [r_X6_runOrders_L6, hy_le (a := to) (b := fr), e1, if_false, hcnt, hy_le (a := cnt) (b := fr), e2, hy_jn, hy_lt (a := fr) (b := fr), e3, h8, if_true, hy_in, hy_gt, hy_lt', hy_c, a5, k1, vo, ra, hy_cts, hy_add1]
          have cnt2 : Mc2 27 6 = nI cnt := by rw [x2.2 6 (by omega) (by omega)]; exact hcnt
          rw [cst, rst]
          rcases x5 with ⟨y1, y2⟩ | ⟨y1, y2⟩
          · have kk2 : KK (nI to) (nI fr) Mr2 = r_X11_doesAll_L2 (f_X11_doesAll (n' + 1)) g (nI to) (nI b) Mr2 := by
              have k3' : Mr2 190 fr = nI b := by rw [x3.1 190 (by omega) (by omega) (by omega)]; exact k3
              rw [← hKK]
              simp (disch := omega) only [hy_in, hy_gt, hy_c, hy_lt', k3']
            have sk := c_skip (f_X6_runOrders (n' + 1)) (nI lvl) (M := Mc2) (to := to) (b := b) (cnt := cnt) (by omega) a4 cnt2 htc (by omega) (b - (fr + 1)) (fr + 1) (f - (b - (fr + 1))) (by omega)
            rw [show f - (b - (fr + 1)) + (b - (fr + 1)) = f by omega] at sk
            rw [y1, kk2, sk]
            exact OUT_t x2 x3 (run_all w lvl b to (n' + 1) (f - (b - (fr + 1))) g cnt q2 d2 Mc2 Mr2 (WFo_fr x2 x3 w lvl b to a7) hl htc hc30 cnt2 x4 y2 a4 (by omega) (by omega))
          · rw [y1, c_end (f_X6_runOrders (n' + 1)) (nI lvl) (nI b) (to := to) (by omega) y2 (to - (fr + 1)) (fr + 1) f (by omega) (by omega) (by omega)]
            exact ⟨0, q2, d2, Mc2, Mr2, rfl, rfl, x2, x3, x4, Or.inr ⟨rfl, y2⟩⟩
    · have d40 : d = 40 := by have := R.2.2.2.1; omega
      subst d40
      have r40 : Mr 178 23 = 40 := R.2.2.2.2.2.1
      rw [if_neg (by omega)] at h8
      obtain ⟨b, hb, hr⟩ := r_40 r40 (w + 1) lvl fr to n g W0 hl (by omega) (by omega)
      have hc := c_end (f_X6_runOrders n) (nI lvl) (nI fr) (to := to) (by omega) h8 (to - fr) fr f (by omega) (by omega) (by omega)
      refine ⟨b, q, 40, Mc, Mr, hc, hr, FRc_r _, FRs_r _, R, ?_⟩
      rcases hb with rfl | rfl
      · exact Or.inr ⟨rfl, h8⟩
      · exact Or.inl ⟨rfl, by rw [if_neg (by omega)]; exact h8⟩

