
def GI (th n : Nat) (q0 : Nat → Int32) (i : Nat) (Mc Mr : hz_M) : Prop := PJ n Mc Mr ∧ (Mc 9 6 = 0 → i ≤ 16 ∧ Mc th 3 = nI i ∧ Mr 179 11 = nI i ∧ (∀ g, g < i → GS th Mc Mr g) ∧ ∀ b, b ≠ 11 → (b < 25 ∨ 153 ≤ b ∨ b % 8 = 6 ∨ b % 8 = 7) → Mr 179 b = q0 b)
def FM (Mr Mr' : hz_M) : Prop := (∀ a, a ≠ 178 → a ≠ 179 → Mr' a = Mr a) ∧ (∀ b, (b < 12 ∨ 17 < b) → Mr' 178 b = Mr 178 b) ∧ ∀ b, 185 ≤ b → Mr' 179 b = Mr 179 b
theorem FM_r (a : hz_M) : FM a a := ⟨fun _ _ _ => rfl, fun _ _ => rfl, fun _ _ => rfl⟩
theorem FM_t {a b c : hz_M} (h : FM a b) (k : FM b c) : FM a c := ⟨fun x h1 h2 => by rw [k.1 x h1 h2, h.1 x h1 h2], fun x hx => by rw [k.2.1 x hx, h.2.1 x hx], fun x hx => by rw [k.2.2 x hx, h.2.2 x hx]⟩
theorem FM_H {a b : hz_M} (h : FH a b) : FM a b := ⟨fun x h1 _ => h.1 x h1, h.2, fun x _ => by rw [h.1 179 (by omega)]⟩
theorem FM_L {i : Nat} {a b : hz_M} (hi : i ≤ 16) (h : FL i a b) : FM a b := ⟨h.1, h.2.1, fun x hx => h.2.2 x (by omega) (by omega)⟩
theorem FK_r (th : Nat) (a : hz_M) : FK th a a := ⟨fun _ _ _ _ _ _ => rfl, rfl, fun _ _ => rfl⟩
theorem j_loop {th n : Nat} {q0 : Nat → Int32} (hth : th = 1 ∨ th = 5) (kc kr : hz_M → hz_O) : ∀ (k i f f' : Nat) (Mc Mr : hz_M), GI th n q0 i Mc Mr → i + k = 17 → k < f → k < f' →
    ∃ j Mc' Mr', f_X3_read_L106 th kc f (nI i) Mc = kc Mc' ∧ f_X11_readsSetup_L142 kr f' Mr = kr Mr' ∧ GI th n q0 j Mc' Mr' ∧ FK th Mc Mc' ∧ FM Mr Mr' ∧ (Mc' 9 6 = 0 → Mc 9 6 = 0)
  | 0, i, f, f', Mc, Mr, G, hi, hf, hf' => by
    obtain ⟨f, rfl⟩ : ∃ e, f = e + 1 := ⟨f - 1, by omega⟩
    obtain ⟨f', rfl⟩ : ∃ e, f' = e + 1 := ⟨f' - 1, by omega⟩
    have i17 : i = 17 := by omega
    subst i17
    have e : ¬ Mc 9 6 = 0 := fun h => by have := (G.2 h).1; omega
    have nr : ¬ Mr 178 17 = 0 := by rw [← G.1.2.2.1]; exact e
    refine ⟨17, Mc, Mr, ?_, ?_, G, FK_r _ _, FM_r _, fun h => h⟩
    · simp only [f_X3_read_L106, show (16 : Int32) < nI 17 from by decide, if_true]
    · simp only [f_X11_readsSetup_L142, f_X11_isSign, nr, if_false, hy_cts, if_true]
  | k + 1, i, f, f', Mc, Mr, G, hi, hf, hf' => by
    obtain ⟨f, rfl⟩ : ∃ e, f = e + 1 := ⟨f - 1, by omega⟩
    obtain ⟨f', rfl⟩ : ∃ e, f' = e + 1 := ⟨f' - 1, by omega⟩
    have i16 : ¬ (16 : Int32) < nI i := by rw [show (16 : Int32) = nI 16 from rfl, hy_lt (by omega) (by omega)]; omega
    by_cases e : Mc 9 6 = 0
    · have er : Mr 178 17 = 0 := by rw [← G.1.2.2.1]; exact e
      obtain ⟨P, GG⟩ := G
      obtain ⟨g1, g2, g3, g4, g5⟩ := GG e
      have sg := j_isSign 59 (by omega) P e
      have sg' : f_X11_isSign 59 Mr = some (if Mc 9 2 = nI 59 then 1 else 0, Mr) := sg
      by_cases k59 : Mc 9 2 = nI 59
      · rw [if_pos k59] at sg'
        have k59' : Mc 9 2 = 59 := k59
        obtain ⟨Mc1, Mr1, a1, a2, P1, fc1, fr1, e1⟩ := j_advP P
        obtain ⟨Mc2, Mr2, b1, b2, P2, fc2, fr2, b3⟩ := j_guest (th := th) (i := i) hth g1 P1 (by rw [e1]; exact e) (by rw [fc1.1 th (by omega)]; exact g2) (by rw [fr1.1 179 (by omega)]; exact g3) (fun g hg => GS_fr (by rw [fc1.1 (th + 1) (by omega)]) (by rw [fc1.1 (th + 3) (by omega)]) (fun j hj => by rw [fc1.1 (th + 2) (by omega)]) (fun c hc => by rw [fr1.1 179 (by omega)]) (g4 g hg))
        have G2 : GI th n q0 (i + 1) Mc2 Mr2 := ⟨P2, fun h => by
          obtain ⟨h1, h2, h3, h4⟩ := b3 h
          refine ⟨by omega, h2, h3, h4, fun b hb hb2 => ?_⟩
          rw [fr2.2.2 b hb (by omega), fr1.1 179 (by omega)]; exact g5 b hb hb2⟩
        obtain ⟨j, Mc3, Mr3, c1, c2, c3, c4, c5, c6⟩ := j_loop hth kc kr k (i + 1) f f' Mc2 Mr2 G2 (by omega) (by omega) (by omega)
        refine ⟨j, Mc3, Mr3, ?_, ?_, c3, FK_t (FK_t (FK_E hth fc1) fc2) c4, FM_t (FM_t (FM_H fr1) (FM_L g1 fr2)) c5, fun _ => e⟩
        · have ns : f_X8_needSign 59 Mc = some (0, Mc1) := by
            simp only [f_X8_needSign, hy_jn, k59', if_true, f_X8_goOnIf, hy_f10, if_false, e, a1, hy_cts]
          simp only [f_X3_read_L106, i16, if_false, e, if_true, k59', ns, hy_cts, b1, hy_lt', hy_add1, c1]
        · simp only [f_X11_readsSetup_L142, sg', hy_cts, hy_f10, if_false, a2, b2, c2]
      · rw [if_neg k59] at sg'
        have k59' : ¬ Mc 9 2 = 59 := k59
        refine ⟨i, Mc, Mr, ?_, ?_, ⟨P, GG⟩, FK_r _ _, FM_r _, fun h => h⟩
        · simp only [f_X3_read_L106, i16, if_false, e, if_true, k59']
        · simp only [f_X11_readsSetup_L142, sg', hy_cts, if_true]
    · have nr : ¬ Mr 178 17 = 0 := by rw [← G.1.2.2.1]; exact e
      refine ⟨i, Mc, Mr, ?_, ?_, G, FK_r _ _, FM_r _, fun h => h⟩
      · simp only [f_X3_read_L106, i16, if_false, e]
      · simp only [f_X11_readsSetup_L142, f_X11_isSign, nr, if_false, hy_cts, if_true]
/-- the pegs that a setup fills -/
def pgR (q : Nat → Int32) (T i : Nat) : Nat → Int32 := fun b => if 154 + 2 * i ≤ b ∧ b < 154 + 2 * T ∧ b % 2 = 0 then nI ((b - 154) / 2) else q b
theorem r_pgs {T : Nat} (hT : T ≤ 16) : ∀ (k i f : Nat) (M : hz_M), M 179 2 = nI T → i + k = T → k < f → f_X11_readsSetup_L190 f (nI i) M = some (0, hy_row M 179 (pgR (M 179) T i))
  | 0, i, f, M, h2, hi, hf => by
    obtain ⟨f, rfl⟩ : ∃ e, f = e + 1 := ⟨f - 1, by omega⟩
    have e : T ≤ i := by omega
    have er : pgR (M 179) T i = M 179 := by funext b; unfold pgR; rw [if_neg (by omega)]
    rw [er, hy_rid]
    simp (disch := omega) only [f_X11_readsSetup_L190, hy_k2, h2, hy_le, e, if_true]
  | k + 1, i, f, M, h2, hi, hf => by
    obtain ⟨f, rfl⟩ : ∃ e, f = e + 1 := ⟨f - 1, by omega⟩
    have e : ¬ T ≤ i := by omega
    have ih := r_pgs hT k (i + 1) f (hy_row M 179 (hy_st (M 179) (153 + 2 * i + 1) (nI i))) (by rw [hy_rs, hy_so _ _ (by omega)]; exact h2) (by omega) (by omega)
    rw [hy_rs, hy_rr] at ih
    have er : pgR (hy_st (M 179) (153 + 2 * i + 1) (nI i)) T (i + 1) = pgR (M 179) T i := by
      funext b
      unfold pgR
      by_cases e1 : b = 153 + 2 * i + 1
      · subst e1
        rw [if_neg (by omega), hy_ss, if_pos (by omega)]; congr 1; omega
      · rw [hy_so _ _ e1]
        by_cases e2 : 154 + 2 * (i + 1) ≤ b ∧ b < 154 + 2 * T ∧ b % 2 = 0
        · rw [if_pos e2, if_pos (by omega)]
        · rw [if_neg e2, if_neg (by omega)]
    rw [er] at ih
    rw [← ih]
    simp (disch := omega) only [f_X11_readsSetup_L190, hy_k2, h2, hy_le, e, if_false, r_putT1, hy_cts, hy_lt', hy_add1]


def HD (th : Nat) (Mc : hz_M) (q : Nat → Int32) : Prop := ∃ l p t v s r g u : Nat, 1 ≤ l ∧ l ≤ 12 ∧ 1 ≤ p ∧ p ≤ 16 ∧ t ≤ p ∧ 1 ≤ v ∧ v ≤ 4 ∧ 1 ≤ s ∧ s ≤ 6 ∧ 1 ≤ r ∧ r ≤ 9 ∧ 2 ≤ g ∧ g ≤ 60 ∧ u ≤ 30 ∧
  (Mc th 4 = nI l ∧ Mc th 5 = nI p ∧ Mc th 6 = nI t ∧ Mc th 7 = nI v ∧ Mc th 8 = nI s ∧ Mc th 9 = nI r ∧ Mc th 10 = nI g ∧ Mc th 11 = nI u) ∧
  (q 0 = nI l ∧ q 1 = nI p ∧ q 2 = nI t ∧ q 3 = nI v ∧ q 4 = nI s ∧ q 5 = nI r ∧ q 6 = nI g ∧ q 7 = nI u)
theorem j_read {th n : Nat} {Mc Mr : hz_M} (hth : th = 1 ∨ th = 5) (t : TX n Mc Mr) (q0z : ∀ b, Mr 179 b = 0) :
    ∃ Mc' Mrs Mr', f_X3_read th Mc = some (0, Mc') ∧ f_X11_starts Mr = some (0, Mrs) ∧ f_X11_readsSetup Mrs = some (0, Mr') ∧ Mc' 9 6 = Mr' 178 17 ∧ Mc' 9 7 = Mr' 178 12 ∧ (∃ k, k ≤ 4 ∧ Mc' 9 6 = nI k ∧ (k = 0 → Mc' 9 7 = -1)) ∧
      (∀ a, a ≠ 9 → a ≠ th → a ≠ th + 1 → a ≠ th + 2 → a ≠ th + 3 → Mc' a = Mc a) ∧ FM Mr Mr' ∧
      (Mc' 9 6 = 0 → ∃ i T : Nat, i ≤ 16 ∧ T ≤ 16 ∧ Mc' th 3 = nI i ∧ HD th Mc' (Mr' 179) ∧ Mr' 179 2 = nI T ∧ Mr' 179 11 = nI i ∧ Mr' 179 9 = 30 ∧ Mr' 179 10 = -1 ∧ (∀ g, g < i → GS th Mc' Mr' g) ∧ (∀ x, x < T → Mr' 179 (154 + 2 * x) = nI x) ∧
        ∀ b, (b = 8 ∨ (12 ≤ b ∧ b < 25) ∨ (25 ≤ b ∧ b < 153 ∧ (b % 8 = 6 ∨ b % 8 = 7)) ∨ (153 ≤ b ∧ b % 2 = 1) ∨ 185 ≤ b) → Mr' 179 b = 0) := by
  have t0 : TX n (hz_set Mc th 3 0) Mr := by
    unfold TX at *
    rw [hy_seto _ _ _ (by omega), hy_seto _ _ _ (by omega)]; exact t
  obtain ⟨C0, R0, a1, a2, P0, fc0, fr0, e0⟩ := j_start t0
  obtain ⟨rr, r, C1, R1, R2, w1, w2, w3, w4, P1, fc1, fr1, fr1', m1⟩ := j_needWord (w := 1) (by omega) P0
  have z2 : R2 179 = Mr 179 := by rw [fr1.1 179 (by omega), fr0.1 179 (by omega)]
  obtain ⟨x0, u0, D0, S0, n0, o0, Q0, fd0, fs0, y0⟩ := j_num0 1 12 1 12 P1 (fun _ => ⟨1, 12, by omega, rfl, rfl, rfl, rfl, by omega⟩)
  have p0 : PJ n (hz_set D0 th 4 x0) (hz_set S0 179 0 u0) := PJ_c (hy_seto _ _ _ (by omega)) (hy_seto _ _ _ (by omega)) (hy_seto _ _ _ (by omega)) (hy_seto _ _ _ (by omega)) Q0
  obtain ⟨x1, u1, D1, S1, n1, o1, Q1, fd1, fs1, y1⟩ := j_num0 1 16 1 16 p0 (fun _ => ⟨1, 16, by omega, rfl, rfl, rfl, rfl, by omega⟩)
  have p1 : PJ n (hz_set D1 th 5 x1) (hz_set S1 179 1 u1) := PJ_c (hy_seto _ _ _ (by omega)) (hy_seto _ _ _ (by omega)) (hy_seto _ _ _ (by omega)) (hy_seto _ _ _ (by omega)) Q1
  obtain ⟨x2, u2, D2, S2, n2, o2, Q2, fd2, fs2, y2⟩ := j_num0 0 ((hz_set D1 th 5 x1) th 5) 0 ((hz_set S1 179 1 u1) 179 1) p1 (fun h => by
    obtain ⟨_, ev, a, va, a9, ra1, ra2⟩ := y1 (by rw [hy_seto _ _ _ (by omega)] at h; exact h)
    refine ⟨0, a, a9, rfl, rfl, ?_, ?_, by omega⟩
    · rw [hy_setk]; exact va
    · rw [hy_setk, ← ev]; exact va)
  have p2 : PJ n (hz_set D2 th 6 x2) (hz_set S2 179 2 u2) := PJ_c (hy_seto _ _ _ (by omega)) (hy_seto _ _ _ (by omega)) (hy_seto _ _ _ (by omega)) (hy_seto _ _ _ (by omega)) Q2
  obtain ⟨x3, u3, D3, S3, n3, o3, Q3, fd3, fs3, y3⟩ := j_num0 1 4 1 4 p2 (fun _ => ⟨1, 4, by omega, rfl, rfl, rfl, rfl, by omega⟩)
  have p3 : PJ n (hz_set D3 th 7 x3) (hz_set S3 179 3 u3) := PJ_c (hy_seto _ _ _ (by omega)) (hy_seto _ _ _ (by omega)) (hy_seto _ _ _ (by omega)) (hy_seto _ _ _ (by omega)) Q3
  obtain ⟨x4, u4, D4, S4, n4, o4, Q4, fd4, fs4, y4⟩ := j_num0 1 6 1 6 p3 (fun _ => ⟨1, 6, by omega, rfl, rfl, rfl, rfl, by omega⟩)
  have p4 : PJ n (hz_set D4 th 8 x4) (hz_set S4 179 4 u4) := PJ_c (hy_seto _ _ _ (by omega)) (hy_seto _ _ _ (by omega)) (hy_seto _ _ _ (by omega)) (hy_seto _ _ _ (by omega)) Q4
  obtain ⟨x5, u5, D5, S5, n5, o5, Q5, fd5, fs5, y5⟩ := j_num0 1 9 1 9 p4 (fun _ => ⟨1, 9, by omega, rfl, rfl, rfl, rfl, by omega⟩)
  have p5 : PJ n (hz_set D5 th 9 x5) (hz_set S5 179 5 u5) := PJ_c (hy_seto _ _ _ (by omega)) (hy_seto _ _ _ (by omega)) (hy_seto _ _ _ (by omega)) (hy_seto _ _ _ (by omega)) Q5
  obtain ⟨x6, u6, D6, S6, n6, o6, Q6, fd6, fs6, y6⟩ := j_num0 2 60 2 60 p5 (fun _ => ⟨2, 60, by omega, rfl, rfl, rfl, rfl, by omega⟩)
  have p6 : PJ n (hz_set D6 th 10 x6) (hz_set S6 179 6 u6) := PJ_c (hy_seto _ _ _ (by omega)) (hy_seto _ _ _ (by omega)) (hy_seto _ _ _ (by omega)) (hy_seto _ _ _ (by omega)) Q6
  obtain ⟨x7, u7, D7, S7, n7, o7, Q7, fd7, fs7, y7⟩ := j_num0 0 30 0 30 p6 (fun _ => ⟨0, 30, by omega, rfl, rfl, rfl, rfl, by omega⟩)
  have p7 : PJ n (hz_set D7 th 11 x7) (hz_set S7 179 7 u7) := PJ_c (hy_seto _ _ _ (by omega)) (hy_seto _ _ _ (by omega)) (hy_seto _ _ _ (by omega)) (hy_seto _ _ _ (by omega)) Q7
  have pZ : PJ n (hz_set D7 th 11 x7) (hz_set (hz_set (hz_set S7 179 7 u7) 179 9 30) 179 10 (-1)) := PJ_c rfl rfl (by rw [hy_seto _ _ _ (by omega), hy_seto _ _ _ (by omega)]) (by rw [hy_seto _ _ _ (by omega), hy_seto _ _ _ (by omega)]) p7
  have fe0 : ∀ a, a ≠ 9 → a ≠ th → (hz_set D7 th 11 x7) a = Mc a := fun a h1 h2 => by rw [hy_seto _ _ _ h2, fd7.1 a h1, hy_seto _ _ _ h2, fd6.1 a h1, hy_seto _ _ _ h2, fd5.1 a h1, hy_seto _ _ _ h2, fd4.1 a h1, hy_seto _ _ _ h2, fd3.1 a h1, hy_seto _ _ _ h2, fd2.1 a h1, hy_seto _ _ _ h2, fd1.1 a h1, hy_seto _ _ _ h2, fd0.1 a h1, fc1.1 a h1, fc0.1 a h1, hy_seto _ _ _ h2]
  have fm0 : FM Mr (hz_set (hz_set (hz_set S7 179 7 u7) 179 9 30) 179 10 (-1)) := FM_t (FM_t (FM_H fr0) (FM_H fr1)) ⟨fun a h1 h2 => by rw [hy_seto _ _ _ h2, hy_seto _ _ _ h2, hy_seto _ _ _ h2, fs7.1 a h1, hy_seto _ _ _ h2, fs6.1 a h1, hy_seto _ _ _ h2, fs5.1 a h1, hy_seto _ _ _ h2, fs4.1 a h1, hy_seto _ _ _ h2, fs3.1 a h1, hy_seto _ _ _ h2, fs2.1 a h1, hy_seto _ _ _ h2, fs1.1 a h1, hy_seto _ _ _ h2, fs0.1 a h1], fun b hb => by rw [hy_seto _ _ _ (by omega), hy_seto _ _ _ (by omega), hy_seto _ _ _ (by omega), fs7.2 b hb, hy_seto _ _ _ (by omega), fs6.2 b hb, hy_seto _ _ _ (by omega), fs5.2 b hb, hy_seto _ _ _ (by omega), fs4.2 b hb, hy_seto _ _ _ (by omega), fs3.2 b hb, hy_seto _ _ _ (by omega), fs2.2 b hb, hy_seto _ _ _ (by omega), fs1.2 b hb, hy_seto _ _ _ (by omega), fs0.2 b hb], fun b hb => by rw [hy_setn _ _ _ (by omega), hy_setn _ _ _ (by omega), hy_setn _ _ _ (by omega), fs7.1 179 (by omega), hy_setn _ _ _ (by omega), fs6.1 179 (by omega), hy_setn _ _ _ (by omega), fs5.1 179 (by omega), hy_setn _ _ _ (by omega), fs4.1 179 (by omega), hy_setn _ _ _ (by omega), fs3.1 179 (by omega), hy_setn _ _ _ (by omega), fs2.1 179 (by omega), hy_setn _ _ _ (by omega), fs1.1 179 (by omega), hy_setn _ _ _ (by omega), fs0.1 179 (by omega)]⟩
  have c3 : (hz_set D7 th 11 x7) th 3 = nI 0 := by rw [hy_setn _ _ _ (by omega), fd7.1 th (by omega), hy_setn _ _ _ (by omega), fd6.1 th (by omega), hy_setn _ _ _ (by omega), fd5.1 th (by omega), hy_setn _ _ _ (by omega), fd4.1 th (by omega), hy_setn _ _ _ (by omega), fd3.1 th (by omega), hy_setn _ _ _ (by omega), fd2.1 th (by omega), hy_setn _ _ _ (by omega), fd1.1 th (by omega), hy_setn _ _ _ (by omega), fd0.1 th (by omega), fc1.1 th (by omega), fc0.1 th (by omega), hy_setk]; rfl
  have k0 : (hz_set D7 th 11 x7) th 4 = x0 := by rw [hy_setn _ _ _ (by omega), fd7.1 th (by omega), hy_setn _ _ _ (by omega), fd6.1 th (by omega), hy_setn _ _ _ (by omega), fd5.1 th (by omega), hy_setn _ _ _ (by omega), fd4.1 th (by omega), hy_setn _ _ _ (by omega), fd3.1 th (by omega), hy_setn _ _ _ (by omega), fd2.1 th (by omega), hy_setn _ _ _ (by omega), fd1.1 th (by omega), hy_setk]
  have h0 : (hz_set (hz_set (hz_set S7 179 7 u7) 179 9 30) 179 10 (-1)) 179 0 = u0 := by rw [hy_setn _ _ _ (by omega), hy_setn _ _ _ (by omega), hy_setn _ _ _ (by omega), fs7.1 179 (by omega), hy_setn _ _ _ (by omega), fs6.1 179 (by omega), hy_setn _ _ _ (by omega), fs5.1 179 (by omega), hy_setn _ _ _ (by omega), fs4.1 179 (by omega), hy_setn _ _ _ (by omega), fs3.1 179 (by omega), hy_setn _ _ _ (by omega), fs2.1 179 (by omega), hy_setn _ _ _ (by omega), fs1.1 179 (by omega), hy_setk]
  have k1 : (hz_set D7 th 11 x7) th 5 = x1 := by rw [hy_setn _ _ _ (by omega), fd7.1 th (by omega), hy_setn _ _ _ (by omega), fd6.1 th (by omega), hy_setn _ _ _ (by omega), fd5.1 th (by omega), hy_setn _ _ _ (by omega), fd4.1 th (by omega), hy_setn _ _ _ (by omega), fd3.1 th (by omega), hy_setn _ _ _ (by omega), fd2.1 th (by omega), hy_setk]
  have h1 : (hz_set (hz_set (hz_set S7 179 7 u7) 179 9 30) 179 10 (-1)) 179 1 = u1 := by rw [hy_setn _ _ _ (by omega), hy_setn _ _ _ (by omega), hy_setn _ _ _ (by omega), fs7.1 179 (by omega), hy_setn _ _ _ (by omega), fs6.1 179 (by omega), hy_setn _ _ _ (by omega), fs5.1 179 (by omega), hy_setn _ _ _ (by omega), fs4.1 179 (by omega), hy_setn _ _ _ (by omega), fs3.1 179 (by omega), hy_setn _ _ _ (by omega), fs2.1 179 (by omega), hy_setk]
  have k2 : (hz_set D7 th 11 x7) th 6 = x2 := by rw [hy_setn _ _ _ (by omega), fd7.1 th (by omega), hy_setn _ _ _ (by omega), fd6.1 th (by omega), hy_setn _ _ _ (by omega), fd5.1 th (by omega), hy_setn _ _ _ (by omega), fd4.1 th (by omega), hy_setn _ _ _ (by omega), fd3.1 th (by omega), hy_setk]
  have h2 : (hz_set (hz_set (hz_set S7 179 7 u7) 179 9 30) 179 10 (-1)) 179 2 = u2 := by rw [hy_setn _ _ _ (by omega), hy_setn _ _ _ (by omega), hy_setn _ _ _ (by omega), fs7.1 179 (by omega), hy_setn _ _ _ (by omega), fs6.1 179 (by omega), hy_setn _ _ _ (by omega), fs5.1 179 (by omega), hy_setn _ _ _ (by omega), fs4.1 179 (by omega), hy_setn _ _ _ (by omega), fs3.1 179 (by omega), hy_setk]
  have k3 : (hz_set D7 th 11 x7) th 7 = x3 := by rw [hy_setn _ _ _ (by omega), fd7.1 th (by omega), hy_setn _ _ _ (by omega), fd6.1 th (by omega), hy_setn _ _ _ (by omega), fd5.1 th (by omega), hy_setn _ _ _ (by omega), fd4.1 th (by omega), hy_setk]
  have h3 : (hz_set (hz_set (hz_set S7 179 7 u7) 179 9 30) 179 10 (-1)) 179 3 = u3 := by rw [hy_setn _ _ _ (by omega), hy_setn _ _ _ (by omega), hy_setn _ _ _ (by omega), fs7.1 179 (by omega), hy_setn _ _ _ (by omega), fs6.1 179 (by omega), hy_setn _ _ _ (by omega), fs5.1 179 (by omega), hy_setn _ _ _ (by omega), fs4.1 179 (by omega), hy_setk]
  have k4 : (hz_set D7 th 11 x7) th 8 = x4 := by rw [hy_setn _ _ _ (by omega), fd7.1 th (by omega), hy_setn _ _ _ (by omega), fd6.1 th (by omega), hy_setn _ _ _ (by omega), fd5.1 th (by omega), hy_setk]
  have h4 : (hz_set (hz_set (hz_set S7 179 7 u7) 179 9 30) 179 10 (-1)) 179 4 = u4 := by rw [hy_setn _ _ _ (by omega), hy_setn _ _ _ (by omega), hy_setn _ _ _ (by omega), fs7.1 179 (by omega), hy_setn _ _ _ (by omega), fs6.1 179 (by omega), hy_setn _ _ _ (by omega), fs5.1 179 (by omega), hy_setk]
  have k5 : (hz_set D7 th 11 x7) th 9 = x5 := by rw [hy_setn _ _ _ (by omega), fd7.1 th (by omega), hy_setn _ _ _ (by omega), fd6.1 th (by omega), hy_setk]
  have h5 : (hz_set (hz_set (hz_set S7 179 7 u7) 179 9 30) 179 10 (-1)) 179 5 = u5 := by rw [hy_setn _ _ _ (by omega), hy_setn _ _ _ (by omega), hy_setn _ _ _ (by omega), fs7.1 179 (by omega), hy_setn _ _ _ (by omega), fs6.1 179 (by omega), hy_setk]
  have k6 : (hz_set D7 th 11 x7) th 10 = x6 := by rw [hy_setn _ _ _ (by omega), fd7.1 th (by omega), hy_setk]
  have h6 : (hz_set (hz_set (hz_set S7 179 7 u7) 179 9 30) 179 10 (-1)) 179 6 = u6 := by rw [hy_setn _ _ _ (by omega), hy_setn _ _ _ (by omega), hy_setn _ _ _ (by omega), fs7.1 179 (by omega), hy_setk]
  have k7 : (hz_set D7 th 11 x7) th 11 = x7 := by rw [hy_setk]
  have h7 : (hz_set (hz_set (hz_set S7 179 7 u7) 179 9 30) 179 10 (-1)) 179 7 = u7 := by rw [hy_setn _ _ _ (by omega), hy_setn _ _ _ (by omega), hy_setk]
  have hz0 : ∀ b, 8 ≤ b → b ≠ 9 → b ≠ 10 → (hz_set (hz_set (hz_set S7 179 7 u7) 179 9 30) 179 10 (-1)) 179 b = 0 := fun b hb h9 h10 => by rw [hy_setn _ _ _ h10, hy_setn _ _ _ h9, hy_setn _ _ _ (by omega), fs7.1 179 (by omega), hy_setn _ _ _ (by omega), fs6.1 179 (by omega), hy_setn _ _ _ (by omega), fs5.1 179 (by omega), hy_setn _ _ _ (by omega), fs4.1 179 (by omega), hy_setn _ _ _ (by omega), fs3.1 179 (by omega), hy_setn _ _ _ (by omega), fs2.1 179 (by omega), hy_setn _ _ _ (by omega), fs1.1 179 (by omega), hy_setn _ _ _ (by omega), fs0.1 179 (by omega), z2]; exact q0z b
  have h9 : (hz_set (hz_set (hz_set S7 179 7 u7) 179 9 30) 179 10 (-1)) 179 9 = 30 := by rw [hy_setn _ _ _ (by omega), hy_setk]
  have h10 : (hz_set (hz_set (hz_set S7 179 7 u7) 179 9 30) 179 10 (-1)) 179 10 = -1 := by rw [hy_setk]
  have c6 : (hz_set D7 th 11 x7) 9 6 = D7 9 6 := by rw [hy_seto _ _ _ (by omega)]
  generalize hCZ : (hz_set D7 th 11 x7) = CZ at pZ fe0 c3 c6 k0 k1 k2 k3 k4 k5 k6 k7
  generalize hRZ : (hz_set (hz_set (hz_set S7 179 7 u7) 179 9 30) 179 10 (-1)) = RZ at pZ fm0 hz0 h9 h10 h0 h1 h2 h3 h4 h5 h6 h7
  have G0 : GI th n (RZ 179) 0 CZ RZ := ⟨pZ, fun _ => ⟨by omega, c3, hz0 11 (by omega) (by omega) (by omega), fun g hg => by omega, fun _ _ _ => rfl⟩⟩
  obtain ⟨i, C3, R3, l1, l2, ⟨PE, GE⟩, fk, fm, le⟩ := j_loop hth (fun (M40 : hz_M) => hz_ct (f_X8_needEnd M40) fun r41 M42 => some (0, M42)) (fun (M44 : hz_M) => if (M44 178 15) = 0 then (hz_ct (f_X11_must 1 (1 : Int32) M44) fun r47 M48 => if (M48 178 17) = 0 then f_X11_readsSetup_L190 hz_FU (0 : Int32) M48 else some (0, M48)) else (hz_ct (f_X11_must 0 (1 : Int32) M44) fun r47 M48 => if (M48 178 17) = 0 then f_X11_readsSetup_L190 hz_FU (0 : Int32) M48 else some (0, M48))) 17 0 hz_FU hz_FU CZ RZ G0 (by omega) (hy_FU (by omega)) (hy_FU (by omega))
  have preC : f_X3_read th Mc = (fun (M40 : hz_M) => hz_ct (f_X8_needEnd M40) fun r41 M42 => some (0, M42)) C3 := by
    refine Eq.trans ?_ l1
    simp only [f_X3_read, hy_lm, a1, hy_cts, w1, n0, n1, n2, n3, n4, n5, n6, n7, hy_jn]
    rw [← hCZ]; rfl
  have preR : f_X11_readsSetup R0 = (fun (M44 : hz_M) => if (M44 178 15) = 0 then (hz_ct (f_X11_must 1 (1 : Int32) M44) fun r47 M48 => if (M48 178 17) = 0 then f_X11_readsSetup_L190 hz_FU (0 : Int32) M48 else some (0, M48)) else (hz_ct (f_X11_must 0 (1 : Int32) M44) fun r47 M48 => if (M48 178 17) = 0 then f_X11_readsSetup_L190 hz_FU (0 : Int32) M48 else some (0, M48))) R3 := by
    refine Eq.trans ?_ l2
    simp only [f_X11_readsSetup, hy_lm, hy_cts, w2, w3, w4, hy_k0, hy_k1, hy_k2, hy_k3, hy_k4, hy_k5, hy_k6, hy_k7, hy_k8, hy_k9, hy_k10, hy_k11, hy_k12, hy_k13, o0, o1, o2, o3, o4, o5, o6, o7, hy_jn]
    rw [← hRZ]
  have fcB : ∀ a, a ≠ 9 → a ≠ th → a ≠ th + 1 → a ≠ th + 2 → a ≠ th + 3 → C3 a = Mc a := fun a b1 b2 b3 b4 b5 => by rw [fk.1 a b1 b2 b3 b4 b5, fe0 a b1 b2]
  have fmB : FM Mr R3 := FM_t fm0 fm
  rw [preC]
  have P30 := PE
  obtain ⟨tE, ⟨s, e', h1_, h2_, h3_, h4_, h5_, h6_, h7_⟩, p1, p2, p3⟩ := PE
  by_cases e : C3 9 6 = 0
  · have er : R3 178 17 = 0 := by rw [← p1]; exact e
    by_cases kd : C3 9 2 = 0
    · have tk : R3 178 15 = 0 := by
        rcases h7_ with ⟨a, b⟩ | ⟨a, b, _⟩ | ⟨a, b, _⟩ | ⟨_, b, a, c⟩ | ⟨a, b⟩
        · exact b
        · rw [kd] at a; exact absurd a (by decide)
        · rw [kd] at a; exact absurd a (by decide)
        · rw [kd] at a; rw [← a] at c; exact absurd c (by decide)
        · rw [kd] at a; exact absurd a (by decide)
      obtain ⟨C4, _, v1, _, _, v4, _⟩ := j_adv tE h4_ h6_ h2_
      have v6 := v4.2 6 (by omega) (by omega) (by omega) (by omega)
      have v7 := v4.2 7 (by omega) (by omega) (by omega) (by omega)
      obtain ⟨g1, g2, g3, g4, g5⟩ := GE e
      have E7 : D7 9 6 = 0 := by rw [← c6]; exact le e
      have E6 : D6 9 6 = 0 := by have q := (y7 E7).1; rw [hy_seto _ _ _ (by omega)] at q; exact q
      have E5 : D5 9 6 = 0 := by have q := (y6 E6).1; rw [hy_seto _ _ _ (by omega)] at q; exact q
      have E4 : D4 9 6 = 0 := by have q := (y5 E5).1; rw [hy_seto _ _ _ (by omega)] at q; exact q
      have E3 : D3 9 6 = 0 := by have q := (y4 E4).1; rw [hy_seto _ _ _ (by omega)] at q; exact q
      have E2 : D2 9 6 = 0 := by have q := (y3 E3).1; rw [hy_seto _ _ _ (by omega)] at q; exact q
      have E1 : D1 9 6 = 0 := by have q := (y2 E2).1; rw [hy_seto _ _ _ (by omega)] at q; exact q
      have E0 : D0 9 6 = 0 := by have q := (y1 E1).1; rw [hy_seto _ _ _ (by omega)] at q; exact q
      obtain ⟨_, ev0, A0, va0, _, lo0, hi0⟩ := y0 E0
      rw [show (1 : Int32) = nI 1 from rfl, hy_le (by omega) (by omega)] at lo0
      rw [show (12 : Int32) = nI 12 from rfl, hy_le (by omega) (by omega)] at hi0
      obtain ⟨_, ev1, A1, va1, _, lo1, hi1⟩ := y1 E1
      rw [show (1 : Int32) = nI 1 from rfl, hy_le (by omega) (by omega)] at lo1
      rw [show (16 : Int32) = nI 16 from rfl, hy_le (by omega) (by omega)] at hi1
      obtain ⟨_, ev2, A2, va2, _, lo2, hi2⟩ := y2 E2
      rw [hy_setk, va1, hy_le (by omega) (by omega)] at hi2
      obtain ⟨_, ev3, A3, va3, _, lo3, hi3⟩ := y3 E3
      rw [show (1 : Int32) = nI 1 from rfl, hy_le (by omega) (by omega)] at lo3
      rw [show (4 : Int32) = nI 4 from rfl, hy_le (by omega) (by omega)] at hi3
      obtain ⟨_, ev4, A4, va4, _, lo4, hi4⟩ := y4 E4
      rw [show (1 : Int32) = nI 1 from rfl, hy_le (by omega) (by omega)] at lo4
      rw [show (6 : Int32) = nI 6 from rfl, hy_le (by omega) (by omega)] at hi4
      obtain ⟨_, ev5, A5, va5, _, lo5, hi5⟩ := y5 E5
      rw [show (1 : Int32) = nI 1 from rfl, hy_le (by omega) (by omega)] at lo5
      rw [show (9 : Int32) = nI 9 from rfl, hy_le (by omega) (by omega)] at hi5
      obtain ⟨_, ev6, A6, va6, _, lo6, hi6⟩ := y6 E6
      rw [show (2 : Int32) = nI 2 from rfl, hy_le (by omega) (by omega)] at lo6
      rw [show (60 : Int32) = nI 60 from rfl, hy_le (by omega) (by omega)] at hi6
      obtain ⟨_, ev7, A7, va7, _, lo7, hi7⟩ := y7 E7
      rw [show (30 : Int32) = nI 30 from rfl, hy_le (by omega) (by omega)] at hi7
      have r2 : R3 179 2 = nI A2 := by rw [g5 2 (by omega) (by omega), h2, ← ev2]; exact va2
      have rp := r_pgs (T := A2) (by omega) A2 0 hz_FU R3 r2 (by omega) (hy_FU (by omega))
      have low_ : ∀ b, b < 154 → pgR (R3 179) A2 0 b = R3 179 b := fun b hb => by unfold pgR; rw [if_neg (by omega)]
      refine ⟨C4, R0, hy_row R3 179 (pgR (R3 179) A2 0), ?_, a2, preR.trans ?_, ?_, ?_, ?_, ?_, ?_, fun _ => ⟨i, A2, g1, by omega, ?_, ?_, ?_, ?_, ?_, ?_, ?_, ?_, ?_⟩⟩
      · show hz_ct (f_X8_needEnd C3) (fun r41 M42 => some (0, M42)) = some (0, C4)
        simp only [f_X8_needEnd, hy_jn, kd, if_true, f_X8_goOnIf, hy_f10, if_false, e, v1, hy_cts]
      · show (if (R3 178 15) = 0 then _ else _) = _
        rw [if_pos tk, must1, hy_cts, if_pos er]
        exact rp
      · rw [v6, hy_ro _ _ (by omega)]; exact p1
      · rw [v7, hy_ro _ _ (by omega)]; exact p2
      · rw [v6, v7]; exact p3
      · intro a b1 b2 b3 b4 b5; rw [v4.1 a b1]; exact fcB a b1 b2 b3 b4 b5
      · exact FM_t fmB ⟨fun a _ h => hy_ro _ _ h, fun b _ => by rw [hy_ro _ _ (by omega)], fun b hb => by rw [hy_rs]; unfold pgR; rw [if_neg (by omega)]⟩
      · rw [v4.1 th (by omega)]; exact g2
      · refine ⟨A0, A1, A2, A3, A4, A5, A6, A7, ?_⟩
        rw [v4.1 th (by omega), hy_rs, low_ 0 (by omega), low_ 1 (by omega), low_ 2 (by omega), low_ 3 (by omega), low_ 4 (by omega), low_ 5 (by omega), low_ 6 (by omega), low_ 7 (by omega), fk.2.2 4 (by omega), fk.2.2 5 (by omega), fk.2.2 6 (by omega), fk.2.2 7 (by omega), fk.2.2 8 (by omega), fk.2.2 9 (by omega), fk.2.2 10 (by omega), fk.2.2 11 (by omega), g5 0 (by omega) (by omega), g5 1 (by omega) (by omega), g5 2 (by omega) (by omega), g5 3 (by omega) (by omega), g5 4 (by omega) (by omega), g5 5 (by omega) (by omega), g5 6 (by omega) (by omega), g5 7 (by omega) (by omega), k0, k1, k2, k3, k4, k5, k6, k7, h0, h1, h2, h3, h4, h5, h6, h7, ← ev0, ← ev1, ← ev2, ← ev3, ← ev4, ← ev5, ← ev6, ← ev7]
        exact ⟨lo0, hi0, lo1, hi1, hi2, lo3, hi3, lo4, hi4, lo5, hi5, lo6, hi6, hi7, ⟨va0, va1, va2, va3, va4, va5, va6, va7⟩, ⟨va0, va1, va2, va3, va4, va5, va6, va7⟩⟩
      · rw [hy_rs, low_ 2 (by omega)]; exact r2
      · rw [hy_rs, low_ 11 (by omega)]; exact g3
      · rw [hy_rs, low_ 9 (by omega), g5 9 (by omega) (by omega)]; exact h9
      · rw [hy_rs, low_ 10 (by omega), g5 10 (by omega) (by omega)]; exact h10
      · intro g hg
        exact GS_fr (by rw [v4.1 (th + 1) (by omega)]) (by rw [v4.1 (th + 3) (by omega)]) (fun j hj => by rw [v4.1 (th + 2) (by omega)]) (fun c hc => by rw [hy_rs, low_ _ (by omega)]) (g4 g hg)
      · intro x hx
        rw [hy_rs]; unfold pgR
        rw [if_pos (by omega)]; congr 1; omega
      · intro b hb
        have e8 : pgR (R3 179) A2 0 b = R3 179 b := by unfold pgR; rw [if_neg (by omega)]
        rw [hy_rs, e8, g5 b (by omega) (by omega)]
        exact hz0 b (by omega) (by omega) (by omega)
    · have tk : ¬ R3 178 15 = 0 := by
        intro r
        rcases h7_ with ⟨a, b⟩ | ⟨a, b, _⟩ | ⟨a, b, _⟩ | ⟨_, b, a, c⟩ | ⟨a, b⟩
        · exact kd a
        · rw [r] at b; exact absurd b (by decide)
        · rw [r] at b; exact absurd b (by decide)
        · rw [r] at b; exact absurd b (by decide)
        · rw [r] at b; exact absurd b (by decide)
      obtain ⟨C4, R4, b1, b2, b3, b4, b5, b6⟩ := j_fail (k := 1) (by omega) P30
      have b1' : f_X8_fail 1 C3 = some (0, C4) := b1
      have b2' : f_X11_must 0 1 R3 = some (0, R4) := b2
      have nr : ¬ R4 178 17 = 0 := by rw [← b3.2.2.1]; exact b6
      refine ⟨C4, R0, R4, ?_, a2, preR.trans ?_, b3.2.2.1, b3.2.2.2.1, b3.2.2.2.2, fun a c1 c2 c3 c4 c5 => by rw [b4.1 a c1]; exact fcB a c1 c2 c3 c4 c5, FM_t fmB (FM_H b5), fun h => absurd h b6⟩
      · show hz_ct (f_X8_needEnd C3) (fun r41 M42 => some (0, M42)) = some (0, C4)
        simp only [f_X8_needEnd, hy_jn, kd, if_false, f_X8_goOnIf, if_true, b1', hy_cts]
      · show (if (R3 178 15) = 0 then _ else _) = _
        rw [if_neg tk, b2', hy_cts, if_neg nr]
  · have nr : ¬ R3 178 17 = 0 := by rw [← p1]; exact e
    refine ⟨C3, R0, R3, ?_, a2, preR.trans ?_, p1, p2, p3, fcB, fmB, fun h => absurd h e⟩
    · show hz_ct (f_X8_needEnd C3) (fun r41 M42 => some (0, M42)) = some (0, C3)
      simp only [f_X8_needEnd, hy_jn, goE _ _ e, hy_cts]
      split <;> rfl
    · show (if (R3 178 15) = 0 then _ else _) = _
      by_cases k : R3 178 15 = 0
      · rw [if_pos k, mustE _ _ _ nr, hy_cts, if_neg nr]
      · rw [if_neg k, mustE _ _ _ nr, hy_cts, if_neg nr]
