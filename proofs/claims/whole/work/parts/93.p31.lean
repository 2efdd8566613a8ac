
def PJ (n : Nat) (Mc Mr : hz_M) : Prop := TX n Mc Mr ∧ TK n Mc Mr ∧ Mc 9 6 = Mr 178 17 ∧ Mc 9 7 = Mr 178 12 ∧ ∃ k, k ≤ 4 ∧ Mc 9 6 = nI k ∧ (k = 0 → Mc 9 7 = -1)
def FE (Mc Mc' : hz_M) : Prop := (∀ a, a ≠ 9 → Mc' a = Mc a) ∧ Mc' 9 1 = Mc 9 1
def FH (Mr Mr' : hz_M) : Prop := (∀ a, a ≠ 178 → Mr' a = Mr a) ∧ ∀ b, (b < 12 ∨ 17 < b) → Mr' 178 b = Mr 178 b
theorem FE_T {a b : hz_M} (h : FT a b) : FE a b := ⟨h.1, h.2 1 (by omega) (by omega) (by omega) (by omega)⟩
theorem FH_G {a b : hz_M} (h : FG a b) : FH a b := ⟨h.1, fun x hx => h.2 x (by omega) (by omega) (by omega) (by omega)⟩
theorem FE_r (a : hz_M) : FE a a := ⟨fun _ _ => rfl, rfl⟩
theorem FH_r (a : hz_M) : FH a a := ⟨fun _ _ => rfl, fun _ _ => rfl⟩
theorem FE_t {a b c : hz_M} (h : FE a b) (k : FE b c) : FE a c := ⟨fun x h1 => by rw [k.1 x h1, h.1 x h1], by rw [k.2, h.2]⟩
theorem FH_t {a b c : hz_M} (h : FH a b) (k : FH b c) : FH a c := ⟨fun x h1 => by rw [k.1 x h1, h.1 x h1], fun x h1 => by rw [k.2 x h1, h.2 x h1]⟩
theorem TX_e {n : Nat} {Mc Mr Mc' Mr' : hz_M} (h1 : FE Mc Mc') (h2 : FH Mr Mr') (t : TX n Mc Mr) : TX n Mc' Mr' := by
  unfold TX at *
  rw [h1.1 10 (by omega), h1.2, h2.1 186 (by omega), h2.2 11 (by omega)]
  exact t
theorem must1 (k : Int32) (M : hz_M) : f_X11_must 1 k M = some (if M 178 17 = 0 then 1 else 0, M) := by
  unfold f_X11_must
  simp only [hy_jn, hy_f10, if_false]
  split <;> rfl
theorem mustE (b k : Int32) (M : hz_M) (h : ¬ M 178 17 = 0) : f_X11_must b k M = some (0, M) := by
  unfold f_X11_must
  simp only [hy_jn, h, if_false]
theorem passE (M : hz_M) (h : ¬ M 178 17 = 0) : f_X11_passes M = some (0, M) := by
  unfold f_X11_passes
  simp only [h, if_false]
theorem failE (k : Int32) (M : hz_M) (h : ¬ M 9 6 = 0) : f_X8_fail k M = some (0, M) := by
  unfold f_X8_fail
  simp only [h, if_false]
theorem j_fail {n k : Nat} {Mc Mr : hz_M} (hk : 1 ≤ k ∧ k ≤ 4) (P : PJ n Mc Mr) : ∃ Mc' Mr', f_X8_fail (nI k) Mc = some (0, Mc') ∧ f_X11_must 0 (nI k) Mr = some (0, Mr') ∧ PJ n Mc' Mr' ∧ FE Mc Mc' ∧ FH Mr Mr' ∧ ¬ Mc' 9 6 = 0 := by
  by_cases e : Mc 9 6 = 0
  · have P0 := P
    obtain ⟨t, ⟨s, e', h1, h2, h3, h4, h5, h6, h7⟩, p1, p2, p3⟩ := P
    have e2 : Mr 178 17 = 0 := by rw [← p1]; exact e
    have fc : FE Mc (hz_set (hz_set Mc 9 6 (nI k)) 9 7 (nI s)) := ⟨fun a h => by rw [hy_seto _ _ _ h, hy_seto _ _ _ h], by rw [hy_setn _ _ _ (by omega), hy_setn _ _ _ (by omega)]⟩
    have fr : FH Mr (hz_set (hz_set Mr 178 17 (nI k)) 178 12 (nI s)) := ⟨fun a h => by rw [hy_seto _ _ _ h, hy_seto _ _ _ h], fun b h => by rw [hy_setn _ _ _ (by omega), hy_setn _ _ _ (by omega)]⟩
    have nk : ¬ nI k = 0 := by rw [hy_0, hy_eq (by omega) (by omega)]; omega
    refine ⟨hz_set (hz_set Mc 9 6 (nI k)) 9 7 (nI s), hz_set (hz_set Mr 178 17 (nI k)) 178 12 (nI s), ?_, ?_, ⟨TX_e fc fr t, ⟨s, e', h1, h2, ?_, ?_, ?_, ?_, ?_⟩, ?_, ?_, ⟨k, hk.2, ?_, fun h0 => absurd h0 (by omega)⟩⟩, fc, fr, ?_⟩
    · simp (disch := omega) only [f_X8_fail, e, if_true, hy_lm, hy_setn, h3]
    · simp (disch := omega) only [f_X11_must, e2, if_true, hy_lm, hy_jn, hy_setn, h5, hy_setk, nk, if_false]
    · simp (disch := omega) only [hy_setn]; exact h3
    · simp (disch := omega) only [hy_setn]; exact h4
    · simp (disch := omega) only [hy_setn]; exact h5
    · simp (disch := omega) only [hy_setn]; exact h6
    · simp (disch := omega) only [hy_setn, hy_seto]; exact h7
    · simp (disch := omega) only [hy_setn, hy_setk]
    · simp only [hy_setk]
    · simp (disch := omega) only [hy_setn, hy_setk]
    · simp (disch := omega) only [hy_setn, hy_setk]; exact nk
  · refine ⟨Mc, Mr, failE _ _ e, mustE _ _ _ (by rw [← P.2.2.1]; exact e), P, FE_r _, FH_r _, e⟩
theorem j_advP {n : Nat} {Mc Mr : hz_M} (P : PJ n Mc Mr) : ∃ Mc' Mr', f_X8_advance Mc = some (0, Mc') ∧ f_X11_goesOn Mr = some (0, Mr') ∧ PJ n Mc' Mr' ∧ FE Mc Mc' ∧ FH Mr Mr' ∧ Mc' 9 6 = Mc 9 6 := by
  obtain ⟨t, ⟨s, e', h1, h2, h3, h4, h5, h6, h7⟩, p1, p2, p3⟩ := P
  obtain ⟨Mc', Mr', a1, a2, a3, a4, a5⟩ := j_adv t h4 h6 h2
  have c6 := a4.2 6 (by omega) (by omega) (by omega) (by omega)
  refine ⟨Mc', Mr', a1, a2, ⟨TX_f a4 a5 t, a3, ?_, ?_, ?_⟩, FE_T a4, FH_G a5, c6⟩
  · rw [c6, a5.2 17 (by omega) (by omega) (by omega) (by omega)]; exact p1
  · rw [a4.2 7 (by omega) (by omega) (by omega) (by omega), a5.2 12 (by omega) (by omega) (by omega) (by omega)]; exact p2
  · rw [c6, a4.2 7 (by omega) (by omega) (by omega) (by omega)]; exact p3
/-- on, if it is allowed -/
theorem j_go {n : Nat} {Mc Mr : hz_M} (b : Int32) (hb : b = 0 ∨ b = 1) (P : PJ n Mc Mr) : ∃ r Mc' Mr1 Mr', f_X8_goOnIf b Mc = some (0, Mc') ∧ f_X11_must b 1 Mr = some (r, Mr1) ∧ f_X11_passes Mr1 = some (0, Mr') ∧ PJ n Mc' Mr' ∧ FE Mc Mc' ∧ FH Mr Mr' ∧ FH Mr Mr1 ∧ (Mc' 9 6 = 0 → b = 1 ∧ Mc 9 6 = 0) := by
  rcases hb with rfl | rfl
  · obtain ⟨Mc', Mr', a1, a2, a3, a4, a5, a6⟩ := j_fail (k := 1) (by omega) P
    have nr : ¬ Mr' 178 17 = 0 := by rw [← a3.2.2.1]; exact a6
    refine ⟨0, Mc', Mr', Mr', ?_, a2, passE _ nr, a3, a4, a5, a5, fun h => absurd h a6⟩
    have a1' : f_X8_fail 1 Mc = some (0, Mc') := a1
    simp only [f_X8_goOnIf, if_true, a1', hy_cts]
  · by_cases e : Mc 9 6 = 0
    · obtain ⟨Mc', Mr', a1, a2, a3, a4, a5, a6⟩ := j_advP P
      have er : Mr 178 17 = 0 := by rw [← P.2.2.1]; exact e
      refine ⟨_, Mc', Mr, Mr', ?_, must1 _ _, ?_, a3, a4, a5, FH_r _, fun _ => ⟨rfl, e⟩⟩
      · simp only [f_X8_goOnIf, hy_f10, if_false, e, if_true, a1, hy_cts]
      · simp only [f_X11_passes, er, if_true, a2, hy_cts]
    · have nr : ¬ Mr 178 17 = 0 := by rw [← P.2.2.1]; exact e
      refine ⟨_, Mc, Mr, Mr, ?_, must1 _ _, passE _ nr, P, FE_r _, FH_r _, FH_r _, fun h => absurd h e⟩
      simp only [f_X8_goOnIf, hy_f10, if_false, e]
theorem goE (b : Int32) (M : hz_M) (h : ¬ M 9 6 = 0) : f_X8_goOnIf b M = some (0, M) := by
  unfold f_X8_goOnIf
  rw [failE _ _ h]
  by_cases e : b = 0
  · rw [if_pos e, hy_cts]
  · rw [if_neg e, if_neg h]
/-- words -/
theorem w_ok : ∀ w, w < 14 → hz_sok w = true ∧ hz_sl w = nI (hz_len.getD w 0) ∧ hz_len.getD w 0 ≤ 90 := by decide +kernel
theorem j_wordL {n s e w : Nat} {Mc Mr : hz_M} (hw : w < 14) (t : TX n Mc Mr) (h3 : Mc 9 3 = nI s) (h14 : Mr 178 14 = nI s) (hse : s + hz_len.getD w 0 = e) (he : e ≤ n) : ∀ (k i f f' : Nat), i + k = hz_len.getD w 0 → k < f → k < f' →
    ∃ r, (r = 0 ∨ r = 1) ∧ f_X8_isWord_L28 f w (nI i) Mc = some (r, Mc) ∧ f_X11_isWord_L35 f' w (nI i) Mr = some (r, Mr)
  | 0, i, f, f', hi, hf, hf' => by
    obtain ⟨f, rfl⟩ : ∃ e, f = e + 1 := ⟨f - 1, by omega⟩
    obtain ⟨f', rfl⟩ : ∃ e, f' = e + 1 := ⟨f' - 1, by omega⟩
    obtain ⟨w1, w2, w3⟩ := w_ok w hw
    have e1 : hz_len.getD w 0 ≤ i := by omega
    refine ⟨1, Or.inr rfl, ?_, ?_⟩
    · simp (disch := omega) only [f_X8_isWord_L28, w1, hy_gt, w2, hy_le, e1, if_true]
    · simp (disch := omega) only [f_X11_isWord_L35, w1, hy_gt, w2, hy_le, e1, if_true]
  | k + 1, i, f, f', hi, hf, hf' => by
    obtain ⟨f, rfl⟩ : ∃ e, f = e + 1 := ⟨f - 1, by omega⟩
    obtain ⟨f', rfl⟩ : ∃ e, f' = e + 1 := ⟨f' - 1, by omega⟩
    obtain ⟨w1, w2, w3⟩ := w_ok w hw
    have t0 := t
    obtain ⟨hn, t1, t2, t3⟩ := t
    have e1 : ¬ hz_len.getD w 0 ≤ i := by omega
    have t4 := (t3 (s + i) (by omega)).1
    obtain ⟨r, r0, r1, r2⟩ := j_wordL hw t0 h3 h14 hse he k (i + 1) f f' (by omega) (by omega) (by omega)
    by_cases e2 : Mr 186 (s + i) = hz_cc w (nI i)
    · refine ⟨r, r0, ?_, ?_⟩
      · simp (disch := omega) only [f_X8_isWord_L28, w1, hy_gt, w2, hy_le, e1, if_false, h3, hy_add, c_byteAt t1 hn (k := s + i) (by omega), hy_cts, hy_in, t4, e2, if_true, hy_lt', hy_add1, r1]
      · simp (disch := omega) only [f_X11_isWord_L35, w1, hy_gt, w2, hy_le, e1, if_false, h14, hy_add, hy_in, hy_c, e2, if_true, hy_lt', hy_add1, r2]
    · refine ⟨0, Or.inl rfl, ?_, ?_⟩
      · simp (disch := omega) only [f_X8_isWord_L28, w1, hy_gt, w2, hy_le, e1, if_false, h3, hy_add, c_byteAt t1 hn (k := s + i) (by omega), hy_cts, hy_in, t4, e2]
      · simp (disch := omega) only [f_X11_isWord_L35, w1, hy_gt, w2, hy_le, e1, if_false, h14, hy_add, hy_in, hy_c, e2]
theorem j_isWord {n w : Nat} {Mc Mr : hz_M} (hw : w < 14) (P : PJ n Mc Mr) : ∃ rc rr, (rc = 0 ∨ rc = 1) ∧ f_X8_isWord w Mc = some (rc, Mc) ∧ f_X11_isWord w Mr = some (rr, Mr) ∧ (Mc 9 6 = 0 → rr = rc) ∧ (¬ Mc 9 6 = 0 → rr = 0) := by
  obtain ⟨t, ⟨s, e, h1, h2, h3, h4, h5, h6, h7⟩, p1, p2, p3⟩ := P
  obtain ⟨w1, w2, w3⟩ := w_ok w hw
  have hn := t.1
  unfold f_X8_isWord f_X11_isWord
  rw [← p1]
  by_cases k1 : Mc 9 2 = 1
  · have r1 : Mr 178 15 = 1 := by
      rcases h7 with ⟨a, b⟩ | ⟨a, b, _⟩ | ⟨a, b, _⟩ | ⟨_, b, a, c⟩ | ⟨a, b⟩
      · rw [k1] at a; exact absurd a (by decide)
      · exact b
      · rw [k1] at a; exact absurd a (by decide)
      · rw [k1] at a; rw [← a] at c; exact absurd c (by decide)
      · rw [k1] at a; exact absurd a (by decide)
    rw [if_pos k1, if_pos r1, w1, hy_gt, hy_gt, w2, h3, h4, h5, h6, hy_sub h1]
    have elq : (nI (e - s) = nI (hz_len.getD w 0)) = (e - s = hz_len.getD w 0) := hy_eq (by omega) (by omega)
    by_cases el0 : e - s = hz_len.getD w 0
    · obtain ⟨r, r0, ra, rb⟩ := j_wordL hw t h3 h5 (e := e) (by omega) h2 (hz_len.getD w 0) 0 hz_FU hz_FU (by omega) (hy_FU (by omega)) (hy_FU (by omega))
      have ra' : f_X8_isWord_L28 hz_FU w 0 Mc = some (r, Mc) := ra
      have rb' : f_X11_isWord_L35 hz_FU w 0 Mr = some (r, Mr) := rb
      have el : nI (e - s) = nI (hz_len.getD w 0) := by rw [elq]; exact el0
      rw [if_pos el, ra']
      by_cases e6 : Mc 9 6 = 0
      · exact ⟨r, r, r0, rfl, by rw [if_pos e6, if_pos el, rb'], fun _ => rfl, fun h => absurd e6 h⟩
      · exact ⟨r, 0, r0, rfl, by rw [if_neg e6], fun h => absurd h e6, fun _ => rfl⟩
    · have el : ¬ nI (e - s) = nI (hz_len.getD w 0) := by rw [elq]; exact el0
      rw [if_neg el]
      refine ⟨0, 0, Or.inl rfl, rfl, ?_, fun _ => rfl, fun _ => rfl⟩
      by_cases e6 : Mc 9 6 = 0
      · rw [if_pos e6, if_neg el]
      · rw [if_neg e6]
  · have r1 : ¬ Mr 178 15 = 1 := by
      intro r
      rcases h7 with ⟨a, b⟩ | ⟨a, b, _⟩ | ⟨a, b, _⟩ | ⟨_, b, a, c⟩ | ⟨a, b⟩
      · rw [r] at b; exact absurd b (by decide)
      · exact k1 a
      · rw [r] at b; exact absurd b (by decide)
      · rw [r] at b; exact absurd b (by decide)
      · rw [r] at b; exact absurd b (by decide)
    rw [if_neg k1, if_neg r1]
    refine ⟨0, 0, Or.inl rfl, rfl, ?_, fun _ => rfl, fun _ => rfl⟩
    split <;> rfl
theorem j_needWord {n w : Nat} {Mc Mr : hz_M} (hw : w < 14) (P : PJ n Mc Mr) : ∃ rr r Mc' Mr1 Mr', f_X8_needWord w Mc = some (0, Mc') ∧ f_X11_isWord w Mr = some (rr, Mr) ∧ f_X11_must rr 1 Mr = some (r, Mr1) ∧ f_X11_passes Mr1 = some (0, Mr') ∧ PJ n Mc' Mr' ∧ FE Mc Mc' ∧ FH Mr Mr' ∧ FH Mr Mr1 ∧ (Mc' 9 6 = 0 → Mc 9 6 = 0) := by
  obtain ⟨rc, rr, a1, a2, a3, a4, a5⟩ := j_isWord hw P
  by_cases e : Mc 9 6 = 0
  · have er := a4 e
    subst er
    obtain ⟨r, Mc', Mr1, Mr', b1, b2, b3, b4, b5, b6, b7, b8⟩ := j_go rr a1 P
    exact ⟨rr, r, Mc', Mr1, Mr', by simp only [f_X8_needWord, a2, hy_cts, b1], a3, b2, b3, b4, b5, b6, b7, fun h => (b8 h).2⟩
  · have nr : ¬ Mr 178 17 = 0 := by rw [← P.2.2.1]; exact e
    exact ⟨rr, 0, Mc, Mr, Mr, by simp only [f_X8_needWord, a2, hy_cts, goE _ _ e], a3, mustE _ _ _ nr, passE _ nr, P, FE_r _, FH_r _, FH_r _, fun h => absurd h e⟩
/-- one sign -/
theorem j_isSign {n : Nat} {Mc Mr : hz_M} (c : Nat) (hc : c = 59 ∨ c = 40 ∨ c = 41) (P : PJ n Mc Mr) (e : Mc 9 6 = 0) : f_X11_isSign (nI c) Mr = some (if Mc 9 2 = nI c then 1 else 0, Mr) := by
  obtain ⟨t, ⟨s, e', h1, h2, h3, h4, h5, h6, h7⟩, p1, p2, p3⟩ := P
  have er : Mr 178 17 = 0 := by rw [← p1]; exact e
  have n0 : ¬ (0 : Int32) = nI c := by rw [hy_0, hy_eq (by omega) (by omega)]; omega
  have n1 : ¬ (1 : Int32) = nI c := by rw [hy_1, hy_eq (by omega) (by omega)]; omega
  have n2 : ¬ (2 : Int32) = nI c := by rw [show (2 : Int32) = nI 2 from rfl, hy_eq (by omega) (by omega)]; omega
  have n3 : ¬ (3 : Int32) = nI c := by rw [show (3 : Int32) = nI 3 from rfl, hy_eq (by omega) (by omega)]; omega
  unfold f_X11_isSign
  rw [if_pos er]
  rcases h7 with ⟨a, b⟩ | ⟨a, b, _⟩ | ⟨a, b, _⟩ | ⟨hs, b, a, _⟩ | ⟨a, b⟩
  · rw [a, b, if_neg (by decide), if_neg n0]
  · rw [a, b, if_neg (by decide), if_neg n1]
  · rw [a, b, if_neg (by decide), if_neg n2]
  · rw [b, if_pos rfl, h5, s_in t.1 t.2.2.1 hs, hy_cts, ← a]
    split <;> rfl
  · rw [a, b, if_neg (by decide), if_neg n3]
theorem j_needSign {n : Nat} {Mc Mr : hz_M} (c : Nat) (hc : c = 59 ∨ c = 40 ∨ c = 41) (P : PJ n Mc Mr) : ∃ Mc' Mr', f_X8_needSign (nI c) Mc = some (0, Mc') ∧ f_X11_takesSign (nI c) Mr = some (0, Mr') ∧ PJ n Mc' Mr' ∧ FE Mc Mc' ∧ FH Mr Mr' ∧ (Mc' 9 6 = 0 → Mc 9 6 = 0 ∧ Mc 9 2 = nI c) := by
  by_cases e : Mc 9 6 = 0
  · have sg := j_isSign c hc P e
    obtain ⟨r, Mc', Mr1, Mr', b1, b2, b3, b4, b5, b6, _, b7⟩ := j_go (if Mc 9 2 = nI c then 1 else 0) (by split <;> simp) P
    refine ⟨Mc', Mr', ?_, ?_, b4, b5, b6, fun h => ⟨e, ?_⟩⟩
    · simp only [f_X8_needSign, hy_jn]
      by_cases k : Mc 9 2 = nI c
      · rw [if_pos k] at b1 ⊢; rw [b1, hy_cts]
      · rw [if_neg k] at b1 ⊢; rw [b1, hy_cts]
    · simp only [f_X11_takesSign, sg, hy_cts, b2, b3]
    · have := (b7 h).1
      by_cases k : Mc 9 2 = nI c
      · exact k
      · rw [if_neg k] at this; exact absurd this (by decide)
  · have nr : ¬ Mr 178 17 = 0 := by rw [← P.2.2.1]; exact e
    refine ⟨Mc, Mr, ?_, ?_, P, FE_r _, FH_r _, fun h => absurd h e⟩
    · simp only [f_X8_needSign, hy_jn, goE _ _ e, hy_cts]
      split <;> rfl
    · simp only [f_X11_takesSign, f_X11_isSign, nr, if_false, hy_cts, mustE _ _ _ nr, passE _ nr]
/-- one number -/
theorem j_num0 {n : Nat} {Mc Mr : hz_M} (lo hi lo' hi' : Int32) (P : PJ n Mc Mr) (hh : Mc 9 6 = 0 → ∃ l h : Nat, h ≤ 999 ∧ lo = nI l ∧ lo' = nI l ∧ hi = nI h ∧ hi' = nI h ∧ l ≤ 999) :
    ∃ vc vr Mc' Mr', f_X8_needNumber lo hi Mc = some (vc, Mc') ∧ f_X11_number lo' hi' Mr = some (vr, Mr') ∧ PJ n Mc' Mr' ∧ FE Mc Mc' ∧ FH Mr Mr' ∧ (Mc' 9 6 = 0 → Mc 9 6 = 0 ∧ vc = vr ∧ ∃ a, vc = nI a ∧ a ≤ 999 ∧ lo ≤ nI a ∧ nI a ≤ hi) := by
  by_cases e : Mc 9 6 = 0
  · obtain ⟨l, h, hh1, rfl, rfl, rfl, rfl, hl⟩ := hh e
    have er : Mr 178 17 = 0 := by rw [← P.2.2.1]; exact e
    have P0 := P
    obtain ⟨t, ⟨s, e', h1, h2, h3, h4, h5, h6, h7⟩, p1, p2, p3⟩ := P
    by_cases k2 : Mc 9 2 = 2
    · have hv : Mr 178 15 = 2 ∧ vrel (Mc 9 5) (Mr 178 16) := by
        rcases h7 with ⟨a, b⟩ | ⟨a, b, _⟩ | ⟨a, b, c⟩ | ⟨_, b, a, c⟩ | ⟨a, b⟩
        · rw [k2] at a; exact absurd a (by decide)
        · rw [k2] at a; exact absurd a (by decide)
        · exact ⟨b, c⟩
        · rw [k2] at a; rw [← a] at c; exact absurd c (by decide)
        · rw [k2] at a; exact absurd a (by decide)
      obtain ⟨r2, a, ha, va, wa⟩ := hv
      by_cases rng : l ≤ a ∧ a ≤ h
      · have wa' : Mr 178 16 = nI a := by rw [wa, if_pos (by omega)]
        obtain ⟨Mc', Mr', b1, b2, b3, b4, b5, b6⟩ := j_advP P0
        have g1 : ¬ nI a < nI l := by rw [hy_lt (by omega) (by omega)]; omega
        have g2 : nI a ≤ nI h := by rw [hy_le (by omega) (by omega)]; omega
        have g3 : nI l ≤ nI a := by rw [hy_le (by omega) (by omega)]; omega
        refine ⟨nI a, nI a, Mc', Mr', ?_, ?_, b3, b4, b5, fun _ => ⟨e, rfl, a, rfl, by omega, g3, g2⟩⟩
        · simp only [f_X8_needNumber, hy_lt', hy_jn, k2, if_true, va, g1, if_false, g2, e, b1, hy_cts]
        · simp only [f_X11_number, hy_jn, r2, if_true, must1, er, hy_cts, hy_f10, if_false, wa', r_in_ok Mr g3 g2, hy_lt', f_X11_passes, b2]
      · obtain ⟨Mc', Mr', b1, b2, b3, b4, b5, b6⟩ := j_fail (k := 2) (by omega) P0
        have b1' : f_X8_fail 2 Mc = some (0, Mc') := b1
        have b2' : f_X11_must 0 2 Mr = some (0, Mr') := b2
        have nr : ¬ Mr' 178 17 = 0 := by rw [← b3.2.2.1]; exact b6
        refine ⟨nI l, Mr' 178 16, Mc', Mr', ?_, ?_, b3, b4, b5, fun h => absurd h b6⟩
        · have g0 : (nI a < nI l) = (a < l) := hy_lt (by omega) (by omega)
          have g2 : (nI a ≤ nI h) = (a ≤ h) := hy_le (by omega) (by omega)
          simp only [f_X8_needNumber, hy_lt', hy_jn, k2, if_true, va, g0, g2, b1', hy_cts, b6, if_false]
          by_cases g : a < l
          · rw [if_pos g]
          · rw [if_neg g, if_neg (by omega)]
        · have ni : f_X11_in (Mr 178 16) (nI l) (nI h) Mr = some (0, Mr) := r_in_no Mr (by
            rw [wa]
            by_cases g : a < l
            · left; rw [hy_lt (by split <;> omega) (by omega)]; split <;> omega
            · right; rw [hy_lt (by omega) (by split <;> omega)]; split <;> omega)
          simp only [f_X11_number, hy_jn, r2, if_true, must1, er, hy_cts, hy_f10, if_false, ni, b2', hy_lt', passE _ nr]
    · have r2 : ¬ Mr 178 15 = 2 := by
        intro r
        rcases h7 with ⟨a, b⟩ | ⟨a, b, _⟩ | ⟨a, b, c⟩ | ⟨_, b, a, c⟩ | ⟨a, b⟩
        · rw [r] at b; exact absurd b (by decide)
        · rw [r] at b; exact absurd b (by decide)
        · exact k2 a
        · rw [r] at b; exact absurd b (by decide)
        · rw [r] at b; exact absurd b (by decide)
      obtain ⟨Mc', Mr', b1, b2, b3, b4, b5, b6⟩ := j_fail (k := 1) (by omega) P0
      have b1' : f_X8_fail 1 Mc = some (0, Mc') := b1
      have b2' : f_X11_must 0 1 Mr = some (0, Mr') := b2
      have nr : ¬ Mr' 178 17 = 0 := by rw [← b3.2.2.1]; exact b6
      refine ⟨nI l, Mr' 178 16, Mc', Mr', ?_, ?_, b3, b4, b5, fun h => absurd h b6⟩
      · simp only [f_X8_needNumber, hy_lt', hy_jn, k2, if_false, b1', hy_cts, b6]
      · simp only [f_X11_number, hy_jn, r2, if_false, b2', hy_cts, if_true, hy_lt', passE _ nr]
  · have nr : ¬ Mr 178 17 = 0 := by rw [← P.2.2.1]; exact e
    refine ⟨lo, Mr 178 16, Mc, Mr, ?_, ?_, P, FE_r _, FH_r _, fun h => absurd h e⟩
    · simp only [f_X8_needNumber, hy_lt', hy_jn, e, if_false, failE _ _ e, hy_cts]
      by_cases k : Mc 9 2 = 2
      · rw [if_pos k]
        by_cases k1 : Mc 9 5 < lo
        · rw [if_pos k1]
        · rw [if_neg k1]; split <;> rfl
      · rw [if_neg k]
    · simp only [f_X11_number, hy_jn, mustE _ _ _ nr, hy_cts, if_true, hy_lt', passE _ nr]
      split <;> rfl

