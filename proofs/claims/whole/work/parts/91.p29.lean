
/-! tokens -/
/-- both buffers hold the same -/
def TX (n : Nat) (Mc Mr : hz_M) : Prop := n ≤ 600 ∧ Mc 9 1 = nI n ∧ Mr 178 11 = nI n ∧ ∀ i, i < n → Mc 10 i = Mr 186 i ∧ ∃ c, 1 ≤ c ∧ c ≤ 255 ∧ Mc 10 i = nI c
def FT (Mc Mc' : hz_M) : Prop := (∀ a, a ≠ 9 → Mc' a = Mc a) ∧ ∀ b, b ≠ 2 → b ≠ 3 → b ≠ 4 → b ≠ 5 → Mc' 9 b = Mc 9 b
def FG (Mr Mr' : hz_M) : Prop := (∀ a, a ≠ 178 → Mr' a = Mr a) ∧ ∀ b, b ≠ 13 → b ≠ 14 → b ≠ 15 → b ≠ 16 → Mr' 178 b = Mr 178 b
theorem FT_t {a b c : hz_M} (h : FT a b) (k : FT b c) : FT a c := ⟨fun x h1 => by rw [k.1 x h1, h.1 x h1], fun x h1 h2 h3 h4 => by rw [k.2 x h1 h2 h3 h4, h.2 x h1 h2 h3 h4]⟩
theorem FG_t {a b c : hz_M} (h : FG a b) (k : FG b c) : FG a c := ⟨fun x h1 => by rw [k.1 x h1, h.1 x h1], fun x h1 h2 h3 h4 => by rw [k.2 x h1 h2 h3 h4, h.2 x h1 h2 h3 h4]⟩
theorem FT_r (a : hz_M) : FT a a := ⟨fun _ _ => rfl, fun _ _ _ _ _ => rfl⟩
theorem FG_r (a : hz_M) : FG a a := ⟨fun _ _ => rfl, fun _ _ _ _ _ => rfl⟩
theorem FT_s (M : hz_M) (k : Nat) (v : Int32) (h : k = 2 ∨ k = 3 ∨ k = 4 ∨ k = 5) : FT M (hz_set M 9 k v) := ⟨fun a h1 => hy_seto _ _ _ h1, fun b h1 h2 h3 h4 => hy_setn _ _ _ (by omega)⟩
theorem FG_s (M : hz_M) (k : Nat) (v : Int32) (h : k = 13 ∨ k = 14 ∨ k = 15 ∨ k = 16) : FG M (hz_set M 178 k v) := ⟨fun a h1 => hy_seto _ _ _ h1, fun b h1 h2 h3 h4 => hy_setn _ _ _ (by omega)⟩
theorem TX_f {n : Nat} {Mc Mr Mc' Mr' : hz_M} (h1 : FT Mc Mc') (h2 : FG Mr Mr') (t : TX n Mc Mr) : TX n Mc' Mr' := by
  unfold TX at *
  rw [h1.1 10 (by omega), h1.2 1 (by omega) (by omega) (by omega) (by omega), h2.1 186 (by omega), h2.2 11 (by omega) (by omega) (by omega) (by omega)]
  exact t
def vrel (v w : Int32) : Prop := ∃ a, a ≤ 10000 ∧ v = nI a ∧ w = nI (if a < 1000 then a else 1000)
def TK (n : Nat) (Mc Mr : hz_M) : Prop := ∃ s e : Nat, s ≤ e ∧ e ≤ n ∧ Mc 9 3 = nI s ∧ Mc 9 4 = nI e ∧ Mr 178 14 = nI s ∧ Mr 178 13 = nI e ∧
  ((Mc 9 2 = 0 ∧ Mr 178 15 = 0) ∨ (Mc 9 2 = 1 ∧ Mr 178 15 = 1 ∧ s < e ∧ ∀ i, s ≤ i → i < e → ∃ c, 1 ≤ c ∧ c ≤ 26 ∧ Mc 10 i = nI (96 + c)) ∨
   (Mc 9 2 = 2 ∧ Mr 178 15 = 2 ∧ vrel (Mc 9 5) (Mr 178 16)) ∨ (s < n ∧ Mr 178 15 = 3 ∧ Mc 9 2 = Mr 186 s ∧ (Mr 186 s = 59 ∨ Mr 186 s = 40 ∨ Mr 186 s = 41)) ∨ (Mc 9 2 = 3 ∧ Mr 178 15 = 4))
theorem s_in {Mr : hz_M} {n k : Nat} (hn : n ≤ 600) (h : Mr 178 11 = nI n) (hk : k < n) : f_X11_seen (nI k) Mr = some (Mr 186 k, Mr) := by
  have e : ¬ n ≤ k := by omega
  simp (disch := omega) only [f_X11_seen, h, hy_le, e, if_false, hy_in, hy_gt, hy_c]
theorem s_out {Mr : hz_M} {n k : Nat} (hn : n ≤ 600) (h : Mr 178 11 = nI n) (hk : n ≤ k) (hk2 : k ≤ 1000) : f_X11_seen (nI k) Mr = some (-1, Mr) := by
  simp (disch := omega) only [f_X11_seen, h, hy_le, hk, if_true]
theorem hy_cle {a : Nat} (b : Nat) (ha : a < 2 ^ 31) (hb : b < 2 ^ 31) : (nI a < Int32.ofNat b) = (a < b) := hy_lt ha hb
theorem isL (M : hz_M) {c : Nat} (hc : c ≤ 255) : f_X8_isLetter (nI c) M = some (if 97 ≤ c ∧ c ≤ 122 then 1 else 0, M) ∧ f_X11_in (nI c) 97 122 M = some (if 97 ≤ c ∧ c ≤ 122 then 1 else 0, M) := by
  have e1 : (nI c < 97) = (c < 97) := hy_lt (b := 97) (by omega) (by omega)
  have e2 : (122 < nI c) = (122 < c) := hy_lt (a := 122) (by omega) (by omega)
  unfold f_X8_isLetter f_X11_in
  by_cases h1 : c < 97
  · have h3 : ¬ (97 ≤ c ∧ c ≤ 122) := by omega
    simp only [e1, h1, h3, if_true, if_false, and_self]
  · by_cases h2 : 122 < c
    · have h3 : ¬ (97 ≤ c ∧ c ≤ 122) := by omega
      simp only [e1, e2, h1, h2, h3, if_true, if_false, and_self]
    · have h3 : (97 ≤ c ∧ c ≤ 122) := by omega
      simp only [e1, e2, h1, h2, if_false]
      rw [if_pos h3]; exact ⟨rfl, rfl⟩
theorem isD (M : hz_M) {c : Nat} (hc : c ≤ 255) : f_X8_isDigit (nI c) M = some (if 48 ≤ c ∧ c ≤ 57 then 1 else 0, M) ∧ f_X11_in (nI c) 48 57 M = some (if 48 ≤ c ∧ c ≤ 57 then 1 else 0, M) := by
  have e1 : (nI c < 48) = (c < 48) := hy_lt (b := 48) (by omega) (by omega)
  have e2 : (57 < nI c) = (57 < c) := hy_lt (a := 57) (by omega) (by omega)
  unfold f_X8_isDigit f_X11_in
  by_cases h1 : c < 48
  · have h3 : ¬ (48 ≤ c ∧ c ≤ 57) := by omega
    simp only [e1, h1, h3, if_true, if_false, and_self]
  · by_cases h2 : 57 < c
    · have h3 : ¬ (48 ≤ c ∧ c ≤ 57) := by omega
      simp only [e1, e2, h1, h2, h3, if_true, if_false, and_self]
    · have h3 : (48 ≤ c ∧ c ≤ 57) := by omega
      simp only [e1, e2, h1, h2, if_false]
      rw [if_pos h3]; exact ⟨rfl, rfl⟩
theorem isBl (M : hz_M) {c : Nat} (hc : c ≤ 255) : f_X8_isBlank (nI c) M = some (if c = 32 ∨ c = 10 then 1 else 0, M) := by
  have e1 : (nI c = 32) = (c = 32) := hy_eq (b := 32) (by omega) (by omega)
  have e2 : (nI c = 10) = (c = 10) := hy_eq (b := 10) (by omega) (by omega)
  unfold f_X8_isBlank
  simp only [hy_jn, e1, e2]
  by_cases h1 : c = 32
  · simp only [h1, if_true, true_or]
  · by_cases h2 : c = 10
    · simp only [h1, h2, if_true, if_false, or_true]
      rw [if_neg (by omega)]
    · simp only [h1, h2, if_false, or_self]
/-- blanks -/
theorem j_blank (kc kr : hz_M → hz_O) {n : Nat} : ∀ (k s f f' : Nat) (Mc Mr : hz_M), TX n Mc Mr → Mc 9 3 = nI s → Mr 178 13 = nI s → s + k = n → k < f → k < f' →
    ∃ s' Mc' Mr', s ≤ s' ∧ s' ≤ n ∧ f_X8_advance_L8 kc f Mc = kc Mc' ∧ f_X11_goesOn_L0 kr f' Mr = kr Mr' ∧ Mc' 9 3 = nI s' ∧ Mr' 178 13 = nI s' ∧ FT Mc Mc' ∧ FG Mr Mr'
  | 0, s, f, f', Mc, Mr, t, h3, h13, hs, hf, hf' => by
    obtain ⟨f, rfl⟩ : ∃ e, f = e + 1 := ⟨f - 1, by omega⟩
    obtain ⟨f', rfl⟩ : ∃ e, f' = e + 1 := ⟨f' - 1, by omega⟩
    obtain ⟨hn, t1, t2, t3⟩ := t
    have e : n ≤ s := by omega
    refine ⟨s, Mc, Mr, by omega, by omega, ?_, ?_, h3, h13, FT_r _, FG_r _⟩
    · simp (disch := omega) only [f_X8_advance_L8, t1, h3, hy_le, e, if_true]
    · have so := s_out hn t2 e (by omega)
      simp only [f_X11_goesOn_L0, h13, so, hy_cts, hy_jn, show ((-1 : Int32) = 32) = False from eq_false (by decide), show ((-1 : Int32) = 10) = False from eq_false (by decide), if_false]
  | k + 1, s, f, f', Mc, Mr, t, h3, h13, hs, hf, hf' => by
    obtain ⟨f, rfl⟩ : ∃ e, f = e + 1 := ⟨f - 1, by omega⟩
    obtain ⟨f', rfl⟩ : ∃ e, f' = e + 1 := ⟨f' - 1, by omega⟩
    have t0 := t
    obtain ⟨hn, t1, t2, t3⟩ := t
    have e : ¬ n ≤ s := by omega
    obtain ⟨t4, c, c1, c2, c3⟩ := t3 s (by omega)
    have si := s_in hn t2 (k := s) (by omega)
    rw [← t4, c3] at si
    have e32 : (nI c = 32) = (c = 32) := hy_eq (b := 32) (by omega) (by omega)
    have e10 : (nI c = 10) = (c = 10) := hy_eq (b := 10) (by omega) (by omega)
    by_cases b : c = 32 ∨ c = 10
    · obtain ⟨s', Mc', Mr', a1, a2, a3, a4, a5, a6, a7, a8⟩ := j_blank kc kr k (s + 1) f f' (hz_set Mc 9 3 (nI (s + 1))) (hz_set Mr 178 13 (nI (s + 1))) (TX_f (FT_s _ _ _ (by omega)) (FG_s _ _ _ (by omega)) t0) (hy_setk _ _ _ _) (hy_setk _ _ _ _) (by omega) (by omega) (by omega)
      refine ⟨s', Mc', Mr', by omega, a2, ?_, ?_, a5, a6, FT_t (FT_s _ _ _ (by omega)) a7, FG_t (FG_s _ _ _ (by omega)) a8⟩
      · simp (disch := omega) only [f_X8_advance_L8, t1, h3, hy_le, e, if_false, c_byteAt t1 hn (k := s) (by omega), c3, hy_cts, isBl, if_pos b, hy_f10, hy_lm, hy_add1]
        exact a3
      · simp only [f_X11_goesOn_L0, h13, si, hy_cts, hy_jn, e32, e10, hy_lm, hy_add1]
        by_cases b1 : c = 32
        · rw [if_pos b1]; exact a4
        · rw [if_neg b1, if_pos (by omega)]; exact a4
    · refine ⟨s, Mc, Mr, by omega, by omega, ?_, ?_, h3, h13, FT_r _, FG_r _⟩
      · simp (disch := omega) only [f_X8_advance_L8, t1, h3, hy_le, e, if_false, c_byteAt t1 hn (k := s) (by omega), c3, hy_cts, isBl, if_neg b, if_true]
      · have b1 : ¬ c = 32 := fun h => b (Or.inl h)
        have b2 : ¬ c = 10 := fun h => b (Or.inr h)
        simp only [f_X11_goesOn_L0, h13, si, hy_cts, hy_jn, e32, e10, b1, b2, if_false]
theorem j_letters {n : Nat} : ∀ (k e0 f f' : Nat) (Mc Mr : hz_M), TX n Mc Mr → Mc 9 4 = nI e0 → Mr 178 13 = nI e0 → e0 + k = n → k < f → k < f' →
    ∃ e' Mc' Mr', e0 ≤ e' ∧ e' ≤ n ∧ f_X8_advance_L88 f Mc = some (0, Mc') ∧ f_X11_goesOn_L85 f' Mr = some (0, Mr') ∧ Mc' 9 4 = nI e' ∧ Mr' 178 13 = nI e' ∧ FT Mc Mc' ∧ FG Mr Mr' ∧ Mc' 9 3 = Mc 9 3 ∧ Mc' 9 2 = Mc 9 2 ∧ Mr' 178 14 = Mr 178 14 ∧ Mr' 178 15 = Mr 178 15 ∧ (∀ i, e0 ≤ i → i < e' → ∃ c, 1 ≤ c ∧ c ≤ 26 ∧ Mc 10 i = nI (96 + c)) ∧ (e0 < n → (∃ c, 97 ≤ c ∧ c ≤ 122 ∧ Mc 10 e0 = nI c) → e0 < e')
  | 0, e0, f, f', Mc, Mr, t, h3, h13, hs, hf, hf' => by
    obtain ⟨f, rfl⟩ : ∃ e, f = e + 1 := ⟨f - 1, by omega⟩
    obtain ⟨f', rfl⟩ : ∃ e, f' = e + 1 := ⟨f' - 1, by omega⟩
    obtain ⟨hn, t1, t2, t3⟩ := t
    have e : n ≤ e0 := by omega
    refine ⟨e0, Mc, Mr, by omega, by omega, ?_, ?_, h3, h13, FT_r _, FG_r _, rfl, rfl, rfl, rfl, fun i h1 h2 => by omega, fun h => by omega⟩
    · simp (disch := omega) only [f_X8_advance_L88, t1, h3, hy_le, e, if_true]
    · have so := s_out hn t2 e (by omega)
      simp only [f_X11_goesOn_L85, h13, so, hy_cts, r_in_no Mr (show (-1 : Int32) < 97 ∨ 122 < (-1 : Int32) from Or.inl (by decide)), if_true]
  | k + 1, e0, f, f', Mc, Mr, t, h3, h13, hs, hf, hf' => by
    obtain ⟨f, rfl⟩ : ∃ e, f = e + 1 := ⟨f - 1, by omega⟩
    obtain ⟨f', rfl⟩ : ∃ e, f' = e + 1 := ⟨f' - 1, by omega⟩
    have t0 := t
    obtain ⟨hn, t1, t2, t3⟩ := t
    have e : ¬ n ≤ e0 := by omega
    obtain ⟨t4, c, c1, c2, c3⟩ := t3 e0 (by omega)
    have si := s_in hn t2 (k := e0) (by omega)
    rw [← t4, c3] at si
    by_cases b : 97 ≤ c ∧ c ≤ 122
    · obtain ⟨e', Mc', Mr', a1, a2, a3, a4, a5, a6, a7, a8, a9, a10, a11, a12, a13, a14⟩ := j_letters k (e0 + 1) f f' (hz_set Mc 9 4 (nI (e0 + 1))) (hz_set Mr 178 13 (nI (e0 + 1))) (TX_f (FT_s _ _ _ (by omega)) (FG_s _ _ _ (by omega)) t0) (hy_setk _ _ _ _) (hy_setk _ _ _ _) (by omega) (by omega) (by omega)
      refine ⟨e', Mc', Mr', by omega, a2, ?_, ?_, a5, a6, FT_t (FT_s _ _ _ (by omega)) a7, FG_t (FG_s _ _ _ (by omega)) a8, by rw [a9, hy_setn _ _ _ (by omega)], by rw [a10, hy_setn _ _ _ (by omega)], by rw [a11, hy_setn _ _ _ (by omega)], by rw [a12, hy_setn _ _ _ (by omega)], fun i h1 h2 => ?_, fun _ _ => by omega⟩
      · simp (disch := omega) only [f_X8_advance_L88, t1, h3, hy_le, e, if_false, c_byteAt t1 hn (k := e0) (by omega), c3, hy_cts, (isL Mc c2).1, if_pos b, hy_f10, hy_lm, hy_add1]
        exact a3
      · simp only [f_X11_goesOn_L85, h13, si, hy_cts, (isL Mr c2).2, if_pos b, hy_f10, if_false, hy_lm, hy_add1]
        exact a4
      · by_cases ei : i = e0
        · subst ei; exact ⟨c - 96, by omega, by omega, by rw [c3]; congr 1; omega⟩
        · have := a13 i (by omega) h2
          rw [hy_seto _ _ _ (by omega)] at this; exact this
    · refine ⟨e0, Mc, Mr, by omega, by omega, ?_, ?_, h3, h13, FT_r _, FG_r _, rfl, rfl, rfl, rfl, fun i h1 h2 => by omega, fun _ ⟨d, d1, d2, d3⟩ => ?_⟩
      · simp (disch := omega) only [f_X8_advance_L88, t1, h3, hy_le, e, if_false, c_byteAt t1 hn (k := e0) (by omega), c3, hy_cts, (isL Mc c2).1, if_neg b, if_true]
      · simp only [f_X11_goesOn_L85, h13, si, hy_cts, (isL Mr c2).2, if_neg b, if_true]
      · rw [c3, hy_eq (by omega) (by omega)] at d3
        omega
theorem v_step {v w : Int32} {c : Nat} (hc : 48 ≤ c ∧ c ≤ 57) (h : vrel v w) : vrel (if v * 10 + nI c - 48 < 10000 then v * 10 + nI c - 48 else 10000) (if 10 * w + nI c - 48 < 1000 then 10 * w + nI c - 48 else 1000) := by
  obtain ⟨a, ha, hv, hw⟩ := h
  have e1 : v * 10 + nI c - 48 = nI (a * 10 + (c - 48)) := by
    rw [hv, show (10 : Int32) = nI 10 from rfl, show (48 : Int32) = nI 48 from rfl, hy_mul, hy_add, hy_sub (by omega)]; congr 1; omega
  have e2 : 10 * w + nI c - 48 = nI (10 * (if a < 1000 then a else 1000) + (c - 48)) := by
    rw [hw, show (10 : Int32) = nI 10 from rfl, show (48 : Int32) = nI 48 from rfl, hy_mul, hy_add, hy_sub (by omega)]; congr 1; omega
  rw [e1, e2]
  refine ⟨if a * 10 + (c - 48) < 10000 then a * 10 + (c - 48) else 10000, by split <;> omega, ?_, ?_⟩
  · have e3 : (nI (a * 10 + (c - 48)) < 10000) = (a * 10 + (c - 48) < 10000) := hy_lt (b := 10000) (by omega) (by omega)
    by_cases h1 : a * 10 + (c - 48) < 10000
    · rw [if_pos (by rw [e3]; exact h1), if_pos h1]
    · rw [if_neg (by rw [e3]; exact h1), if_neg h1]; rfl
  · have hb : 10 * (if a < 1000 then a else 1000) + (c - 48) < 2 ^ 31 := by split <;> omega
    have e3 : (nI (10 * (if a < 1000 then a else 1000) + (c - 48)) < 1000) = (10 * (if a < 1000 then a else 1000) + (c - 48) < 1000) := hy_lt (b := 1000) hb (by omega)
    by_cases h1 : a < 1000
    · rw [if_pos h1] at e3 ⊢
      by_cases h2 : 10 * a + (c - 48) < 1000
      · rw [if_pos (by rw [e3]; exact h2), if_pos (show a * 10 + (c - 48) < 10000 by omega), if_pos (by omega)]
        congr 1; omega
      · rw [if_neg (by rw [e3]; exact h2)]
        have : ¬ (if a * 10 + (c - 48) < 10000 then a * 10 + (c - 48) else 10000) < 1000 := by split <;> omega
        rw [if_neg this]; rfl
    · rw [if_neg h1] at e3 ⊢
      rw [if_neg (by rw [e3]; omega)]
      have : ¬ (if a * 10 + (c - 48) < 10000 then a * 10 + (c - 48) else 10000) < 1000 := by split <;> omega
      rw [if_neg this]; rfl
theorem j_digits {n : Nat} : ∀ (k e0 f f' : Nat) (Mc Mr : hz_M), TX n Mc Mr → Mc 9 4 = nI e0 → Mr 178 13 = nI e0 → vrel (Mc 9 5) (Mr 178 16) → e0 + k = n → k < f → k < f' →
    ∃ e' Mc' Mr', e0 ≤ e' ∧ e' ≤ n ∧ f_X8_advance_L143 f Mc = some (0, Mc') ∧ f_X11_goesOn_L137 f' Mr = some (0, Mr') ∧ Mc' 9 4 = nI e' ∧ Mr' 178 13 = nI e' ∧ FT Mc Mc' ∧ FG Mr Mr' ∧ Mc' 9 3 = Mc 9 3 ∧ Mc' 9 2 = Mc 9 2 ∧ Mr' 178 14 = Mr 178 14 ∧ Mr' 178 15 = Mr 178 15 ∧ vrel (Mc' 9 5) (Mr' 178 16)
  | 0, e0, f, f', Mc, Mr, t, h3, h13, hv, hs, hf, hf' => by
    obtain ⟨f, rfl⟩ : ∃ e, f = e + 1 := ⟨f - 1, by omega⟩
    obtain ⟨f', rfl⟩ : ∃ e, f' = e + 1 := ⟨f' - 1, by omega⟩
    obtain ⟨hn, t1, t2, t3⟩ := t
    have e : n ≤ e0 := by omega
    refine ⟨e0, Mc, Mr, by omega, by omega, ?_, ?_, h3, h13, FT_r _, FG_r _, rfl, rfl, rfl, rfl, hv⟩
    · simp (disch := omega) only [f_X8_advance_L143, t1, h3, hy_le, e, if_true]
    · have so := s_out hn t2 e (by omega)
      simp only [f_X11_goesOn_L137, h13, so, hy_cts, r_in_no Mr (show (-1 : Int32) < 48 ∨ 57 < (-1 : Int32) from Or.inl (by decide)), if_true]
  | k + 1, e0, f, f', Mc, Mr, t, h3, h13, hv, hs, hf, hf' => by
    obtain ⟨f, rfl⟩ : ∃ e, f = e + 1 := ⟨f - 1, by omega⟩
    obtain ⟨f', rfl⟩ : ∃ e, f' = e + 1 := ⟨f' - 1, by omega⟩
    have t0 := t
    obtain ⟨hn, t1, t2, t3⟩ := t
    have e : ¬ n ≤ e0 := by omega
    obtain ⟨t4, c, c1, c2, c3⟩ := t3 e0 (by omega)
    have si := s_in hn t2 (k := e0) (by omega)
    rw [← t4, c3] at si
    by_cases b : 48 ≤ c ∧ c ≤ 57
    · have vs := v_step b hv
      obtain ⟨e', Mc', Mr', a1, a2, a3, a4, a5, a6, a7, a8, a9, a10, a11, a12, a13⟩ := j_digits k (e0 + 1) f f' (hz_set (hz_set Mc 9 5 (if Mc 9 5 * 10 + nI c - 48 < 10000 then Mc 9 5 * 10 + nI c - 48 else 10000)) 9 4 (nI (e0 + 1))) (hz_set (hz_set Mr 178 16 (if 10 * Mr 178 16 + nI c - 48 < 1000 then 10 * Mr 178 16 + nI c - 48 else 1000)) 178 13 (nI (e0 + 1))) (TX_f (FT_t (FT_s _ _ _ (by omega)) (FT_s _ _ _ (by omega))) (FG_t (FG_s _ _ _ (by omega)) (FG_s _ _ _ (by omega))) t0) (hy_setk _ _ _ _) (hy_setk _ _ _ _) (by rw [hy_setn _ _ _ (by omega), hy_setk, hy_setn _ _ _ (by omega), hy_setk]; exact vs) (by omega) (by omega) (by omega)
      refine ⟨e', Mc', Mr', by omega, a2, ?_, ?_, a5, a6, FT_t (FT_t (FT_s _ _ _ (by omega)) (FT_s _ _ _ (by omega))) a7, FG_t (FG_t (FG_s _ _ _ (by omega)) (FG_s _ _ _ (by omega))) a8, by rw [a9, hy_setn _ _ _ (by omega), hy_setn _ _ _ (by omega)], by rw [a10, hy_setn _ _ _ (by omega), hy_setn _ _ _ (by omega)], by rw [a11, hy_setn _ _ _ (by omega), hy_setn _ _ _ (by omega)], by rw [a12, hy_setn _ _ _ (by omega), hy_setn _ _ _ (by omega)], a13⟩
      · simp (disch := omega) only [f_X8_advance_L143, t1, h3, hy_le, e, if_false, c_byteAt t1 hn (k := e0) (by omega), c3, hy_cts, (isD Mc c2).1, if_pos b, hy_f10, hy_lm, hy_setn, hy_add1]
        exact a3
      · simp (disch := omega) only [f_X11_goesOn_L137, h13, si, hy_cts, (isD Mr c2).2, if_pos b, hy_f10, if_false, hy_lm, hy_setn, hy_add1]
        exact a4
    · refine ⟨e0, Mc, Mr, by omega, by omega, ?_, ?_, h3, h13, FT_r _, FG_r _, rfl, rfl, rfl, rfl, hv⟩
      · simp (disch := omega) only [f_X8_advance_L143, t1, h3, hy_le, e, if_false, c_byteAt t1 hn (k := e0) (by omega), c3, hy_cts, (isD Mc c2).1, if_neg b, if_true]
      · simp only [f_X11_goesOn_L137, h13, si, hy_cts, (isD Mr c2).2, if_neg b, if_true]

