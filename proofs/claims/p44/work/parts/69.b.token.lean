/-! TOKENS: the reader over a text that is known -/
theorem hy_f10b : ¬ ((1 : Int32) = 0) := by decide
def Tx (M : hz_M) (x : hz_TX) : Prop := M 9 1 = nI x.1 ∧ x.1 ≤ 600 ∧ (∀ i, i < x.1 → M 10 i = nI (x.2 i) ∧ x.2 i < 128) ∧ M 9 6 = 0 ∧ M 9 7 = -1
theorem Tx_set {M : hz_M} {x : hz_TX} {k : Nat} {v : Int32} (h1 : k ≠ 1) (h6 : k ≠ 6) (h7 : k ≠ 7) (h : Tx M x) : Tx (hz_set M 9 k v) x := by
  obtain ⟨a, b, c0, d, e⟩ := h
  exact ⟨by rw [hy_setn _ _ _ (by omega)]; exact a, b, fun i hi => by rw [hy_seto _ _ _ (by omega)]; exact c0 i hi, by rw [hy_setn _ _ _ (by omega)]; exact d, by rw [hy_setn _ _ _ (by omega)]; exact e⟩
theorem Tx_fr {M M' : hz_M} {x : hz_TX} (h9 : M' 9 = M 9) (h10 : M' 10 = M 10) (h : Tx M x) : Tx M' x := by
  unfold Tx
  rw [h9, h10]
  exact h
def Tk (M : hz_M) (x : hz_TX) (kd : Int32) (s e : Nat) : Prop := Tx M x ∧ M 9 2 = kd ∧ M 9 3 = nI s ∧ M 9 4 = nI e
theorem Tk_fr {M M' : hz_M} {x : hz_TX} {kd : Int32} {s e : Nat} (h9 : M' 9 = M 9) (h10 : M' 10 = M 10) (h : Tk M x kd s e) : Tk M' x kd s e := by
  obtain ⟨a, b, c0, d⟩ := h
  exact ⟨Tx_fr h9 h10 a, by rw [h9]; exact b, by rw [h9]; exact c0, by rw [h9]; exact d⟩
theorem t_byte {M : hz_M} {x : hz_TX} {i : Nat} (h : Tx M x) (hi : i < x.1) : f_X8_byteAt (nI i) M = some (nI (x.2 i), M) := by
  rw [c_byteAt h.1 h.2.1 hi, (h.2.2.1 i hi).1]
theorem t_blank (v : Nat) (M : hz_M) (hv : v < 128) : f_X8_isBlank (nI v) M = some (if v = 32 ∨ v = 10 then 1 else 0, M) := by
  unfold f_X8_isBlank
  rw [hy_jn]
  by_cases e1 : v = 32
  · rw [if_pos (show nI v = 32 by rw [e1]; rfl), if_pos (Or.inl e1)]
  · rw [if_neg (show ¬ nI v = 32 by rw [show (32 : Int32) = nI 32 from rfl, hy_eq (by omega) (by omega)]; exact e1)]
    by_cases e2 : v = 10
    · rw [if_pos (show nI v = 10 by rw [e2]; rfl), if_pos (Or.inr e2)]
    · rw [if_neg (show ¬ nI v = 10 by rw [show (10 : Int32) = nI 10 from rfl, hy_eq (by omega) (by omega)]; exact e2), if_neg (by omega)]
theorem t_letter (v : Nat) (M : hz_M) (hv : v < 128) : f_X8_isLetter (nI v) M = some (if 97 ≤ v ∧ v ≤ 122 then 1 else 0, M) := by
  unfold f_X8_isLetter
  have e1 : (nI v < 97) = (v < 97) := hy_lt (b := 97) (by omega) (by omega)
  have e2 : ((122 : Int32) < nI v) = (122 < v) := hy_lt (a := 122) (by omega) (by omega)
  by_cases c1 : v < 97
  · rw [if_pos (by rw [e1]; exact c1), if_neg (by omega)]
  · rw [if_neg (by rw [e1]; exact c1)]
    by_cases c2 : 122 < v
    · rw [if_pos (by rw [e2]; exact c2), if_neg (by omega)]
    · rw [if_neg (by rw [e2]; exact c2), if_pos (by omega)]
theorem t_digit (v : Nat) (M : hz_M) (hv : v < 128) : f_X8_isDigit (nI v) M = some (if 48 ≤ v ∧ v ≤ 57 then 1 else 0, M) := by
  unfold f_X8_isDigit
  have e1 : (nI v < 48) = (v < 48) := hy_lt (b := 48) (by omega) (by omega)
  have e2 : ((57 : Int32) < nI v) = (57 < v) := hy_lt (a := 57) (by omega) (by omega)
  by_cases c1 : v < 48
  · rw [if_pos (by rw [e1]; exact c1), if_neg (by omega)]
  · rw [if_neg (by rw [e1]; exact c1)]
    by_cases c2 : 57 < v
    · rw [if_pos (by rw [e2]; exact c2), if_neg (by omega)]
    · rw [if_neg (by rw [e2]; exact c2), if_pos (by omega)]
/-- blanks are passed over -/
theorem t_L8 (kk : hz_M → hz_O) {x : hz_TX} {s : Nat} (hs : s ≤ x.1) (he : s = x.1 ∨ (x.2 s ≠ 32 ∧ x.2 s ≠ 10)) : ∀ (k p f : Nat) (M : hz_M), Tx M x → M 9 3 = nI p → p + k = s → (∀ j, p ≤ j → j < s → x.2 j = 32) → k < f → ∃ M', f_X8_advance_L8 kk f M = kk M' ∧ Tx M' x ∧ M' 9 3 = nI s ∧ ∀ a, a ≠ 9 → M' a = M a
  | 0, p, f, M, h, h3, hp, hb, hf => by
    obtain ⟨f, rfl⟩ : ∃ e, f = e + 1 := ⟨f - 1, by omega⟩
    have ep : p = s := by omega
    subst ep
    refine ⟨M, ?_, h, h3, fun _ _ => rfl⟩
    have hn := h.2.1
    rcases he with he | he
    · rw [f_X8_advance_L8, h.1, h3, if_pos (by rw [hy_le (by omega) (by omega)]; omega)]
    · by_cases c : x.1 ≤ p
      · rw [f_X8_advance_L8, h.1, h3, if_pos (by rw [hy_le (by omega) (by omega)]; exact c)]
      · rw [f_X8_advance_L8, h.1, h3, if_neg (by rw [hy_le (by omega) (by omega)]; exact c), t_byte h (by omega), hy_cts, t_blank _ _ (h.2.2.1 p (by omega)).2, hy_cts, if_neg (c := x.2 p = 32 ∨ x.2 p = 10) (by omega), if_pos rfl]
  | k + 1, p, f, M, h, h3, hp, hb, hf => by
    obtain ⟨f, rfl⟩ : ∃ e, f = e + 1 := ⟨f - 1, by omega⟩
    have hn := h.2.1
    obtain ⟨M', e', t', m3, fr⟩ := t_L8 kk hs he k (p + 1) f (hz_set M 9 3 (nI (p + 1))) (Tx_set (by omega) (by omega) (by omega) h) (hy_setk _ _ _ _) (by omega) (fun j h1 h2 => hb j (by omega) h2) (by omega)
    refine ⟨M', ?_, t', m3, fun a ha => by rw [fr a ha, hy_seto _ _ _ ha]⟩
    rw [f_X8_advance_L8, h.1, h3, if_neg (by rw [hy_le (by omega) (by omega)]; omega), t_byte h (by omega), hy_cts, t_blank _ _ (h.2.2.1 p (by omega)).2, hy_cts, if_pos (c := x.2 p = 32 ∨ x.2 p = 10) (Or.inl (hb p (by omega) (by omega))), if_neg hy_f10b, hy_lm, h3, hy_add1]
    exact e'
/-- letters up to e -/
theorem t_L88 {x : hz_TX} {e : Nat} (he : e ≤ x.1) (hn : e = x.1 ∨ ¬ (97 ≤ x.2 e ∧ x.2 e ≤ 122)) : ∀ (k p f : Nat) (M : hz_M), Tx M x → M 9 4 = nI p → p + k = e → (∀ j, p ≤ j → j < e → 97 ≤ x.2 j ∧ x.2 j ≤ 122) → k < f → ∃ M', f_X8_advance_L88 f M = some (0, M') ∧ Tx M' x ∧ M' 9 4 = nI e ∧ M' 9 2 = M 9 2 ∧ M' 9 3 = M 9 3 ∧ ∀ a, a ≠ 9 → M' a = M a
  | 0, p, f, M, h, h4, hp, hb, hf => by
    obtain ⟨f, rfl⟩ : ∃ e, f = e + 1 := ⟨f - 1, by omega⟩
    have ep : p = e := by omega
    subst ep
    refine ⟨M, ?_, h, h4, rfl, rfl, fun _ _ => rfl⟩
    have h6 := h.2.1
    by_cases c : x.1 ≤ p
    · rw [f_X8_advance_L88, h.1, h4, if_pos (by rw [hy_le (by omega) (by omega)]; exact c)]
    · rw [f_X8_advance_L88, h.1, h4, if_neg (by rw [hy_le (by omega) (by omega)]; exact c), t_byte h (by omega), hy_cts, t_letter _ _ (h.2.2.1 p (by omega)).2, hy_cts, if_neg (c := 97 ≤ x.2 p ∧ x.2 p ≤ 122) (by omega), if_pos rfl]
  | k + 1, p, f, M, h, h4, hp, hb, hf => by
    obtain ⟨f, rfl⟩ : ∃ e, f = e + 1 := ⟨f - 1, by omega⟩
    have h6 := h.2.1
    obtain ⟨M', e', t', m4, m2, m3, fr⟩ := t_L88 he hn k (p + 1) f (hz_set M 9 4 (nI (p + 1))) (Tx_set (by omega) (by omega) (by omega) h) (hy_setk _ _ _ _) (by omega) (fun j h1 h2 => hb j (by omega) h2) (by omega)
    refine ⟨M', ?_, t', m4, by rw [m2, hy_setn _ _ _ (by omega)], by rw [m3, hy_setn _ _ _ (by omega)], fun a ha => by rw [fr a ha, hy_seto _ _ _ ha]⟩
    rw [f_X8_advance_L88, h.1, h4, if_neg (by rw [hy_le (by omega) (by omega)]; omega), t_byte h (by omega), hy_cts, t_letter _ _ (h.2.2.1 p (by omega)).2, hy_cts, if_pos (c := 97 ≤ x.2 p ∧ x.2 p ≤ 122) (hb p (by omega) (by omega)), if_neg hy_f10b, hy_lm, h4, hy_add1]
    exact e'
/-- one digit of a number -/
theorem t_L143s {x : hz_TX} {p v d f : Nat} {M : hz_M} (h : Tx M x) (h4 : M 9 4 = nI p) (h5 : M 9 5 = nI v) (hp : p < x.1) (hd : d ≤ 9) (hx : x.2 p = 48 + d) (hv : v ≤ 100) : f_X8_advance_L143 (f + 1) M = f_X8_advance_L143 f (hz_set (hz_set M 9 5 (nI (10 * v + d))) 9 4 (nI (p + 1))) := by
  have h6 := h.2.1
  have e : nI v * 10 + nI (x.2 p) - 48 = nI (10 * v + d) := by
    rw [hx, show (10 : Int32) = nI 10 from rfl, hy_mul, hy_add, show (48 : Int32) = nI 48 from rfl, hy_sub (by omega)]
    congr 1
    omega
  rw [f_X8_advance_L143, h.1, h4, if_neg (by rw [hy_le (by omega) (by omega)]; omega), t_byte h hp, hy_cts, t_digit _ _ (h.2.2.1 p hp).2, hy_cts, if_pos (c := 48 ≤ x.2 p ∧ x.2 p ≤ 57) (by omega), if_neg hy_f10b, h4, t_byte h hp, hy_cts, h5, e, hy_lm, hy_lm, hy_setn _ _ _ (by omega), h4, hy_add1, if_pos (show nI (10 * v + d) < (10000 : Int32) by rw [show (10000 : Int32) = nI 10000 from rfl, hy_lt (by omega) (by omega)]; omega)]
theorem t_L143e {x : hz_TX} {p f : Nat} {M : hz_M} (h : Tx M x) (h4 : M 9 4 = nI p) (hp : p ≤ x.1) (hn : p = x.1 ∨ ¬ (48 ≤ x.2 p ∧ x.2 p ≤ 57)) : f_X8_advance_L143 (f + 1) M = some (0, M) := by
  have h6 := h.2.1
  by_cases c : x.1 ≤ p
  · rw [f_X8_advance_L143, h.1, h4, if_pos (by rw [hy_le (by omega) (by omega)]; exact c)]
  · rw [f_X8_advance_L143, h.1, h4, if_neg (by rw [hy_le (by omega) (by omega)]; exact c), t_byte h (by omega), hy_cts, t_digit _ _ (h.2.2.1 p (by omega)).2, hy_cts, if_neg (c := 48 ≤ x.2 p ∧ x.2 p ≤ 57) (by omega), if_pos rfl]
/-- to the start of the next token -/
theorem t_adv {M : hz_M} {x : hz_TX} {e s : Nat} (h : Tx M x) (h4 : M 9 4 = nI e) (hes : e ≤ s) (hs : s ≤ x.1) (hb : ∀ j, e ≤ j → j < s → x.2 j = 32) (he : s = x.1 ∨ (x.2 s ≠ 32 ∧ x.2 s ≠ 10)) : ∃ M2, Tx M2 x ∧ M2 9 3 = nI s ∧ (∀ a, a ≠ 9 → M2 a = M a) ∧ f_X8_advance M = (hz_ct (f_X8_byteAt (M2 9 3) M2) fun r3 M4 =>
    hz_lm (hz_set M4 9 4 (M4 9 3)) fun M6 =>
    if r3 = (-1 : Int32) then
      hz_lm (hz_set M6 9 2 (0 : Int32)) fun M52 =>
      some (0, M52)
    else
      hz_ct (f_X8_isLetter r3 M6) fun r8 M9 =>
      if r8 = 0 then
        hz_ct (f_X8_isDigit r3 M9) fun r12 M13 =>
        if r12 = 0 then
          hz_ct (f_X8_isSign r3 M13) fun r16 M17 =>
          hz_jn (fun (q19 : Int32) (M20 : hz_M) =>
            hz_lm (hz_set M20 9 2 q19) fun M21 =>
            hz_lm (hz_set M21 9 4 ((M21 9 4) + (1 : Int32))) fun M22 =>
            some (0, M22)
            ) fun k23 =>
          if r16 = 0 then
            k23 (3 : Int32) M17
          else
            k23 r3 M17
        else
          hz_lm (hz_set M13 9 2 (2 : Int32)) fun M25 =>
          hz_lm (hz_set M25 9 5 (0 : Int32)) fun M26 =>
          f_X8_advance_L143 hz_FU M26
      else
        hz_lm (hz_set M9 9 2 (1 : Int32)) fun M41 =>
        f_X8_advance_L88 hz_FU M41) := by
  have h6 := h.2.1
  obtain ⟨M2, e2, t2, m3, fr⟩ := t_L8 (fun  (M2 : hz_M) =>
    hz_ct (f_X8_byteAt (M2 9 3) M2) fun r3 M4 =>
    hz_lm (hz_set M4 9 4 (M4 9 3)) fun M6 =>
    if r3 = (-1 : Int32) then
      hz_lm (hz_set M6 9 2 (0 : Int32)) fun M52 =>
      some (0, M52)
    else
      hz_ct (f_X8_isLetter r3 M6) fun r8 M9 =>
      if r8 = 0 then
        hz_ct (f_X8_isDigit r3 M9) fun r12 M13 =>
        if r12 = 0 then
          hz_ct (f_X8_isSign r3 M13) fun r16 M17 =>
          hz_jn (fun (q19 : Int32) (M20 : hz_M) =>
            hz_lm (hz_set M20 9 2 q19) fun M21 =>
            hz_lm (hz_set M21 9 4 ((M21 9 4) + (1 : Int32))) fun M22 =>
            some (0, M22)
            ) fun k23 =>
          if r16 = 0 then
            k23 (3 : Int32) M17
          else
            k23 r3 M17
        else
          hz_lm (hz_set M13 9 2 (2 : Int32)) fun M25 =>
          hz_lm (hz_set M25 9 5 (0 : Int32)) fun M26 =>
          f_X8_advance_L143 hz_FU M26
      else
        hz_lm (hz_set M9 9 2 (1 : Int32)) fun M41 =>
        f_X8_advance_L88 hz_FU M41) hs he (s - e) e hz_FU (hz_set M 9 3 (nI e)) (Tx_set (by omega) (by omega) (by omega) h) (hy_setk _ _ _ _) (by omega) hb (hy_FU (by omega))
  refine ⟨M2, t2, m3, fun a ha => by rw [fr a ha, hy_seto _ _ _ ha], ?_⟩
  unfold f_X8_advance
  rw [hy_lm, h4, hy_jn]
  exact e2
theorem t_end {M : hz_M} {x : hz_TX} {e : Nat} (h : Tx M x) (h4 : M 9 4 = nI e) (he : e = x.1) : ∃ M', f_X8_advance M = some (0, M') ∧ Tk M' x 0 x.1 x.1 ∧ ∀ a, a ≠ 9 → M' a = M a := by
  have h6 := h.2.1
  subst he
  obtain ⟨M2, t2, m3, fr, e2⟩ := t_adv (s := x.1) h h4 (Nat.le_refl _) (Nat.le_refl _) (fun j h1 h2 => absurd h1 (by omega)) (Or.inl rfl)
  rw [m3, c_byteAtO t2.1 h6 (Nat.le_refl _) (by omega), hy_cts, hy_lm, if_pos rfl, hy_lm, m3] at e2
  refine ⟨_, e2, ⟨Tx_set (by omega) (by omega) (by omega) (Tx_set (by omega) (by omega) (by omega) t2), hy_setk _ _ _ _, ?_, ?_⟩, fun a ha => by rw [hy_seto _ _ _ ha, hy_seto _ _ _ ha, fr a ha]⟩
  · rw [hy_setn _ _ _ (by omega), hy_setn _ _ _ (by omega)]
    exact m3
  · rw [hy_setn _ _ _ (by omega), hy_setk]
theorem t_word {M : hz_M} {x : hz_TX} {e s e2 : Nat} (h : Tx M x) (h4 : M 9 4 = nI e) (hes : e ≤ s) (hse : s < e2) (he2 : e2 ≤ x.1) (hb : ∀ j, e ≤ j → j < s → x.2 j = 32) (hw : ∀ j, s ≤ j → j < e2 → 97 ≤ x.2 j ∧ x.2 j ≤ 122) (hn : e2 = x.1 ∨ ¬ (97 ≤ x.2 e2 ∧ x.2 e2 ≤ 122)) : ∃ M', f_X8_advance M = some (0, M') ∧ Tk M' x 1 s e2 ∧ ∀ a, a ≠ 9 → M' a = M a := by
  have h6 := h.2.1
  have hw0 := hw s (Nat.le_refl _) hse
  obtain ⟨M2, t2, m3, fr, ea⟩ := t_adv (s := s) h h4 hes (by omega) hb (Or.inr (by omega))
  have t3 : Tx (hz_set M2 9 4 (nI s)) x := Tx_set (by omega) (by omega) (by omega) t2
  have t4 : Tx (hz_set (hz_set M2 9 4 (nI s)) 9 2 1) x := Tx_set (by omega) (by omega) (by omega) t3
  obtain ⟨M', e', t', m4, m2', m3', fr'⟩ := t_L88 he2 hn (e2 - s) s hz_FU (hz_set (hz_set M2 9 4 (nI s)) 9 2 1) t4 (by rw [hy_setn _ _ _ (by omega), hy_setk]) (by omega) hw (hy_FU (by omega))
  rw [m3, t_byte t2 (by omega), hy_cts, hy_lm, m3, if_neg (by rw [hy_n1 (by omega)]; exact not_false), t_letter _ _ (by omega), hy_cts, if_pos hw0, if_neg hy_f10b, hy_lm] at ea
  refine ⟨M', by rw [ea]; exact e', ⟨t', by rw [m2', hy_setk], ?_, m4⟩, fun a ha => by rw [fr' a ha, hy_seto _ _ _ ha, hy_seto _ _ _ ha, fr a ha]⟩
  rw [m3', hy_setn _ _ _ (by omega), hy_setn _ _ _ (by omega)]
  exact m3
theorem t_sign {M : hz_M} {x : hz_TX} {e : Nat} (h : Tx M x) (h4 : M 9 4 = nI e) (he : e < x.1) (hs : x.2 e = 59) : ∃ M', f_X8_advance M = some (0, M') ∧ Tk M' x 59 e (e + 1) ∧ ∀ a, a ≠ 9 → M' a = M a := by
  have h6 := h.2.1
  obtain ⟨M2, t2, m3, fr, ea⟩ := t_adv (s := e) h h4 (Nat.le_refl _) (by omega) (fun j h1 h2 => absurd h1 (by omega)) (Or.inr (by omega))
  have es : f_X8_isSign (nI 59) (hz_set M2 9 4 (nI e)) = some (1, hz_set M2 9 4 (nI e)) := by
    unfold f_X8_isSign
    rw [hy_jn, if_pos (show nI 59 = (59 : Int32) from rfl)]
  rw [m3, t_byte t2 he, hy_cts, hy_lm, m3, if_neg (by rw [hy_n1 (by omega)]; exact not_false), hs, t_letter _ _ (by omega), hy_cts, if_neg (c := 97 ≤ 59 ∧ 59 ≤ 122) (by omega), if_pos rfl, t_digit _ _ (by omega), hy_cts, if_neg (c := 48 ≤ 59 ∧ 59 ≤ 57) (by omega), if_pos rfl, es, hy_cts, hy_jn, if_neg hy_f10b] at ea
  dsimp only at ea
  rw [hy_lm, hy_lm, hy_setn _ _ _ (by omega), hy_setk, hy_add1] at ea
  refine ⟨_, ea, ⟨Tx_set (by omega) (by omega) (by omega) (Tx_set (by omega) (by omega) (by omega) (Tx_set (by omega) (by omega) (by omega) t2)), ?_, ?_, hy_setk _ _ _ _⟩, fun a ha => by rw [hy_seto _ _ _ ha, hy_seto _ _ _ ha, hy_seto _ _ _ ha, fr a ha]⟩
  · rw [hy_setn _ _ _ (by omega), hy_setk]
    rfl
  · rw [hy_setn _ _ _ (by omega), hy_setn _ _ _ (by omega), hy_setn _ _ _ (by omega)]
    exact m3
theorem t_num {M : hz_M} {x : hz_TX} {e v : Nat} (h : Tx M x) (h4 : M 9 4 = nI e) (hv : v < 100) (he2 : e + 1 + hz_dg v ≤ x.1) (hb : x.2 e = 32) (hw : ∀ j, j < hz_dg v → x.2 (e + 1 + j) = hz_dec v j) (hn : e + 1 + hz_dg v = x.1 ∨ ¬ (48 ≤ x.2 (e + 1 + hz_dg v) ∧ x.2 (e + 1 + hz_dg v) ≤ 57)) : ∃ M', f_X8_advance M = some (0, M') ∧ Tk M' x 2 (e + 1) (e + 1 + hz_dg v) ∧ M' 9 5 = nI v ∧ ∀ a, a ≠ 9 → M' a = M a := by
  have h6 := h.2.1
  have hdg : 1 ≤ hz_dg v := by unfold hz_dg; split <;> omega
  have hd0 : 48 ≤ x.2 (e + 1) ∧ x.2 (e + 1) ≤ 57 := by
    have e1 := hw 0 (by omega)
    rw [Nat.add_zero] at e1
    rw [e1]
    unfold hz_dec
    split
    · omega
    · rw [if_pos rfl]; omega
  obtain ⟨M2, t2, m3, fr, ea⟩ := t_adv (s := e + 1) h h4 (by omega) (by omega) (fun j h1 h2 => by rw [show j = e by omega]; exact hb) (Or.inr (by omega))
  rw [m3, t_byte t2 (by omega), hy_cts, hy_lm, m3, if_neg (by rw [hy_n1 (by omega)]; exact not_false), t_letter _ _ (by omega), hy_cts, if_neg (c := 97 ≤ x.2 (e + 1) ∧ x.2 (e + 1) ≤ 122) (by omega), if_pos rfl, t_digit _ _ (by omega), hy_cts, if_pos hd0, if_neg hy_f10b, hy_lm, hy_lm] at ea
  have t3 : Tx (hz_set (hz_set (hz_set M2 9 4 (nI (e + 1))) 9 2 2) 9 5 0) x := Tx_set (by omega) (by omega) (by omega) (Tx_set (by omega) (by omega) (by omega) (Tx_set (by omega) (by omega) (by omega) t2))
  have k4 : hz_set (hz_set (hz_set M2 9 4 (nI (e + 1))) 9 2 2) 9 5 0 9 4 = nI (e + 1) := by rw [hy_setn _ _ _ (by omega), hy_setn _ _ _ (by omega), hy_setk]
  have k3 : hz_set (hz_set (hz_set M2 9 4 (nI (e + 1))) 9 2 2) 9 5 0 9 3 = nI (e + 1) := by rw [hy_setn _ _ _ (by omega), hy_setn _ _ _ (by omega), hy_setn _ _ _ (by omega)]; exact m3
  have k2 : hz_set (hz_set (hz_set M2 9 4 (nI (e + 1))) 9 2 2) 9 5 0 9 2 = 2 := by rw [hy_setn _ _ _ (by omega), hy_setk]
  have k5 : hz_set (hz_set (hz_set M2 9 4 (nI (e + 1))) 9 2 2) 9 5 0 9 5 = nI 0 := hy_setk _ _ _ _
  have k9 : ∀ a, a ≠ 9 → hz_set (hz_set (hz_set M2 9 4 (nI (e + 1))) 9 2 2) 9 5 0 a = M a := fun a ha => by rw [hy_seto _ _ _ ha, hy_seto _ _ _ ha, hy_seto _ _ _ ha, fr a ha]
  generalize hz_set (hz_set (hz_set M2 9 4 (nI (e + 1))) 9 2 2) 9 5 0 = M3 at ea t3 k4 k3 k2 k5 k9
  obtain ⟨m, hm⟩ := hy_FU6
  rw [hm] at ea
  by_cases c : v < 10
  · have g1 : hz_dg v = 1 := if_pos c
    rw [g1] at hn he2 ⊢
    have d0 : x.2 (e + 1) = 48 + v := by
      have e1 := hw 0 (by omega)
      rw [Nat.add_zero] at e1
      rw [e1]
      exact if_pos c
    rw [t_L143s t3 k4 k5 (by omega) (by omega) d0 (by omega), Nat.mul_zero, Nat.zero_add] at ea
    have t4 : Tx (hz_set (hz_set M3 9 5 (nI v)) 9 4 (nI (e + 1 + 1))) x := Tx_set (by omega) (by omega) (by omega) (Tx_set (by omega) (by omega) (by omega) t3)
    rw [t_L143e t4 (hy_setk _ _ _ _) (by omega) hn] at ea
    refine ⟨_, ea, ⟨t4, ?_, ?_, hy_setk _ _ _ _⟩, ?_, fun a ha => by rw [hy_seto _ _ _ ha, hy_seto _ _ _ ha, k9 a ha]⟩
    · rw [hy_setn _ _ _ (by omega), hy_setn _ _ _ (by omega)]; exact k2
    · rw [hy_setn _ _ _ (by omega), hy_setn _ _ _ (by omega)]; exact k3
    · rw [hy_setn _ _ _ (by omega), hy_setk]
  · have g1 : hz_dg v = 2 := if_neg c
    rw [g1] at hn he2 ⊢
    have d0 : x.2 (e + 1) = 48 + v / 10 := by
      have e1 := hw 0 (by omega)
      rw [Nat.add_zero] at e1
      rw [e1]
      unfold hz_dec
      rw [if_neg c, if_pos rfl]
    have d1 : x.2 (e + 1 + 1) = 48 + v % 10 := by
      have e1 := hw 1 (by omega)
      rw [e1]
      unfold hz_dec
      rw [if_neg c, if_neg (by omega)]
    rw [t_L143s t3 k4 k5 (by omega) (by omega) d0 (by omega), Nat.mul_zero, Nat.zero_add] at ea
    have t4 : Tx (hz_set (hz_set M3 9 5 (nI (v / 10))) 9 4 (nI (e + 1 + 1))) x := Tx_set (by omega) (by omega) (by omega) (Tx_set (by omega) (by omega) (by omega) t3)
    rw [t_L143s t4 (hy_setk _ _ _ _) (show _ = nI (v / 10) by rw [hy_setn _ _ _ (by omega), hy_setk]) (by omega) (by omega) d1 (by omega), show 10 * (v / 10) + v % 10 = v by omega] at ea
    have t5 : Tx (hz_set (hz_set (hz_set (hz_set M3 9 5 (nI (v / 10))) 9 4 (nI (e + 1 + 1))) 9 5 (nI v)) 9 4 (nI (e + 1 + 1 + 1))) x := Tx_set (by omega) (by omega) (by omega) (Tx_set (by omega) (by omega) (by omega) t4)
    rw [t_L143e t5 (hy_setk _ _ _ _) (by omega) hn] at ea
    refine ⟨_, ea, ⟨t5, ?_, ?_, hy_setk _ _ _ _⟩, ?_, fun a ha => by rw [hy_seto _ _ _ ha, hy_seto _ _ _ ha, hy_seto _ _ _ ha, hy_seto _ _ _ ha, k9 a ha]⟩
    · rw [hy_setn _ _ _ (by omega), hy_setn _ _ _ (by omega), hy_setn _ _ _ (by omega), hy_setn _ _ _ (by omega)]; exact k2
    · rw [hy_setn _ _ _ (by omega), hy_setn _ _ _ (by omega), hy_setn _ _ _ (by omega), hy_setn _ _ _ (by omega)]; exact k3
    · rw [hy_setn _ _ _ (by omega), hy_setk]
