
/-! a setup -/
theorem PJ_c {n : Nat} {Mc Mr Mc' Mr' : hz_M} (h1 : Mc' 9 = Mc 9) (h2 : Mc' 10 = Mc 10) (h3 : Mr' 178 = Mr 178) (h4 : Mr' 186 = Mr 186) (P : PJ n Mc Mr) : PJ n Mc' Mr' := by
  unfold PJ TX TK at *
  rw [h1, h2, h3, h4]
  exact P
theorem j_start {n : Nat} {Mc Mr : hz_M} (t : TX n Mc Mr) : ∃ Mc' Mr', f_X8_rewind Mc = some (0, Mc') ∧ f_X11_starts Mr = some (0, Mr') ∧ PJ n Mc' Mr' ∧ FE Mc Mc' ∧ FH Mr Mr' ∧ Mc' 9 6 = 0 := by
  have fc : FE Mc (hz_set (hz_set (hz_set Mc 9 6 0) 9 7 (-1)) 9 4 0) := ⟨fun a h => by rw [hy_seto _ _ _ h, hy_seto _ _ _ h, hy_seto _ _ _ h], by rw [hy_setn _ _ _ (by omega), hy_setn _ _ _ (by omega), hy_setn _ _ _ (by omega)]⟩
  have fr : FH Mr (hz_set (hz_set (hz_set Mr 178 13 0) 178 17 0) 178 12 (-1)) := ⟨fun a h => by rw [hy_seto _ _ _ h, hy_seto _ _ _ h, hy_seto _ _ _ h], fun b h => by rw [hy_setn _ _ _ (by omega), hy_setn _ _ _ (by omega), hy_setn _ _ _ (by omega)]⟩
  obtain ⟨Mc', Mr', a1, a2, a3, a4, a5⟩ := j_adv (e0 := 0) (TX_e fc fr t) (by rw [hy_setk]; rfl) (by rw [hy_setn _ _ _ (by omega), hy_setn _ _ _ (by omega), hy_setk]; rfl) (by omega)
  have c6 : Mc' 9 6 = 0 := by rw [a4.2 6 (by omega) (by omega) (by omega) (by omega), hy_setn _ _ _ (by omega), hy_setn _ _ _ (by omega), hy_setk]
  have r17 : Mr' 178 17 = 0 := by rw [a5.2 17 (by omega) (by omega) (by omega) (by omega), hy_setn _ _ _ (by omega), hy_setk]
  refine ⟨Mc', Mr', ?_, ?_, ⟨TX_f a4 a5 (TX_e fc fr t), a3, by rw [c6, r17], ?_, ⟨0, by omega, c6, fun _ => by rw [a4.2 7 (by omega) (by omega) (by omega) (by omega), hy_setn _ _ _ (by omega), hy_setk]⟩⟩, FE_t fc (FE_T a4), FH_t fr (FH_G a5), c6⟩
  · simp only [f_X8_rewind, hy_lm, a1, hy_cts]
  · simp only [f_X11_starts, hy_lm, a2, hy_cts]
  · rw [a4.2 7 (by omega) (by omega) (by omega) (by omega), a5.2 12 (by omega) (by omega) (by omega) (by omega), hy_setn _ _ _ (by omega), hy_setk, hy_setk]
theorem j_look {n : Nat} {Mc Mr : hz_M} (P : PJ n Mc Mr) : ∃ v Mc' Mr', f_X8_checkName Mc = some (0, Mc') ∧ f_X11_looksAtName Mr = some (v, Mr') ∧ PJ n Mc' Mr' ∧ FE Mc Mc' ∧ FH Mr Mr' ∧
    (Mc' 9 6 = 0 → Mc 9 6 = 0 ∧ Mc' = Mc ∧ Mr' = Mr ∧ ∃ s e : Nat, s < e ∧ e ≤ n ∧ e - s ≤ 6 ∧ Mc 9 3 = nI s ∧ Mc 9 4 = nI e ∧ (∀ i, s ≤ i → i < e → ∃ c, 1 ≤ c ∧ c ≤ 26 ∧ Mc 10 i = nI (96 + c)) ∧ v = pk (fun i => Mr 186 (s + i)) (e - s)) := by
  by_cases e : Mc 9 6 = 0
  · have er : Mr 178 17 = 0 := by rw [← P.2.2.1]; exact e
    have P0 := P
    obtain ⟨t, ⟨s, e', h1, h2, h3, h4, h5, h6, h7⟩, p1, p2, p3⟩ := P
    have hn := t.1
    by_cases k1 : Mc 9 2 = 1
    · have hv : Mr 178 15 = 1 ∧ s < e' ∧ ∀ i, s ≤ i → i < e' → ∃ c, 1 ≤ c ∧ c ≤ 26 ∧ Mc 10 i = nI (96 + c) := by
        rcases h7 with ⟨a, b⟩ | ⟨a, b, c⟩ | ⟨a, b, c⟩ | ⟨_, b, a, c⟩ | ⟨a, b⟩
        · rw [k1] at a; exact absurd a (by decide)
        · exact ⟨b, c⟩
        · rw [k1] at a; exact absurd a (by decide)
        · rw [k1] at a; rw [← a] at c; exact absurd c (by decide)
        · rw [k1] at a; exact absurd a (by decide)
      obtain ⟨r1, hse, hl⟩ := hv
      have d1 : nI e' - nI s = nI (e' - s) := hy_sub h1
      by_cases l6 : e' - s ≤ 6
      · have g1 : nI (e' - s) ≤ 6 := by rw [show (6 : Int32) = nI 6 from rfl, hy_le (by omega) (by omega)]; exact l6
        have g2 : ¬ 6 < nI (e' - s) := by rw [show (6 : Int32) = nI 6 from rfl, hy_lt (by omega) (by omega)]; omega
        refine ⟨pk (fun i => Mr 186 (s + i)) (e' - s), Mc, Mr, ?_, ?_, P0, FE_r _, FH_r _, fun _ => ⟨e, rfl, rfl, s, e', hse, h2, l6, h3, h4, hl, rfl⟩⟩
        · simp only [f_X8_checkName, k1, if_true, h3, h4, d1, g1]
        · simp only [f_X11_looksAtName, hy_jn, r1, if_true, must1, er, hy_cts, hy_f10, if_false, h5, h6, d1, g2, r_packed (show s + (e' - s) ≤ 600 by omega)]
      · have g1 : ¬ nI (e' - s) ≤ 6 := by rw [show (6 : Int32) = nI 6 from rfl, hy_le (by omega) (by omega)]; exact l6
        have g2 : 6 < nI (e' - s) := by rw [show (6 : Int32) = nI 6 from rfl, hy_lt (by omega) (by omega)]; omega
        obtain ⟨Mc', Mr', b1, b2, b3, b4, b5, b6⟩ := j_fail (k := 2) (by omega) P0
        have b1' : f_X8_fail 2 Mc = some (0, Mc') := b1
        have b2' : f_X11_must 0 2 Mr = some (0, Mr') := b2
        have nr : ¬ Mr' 178 17 = 0 := by rw [← b3.2.2.1]; exact b6
        refine ⟨0, Mc', Mr', ?_, ?_, b3, b4, b5, fun h => absurd h b6⟩
        · simp only [f_X8_checkName, k1, if_true, h3, h4, d1, g1, if_false, b1', hy_cts]
        · simp only [f_X11_looksAtName, hy_jn, r1, if_true, must1, er, hy_cts, hy_f10, if_false, h5, h6, d1, g2, b2', nr]
    · have r1 : ¬ Mr 178 15 = 1 := by
        intro r
        rcases h7 with ⟨a, b⟩ | ⟨a, b, _⟩ | ⟨a, b, _⟩ | ⟨_, b, a, c⟩ | ⟨a, b⟩
        · rw [r] at b; exact absurd b (by decide)
        · exact k1 a
        · rw [r] at b; exact absurd b (by decide)
        · rw [r] at b; exact absurd b (by decide)
        · rw [r] at b; exact absurd b (by decide)
      obtain ⟨Mc', Mr', b1, b2, b3, b4, b5, b6⟩ := j_fail (k := 1) (by omega) P0
      have b1' : f_X8_fail 1 Mc = some (0, Mc') := b1
      have b2' : f_X11_must 0 1 Mr = some (0, Mr') := b2
      have nr : ¬ Mr' 178 17 = 0 := by rw [← b3.2.2.1]; exact b6
      refine ⟨0, Mc', Mr', ?_, ?_, b3, b4, b5, fun h => absurd h b6⟩
      · simp only [f_X8_checkName, k1, if_false, b1', hy_cts]
      · simp only [f_X11_looksAtName, hy_jn, r1, if_false, b2', hy_cts, if_true, nr]
  · have nr : ¬ Mr 178 17 = 0 := by rw [← P.2.2.1]; exact e
    refine ⟨0, Mc, Mr, ?_, ?_, P, FE_r _, FH_r _, fun h => absurd h e⟩
    · simp only [f_X8_checkName, failE _ _ e, hy_cts]
      repeat (first | rfl | split)
    · simp only [f_X11_looksAtName, hy_jn, mustE _ _ _ nr, hy_cts, if_true, nr, if_false]
      split <;> rfl
def nmdT (th : Nat) (M : hz_M) (g : Nat) (v : Int32) : Prop := ∃ n : Nat, 1 ≤ n ∧ n ≤ 6 ∧ M (th + 3) g = nI n ∧ (∀ i, i < n → ∃ c, 1 ≤ c ∧ c ≤ 26 ∧ M (th + 2) (6 * g + i) = nI (96 + c)) ∧ v = pk (fun i => M (th + 2) (6 * g + i)) n
theorem nmT_iff {th : Nat} {M : hz_M} {g : Nat} {v : Int32} {t : Nat → Int32} {n : Nat} (hm : nmdT th M g v) (h1 : 1 ≤ n) (h6 : n ≤ 6) (ht : ∀ i, i < n → ∃ c, 1 ≤ c ∧ c ≤ 26 ∧ t i = nI (96 + c)) :
    decide (M (th + 3) g = nI n ∧ ∀ i, i < n → M (th + 2) (6 * g + i) = t i) = decide (v = pk t n) := by
  have hm' : nmd (fun a => if a = 4 then M (th + 3) else if a = 3 then M (th + 2) else M a) g v := hm
  exact nm_iff hm' h1 h6 ht
theorem c_keep {th i s e n : Nat} (hi : i < 16) (hn : n ≤ 600) (hse : s ≤ e) (he : e ≤ n) (h6 : e - s ≤ 6) (hth : th = 1 ∨ th = 5) : ∀ (k j f : Nat) (M : hz_M), M 9 1 = nI n → M 9 3 = nI s → M th 3 = nI i → j + k = e - s → k < f →
    ∃ M', f_X3_keepName_L27 th f (nI (e - s)) (nI j) M = some (0, M') ∧ (∀ a, a ≠ th + 2 → M' a = M a) ∧ (∀ b, b < 6 * i + j → M' (th + 2) b = M (th + 2) b) ∧ ∀ x, j ≤ x → x < e - s → M' (th + 2) (6 * i + x) = M 10 (s + x)
  | 0, j, f, M, h1, h3, ht, hj, hf => by
    obtain ⟨f, rfl⟩ : ∃ e, f = e + 1 := ⟨f - 1, by omega⟩
    have e1 : e - s ≤ j := by omega
    refine ⟨M, ?_, fun _ _ => rfl, fun _ _ => rfl, fun x h h' => by omega⟩
    simp (disch := omega) only [f_X3_keepName_L27, hy_le, e1, if_true]
  | k + 1, j, f, M, h1, h3, ht, hj, hf => by
    obtain ⟨f, rfl⟩ : ∃ e, f = e + 1 := ⟨f - 1, by omega⟩
    have e1 : ¬ e - s ≤ j := by omega
    obtain ⟨M', a1, a2, a3, a4⟩ := c_keep hi hn hse he h6 hth k (j + 1) f (hz_set M (th + 2) (6 * i + j) (M 10 (s + j))) (by rw [hy_seto _ _ _ (by omega)]; exact h1) (by rw [hy_seto _ _ _ (by omega)]; exact h3) (by rw [hy_seto _ _ _ (by omega)]; exact ht) (by omega) (by omega)
    refine ⟨M', ?_, fun a h => by rw [a2 a h, hy_seto _ _ _ h], fun b hb => ?_, fun x hx hx' => ?_⟩
    · simp (disch := omega) only [f_X3_keepName_L27, hy_le, e1, if_false, h3, hy_add, c_byteAt h1 hn (k := s + j) (by omega), hy_cts, ht, show (6 : Int32) = nI 6 from rfl, hy_mul, Nat.mul_comm i 6, hy_in, hy_gt, hy_c, hy_lm, hy_lt', hy_add1]
      exact a1
    · rw [a3 b (by omega), hy_setn _ _ _ (by omega)]
    · by_cases ex : x = j
      · subst ex; rw [a3 (6 * i + x) (by omega), hy_setk]
      · rw [a4 x (by omega) hx', hy_seto _ _ _ (by omega)]
/-- what stands at a guest that was just read -/
def GS (th : Nat) (Mc Mr : hz_M) (g : Nat) : Prop := (∃ a, a ≤ 99 ∧ Mc (th + 1) g = nI a ∧ Mr 179 (25 + 8 * g + 1) = nI a) ∧ nmdT th Mc g (Mr 179 (25 + 8 * g)) ∧
  Mr 179 (25 + 8 * g + 2) = -1 ∧ Mr 179 (25 + 8 * g + 3) = -1 ∧ Mr 179 (25 + 8 * g + 4) = -1 ∧ Mr 179 (25 + 8 * g + 7) = -1
def FK (th : Nat) (Mc Mc' : hz_M) : Prop := (∀ a, a ≠ 9 → a ≠ th → a ≠ th + 1 → a ≠ th + 2 → a ≠ th + 3 → Mc' a = Mc a) ∧ Mc' 9 1 = Mc 9 1 ∧ ∀ b, b ≠ 3 → Mc' th b = Mc th b
def FL (i : Nat) (Mr Mr' : hz_M) : Prop := (∀ a, a ≠ 178 → a ≠ 179 → Mr' a = Mr a) ∧ (∀ b, (b < 12 ∨ 17 < b) → Mr' 178 b = Mr 178 b) ∧ ∀ b, b ≠ 11 → (b < 25 + 8 * i ∨ 25 + 8 * i + 8 ≤ b ∨ b = 25 + 8 * i + 5 ∨ b = 25 + 8 * i + 6) → Mr' 179 b = Mr 179 b

