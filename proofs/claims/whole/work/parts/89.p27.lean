
/-! the report -/
def RJ (n : Nat) (Mc Mr : hz_M) : Prop := n ≤ 256 ∧ Mc 176 2 = nI n ∧ Mr 178 27 = nI n ∧ ∀ i, i < n → Mc 177 i = Mr 191 i
def FC (Mc Mc' : hz_M) : Prop := ∀ a, a ≠ 176 → a ≠ 177 → Mc' a = Mc a
def FR (Mr Mr' : hz_M) : Prop := (∀ a, a ≠ 178 → a ≠ 191 → a ≠ 192 → Mr' a = Mr a) ∧ ∀ b, b ≠ 27 → Mr' 178 b = Mr 178 b
theorem FC_t {a b c : hz_M} (h : FC a b) (k : FC b c) : FC a c := fun x h1 h2 => by rw [k x h1 h2, h x h1 h2]
theorem FR_t {a b c : hz_M} (h : FR a b) (k : FR b c) : FR a c := ⟨fun x h1 h2 h3 => by rw [k.1 x h1 h2 h3, h.1 x h1 h2 h3], fun x h1 => by rw [k.2 x h1, h.2 x h1]⟩
theorem j_put {n : Nat} {Mc Mr : hz_M} (v : Int32) (hn : n < 256) (R : RJ n Mc Mr) : ∃ Mc' Mr', f_X5_put v Mc = some (0, Mc') ∧ f_X11_writes v Mr = some (0, Mr') ∧ RJ (n + 1) Mc' Mr' ∧ FC Mc Mc' ∧ FR Mr Mr' ∧ Mr' 192 = Mr 192 := by
  obtain ⟨r0, r1, r2, r3⟩ := R
  have e1 : ¬ (256 : Int32) ≤ nI n := by rw [show (256 : Int32) = nI 256 from rfl, hy_le (by omega) (by omega)]; omega
  refine ⟨hz_set (hz_set Mc 177 n v) 176 2 (nI (n + 1)), hz_set (hz_set Mr 191 n v) 178 27 (nI (n + 1)), ?_, ?_, ⟨by omega, hy_setk _ _ _ _, hy_setk _ _ _ _, ?_⟩, ?_, ⟨?_, ?_⟩, ?_⟩
  · simp (disch := omega) only [f_X5_put, r1, e1, if_false, hy_in, hy_gt, hy_c, hy_lm, hy_seto, hy_add1]
  · simp (disch := omega) only [f_X11_writes, r2, hy_in, hy_gt, hy_c, hy_lm, hy_seto, hy_add1]
  · intro i hi
    rw [hy_seto _ _ _ (by omega), hy_seto _ _ _ (show (191 : Nat) ≠ 178 by omega), hy_srow, hy_srow]
    unfold hy_st
    by_cases e : i = n
    · rw [if_pos e, if_pos e]
    · rw [if_neg e, if_neg e]; exact r3 i (by omega)
  · intro a h1 h2; rw [hy_seto _ _ _ h1, hy_seto _ _ _ h2]
  · intro a h1 h2 _; rw [hy_seto _ _ _ h1, hy_seto _ _ _ h2]
  · intro b hb; rw [hy_setn _ _ _ hb, hy_seto _ _ _ (by omega)]
  · rw [hy_seto _ _ _ (by omega), hy_seto _ _ _ (by omega)]
theorem j_num {n k : Nat} {Mc Mr : hz_M} (hk : k < 100) (hn : n + 2 ≤ 256) (R : RJ n Mc Mr) : ∃ n' Mc' Mr', n' ≤ n + 2 ∧ (k < 10 → n' ≤ n + 1) ∧ f_X5_putNumber (nI k) Mc = some (0, Mc') ∧ f_X11_writesNumber (nI k) Mr = some (0, Mr') ∧ RJ n' Mc' Mr' ∧ FC Mc Mc' ∧ FR Mr Mr' := by
  obtain ⟨m, hm⟩ := hy_FU6
  have d1 : nI k / 10 = nI (k / 10) := hy_div (b := 10) (by omega) (by omega) (by omega)
  have d0 : nI k - nI (k / 10) * 10 = nI (k % 10) := by rw [← d1]; exact hy_mod (b := 10) (by omega) (by omega) (by omega)
  have f48 : ∀ x : Nat, (48 : Int32) + nI x = nI (48 + x) := fun x => hy_add 48 x
  have set192 : ∀ (M : hz_M) (i : Nat) (v : Int32), FR M (hz_set M 192 i v) := fun M i v => ⟨fun a _ _ h => hy_seto _ _ _ h, fun b _ => by rw [hy_seto _ _ _ (by omega)]⟩
  have RJ192 : ∀ (M : hz_M) (i : Nat) (v : Int32), RJ n Mc M → RJ n Mc (hz_set M 192 i v) := fun M i v ⟨a, b, c, d⟩ => ⟨a, b, by rw [hy_seto _ _ _ (by omega)]; exact c, fun i hi => by rw [hy_seto _ _ _ (by omega)]; exact d i hi⟩
  by_cases e : k < 10
  · obtain ⟨Mc1, Mr1, a1, a2, a3, a4, a5, a6⟩ := j_put (nI (48 + k % 10)) (by omega) (RJ192 Mr 0 (nI (48 + k % 10)) R)
    refine ⟨n + 1, Mc1, Mr1, by omega, fun _ => by omega, ?_, ?_, a3, a4, FR_t (set192 _ _ _) a5⟩
    · have e1 : nI k < 10 := by rw [show (10 : Int32) = nI 10 from rfl, hy_lt (by omega) (by omega)]; exact e
      simp only [f_X5_putNumber, hy_jn, e1, if_true, d1, d0, f48, a1, hy_cts]
    · have e2 : ¬ 0 < nI (k / 10) := by rw [hy_0, hy_lt (by omega) (by omega)]; omega
      unfold f_X11_writesNumber
      rw [hm]
      simp only [hy_jn, f_X11_writesNumber_L4, show hz_in (0 : Int32) 8 = true from by decide, hy_gt, hy_lm, hy_lt', d0, d1, f48, e2, if_false, show (0 : Int32) + 1 - 1 = 0 from rfl, hy_k0, f_X11_writesNumber_L34, show ((0 : Int32) < 0) = False from eq_false (by decide), hy_setk, a2, hy_cts, show (0 : Int32) + -1 = -1 from rfl, show ((-1 : Int32) < 0) = True from eq_true (by decide), if_true]
  · have d2 : nI (k / 10) - nI 0 * 10 = nI (k / 10) := by
      rw [show nI 0 * (10 : Int32) = 0 from by decide, Int32.sub_zero]
    have d3 : nI (k / 10) / 10 = nI 0 := by
      rw [show (10 : Int32) = nI 10 from rfl, hy_div (by omega) (by omega) (by omega)]; congr 1; omega
    have R2 : RJ n Mc (hz_set (hz_set Mr 192 0 (nI (48 + k % 10))) 192 1 (nI (48 + k / 10))) := RJ192 _ _ _ (RJ192 _ _ _ R)
    obtain ⟨Mc1, Mr1, a1, a2, a3, a4, a5, a6⟩ := j_put (nI (48 + k / 10)) (by omega) R2
    obtain ⟨Mc2, Mr2, b1, b2, b3, b4, b5, b6⟩ := j_put (nI (48 + k % 10)) (by omega) a3
    refine ⟨n + 2, Mc2, Mr2, by omega, fun h => absurd h e, ?_, ?_, b3, FC_t a4 b4, FR_t (FR_t (set192 _ _ _) (set192 _ _ _)) (FR_t a5 b5)⟩
    · have e1 : ¬ nI k < 10 := by rw [show (10 : Int32) = nI 10 from rfl, hy_lt (by omega) (by omega)]; exact e
      simp only [f_X5_putNumber, hy_jn, e1, if_false, d0, d1, f48, a1, b1, hy_cts]
    · have e2 : 0 < nI (k / 10) := by rw [hy_0, hy_lt (by omega) (by omega)]; omega
      have e3 : ¬ (0 : Int32) < nI 0 := by decide
      have v1 : Mr1 192 0 = nI (48 + k % 10) := by rw [a6, hy_setn _ _ _ (by omega), hy_setk]
      unfold f_X11_writesNumber
      rw [hm]
      simp only [hy_jn, f_X11_writesNumber_L4, show hz_in (0 : Int32) 8 = true from by decide, hy_gt, hy_lm, hy_lt', d0, d1, f48, e2, if_true, show (0 : Int32) + 1 = 1 from rfl, show hz_in (1 : Int32) 8 = true from by decide, hy_k0, hy_k1, d2, d3, e3, if_false, show (1 : Int32) + 1 - 1 = 1 from rfl, f_X11_writesNumber_L34, show ((0 : Int32) < 0) = False from eq_false (by decide), show ((1 : Int32) < 0) = False from eq_false (by decide), hy_setk, a2, hy_cts, show (1 : Int32) + -1 = 0 from rfl, v1, b2, show (0 : Int32) + -1 = -1 from rfl, show ((-1 : Int32) < 0) = True from eq_true (by decide)]
theorem C_fr {M M' : hz_M} {q : Nat → Int32} (h : FC M M') (C : hy_C M q) : hy_C M' q := by
  obtain ⟨hZ, hH, hR⟩ := C
  refine ⟨hZ, ?_, ?_⟩
  · unfold hy_Ho nmd at *
    rw [h 1 (by omega) (by omega), h 2 (by omega) (by omega), h 3 (by omega) (by omega), h 4 (by omega) (by omega)]
    exact hH
  · unfold hy_RC at *
    rw [h 11 (by omega) (by omega), h (11 + 13) (by omega) (by omega), h (11 + 1) (by omega) (by omega), h (11 + 2) (by omega) (by omega), h (11 + 3) (by omega) (by omega), h (11 + 4) (by omega) (by omega), h (11 + 5) (by omega) (by omega), h (11 + 6) (by omega) (by omega), h (11 + 7) (by omega) (by omega), h (11 + 8) (by omega) (by omega), h (11 + 9) (by omega) (by omega), h (11 + 10) (by omega) (by omega), h (11 + 11) (by omega) (by omega), h (11 + 12) (by omega) (by omega)]
    exact hR
theorem j_name (kk : Int32 → Int32 → hz_M → hz_O) {q : Nat → Int32} {g m : Nat} {c : Nat → Nat} (x : Int32) (hg : g < gz q) (h1 : 1 ≤ m) (h6 : m ≤ 6) (hc : ∀ i, i < m → 1 ≤ c i ∧ c i ≤ 26) (hv : q (25 + 8 * g) = nI (pn c m)) : ∀ (k i n f f' : Nat) (Mc Mr : hz_M), hy_C Mc q → Mr 179 = q → Mc 4 g = nI m → (∀ i, i < m → Mc 3 (6 * g + i) = nI (96 + c i)) → i + k = m → n + k ≤ 256 → RJ n Mc Mr → k < f → k < f' →
    ∃ Mc' Mr', f_X5_putName_L2 f (nI g) (nI i) Mc = some (0, Mc') ∧ f_X11_writesGuests_L47 kk f' x (nI g) (nI i) Mr = kk x (nI g) Mr' ∧ RJ (n + k) Mc' Mr' ∧ FC Mc Mc' ∧ FR Mr Mr'
  | 0, i, n, f, f', Mc, Mr, C, hq, h4, hl, hi, hn, R, hf, hf' => by
    obtain ⟨f, rfl⟩ : ∃ e, f = e + 1 := ⟨f - 1, by omega⟩
    obtain ⟨f', rfl⟩ : ∃ e, f' = e + 1 := ⟨f' - 1, by omega⟩
    have z2 := C.1.1.2
    have e : m ≤ i := by omega
    refine ⟨Mc, Mr, ?_, ?_, R, fun _ _ _ => rfl, fun _ _ _ _ => rfl, fun _ _ => rfl⟩
    · simp (disch := omega) only [f_X5_putName_L2, hy_in, hy_gt, hy_c, h4, hy_le, e, if_true]
    · have lt := r_letter Mr h1 h6 hc (nI i)
      rw [if_pos (Or.inr (by rw [hy_le (by omega) (by omega)]; exact e))] at lt
      simp (disch := omega) only [f_X11_writesGuests_L47, r_of0, hq, hv, hy_cts, lt, if_true]
  | k + 1, i, n, f, f', Mc, Mr, C, hq, h4, hl, hi, hn, R, hf, hf' => by
    obtain ⟨f, rfl⟩ : ∃ e, f = e + 1 := ⟨f - 1, by omega⟩
    obtain ⟨f', rfl⟩ : ∃ e, f' = e + 1 := ⟨f' - 1, by omega⟩
    have z2 := C.1.1.2
    have e : ¬ m ≤ i := by omega
    have hne : ¬ (nI i < 0 ∨ nI m ≤ nI i) := by
      rw [hy_0, hy_lt (by omega) (by omega), hy_le (by omega) (by omega)]; omega
    have lt := r_letter Mr h1 h6 hc (nI i)
    rw [if_neg hne, hy_c (by omega)] at lt
    have e1 : ¬ nI i < 0 := fun h => hne (Or.inl h)
    have e2 : nI i < nI m := by rw [hy_lt (by omega) (by omega)]; omega
    have ci := hc i (by omega)
    have cl : f_X3_letterOf (nI g) (nI i) Mc = some (nI (96 + c i), Mc) := by
      simp (disch := omega) only [f_X3_letterOf, c_isGuest C hg, hy_cts, hy_f10, if_false, e1, hy_in, hy_gt, hy_c, h4, e2, if_true, show (6 : Int32) = nI 6 from rfl, hy_mul, hy_add, Nat.mul_comm g 6, hl i (by omega)]
    obtain ⟨Mc1, Mr1, a1, a2, a3, a4, a5, _⟩ := j_put (nI (96 + c i)) (by omega) R
    obtain ⟨Mc2, Mr2, b1, b2, b3, b4, b5⟩ := j_name kk x hg h1 h6 hc hv k (i + 1) (n + 1) f f' Mc1 Mr1 (C_fr a4 C) (by rw [a5.1 179 (by omega) (by omega) (by omega)]; exact hq) (by rw [a4 4 (by omega) (by omega)]; exact h4) (fun i hi => by rw [a4 3 (by omega) (by omega)]; exact hl i hi) (by omega) (by omega) a3 (by omega) (by omega)
    refine ⟨Mc2, Mr2, ?_, ?_, by rw [show n + (k + 1) = n + 1 + k by omega]; exact b3, FC_t a4 b4, FR_t a5 b5⟩
    · simp (disch := omega) only [f_X5_putName_L2, hy_in, hy_gt, hy_c, h4, hy_le, e, if_false, cl, hy_cts, a1, hy_lt', hy_add1, b1]
    · have nn1 : ¬ nI (96 + c i) = -1 := by rw [hy_n1 (by omega)]; exact not_false
      simp (disch := omega) only [f_X11_writesGuests_L47, r_of0, hq, hv, hy_cts, lt, nn1, if_false, a2, hy_lt', hy_add1, b2]
def cN (p : Nat → Bool) : Nat → Nat → Nat
  | 0, _ => 0
  | k + 1, i => (if p i = true then 1 else 0) + cN p k (i + 1)
theorem cN_le (p : Nat → Bool) : ∀ k i, cN p k i ≤ k
  | 0, _ => Nat.le_refl 0
  | k + 1, i => by
    have := cN_le p k (i + 1)
    unfold cN; split <;> omega
theorem cN_add {p a b : Nat → Bool} (h : ∀ j, p j = (a j || b j)) (h2 : ∀ j, ¬ (a j = true ∧ b j = true)) : ∀ k i, cN p k i = cN a k i + cN b k i
  | 0, _ => rfl
  | k + 1, i => by
    have e1 : (if p i = true then 1 else 0) = (if a i = true then 1 else 0) + (if b i = true then 1 else 0) := by
      have h3 := h2 i
      rw [h i]
      cases ha : a i <;> cases hb : b i <;> simp_all
    unfold cN
    rw [cN_add h h2 k (i + 1), e1]; omega
def atF (q : Nat → Int32) (a : Int32) (g : Nat) : Bool := decide (q (25 + 8 * g + 2) = a)
theorem j_gs (kk : hz_M → hz_O) {q : Nat → Int32} (a : Int32) : ∀ (k i n f f' : Nat) (b : Nat) (Mc Mr : hz_M), hy_C Mc q → Mr 179 = q → i + k = gz q → n + 7 * cN (atF q a) k i ≤ 255 → RJ n Mc Mr → k < f → k < f' → b ≤ 1 →
    ∃ n' Mc' Mr', n' ≤ n + 7 * cN (atF q a) k i ∧ f_X5_putGuestsAt_L11 f a (nI (1 - b)) (nI i) Mc = some (0, Mc') ∧ f_X11_writesGuests_L10 kk f' a (nI b) (nI i) Mr = kk Mr' ∧ RJ n' Mc' Mr' ∧ FC Mc Mc' ∧ FR Mr Mr'
  | 0, i, n, f, f', b, Mc, Mr, C, hq, hi, hn, R, hf, hf', hb => by
    obtain ⟨f, rfl⟩ : ∃ e, f = e + 1 := ⟨f - 1, by omega⟩
    obtain ⟨f', rfl⟩ : ∃ e, f' = e + 1 := ⟨f' - 1, by omega⟩
    obtain ⟨z1, z2⟩ := C.1.1
    have b3 := C.2.1.1
    rw [z1] at b3
    have e : gz q ≤ i := by omega
    refine ⟨n, Mc, Mr, by omega, ?_, ?_, R, fun _ _ _ => rfl, fun _ _ _ _ => rfl, fun _ _ => rfl⟩
    · simp (disch := omega) only [f_X5_putGuestsAt_L11, b3, hy_le, e, if_true]
    · simp (disch := omega) only [f_X11_writesGuests_L10, hq, hy_k11, z1, hy_le, e, if_true]
  | k + 1, i, n, f, f', b, Mc, Mr, C, hq, hi, hn, R, hf, hf', hb => by
    obtain ⟨f, rfl⟩ : ∃ e, f = e + 1 := ⟨f - 1, by omega⟩
    obtain ⟨f', rfl⟩ : ∃ e, f' = e + 1 := ⟨f' - 1, by omega⟩
    obtain ⟨z1, z2⟩ := C.1.1
    have b3 := C.2.1.1
    rw [z1] at b3
    have r13 := (c_rows C.2.2).2.2.2.1 i (by omega)
    have e : ¬ gz q ≤ i := by omega
    have ec : cN (atF q a) (k + 1) i = (if atF q a i = true then 1 else 0) + cN (atF q a) k (i + 1) := rfl
    by_cases e1 : q (25 + 8 * i + 2) = a
    · rw [ec, if_pos (show atF q a i = true from decide_eq_true e1)] at hn ⊢
      obtain ⟨m, c, m1, m6, hc, hv, h4, _⟩ := c_letter C (g := i) (by omega) 0
      have hl : ∀ j, j < m → Mc 3 (6 * i + j) = nI (96 + c j) := fun j hj => by
        obtain ⟨m', c', _, _, hc', hv', h4', h5'⟩ := c_letter C (g := i) (by omega) (nI j)
        have hne : ¬ (nI j < 0 ∨ nI m ≤ nI j) := by
          rw [hy_0, hy_lt (by omega) (by omega), hy_le (by omega) (by omega)]; omega
        have em : m' = m := by rw [h4, hy_eq (by omega) (by omega)] at h4'; exact h4'.symm
        subst em
        have e1 : ¬ nI j < 0 := fun h => hne (Or.inl h)
        have e2 : nI j < nI m' := by rw [hy_lt (by omega) (by omega)]; omega
        rw [if_neg hne, hy_c (by omega)] at h5'
        simp (disch := omega) only [f_X3_letterOf, c_isGuest C (t := i) (by omega), hy_cts, hy_f10, if_false, e1, hy_in, hy_gt, hy_c, h4, e2, if_true, show (6 : Int32) = nI 6 from rfl, hy_mul, hy_add, Nat.mul_comm i 6] at h5'
        have h6' : Mc 3 (6 * i + j) = nI (96 + c' j) := by injection h5' with e; injection e with e1 e2
        have p1 := pn_b m6 (fun i hi => (hc i hi).2)
        have p2 := pn_b m6 (fun i hi => (hc' i hi).2)
        rw [hv, hy_eq (by omega) (by omega)] at hv'
        rw [h6', (pn_inj _ _ hc hc' hv').2 j hj]
      -- the comma
      have step : ∃ n1 Mc1 Mr1, n1 ≤ n + 1 ∧ RJ n1 Mc1 Mr1 ∧ FC Mc Mc1 ∧ FR Mr Mr1 ∧ f_X5_putGuestsAt_L11 (f + 1) a (nI (1 - b)) (nI i) Mc = (hz_ct (f_X5_putName (nI i) Mc1) fun r20 M21 => f_X5_putGuestsAt_L11 f a (nI 0) (nI (i + 1)) M21) ∧
          f_X11_writesGuests_L10 kk (f' + 1) a (nI b) (nI i) Mr = f_X11_writesGuests_L47 (fun (v1_27 : Int32) (v3_28 : Int32) (M29 : hz_M) => f_X11_writesGuests_L10 kk f' v1_27 (nI 1) (v3_28 + 1) M29) hz_FU a (nI i) (nI 0) Mr1 := by
        by_cases b0 : b = 0
        · subst b0
          refine ⟨n, Mc, Mr, by omega, R, fun _ _ _ => rfl, ⟨fun _ _ _ _ => rfl, fun _ _ => rfl⟩, ?_, ?_⟩
          · simp (disch := omega) only [f_X5_putGuestsAt_L11, b3, hy_le, e, if_false, hy_in, hy_gt, hy_jn, hy_c, r13, e1, if_true, show (nI (1 - 0) = 0) = False from eq_false (by decide), hy_lt', hy_add1]
            rfl
          · simp (disch := omega) only [f_X11_writesGuests_L10, hq, hy_k11, z1, hy_le, e, if_false, r_of2, hy_cts, hy_jn, e1, if_true, show (nI 0 = 0) = True from eq_true rfl, hy_lt']
            rfl
        · have b1 : b = 1 := by omega
          subst b1
          obtain ⟨Mc1, Mr1, a1, a2, a3, a4, a5, _⟩ := j_put 44 (by omega) R
          refine ⟨n + 1, Mc1, Mr1, by omega, a3, a4, a5, ?_, ?_⟩
          · simp (disch := omega) only [f_X5_putGuestsAt_L11, b3, hy_le, e, if_false, hy_in, hy_gt, hy_jn, hy_c, r13, e1, if_true, show (nI (1 - 1) = 0) = True from eq_true (by decide), hy_lt', hy_add1, a1, hy_cts]
            rfl
          · simp (disch := omega) only [f_X11_writesGuests_L10, hq, hy_k11, z1, hy_le, e, if_false, r_of2, hy_cts, hy_jn, e1, if_true, show (nI 1 = 0) = False from eq_false (by decide), hy_lt', a2]
            rfl
      obtain ⟨n1, Mc1, Mr1, s1, s2, s3, s4, s5, s6⟩ := step
      obtain ⟨Mc2, Mr2, d1, d2, d3, d4, d5⟩ := j_name (fun (v1_27 : Int32) (v3_28 : Int32) (M29 : hz_M) => f_X11_writesGuests_L10 kk f' v1_27 (nI 1) (v3_28 + 1) M29) a (g := i) (by omega) m1 m6 hc hv m 0 n1 hz_FU hz_FU Mc1 Mr1 (C_fr s3 C) (by rw [s4.1 179 (by omega) (by omega) (by omega)]; exact hq) (by rw [s3 4 (by omega) (by omega)]; exact h4) (fun i hi => by rw [s3 3 (by omega) (by omega)]; exact hl i hi) (by omega) (by omega) s2 (hy_FU (by omega)) (hy_FU (by omega))
      obtain ⟨n3, Mc3, Mr3, c0, c1, c2, c3, c4, c5⟩ := j_gs kk a k (i + 1) (n1 + m) f f' 1 Mc2 Mr2 (C_fr (FC_t s3 d4) C) (by rw [(FR_t s4 d5).1 179 (by omega) (by omega) (by omega)]; exact hq) (by omega) (by omega) d3 (by omega) (by omega) (by omega)
      refine ⟨n3, Mc3, Mr3, by omega, ?_, ?_, c3, FC_t (FC_t s3 d4) c4, FR_t (FR_t s4 d5) c5⟩
      · rw [s5]
        have d1' : f_X5_putName (nI i) Mc1 = some (0, Mc2) := d1
        rw [d1', hy_cts]; exact c1
      · rw [s6, d2, hy_add1]; exact c2
    · rw [ec, if_neg (by unfold atF; rw [decide_eq_true_iff]; exact e1), Nat.zero_add] at hn ⊢
      obtain ⟨n3, Mc3, Mr3, c0, c1, c2, c3, c4, c5⟩ := j_gs kk a k (i + 1) n f f' b Mc Mr C hq (by omega) (by omega) R (by omega) (by omega) hb
      refine ⟨n3, Mc3, Mr3, c0, ?_, ?_, c3, c4, c5⟩
      · simp (disch := omega) only [f_X5_putGuestsAt_L11, b3, hy_le, e, if_false, hy_in, hy_gt, hy_jn, hy_c, r13, e1, hy_lt', hy_add1]
        exact c1
      · simp (disch := omega) only [f_X11_writesGuests_L10, hq, hy_k11, z1, hy_le, e, if_false, r_of2, hy_cts, hy_jn, e1, hy_lt', hy_add1]
        exact c2

