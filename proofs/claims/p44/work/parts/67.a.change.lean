theorem c_rec4 {q : Nat → Int32} {M : hz_M} {u w : Nat} (hw : w < 8) (hu : u ≤ 8) (h3 : M 32 3 = nI w) (h4 : M 32 4 = nI u) (S : Snap 11 M q) :
    ∃ Mc, f_X2_record M = some (0, Mc) ∧ Mc 32 3 = nI ((w + 1) % 8) ∧ Mc 32 4 = nI (if u = 8 then 8 else u + 1) ∧ Snap (36 + 14 * ((w + 1) % 8)) Mc q ∧
      (∀ a, a ≠ 32 → (a < 36 + 14 * ((w + 1) % 8) ∨ 36 + 14 * ((w + 1) % 8) + 13 < a) → Mc a = M a) := by
  have key : f_X2_record M = some (0, hz_set (cpM (36 + 14 * ((w + 1) % 8)) 11 (hz_set M 32 3 (nI ((w + 1) % 8)))) 32 4 (nI (if u = 8 then 8 else u + 1))) := by
    have e1 : (if (8 : Int32) ≤ M 32 3 + 1 then (0 : Int32) else M 32 3 + 1) = nI ((w + 1) % 8) := by
      rw [h3, hy_add1]
      by_cases e : 8 ≤ w + 1
      · have e' : (8 : Int32) ≤ nI (w + 1) := by rw [show (8 : Int32) = nI 8 from rfl, hy_le (by omega) (by omega)]; exact e
        rw [if_pos e', show (w + 1) % 8 = 0 by omega]; rfl
      · have e' : ¬ (8 : Int32) ≤ nI (w + 1) := by rw [show (8 : Int32) = nI 8 from rfl, hy_le (by omega) (by omega)]; exact e
        rw [if_neg e', show (w + 1) % 8 = w + 1 by omega]
    have e2 : (if nI u + 1 < (8 : Int32) then nI u + 1 else 8) = nI (if u = 8 then 8 else u + 1) := by
      rw [hy_add1]
      by_cases e : u + 1 < 8
      · have e' : nI (u + 1) < (8 : Int32) := by rw [show (8 : Int32) = nI 8 from rfl, hy_lt (by omega) (by omega)]; exact e
        rw [if_pos e', if_neg (by omega)]
      · have e' : ¬ nI (u + 1) < (8 : Int32) := by rw [show (8 : Int32) = nI 8 from rfl, hy_lt (by omega) (by omega)]; exact e
        rw [if_neg e']
        by_cases e2 : u = 8
        · rw [if_pos e2]; rfl
        · rw [if_neg e2, show u + 1 = 8 by omega]; rfl
    have e3 : ∀ x, x = nI ((w + 1) % 8) → (hz_lm (hz_set M 32 3 x) fun M3 => hz_gd (hz_in (M3 32 3) 8) <| hz_ct (f_X7_copyFrom (hz_pa (M3 32 3)) 11 M3) fun r6 M7 => hz_lm (hz_set M7 32 4 (if ((M7 32 4) + (1 : Int32)) < (8 : Int32) then ((M7 32 4) + (1 : Int32)) else (8 : Int32))) fun M9 => some (0, M9)) = some (0, hz_set (cpM (36 + 14 * ((w + 1) % 8)) 11 (hz_set M 32 3 (nI ((w + 1) % 8)))) 32 4 (nI (if u = 8 then 8 else u + 1))) := by
      intro x hx
      subst hx
      simp (disch := omega) only [hy_lm, hy_setk, hy_in, hy_gt, hz_pa, hy_c, cp_eq, hy_cts, cp_o, hy_setn, h4, e2]
    unfold f_X2_record
    simp only [hy_jn]
    rw [← e3 _ e1]
    split <;> rfl
  refine ⟨_, key, ?_, ?_, ?_, ?_⟩
  · simp (disch := omega) only [hy_setn, cp_o, hy_setk]
  · simp only [hy_setk]
  · have S2 : Snap 11 (hz_set M 32 3 (nI ((w + 1) % 8))) q := Snap_fr (fun a ha => by rw [hy_seto _ _ _ (by omega)]) S
    have S3 := cp_Snap (b1 := 36 + 14 * ((w + 1) % 8)) (b2 := 11) (by omega) (by omega) S2
    exact Snap_fr (fun a ha => by rw [hy_seto _ _ _ (by omega)]) S3
  · intro a h1 h2
    simp (disch := omega) only [hy_seto, cp_o]
/-- the ring of the latest states -/
def Ring (M : hz_M) (qs : Nat → Nat → Int32) (n : Nat) : Prop := ∃ u w : Nat, u ≤ 8 ∧ w < 8 ∧ (u = n ∨ (u = 8 ∧ 8 ≤ n)) ∧ M 32 4 = nI u ∧ M 32 3 = nI w ∧ ∀ j, j < u → Snap (36 + 14 * ((w + 9 + j - u) % 8)) M (qs (n - u + j))
theorem Ring_fr {M M' : hz_M} {qs : Nat → Nat → Int32} {n : Nat} (h : ∀ a, (a = 1 ∨ a = 2 ∨ a = 3 ∨ a = 4 ∨ a = 32 ∨ (36 ≤ a ∧ a ≤ 147)) → M' a = M a) (R : Ring M qs n) : Ring M' qs n := by
  obtain ⟨u, w, h1, h2, h3, h4, h5, h6⟩ := R
  refine ⟨u, w, h1, h2, h3, by rw [h 32 (by omega)]; exact h4, by rw [h 32 (by omega)]; exact h5, fun j hj => Snap_fr (fun a ha => h a (by omega)) (h6 j hj)⟩
theorem Ring_n {M : hz_M} {qs : Nat → Nat → Int32} {n : Nat} (hn : n ≤ 100000) (R : Ring M qs n) : M 32 4 = (if nI n < 8 then nI n else 8) := by
  obtain ⟨u, w, h1, h2, h3, h4, h5, h6⟩ := R
  rw [h4]
  have e := hy_lt (a := n) (b := 8) (by omega) (by omega)
  rw [show (8 : Int32) = nI 8 from rfl]
  rcases h3 with h3 | ⟨h3, h7⟩
  · subst h3
    by_cases c : u < 8
    · rw [if_pos (e.mpr c)]
    · rw [if_neg (fun x => c (e.mp x)), show u = 8 by omega]
  · rw [if_neg (fun x => by have := e.mp x; omega), h3]
def qadd (qs : Nat → Nat → Int32) (n : Nat) (q : Nat → Int32) : Nat → Nat → Int32 := fun i => if i = n then q else qs i
theorem Ring_rec {M : hz_M} {qs : Nat → Nat → Int32} {n : Nat} {q : Nat → Int32} (R : Ring M qs n) (W : hy_W M q) (T : hy_T q) : ∃ Mc, f_X2_record M = some (0, Mc) ∧ Ring Mc (qadd qs n q) (n + 1) ∧ (∀ a, (a ≠ 32 ∧ (a < 36 ∨ 147 < a)) → Mc a = M a) ∧ hy_W Mc q := by
  obtain ⟨u, w, hu, hw, h3, h4, h5, h6⟩ := R
  have S0 : Snap 11 M q := ⟨W.1.1, W.1.2.1, W.1.2.2, W.2.1, T, W.2.2⟩
  obtain ⟨Mc, e, c3, c4, cS, cf⟩ := c_rec4 hw hu h5 h4 S0
  have cf2 : ∀ a, (a ≠ 32 ∧ (a < 36 ∨ 147 < a)) → Mc a = M a := fun a ha => cf a ha.1 (by omega)
  refine ⟨Mc, e, ?_, cf2, W_fr (fun a ha => cf2 a (by omega)) W T⟩
  refine ⟨if u = 8 then 8 else u + 1, (w + 1) % 8, by split <;> omega, by omega, by split <;> omega, c4, c3, fun j hj => ?_⟩
  by_cases e8 : u = 8
  · rw [if_pos e8] at hj ⊢
    by_cases ej : j = 7
    · subst ej
      rw [show ((w + 1) % 8 + 9 + 7 - 8) % 8 = (w + 1) % 8 by omega, show n + 1 - 8 + 7 = n by omega]
      unfold qadd
      rw [if_pos rfl]
      exact cS
    · have h := h6 (j + 1) (by omega)
      rw [show ((w + 1) % 8 + 9 + j - 8) % 8 = (w + 9 + (j + 1) - u) % 8 by omega, show n + 1 - 8 + j = n - u + (j + 1) by omega]
      unfold qadd
      rw [if_neg (by omega)]
      exact Snap_fr (fun a ha => cf a (by omega) (by omega)) h
  · rw [if_neg e8] at hj ⊢
    have hn : u = n := by omega
    by_cases ej : j = u
    · subst ej
      rw [show ((w + 1) % 8 + 9 + j - (j + 1)) % 8 = (w + 1) % 8 by omega, show n + 1 - (j + 1) + j = n by omega]
      unfold qadd
      rw [if_pos rfl]
      exact cS
    · have h := h6 j (by omega)
      rw [show ((w + 1) % 8 + 9 + j - (u + 1)) % 8 = (w + 9 + j - u) % 8 by omega, show n + 1 - (u + 1) + j = n - u + j by omega]
      unfold qadd
      rw [if_neg (by omega)]
      exact Snap_fr (fun a ha => cf a (by omega) (by omega)) h
/-- rows that no deed of the class touches -/
def CF (a : Nat) : Prop := a < 11 ∨ (24 < a ∧ a ≠ 26 ∧ a ≠ 32 ∧ (a < 36 ∨ 147 < a))
theorem ch_do {M : hz_M} {q q' : Nat → Int32} {c g n r : Int32} {qs : Nat → Nat → Int32} {k : Nat} (W : hy_W M q) (T : hy_T q) (R : Ring M qs k) (hr : f_X1_refusal c g n M = some (0, M)) (hp : ∀ Mc, hy_W Mc q → ∃ M1, f_X1_perform c g n Mc = some (r, M1) ∧ (∀ a, (a < 11 ∨ 24 < a) → M1 a = Mc a) ∧ hy_W M1 q') : ∃ M1, f_X10_change c g n M = some (r, M1) ∧ hy_W M1 q' ∧ Ring M1 (qadd qs k q) (k + 1) ∧ (∀ a, (CF a ∨ a = 26) → M1 a = M a) := by
  obtain ⟨Mc, e, R1, fr, Wc⟩ := Ring_rec R W T
  obtain ⟨M1, e1, fr1, W1⟩ := hp Mc Wc
  refine ⟨M1, ?_, W1, Ring_fr (fun a ha => fr1 a (by omega)) R1, fun a ha => ?_⟩
  · unfold f_X10_change
    rw [hr, hy_cts, if_pos rfl, e, hy_cts, e1, hy_cts]
  · unfold CF at ha
    rw [fr1 a (by omega), fr a (by omega)]
theorem ch_no {M : hz_M} {c g n k : Int32} (hr : f_X1_refusal c g n M = some (k, M)) (hk : k ≠ 0) : f_X10_change c g n M = some (k, hz_set M 26 3 (M 26 3 + 1)) := by
  unfold f_X10_change
  rw [hr, hy_cts, if_neg hk, hy_lm]
theorem T_add {q' : Nat → Int32} {n : Nat} (h8 : q' 8 = nI n) (hn : n ≤ 9999) (h10 : q' 10 = -1 ∨ ∃ j, j ≤ n ∧ q' 10 = nI j) : hy_T q' := ⟨n, hn, h8, h10⟩
