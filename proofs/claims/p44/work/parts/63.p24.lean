theorem wts_rg {q : Nat → Int32} (hQ : hy_Q q) : ∀ (k i c : Nat), i + k ≤ tz q → ∃ d, d ≤ c + 9 * k ∧ hy_fold (fun t c => c + q (153 + 2 * t)) k i (nI c) = nI d
  | 0, _, c, _ => ⟨c, by omega, rfl⟩
  | k + 1, i, c, h => by
    obtain ⟨w, hw, ew⟩ := hQ.2.2.2.2.2.2.1 i (by omega)
    show ∃ d, d ≤ c + 9 * (k + 1) ∧ hy_fold (fun t c => c + q (153 + 2 * t)) k (i + 1) (nI c + q (153 + 2 * i)) = nI d
    rw [ew, hy_add]
    obtain ⟨d, h1, h2⟩ := wts_rg hQ k (i + 1) (c + w) (by omega)
    exact ⟨d, by omega, h2⟩
theorem mw_ok : ∀ t, t < 17 → ∀ s, s < 145 → t = 0 ∨ (hz_n64 (FP.ddiv (FP.i2d (nI s)) (FP.i2d (nI t))) && ((FP.ddiv (FP.i2d (nI s)) (FP.i2d (nI t))) == hz_dd (nI s * 32 + nI t))) = true := by decide +kernel
def bl : Nat → Int32 → UInt32 → Int32 → Option (Int32 × UInt32)
  | 0, _, _, _ => none
  | n + 1, e, m, i => if (126 : Int32) ≤ i then some (e, m) else if 0 ≤ (Op.cmpValue (FP.fcmp m FP.fconst1) .g) then some (e, m) else if hz_n32 (FP.fmul m FP.fconst2) = true then bl n (e + -1) (FP.fmul m FP.fconst2) (i + 1) else none
theorem bl_eq (kk : Int32 → UInt32 → hz_M → hz_O) (M : hz_M) : ∀ (n : Nat) (e : Int32) (m : UInt32) (i : Int32), f_X10_bitsOf_L15 kk n e m i M = (match bl n e m i with | none => none | some p => kk p.1 p.2 M)
  | 0, _, _, _ => rfl
  | n + 1, e, m, i => by
    unfold f_X10_bitsOf_L15 bl
    by_cases h1 : (126 : Int32) ≤ i
    · rw [if_pos h1, if_pos h1]
    · rw [if_neg h1, if_neg h1]
      by_cases h2 : 0 ≤ (Op.cmpValue (FP.fcmp m FP.fconst1) .g)
      · rw [if_pos h2, if_pos h2]
      · rw [if_neg h2, if_neg h2]
        cases h3 : hz_n32 (FP.fmul m FP.fconst2)
        · rfl
        · exact bl_eq kk M n (e + -1) (FP.fmul m FP.fconst2) (i + 1)
def hb1 (x : UInt32) : Option Int32 := if 0 < (Op.cmpValue (FP.fcmp x FP.fconst0) .l) then (match bl hz_FU 127 x 0 with
  | none => none
  | some p => if hz_n32 (FP.fsub p.2 FP.fconst1) = true then (if hz_n32 (FP.fmul (FP.fsub p.2 FP.fconst1) 1258291200) = true then some (((p.1 <<< ((23 : Int32) &&& 31)) ||| (FP.f2i (FP.fmul (FP.fsub p.2 FP.fconst1) 1258291200)))) else none) else none) else some 0
def hb2 (h : Int32) : Bool := hz_n32 (FP.fdiv (FP.i2f h) 1120403456) && (Op.cmpValue (FP.fcmp (FP.fdiv (FP.i2f h) 1120403456) (FP.fdiv (FP.i2f h) 1120403456)) .l == 0) && (hb1 (FP.fdiv (FP.i2f h) 1120403456) == some (UInt32.toInt32 (FP.fdiv (FP.i2f h) 1120403456)))
theorem hb2_ok : ∀ k, k < 101 → hb2 (nI k) = true := by decide +kernel
theorem hb1_eq (x : UInt32) (M : hz_M) (v : Int32) (h : hb1 x = some v) : f_X10_bitsOf x M = some (v, M) := by
  unfold f_X10_bitsOf
  unfold hb1 at h
  by_cases e : 0 < (Op.cmpValue (FP.fcmp x FP.fconst0) .l)
  · rw [if_pos e] at h ⊢
    rw [hy_jn, bl_eq]
    cases hb : bl hz_FU 127 x 0 with
    | none => rw [hb] at h; cases h
    | some p =>
      rw [hb] at h
      show hz_gd (hz_n32 (FP.fsub p.2 FP.fconst1)) (hz_gd (hz_n32 (FP.fmul (FP.fsub p.2 FP.fconst1) 1258291200)) (some ((p.1 <<< ((23 : Int32) &&& 31)) ||| (FP.f2i (FP.fmul (FP.fsub p.2 FP.fconst1) 1258291200)), M))) = _
      cases h1 : hz_n32 (FP.fsub p.2 FP.fconst1)
      · simp only [h1] at h; cases h
      · cases h2 : hz_n32 (FP.fmul (FP.fsub p.2 FP.fconst1) 1258291200)
        · simp only [h1, h2] at h; cases h
        · simp only [h1, h2, if_true] at h
          injection h with h
          rw [hy_gt, hy_gt, h]
  · rw [if_neg e] at h ⊢
    injection h with h
    rw [h]
