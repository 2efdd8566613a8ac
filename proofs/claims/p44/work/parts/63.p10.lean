theorem c_silence {M : hz_M} {q : Nat → Int32} (hC : hy_C M q) : f_X7_isSilence M = some (if q 10 = -1 then 0 else if q 10 + q 7 ≤ q 8 then 0 else 1, M) := by
  have hC0 := hC
  obtain ⟨hZ, ⟨b3, b4, b5, b6, b7, b8, bag, bnm⟩, hRR⟩ := hC
  have hZ0 := hZ
  obtain ⟨⟨s1, s2, s3, s4, s5, s6⟩, ra, ro, rp, rl, rt, rs, rw', rd, rwt, rpg, rk, rh, rtw⟩ := c_rows hRR
  obtain ⟨⟨z1, z2⟩, ⟨z3, z4, z5⟩, ⟨z6, z7, z8⟩, ⟨z9, z10⟩, ⟨z11, z12, z13⟩, ⟨z14, z15, z16⟩⟩ := hZ
  rw [z1] at b3; rw [z3] at b4; rw [z6] at b5; rw [z9] at b6; rw [z11] at b7; rw [z14] at b8
  simp only [f_X7_isSilence, s1, s3, s6]
  repeat (first | rfl | split)
theorem c_frLs {q : Nat → Int32} (hZ : hy_Z q) : q 0 - inUse q = frLs q := by
  rw [← inUse_eq hZ]
  generalize q 0 = x
  generalize frLs q = y
  grind
/-- the highest step -/
def hgh (q : Nat → Int32) (g : Nat) : Nat → Int32
  | 0 => 0
  | k + 1 => if nSit q g (nI (k + 1)) = 0 then nI (k + 1) else hgh q g k
theorem hy_dec (k : Nat) : nI (k + 1) + -1 = nI k := by
  rw [← Int32.sub_eq_add_neg, hy_1, hy_sub (by omega)]; rfl
theorem c_hgh {M : hz_M} {q : Nat → Int32} (hC : hy_C M q) (hQ : hy_Q q) {g : Nat} (hg : g < gz q) : ∀ k f, k ≤ sz q → k < f → f_X10_highest_L19 f (nI g) (nI k) M = some (hgh q g k, M)
  | 0, f, _, hf => by
    obtain ⟨f, rfl⟩ : ∃ e, f = e + 1 := ⟨f - 1, by omega⟩
    have e : nI 0 < 1 := by decide
    simp only [f_X10_highest_L19, hgh, e, if_true]
  | k + 1, f, hk, hf => by
    obtain ⟨f, rfl⟩ : ∃ e, f = e + 1 := ⟨f - 1, by omega⟩
    have h6 : sz q ≤ 6 := hC.1.2.2.2.2.2.2.2
    have e : ¬ nI (k + 1) < 1 := by rw [hy_1, hy_lt (by omega) (by omega)]; omega
    simp only [f_X10_highest_L19, hgh, e, if_false, show (10 : Int32) = nI 10 from rfl, hy_add, c_rsn hC hQ hg (d := nI (10 + (k + 1))) (Or.inr (Or.inr (Or.inl ⟨k + 1, by omega, hk, rfl⟩))), rsn_sit q g (s := k + 1) (by omega) (by omega), hy_cts, hy_lt', hy_dec]
    by_cases e2 : nSit q g (nI (k + 1)) = 0
    · simp only [e2, if_true]
    · simp only [e2, if_false]
      exact c_hgh hC hQ hg k f (by omega) (by omega)
