/-! A NEW OBJECT -/
def zM : hz_M := fun _ _ => 0
def chkI : Bool := match f_X8_appendText 0 (hz_set zM 0 9 (-1)) with
  | some (_, M) => (match f_X3_read 1 M with | some (_, M') => M' 1 6 == nI 5 && M' 32 3 == 0 | none => false)
  | none => false
theorem chkI_ok : chkI = true := by decide +kernel
theorem c_init : ∃ (r0 : Int32) (M0 : hz_M), f_X10_init (fun _ _ => 0) = some (r0, M0) ∧ M0 9 1 = 0 ∧ M0 32 3 = 0 := by
  have h := chkI_ok
  unfold chkI at h
  unfold f_X10_init
  rw [hy_lm]
  rw [show (fun _ _ => (0 : Int32) : hz_M) = zM from rfl]
  cases e1 : f_X8_appendText 0 (hz_set zM 0 9 (-1)) with
  | none =>
    rw [e1] at h
    exact absurd h (by decide)
  | some p =>
    obtain ⟨r, M⟩ := p
    rw [e1] at h
    dsimp only at h
    rw [hy_cts]
    cases e2 : f_X3_read 1 M with
    | none =>
      rw [e2] at h
      exact absurd h (by decide)
    | some p =>
      obtain ⟨r', M'⟩ := p
      rw [e2] at h
      dsimp only at h
      rw [Bool.and_eq_true] at h
      have h6 : M' 1 6 = nI 5 := beq_iff_eq.mp h.1
      have h3 : M' 32 3 = 0 := beq_iff_eq.mp h.2
      rw [hy_cts]
      have ec : f_X8_clear M' = some (0, hz_set M' 9 1 0) := by
        unfold f_X8_clear
        rw [hy_lm]
      rw [ec, hy_cts]
      obtain ⟨M2, b1, b2, -⟩ := c_begin (M := hz_set M' 9 1 0) (T := 5) (by omega) (by rw [hy_seto _ _ _ (by omega)]; exact h6)
      rw [b1, hy_cts]
      refine ⟨0, M2, rfl, ?_, ?_⟩
      · rw [b2 9 (by omega), hy_setk]
      · rw [b2 32 (by omega), hy_seto _ _ _ (by omega)]
        exact h3
