theorem hy_div {a b : Nat} (ha : a < 2 ^ 31) (hb : b < 2 ^ 31) (h0 : 0 < b) : nI a / nI b = nI (a / b) := by
  have hle : a / b ≤ a := Nat.div_le_self a b
  apply Int32.toInt_inj.mp
  rw [Int32.toInt_div, hy_toInt ha, hy_toInt hb, hy_toInt (by omega)]
  have e : (a : Int).tdiv (b : Int) = ((a / b : Nat) : Int) := rfl
  rw [e]
  generalize a / b = c at *
  apply Int.bmod_eq_of_le <;> omega
theorem hy_mod {a b : Nat} (ha : a < 2 ^ 31) (hb : b < 2 ^ 31) (h0 : 0 < b) : nI a - nI a / nI b * nI b = nI (a % b) := by
  have hle : a / b * b ≤ a := Nat.div_mul_le_self a b
  rw [hy_div ha hb h0, hy_mul, hy_sub hle]
  congr 1
  have := Nat.div_add_mod a b
  rw [Nat.mul_comm] at this
  generalize a / b * b = x at *
  omega
theorem stm_cg {q q' : Nat → Int32} (h3 : q' 3 = q 3) (h : ∀ v, v < 4 → q' (21 + v) = q (21 + v)) (hv : vz q ≤ 4) : stm q' = stm q := by
  unfold stm
  rw [show vz q' = vz q by unfold vz; rw [h3]]
  exact hy_fold_congr _ _ _ (fun j _ hj b => by rw [h j (by omega)])
theorem stm_mA {q : Nat → Int32} (hv : vz q ≤ 4) : stm (mA q) = stm q := stm_cg (mA_o (by omega) (by omega) (by omega) (by omega)) (fun v hv => mA_o (by omega) (by omega) (by omega) (by omega)) hv
theorem stm_minute {q : Nat → Int32} (hv : vz q ≤ 4) : stm (minute q) = stm q := stm_cg (minute_o (by omega) (by omega) (by omega) (by omega) (by omega) (by omega) (by omega) (by omega) (by omega)) (fun v hv => minute_o (by omega) (by omega) (by omega) (by omega) (by omega) (by omega) (by omega) (by omega) (by omega)) hv
theorem mC_9 {q : Nat → Int32} (hv : vz q ≤ 4) : mC q 9 = nxt (q 9) (stm q) := by
  unfold mC mB
  rw [towN_o _ _ _ _ (by omega) (by omega), hy_ss, stm_mA hv, mA_o (by omega) (by omega) (by omega) (by omega)]
theorem mB_9 {q : Nat → Int32} (hv : vz q ≤ 4) : mB q 9 = nxt (q 9) (stm q) := by
  unfold mB
  rw [hy_ss, stm_mA hv, mA_o (by omega) (by omega) (by omega) (by omega)]
theorem minute_9 {q : Nat → Int32} (hv : vz q ≤ 4) : minute q 9 = nxt (q 9) (stm q) := by
  unfold minute
  rw [gstN_o _ _ _ _ (by omega) (by omega), mC_9 hv]
theorem vz_minute {q : Nat → Int32} : vz (minute q) = vz q := by unfold vz; rw [minute_o (by omega) (by omega) (by omega) (by omega) (by omega) (by omega) (by omega) (by omega) (by omega)]
def hN : Nat → Int32 → Int32 → Int32
  | 0, h, _ => h
  | k + 1, h, s => hN k (nxt h s) s
theorem minN_9 : ∀ (k : Nat) (q : Nat → Int32), vz q ≤ 4 → minN k q 9 = hN k (q 9) (stm q)
  | 0, _, _ => rfl
  | k + 1, q, h => by
    unfold minN hN
    rw [minN_9 k (minute q) (by rw [vz_minute]; exact h), minute_9 h, stm_minute h]
theorem c_hb (h s : Int32) (M : hz_M) : f_X7_heatBehind h s M = some (nxt h s, M) := rfl
theorem c_heatL {M : hz_M} {q : Nat → Int32} (hC : hy_C M q) : ∀ (k i f n : Nat) (h : Int32), i + k = n → n ≤ 1000 → k < f → f_X10_heatIn_L29 f (nI n) h (nI i) M = some (hN k h (stm q), M)
  | 0, i, f, n, h, hi, hn, hf => by
    obtain ⟨f, rfl⟩ : ∃ e, f = e + 1 := ⟨f - 1, by omega⟩
    have e : n ≤ i := by omega
    simp (disch := omega) only [f_X10_heatIn_L29, hy_le, e, if_true, hN]
  | k + 1, i, f, n, h, hi, hn, hf => by
    obtain ⟨f, rfl⟩ : ∃ e, f = e + 1 := ⟨f - 1, by omega⟩
    have e : ¬ n ≤ i := by omega
    have ih := c_heatL hC k (i + 1) f n (nxt h (stm q)) (by omega) hn (by omega)
    simp (disch := omega) only [f_X10_heatIn_L29, hy_le, e, if_false, c_stm hC, hy_cts, c_hb, hy_lt', hy_add1, ih, hN]
