
theorem hy_div {a b : Nat} (ha : a < 2 ^ 31) (hb : b < 2 ^ 31) (h0 : 0 < b) : nI a / nI b = nI (a / b) := by
  have hle : a / b ≤ a := Nat.div_le_self a b
  apply Int32.toInt_inj.mp
  rw [Int32.toInt_div, hy_toInt ha, hy_toInt hb, hy_toInt (by omega)]
  have e : (a : Int).tdiv (b : Int) = ((a / b : Nat) : Int) := rfl
  rw [e]
  generalize a / b = c at *
  apply Int.bmod_eq_of_le <;> omega
theorem hy_mod {a b : Nat} (ha : a < 2 ^ 31) (hb : b < 2 ^ 31) (h0 : 0 < b) : nI a - nI a / nI b * nI b = nI (a % b) := by
  have hle : a / b * b ≤ a := Nat.div_mul_le_self a b
  rw [hy_div ha hb h0, hy_mul, hy_sub hle]
  congr 1
  have := Nat.div_add_mod a b
  rw [Nat.mul_comm] at this
  generalize a / b * b = x at *
  omega
theorem Inv_fr2 {M M' : hz_M} (h : ∀ a, (a ≤ 4 ∨ (9 ≤ a ∧ a ≤ 24) ∨ a = 26 ∨ a = 32 ∨ (35 ≤ a ∧ a ≤ 177) ∨ a = 179 ∨ (182 ≤ a ∧ a ≤ 184) ∨ a = 186 ∨ a = 191) → M' a = M a) (h8 : ∀ b, b ≠ 8 → M' 178 b = M 178 b) (I : Inv M) : Inv M' := by
  have W := I_W I
  have T := I_T I
  obtain ⟨i1, i2, i3, i4, i5, i6, i7, i8⟩ := I
  refine Inv_mk (W_fr (fun a ha => h a (by omega)) W T) T (h 179 (by omega)) (Hist_fr (fun a ha => h a (by omega)) (h8 6 (by omega)) i2) (Save_fr (fun a ha => h a (by omega)) i3) ?_ ?_ (Txt_fr (fun a ha => h a (by omega)) (h8 11 (by omega)) i6) (Rep_fr (fun a ha => h a (by omega)) (h8 27 (by omega)) i7) ?_
  · rw [h 26 (by omega), h8 7 (by omega)]; exact i4
  · rw [h 0 (by omega), h8 12 (by omega)]; exact i5
  · rw [h8 24 (by omega)]; exact i8
theorem g_sim {M : hz_M} {A X : hz_O} {B : hz_M → hz_O} {r : Int32} (I : Inv M) (hA : A = some (r, M)) (hB : ∀ Y : hz_M, Y 179 = M 179 → ∃ Y', B Y = some (r, Y') ∧ Y' 178 8 = 0 ∧ (∀ b, b ≠ 8 → Y' 178 b = Y 178 b) ∧ ∀ a, a ≠ 178 → a ≠ 180 → a ≠ 185 → Y' a = Y a) : ∃ M', hy_go A X B = some (0, M') ∧ Inv M' := by
  obtain ⟨Y', b1, b2, b3, b4⟩ := hB (hz_set M 193 0 r) (by rw [hy_seto _ _ _ (by omega)])
  refine ⟨Y', hy_okc hA b1 b2 (by rw [b4 193 (by omega) (by omega) (by omega), hy_setk]), Inv_fr2 (fun a ha => ?_) (fun b hb => ?_) I⟩
  · rw [b4 a (by omega) (by omega) (by omega), hy_seto _ _ _ (by omega)]
  · rw [b3 b hb, hy_seto _ _ _ (by omega)]
theorem g_sime {M : hz_M} {A : hz_O} {B : hz_M → hz_O} {r : Int32} (I : Inv M) (hA : A = some (r, M)) (hB : ∃ Y', B M = some (r, Y') ∧ Y' 178 8 = 0 ∧ (∀ b, b ≠ 8 → Y' 178 b = M 178 b) ∧ ∀ a, a ≠ 178 → a ≠ 180 → a ≠ 185 → Y' a = M a) : ∃ M', hy_ge A B = some (0, M') ∧ Inv M' := by
  obtain ⟨Y', b1, b2, b3, b4⟩ := hB
  exact ⟨Y', hy_gec hA b1, Inv_fr2 (fun a ha => b4 a (by omega) (by omega) (by omega)) b3 I⟩
theorem r_tries (X : hz_M) : ∃ X1, f_X11_tries X = some (0, X1) ∧ (∀ b, b < 185 → X1 180 b = X 179 b) ∧ ∀ a, a ≠ 180 → X1 a = X a := by
  refine ⟨_, k_tries 185 0 hz_FU X (by omega) (hy_FU (by omega)), ?_, fun a h => hy_ro _ _ h⟩
  intro b hb
  rw [hy_rs, if_pos (by omega)]; rfl
theorem r_back {Y : hz_M} {q : Nat → Int32} (a : Int32) (h180 : ∀ b, b < 185 → Y 180 b = q b) (hX : hy_X q) (hY : hy_X (Y 179)) : f_X11_back a Y = some (a, hy_row Y 179 q) := by
  have := k_back a 185 0 hz_FU Y (by omega) (hy_FU (by omega))
  have e : (fun b => if 0 + 0 ≤ b ∧ b < 0 + 185 then Y 180 (b - 0 + 0) else Y 179 b) = q := by
    funext b
    by_cases hb : b < 185
    · rw [if_pos (by omega)]; exact h180 b hb
    · rw [if_neg (by omega), hY b (by omega), hX b (by omega)]
  rw [e] at this
  exact this
/-- what a simulation does: behind it all is as before -/
theorem r_sim {X X1 X2 : hz_M} {q : Nat → Int32} (a : Int32) (hq : X 179 = q) (hX : hy_X q) (h1 : ∀ b, b < 185 → X1 180 b = X 179 b) (h2 : ∀ a, a ≠ 180 → X1 a = X a) (h3 : ∀ a, a ≠ 179 → a ≠ 185 → X2 a = X1 a) (h4 : hy_X (X2 179)) (h8 : X 178 8 = 0) :
    f_X11_back a X2 = some (a, hy_row X2 179 q) ∧ hy_row X2 179 q 178 8 = 0 ∧ (∀ b, hy_row X2 179 q 178 b = X 178 b) ∧ ∀ c, c ≠ 178 → c ≠ 180 → c ≠ 185 → hy_row X2 179 q c = X c := by
  refine ⟨r_back a (fun b hb => by rw [h3 180 (by omega) (by omega), h1 b hb, hq]) hX h4, ?_, ?_, ?_⟩
  · rw [hy_ro _ _ (by omega), h3 178 (by omega) (by omega), h2 178 (by omega)]; exact h8
  · intro b; rw [hy_ro _ _ (by omega), h3 178 (by omega) (by omega), h2 178 (by omega)]
  · intro c c1 c2 c3
    by_cases e : c = 179
    · subst e; rw [hy_rs, hq]
    · rw [hy_ro _ _ e, h3 c e c3, h2 c c2]
theorem stm_cg {q q' : Nat → Int32} (h3 : q' 3 = q 3) (h : ∀ v, v < 4 → q' (21 + v) = q (21 + v)) (hv : vz q ≤ 4) : stm q' = stm q := by
  unfold stm
  rw [show vz q' = vz q by unfold vz; rw [h3]]
  exact hy_fold_congr _ _ _ (fun j _ hj b => by rw [h j (by omega)])
theorem stm_mA {q : Nat → Int32} (hv : vz q ≤ 4) : stm (mA q) = stm q := stm_cg (mA_o (by omega) (by omega) (by omega) (by omega)) (fun v hv => mA_o (by omega) (by omega) (by omega) (by omega)) hv
theorem stm_minute {q : Nat → Int32} (hv : vz q ≤ 4) : stm (minute q) = stm q := stm_cg (minute_o (by omega) (by omega) (by omega) (by omega) (by omega) (by omega) (by omega) (by omega) (by omega)) (fun v hv => minute_o (by omega) (by omega) (by omega) (by omega) (by omega) (by omega) (by omega) (by omega) (by omega)) hv
theorem mC_9 {q : Nat → Int32} (hv : vz q ≤ 4) : mC q 9 = nxt (q 9) (stm q) := by
  unfold mC mB
  rw [towN_o _ _ _ _ (by omega) (by omega), hy_ss, stm_mA hv, mA_o (by omega) (by omega) (by omega) (by omega)]
theorem mB_9 {q : Nat → Int32} (hv : vz q ≤ 4) : mB q 9 = nxt (q 9) (stm q) := by
  unfold mB
  rw [hy_ss, stm_mA hv, mA_o (by omega) (by omega) (by omega) (by omega)]
theorem minute_9 {q : Nat → Int32} (hv : vz q ≤ 4) : minute q 9 = nxt (q 9) (stm q) := by
  unfold minute
  rw [gstN_o _ _ _ _ (by omega) (by omega), mC_9 hv]
theorem vz_minute {q : Nat → Int32} : vz (minute q) = vz q := by unfold vz; rw [minute_o (by omega) (by omega) (by omega) (by omega) (by omega) (by omega) (by omega) (by omega) (by omega)]
def hN : Nat → Int32 → Int32 → Int32
  | 0, h, _ => h
  | k + 1, h, s => hN k (nxt h s) s
theorem minN_9 : ∀ (k : Nat) (q : Nat → Int32), vz q ≤ 4 → minN k q 9 = hN k (q 9) (stm q)
  | 0, _, _ => rfl
  | k + 1, q, h => by
    unfold minN hN
    rw [minN_9 k (minute q) (by rw [vz_minute]; exact h), minute_9 h, stm_minute h]
theorem c_hb (h s : Int32) (M : hz_M) : f_X7_heatBehind h s M = some (nxt h s, M) := rfl
theorem c_heatL {M : hz_M} {q : Nat → Int32} (hC : hy_C M q) : ∀ (k i f n : Nat) (h : Int32), i + k = n → n ≤ 1000 → k < f → f_X10_heatIn_L29 f (nI n) h (nI i) M = some (hN k h (stm q), M)
  | 0, i, f, n, h, hi, hn, hf => by
    obtain ⟨f, rfl⟩ : ∃ e, f = e + 1 := ⟨f - 1, by omega⟩
    have e : n ≤ i := by omega
    simp (disch := omega) only [f_X10_heatIn_L29, hy_le, e, if_true, hN]
  | k + 1, i, f, n, h, hi, hn, hf => by
    obtain ⟨f, rfl⟩ : ∃ e, f = e + 1 := ⟨f - 1, by omega⟩
    have e : ¬ n ≤ i := by omega
    have ih := c_heatL hC k (i + 1) f n (nxt h (stm q)) (by omega) hn (by omega)
    simp (disch := omega) only [f_X10_heatIn_L29, hy_le, e, if_false, c_stm hC, hy_cts, c_hb, hy_lt', hy_add1, ih, hN]
theorem r_heatL (kk : hz_M → hz_O) : ∀ (k i f n : Nat) (M Mw : hz_M), hy_W Mw (M 179) → i + k = n → n ≤ 1000 → k < f → ∃ M' Mw', f_X11_heatIn_L28 kk f (nI n) (nI i) M = kk M' ∧ M' 179 = minN k (M 179) ∧ hy_W Mw' (M' 179) ∧ ∀ a, a ≠ 179 → a ≠ 185 → M' a = M a
  | 0, i, f, n, M, Mw, W, hi, hn, hf => by
    obtain ⟨f, rfl⟩ : ∃ e, f = e + 1 := ⟨f - 1, by omega⟩
    have e : n ≤ i := by omega
    refine ⟨M, Mw, ?_, rfl, W, fun _ _ _ => rfl⟩
    simp (disch := omega) only [f_X11_heatIn_L28, hy_le, e, if_true]
  | k + 1, i, f, n, M, Mw, W, hi, hn, hf => by
    obtain ⟨f, rfl⟩ : ∃ e, f = e + 1 := ⟨f - 1, by omega⟩
    have e : ¬ n ≤ i := by omega
    obtain ⟨Mw1, _, _, W1⟩ := c_min (fun _ _ => none) 0 (f := 0) (n := 1) (i := 0) W (by omega) (by omega)
    obtain ⟨M1, a1, a2, _, a4⟩ := r_min W rfl
    obtain ⟨M2, Mw2, b1, b2, b5, b3⟩ := r_heatL kk k (i + 1) f n M1 Mw1 (by rw [a2]; exact W1) (by omega) hn (by omega)
    refine ⟨M2, Mw2, ?_, by rw [b2, a2]; rfl, b5, fun a h1 h2 => by rw [b3 a h1 h2, a4 a h1 h2]⟩
    simp (disch := omega) only [f_X11_heatIn_L28, hy_le, e, if_false, a1, hy_cts, hy_lt', hy_add1, b1]
theorem g_20 {M : hz_M} (I : Inv M) (a : Int32) : ∃ M', fs_20 a M = some (0, M') ∧ Inv M' := by
  have hC := I_C I
  have hQ := I_Q I
  have hq := fun r => q_1 M r 0
  have hq2 := q_2 M 0
  have hC0 := hC
  obtain ⟨hZ, ⟨b3, b4, b5, b6, b7, b8, bag, bnm⟩, hRR⟩ := hC
  have hZ0 := hZ
  obtain ⟨⟨s1, s2, s3, s4, s5, s6⟩, ra, ro, rp, rl, rt, rs, rw', rd, rwt, rpg, rk, rh, rtw⟩ := c_rows hRR
  obtain ⟨⟨z1, z2⟩, ⟨z3, z4, z5⟩, ⟨z6, z7, z8⟩, ⟨z9, z10⟩, ⟨z11, z12, z13⟩, ⟨z14, z15, z16⟩⟩ := hZ
  rw [z1] at b3; rw [z3] at b4; rw [z6] at b5; rw [z9] at b6; rw [z11] at b7; rw [z14] at b8
  show ∃ M', hy_go (f_X10_heatIn a M) (fx_X10_heatIn a M) (f_X11_heatIn a) = some (0, M') ∧ Inv M'
  by_cases e1 : a < 0
  · refine g_no (r := 0) I ?_ ?_ ?_
    · simp only [f_X10_heatIn, e1, hy_cts, hy_ctn, hy_xts, hy_xtn, c_need0, c_need1, x_need0, x_need1, hy_jn, hy_lm, hy_lt', hy_gt, if_true, if_false, hy_f10]
    · simp only [fx_X10_heatIn, e1, hy_cts, hy_ctn, hy_xts, hy_xtn, c_need0, c_need1, x_need0, x_need1, hy_jn, hy_lm, hy_lt', hy_gt, if_true, if_false, hy_f10]
    · simp only [f_X11_heatIn, r_in_no _ (Or.inl e1), r_right0, hy_cts, hy_ctn, hy_xts, hy_xtn, c_need0, c_need1, x_need0, x_need1, hy_jn, hy_lm, hy_lt', hy_gt, if_true, if_false, hy_f10]
  by_cases e2 : 200 < a
  · refine g_no (r := 0) I ?_ ?_ ?_
    · simp only [f_X10_heatIn, e1, e2, hy_cts, hy_ctn, hy_xts, hy_xtn, c_need0, c_need1, x_need0, x_need1, hy_jn, hy_lm, hy_lt', hy_gt, if_true, if_false, hy_f10]
    · simp only [fx_X10_heatIn, e1, e2, hy_cts, hy_ctn, hy_xts, hy_xtn, c_need0, c_need1, x_need0, x_need1, hy_jn, hy_lm, hy_lt', hy_gt, if_true, if_false, hy_f10]
    · simp only [f_X11_heatIn, r_in_no _ (Or.inr e2), r_right0, hy_cts, hy_ctn, hy_xts, hy_xtn, c_need0, c_need1, x_need0, x_need1, hy_jn, hy_lm, hy_lt', hy_gt, if_true, if_false, hy_f10]
  · obtain ⟨n, hn, rfl⟩ := hy_ex' (x := a) (n := 200) (by grind) (by rw [show nI 200 = (200 : Int32) from rfl]; grind) (by omega)
    refine g_sim (r := hN n (M 179 9) (stm (M 179))) I ?_ (fun Y hY => ?_)
    · have e := c_heatL hC0 n 0 hz_FU n (M 179 9) (by omega) (by omega) (hy_FU (by omega))
      simp only [f_X10_heatIn, e1, e2, s2, hy_cts, hy_ctn, hy_xts, hy_xtn, c_need0, c_need1, x_need0, x_need1, hy_jn, hy_lm, hy_lt', hy_gt, if_true, if_false, hy_f10]
      exact e
    · have h0 : hz_set Y 178 8 0 179 = M 179 := by rw [hy_seto _ _ _ (by omega)]; exact hY
      obtain ⟨X1, t1, t2, t3⟩ := r_tries (hz_set Y 178 8 0)
      obtain ⟨X2, Mw2, b1, b2, b5, b3⟩ := r_heatL (fun (M12 : hz_M) => hz_ct (f_X11_back (M12 179 (Int32.toNatClampNeg (9 : Int32))) M12) fun r13 M14 => some (r13, M14)) n 0 hz_FU n X1 M (by rw [t3 179 (by omega), h0]; exact I_W I) (by omega) (by omega) (hy_FU (by omega))
      obtain ⟨c1, c2, c3, c4⟩ := r_sim (X := hz_set Y 178 8 0) (hN n (M 179 9) (stm (M 179))) h0 (I_W I).2.2 t2 t3 b3 b5.2.2 (hy_setk _ _ _ _)
      refine ⟨_, ?_, c2, fun b hb => by rw [c3 b, hy_setn _ _ _ hb], fun a a1 a2 a3 => by rw [c4 a a1 a2 a3, hy_seto _ _ _ a1]⟩
      have e9 : X2 179 9 = hN n (M 179 9) (stm (M 179)) := by rw [b2, t3 179 (by omega), h0]; exact minN_9 n _ z13
      simp only [f_X11_heatIn, r_in_ok _ (show (0 : Int32) ≤ nI n by grind) (show nI n ≤ 200 by grind), r_right1, t1, hy_cts, hy_ctn, hy_xts, hy_xtn, c_need0, c_need1, x_need0, x_need1, hy_jn, hy_lm, hy_lt', hy_gt, if_true, if_false, hy_f10]
      rw [show (0 : Int32) = nI 0 from rfl, b1]
      simp only [hy_k9, e9, c1, hy_cts]

