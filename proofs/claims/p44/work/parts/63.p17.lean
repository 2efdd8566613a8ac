theorem hy_k18 : Int32.toNatClampNeg (18 : Int32) = 18 := by decide
def mx (x : Int32) : Int32 := if 0 < x - 1 then x - 1 else 0
theorem mx_nI (k : Nat) (h : k ≤ 1000) : mx (nI k) = nI (k - 1) := by
  unfold mx
  by_cases e : k = 0
  · subst e; decide
  · rw [hy_1, hy_sub (by omega)]
    by_cases e2 : k = 1
    · subst e2; decide
    · rw [if_pos]; rw [hy_0, hy_lt (by omega) (by omega)]; omega
theorem nxt_rg (h s : Int32) : ∃ k, k ≤ 100 ∧ nxt h s = nI k := by
  have a : 0 ≤ nxt h s ∧ nxt h s ≤ 100 := by
    unfold nxt
    generalize h + s - (3 + h / 20) = x
    by_cases e : x < 100
    · rw [if_pos e]
      by_cases e2 : 0 < x
      · rw [if_pos e2]; constructor <;> grind
      · rw [if_neg e2]; decide
    · rw [if_neg e]; decide
  exact hy_ex' a.1 (by rw [show nI 100 = (100 : Int32) from rfl]; exact a.2) (by omega)
theorem div5 : ∀ j, j < 300 → nI j / 5 = nI (j / 5) := by decide +kernel
theorem div4 : ∀ j, j < 300 → nI j / 4 = nI (j / 4) := by decide +kernel
def ovr (q : Nat → Int32) (g : Nat) : Int32 := q 9 + 6 * q (25 + 8 * g + 2) - (60 + q (25 + 8 * g + 1) / 4)
def sbh (q : Nat → Int32) (g : Nat) : Int32 := if ovr q g ≤ 0 then mx (q (25 + 8 * g + 5)) else q (25 + 8 * g + 5) + ovr q g / 5 + 1
def low (q : Nat → Int32) : Nat → Nat
  | 0 => 0
  | k + 1 => if hAt q (nI (k + 1)) < q 5 then k + 1 else low q k
theorem low_le (q : Nat → Int32) : ∀ k, low q k ≤ k
  | 0 => by unfold low; omega
  | k + 1 => by
    unfold low; split
    · omega
    · have := low_le q k; omega
def gdn (q : Nat → Int32) (g : Nat) : Bool := decide (0 < q (25 + 8 * g + 2) ∧ 10 ≤ sbh q g)
def gst (q : Nat → Int32) (g : Nat) : Nat → Int32 :=
  if q (25 + 8 * g + 2) = -1 then q else if q (25 + 8 * g + 2) = 0 then hy_st q (25 + 8 * g + 5) (mx (q (25 + 8 * g + 5))) else
  if 10 ≤ sbh q g then hy_st (hy_st (hy_st q (25 + 8 * g + 2) (nI (low q (Int32.toNatClampNeg (q (25 + 8 * g + 2)) - 1)))) (25 + 8 * g + 5) (nI 5)) (12 + 4) (q 16 + 1)
  else hy_st q (25 + 8 * g + 5) (sbh q g)
def tow (q : Nat → Int32) (t : Nat) : Nat → Int32 :=
  if hld q t = -1 then (if q (153 + 2 * t + 1) = -1 then q else if 60 ≤ q 9 then q else hy_st q (153 + 2 * t) (mx (q (153 + 2 * t)))) else
  if q (25 + 8 * Int32.toNatClampNeg (hld q t) + 2) ≤ 0 then q else if 9 ≤ q (153 + 2 * t) then q else hy_st (hy_st q (153 + 2 * t) (q (153 + 2 * t) + 1)) (12 + 6) (q 18 + 1)
def towN : (Nat → Int32) → Nat → Nat → (Nat → Int32)
  | q, 0, _ => q
  | q, k + 1, i => towN (tow q i) k (i + 1)
def gstN : (Nat → Int32) → Nat → Nat → (Nat → Int32)
  | q, 0, _ => q
  | q, k + 1, i => gstN (gst q i) k (i + 1)
def gng (q : Nat → Int32) : Nat → Int32 := if q 8 - q 8 / q 6 * q 6 = 0 then hy_st (hy_st q 10 (q 8)) (12 + 7) (q 19 + 1) else q
def mA (q : Nat → Int32) : Nat → Int32 := gng (hy_st (hy_st q 8 (q 8 + 1)) (12 + 8) (q 20 + 1))
def mB (q : Nat → Int32) : Nat → Int32 := hy_st (mA q) 9 (nxt (mA q 9) (stm (mA q)))
def mC (q : Nat → Int32) : Nat → Int32 := towN (mB q) (tz q) 0
def minute (q : Nat → Int32) : Nat → Int32 := gstN (mC q) (gz q) 0
theorem tow_o {q : Nat → Int32} {t b : Nat} (h : b ≠ 153 + 2 * t) (h2 : b ≠ 18) : tow q t b = q b := by
  unfold tow
  repeat' split
  all_goals first | rfl | simp (disch := omega) only [hy_so]
theorem gst_o {q : Nat → Int32} {g b : Nat} (h : b ≠ 25 + 8 * g + 2) (h1 : b ≠ 25 + 8 * g + 5) (h2 : b ≠ 16) : gst q g b = q b := by
  unfold gst
  repeat' split
  all_goals first | rfl | simp (disch := omega) only [hy_so]
theorem towN_o : ∀ (k : Nat) (q : Nat → Int32) (i b : Nat), b < 153 → b ≠ 18 → towN q k i b = q b
  | 0, _, _, _, _, _ => rfl
  | k + 1, q, i, b, h, h2 => by unfold towN; rw [towN_o k _ _ _ h h2, tow_o (by omega) h2]
theorem gstN_o : ∀ (k : Nat) (q : Nat → Int32) (i b : Nat), (b < 25 + 8 * i ∨ 25 + 8 * (i + k) ≤ b ∨ (b % 8 ≠ 3 ∧ b % 8 ≠ 6)) → b ≠ 16 → gstN q k i b = q b
  | 0, _, _, _, _, _ => rfl
  | k + 1, q, i, b, h, h2 => by unfold gstN; rw [gstN_o k _ _ _ (by omega) h2, gst_o (by omega) (by omega) h2]
theorem gng_o {q : Nat → Int32} {b : Nat} (h : b ≠ 10) (h2 : b ≠ 19) : gng q b = q b := by
  unfold gng; split
  · simp (disch := omega) only [hy_so]
  · rfl
theorem mA_o {q : Nat → Int32} {b : Nat} (h : b ≠ 8) (h1 : b ≠ 20) (h3 : b ≠ 10) (h2 : b ≠ 19) : mA q b = q b := by
  unfold mA; rw [gng_o h3 h2]; simp (disch := omega) only [hy_so]
theorem mB_o {q : Nat → Int32} {b : Nat} (h : b ≠ 8) (h1 : b ≠ 20) (h3 : b ≠ 10) (h2 : b ≠ 19) (h4 : b ≠ 9) : mB q b = q b := by
  unfold mB; rw [hy_so _ _ h4, mA_o h h1 h3 h2]
theorem mC_o {q : Nat → Int32} {b : Nat} (h : b ≠ 8) (h1 : b ≠ 20) (h3 : b ≠ 10) (h2 : b ≠ 19) (h4 : b ≠ 9) (h5 : b < 153) (h6 : b ≠ 18) : mC q b = q b := by
  unfold mC; rw [towN_o _ _ _ _ h5 h6, mB_o h h1 h3 h2 h4]
theorem gz_cg {q q' : Nat → Int32} (h : q' 11 = q 11) : gz q' = gz q := by unfold gz; rw [h]
theorem tz_cg {q q' : Nat → Int32} (h : q' 2 = q 2) : tz q' = tz q := by unfold tz; rw [h]
theorem n_hAt {M : hz_M} {q : Nat → Int32} (h3 : M 1 3 = nI (gz q)) (h16 : gz q ≤ 16) (rp : ∀ g, g < gz q → M 13 g = q (25 + 8 * g + 2)) (a : Int32) : f_X7_guestsAt a M = some (hAt q a, M) := by
  unfold f_X7_guestsAt
  refine hy_for0 (fun f c i => f_X7_guestsAt_L4 f a c (nI i) M) (gz q) (fun g c => if q (25 + 8 * g + 2) = a then c + 1 else c) (fun r => some (r, M)) ?_ ?_ hz_FU _ (hy_FU (by omega))
  · intro f c
    simp (disch := omega) [f_X7_guestsAt_L4, h3, hy_cts, hy_gt, hy_lt', hy_lm, hy_jn, hy_c, hy_in, hy_le, hy_add1, hy_k0, hy_k1, hy_k2, hy_k3, hy_k4, hy_k5, hy_k6, hy_k7, hy_k8, hy_k9, hy_k10, hy_k11, hy_k12, hy_k13]
  · intro f c i hi
    have hi' : ¬ (gz q) ≤ i := by omega
    simp (disch := omega) only [f_X7_guestsAt_L4, h3, hi', if_false, hy_cts, hy_gt, hy_lt', hy_lm, hy_jn, hy_c, hy_in, hy_le, hy_add1, hy_k0, hy_k1, hy_k2, hy_k3, hy_k4, hy_k5, hy_k6, hy_k7, hy_k8, hy_k9, hy_k10, hy_k11, hy_k12, hy_k13, rp i hi]
    by_cases e : q (25 + 8 * i + 2) = a <;> simp [e]
theorem c_low (kk : Int32 → Int32 → hz_M → hz_O) {M : hz_M} {q : Nat → Int32} (h3 : M 1 3 = nI (gz q)) (h16 : gz q ≤ 16) (rp : ∀ g, g < gz q → M 13 g = q (25 + 8 * g + 2)) (h17 : M 11 17 = q 5) (g : Int32) : ∀ k f, k ≤ 10 → k < f → f_X7_comeDown_L9 kk f g (nI k) M = kk g (nI (low q k)) M
  | 0, f, _, hf => by
    obtain ⟨f, rfl⟩ : ∃ e, f = e + 1 := ⟨f - 1, by omega⟩
    have e : nI 0 ≤ 0 := by decide
    simp only [f_X7_comeDown_L9, low, e, if_true]
  | k + 1, f, hk, hf => by
    obtain ⟨f, rfl⟩ : ∃ e, f = e + 1 := ⟨f - 1, by omega⟩
    have e : ¬ nI (k + 1) ≤ 0 := by rw [hy_0, hy_le (by omega) (by omega)]; omega
    simp only [f_X7_comeDown_L9, low, e, if_false, n_hAt h3 h16 rp, hy_cts, h17, hy_lt', hy_dec]
    by_cases e2 : hAt q (nI (k + 1)) < q 5
    · simp only [e2, if_true]
    · simp only [e2, if_false]
      exact c_low kk h3 h16 rp h17 g k f (by omega) (by omega)
theorem hAt_cg {q q' : Nat → Int32} (h : q' 11 = q 11) (h2 : ∀ g, q' (25 + 8 * g + 2) = q (25 + 8 * g + 2)) (a : Int32) : hAt q' a = hAt q a := by
  unfold hAt
  rw [gz_cg h]
  exact hy_fold_congr _ _ _ (fun j _ _ b => by rw [h2])
/-- strain stays a small number -/
theorem sbh_rg {q : Nat → Int32} (hZ : hy_Z q) (hQ : hy_Q q) {g : Nat} (hg : g < gz q) (h1 : q (25 + 8 * g + 2) ≠ -1) : ∃ k, k ≤ 60 ∧ sbh q g = nI k := by
  obtain ⟨qa, qat, ql, qh, qs, qw, qwt, qpg, jl, jh, jp, qo, qol, qhp, qht, qrm, qgn, qqt, qop⟩ := hQ
  obtain ⟨⟨z1, z2⟩, ⟨z3, z4, z5⟩, ⟨z6, z7, z8⟩, ⟨z9, z10⟩, ⟨z11, z12, z13⟩, ⟨z14, z15, z16⟩⟩ := hZ
  obtain ⟨a, ha, ea⟩ := qa g hg
  obtain ⟨s, hs, es⟩ := qs g hg
  obtain ⟨h, hh, eh⟩ := qht
  obtain ⟨p, hp, ep⟩ : ∃ k, k ≤ sz q ∧ q (25 + 8 * g + 2) = nI k := by
    rcases qat g hg with e | e
    · exact absurd e h1
    · exact e
  unfold sbh
  by_cases e : ovr q g ≤ 0
  · rw [if_pos e, es, mx_nI _ (by omega)]; exact ⟨s - 1, by omega, rfl⟩
  · rw [if_neg e]
    unfold ovr at *
    rw [ea, eh, ep, div4 a (by omega), show (6 : Int32) = nI 6 from rfl, show (60 : Int32) = nI 60 from rfl, hy_mul, hy_add, hy_add] at *
    have e3 : 60 + a / 4 ≤ h + 6 * p := by
      rcases Nat.lt_or_ge (h + 6 * p) (60 + a / 4) with e4 | e4
      · exfalso; apply e
        have : nI (h + 6 * p) < nI (60 + a / 4) := by rw [hy_lt (by omega) (by omega)]; exact e4
        have b1 := hy_nn (a := h + 6 * p) (by omega)
        have b2 : nI (60 + a / 4) ≤ nI 1000 := by rw [hy_le (by omega) (by omega)]; omega
        rw [show nI 1000 = (1000 : Int32) from rfl] at b2
        generalize nI (h + 6 * p) = x at *
        generalize nI (60 + a / 4) = y at *
        grind
      · exact e4
    rw [hy_sub e3, div5 _ (by omega), es, hy_add, hy_1, hy_add]
    exact ⟨_, by omega, rfl⟩


theorem c_tow {M : hz_M} {q : Nat → Int32} {t f : Nat} (W : hy_W M q) (ht : t < tz q) : ∃ M', f_X7_changeTowels_L2 (f + 1) (nI t) M = f_X7_changeTowels_L2 f (nI (t + 1)) M' ∧ (∀ a, (a < 11 ∨ 24 < a) → M' a = M a) ∧ hy_W M' (tow q t) := by
  have W0 := W
  obtain ⟨hC, hQ, hX⟩ := W
  have hC0 := hC
  obtain ⟨hZ, ⟨b3, b4, b5, b6, b7, b8, bag, bnm⟩, hRR⟩ := hC
  have hZ0 := hZ
  obtain ⟨⟨s1, s2, s3, s4, s5, s6⟩, ra, ro, rp, rl, rt, rs, rw', rd, rwt, rpg, rk, rh, rtw⟩ := c_rows hRR
  obtain ⟨⟨z1, z2⟩, ⟨z3, z4, z5⟩, ⟨z6, z7, z8⟩, ⟨z9, z10⟩, ⟨z11, z12, z13⟩, ⟨z14, z15, z16⟩⟩ := hZ
  rw [z1] at b3; rw [z3] at b4; rw [z6] at b5; rw [z9] at b6; rw [z11] at b7; rw [z14] at b8
  obtain ⟨qa, qat, ql, qh, qs, qw, qwt, qpg, jl, jh, jp, qo, qol, qhp, qht, qrm, qgn, qqt, qop⟩ := hQ
  have ht' : ¬ tz q ≤ t := by omega
  obtain ⟨w, hw, ew⟩ := qwt t ht
  have rw20 := rwt t ht
  have r21 := rpg t ht
  have r22 := rh t ht
  have base : ∀ X : hz_O, (f_X7_changeTowels_L2 (f + 1) (nI t) M = X) ↔ (f_X7_changeTowels_L2 (f + 1) (nI t) M = X) := fun X => Iff.rfl
  unfold tow
  rcases hld_al hZ0 t with e | ⟨g, hg, e, e'⟩
  · rw [if_pos e]
    rw [e] at r22
    have st : f_X7_changeTowels_L2 (f + 1) (nI t) M = if q (153 + 2 * t + 1) = -1 then f_X7_changeTowels_L2 f (nI (t + 1)) M else if 60 ≤ q 9 then f_X7_changeTowels_L2 f (nI (t + 1)) (hz_set M 20 t (nI w)) else f_X7_changeTowels_L2 f (nI (t + 1)) (hz_set M 20 t (mx (nI w))) := by
      simp (disch := omega) only [f_X7_changeTowels_L2, b6, hy_le, ht', if_false, hy_in, hy_gt, hy_lt', hy_c, r22, c_isGuestN (M := M) (-1) (by decide), hy_cts, hy_jn, if_true, r21, rw20, ew, f_X7_wetOnPegBehind, s2, hy_lm, hy_add1]
      by_cases e1 : q (153 + 2 * t + 1) = -1 <;> by_cases e2 : 60 ≤ q 9 <;> simp only [e1, e2, if_true, if_false, hy_cts, mx]
    by_cases e1 : q (153 + 2 * t + 1) = -1
    · rw [if_pos e1]
      exact ⟨M, by rw [st, if_pos e1], fun _ _ => rfl, W0⟩
    · rw [if_neg e1]
      by_cases e2 : 60 ≤ q 9
      · rw [if_pos e2]
        refine ⟨_, by rw [st, if_neg e1, if_pos e2], fun a ha => hy_seto _ _ _ (by omega), ?_⟩
        exact p_wet (k := w) W0 ht hw (fun a h => hy_seto _ _ _ h) (hy_srow _ _ _ _) (fun k _ => rfl) ew
      · rw [if_neg e2]
        refine ⟨_, by rw [st, if_neg e1, if_neg e2], fun a ha => hy_seto _ _ _ (by omega), ?_⟩
        rw [ew, mx_nI _ (by omega)]
        exact p_wet (k := w - 1) W0 ht (by omega) (fun a h => hy_seto _ _ _ h) (hy_srow _ _ _ _) (fun k c0 => hy_so _ _ c0) (hy_ss _ _ _)
  · rw [if_neg (by rw [e, hy_n1 (by omega)]; exact not_false), e, hy_c (by omega)]
    rw [e] at r22
    have r13 := rp g hg
    have st : f_X7_changeTowels_L2 (f + 1) (nI t) M = if q (25 + 8 * g + 2) ≤ 0 then f_X7_changeTowels_L2 f (nI (t + 1)) M else if 9 ≤ q (153 + 2 * t) then f_X7_changeTowels_L2 f (nI (t + 1)) M else f_X7_changeTowels_L2 f (nI (t + 1)) (hz_set (hz_set M 20 t (nI w + 1)) 24 6 (q 18 + 1)) := by
      have ra6 : M 24 6 = q 18 := ra 6 (by omega)
      simp (disch := omega) only [f_X7_changeTowels_L2, b6, hy_le, ht', if_false, hy_in, hy_gt, hy_lt', hy_c, r22, c_isGuest hC0 hg, hy_cts, hy_jn, hy_f10, r13, rw20, ew, hy_lm, hy_add1, hy_k6, hy_seto, ra6]
    by_cases e1 : q (25 + 8 * g + 2) ≤ 0
    · rw [if_pos e1]
      exact ⟨M, by rw [st, if_pos e1], fun _ _ => rfl, W0⟩
    · rw [if_neg e1]
      by_cases e2 : 9 ≤ q (153 + 2 * t)
      · rw [if_pos e2]
        exact ⟨M, by rw [st, if_neg e1, if_pos e2], fun _ _ => rfl, W0⟩
      · rw [if_neg e2]
        refine ⟨_, by rw [st, if_neg e1, if_neg e2], fun a ha => by simp (disch := omega) only [hy_seto], ?_⟩
        have hw9 : w + 1 ≤ 9 := by
          rw [ew, show (9 : Int32) = nI 9 from rfl, hy_le (by omega) (by omega)] at e2; omega
        have W1 : hy_W (hz_set M 20 t (nI (w + 1))) (hy_st q (153 + 2 * t) (nI (w + 1))) := p_wet (k := w + 1) W0 ht hw9 (fun a h => hy_seto _ _ _ h) (hy_srow _ _ _ _) (fun k c0 => hy_so _ _ c0) (hy_ss _ _ _)
        rw [ew, hy_add1]
        exact p_acc (g := 6) W1 (by omega) (fun a h => hy_seto _ _ _ h) (hy_srow _ _ _ _) (fun k c0 => hy_so _ _ c0) (hy_ss _ _ _)
theorem tow_tz (q : Nat → Int32) (t : Nat) : tz (tow q t) = tz q := tz_cg (tow_o (by omega) (by omega))
theorem c_towN : ∀ (k i f : Nat) (M : hz_M) (q : Nat → Int32), hy_W M q → i + k = tz q → k < f → ∃ M', f_X7_changeTowels_L2 f (nI i) M = some (0, M') ∧ (∀ a, (a < 11 ∨ 24 < a) → M' a = M a) ∧ hy_W M' (towN q k i)
  | 0, i, f, M, q, W, hi, hf => by
    obtain ⟨f, rfl⟩ : ∃ e, f = e + 1 := ⟨f - 1, by omega⟩
    have e : i = tz q := by omega
    refine ⟨M, ?_, fun _ _ => rfl, W⟩
    have W0 := W
    obtain ⟨hC, hQ, hX⟩ := W
    have hC0 := hC
    obtain ⟨hZ, ⟨b3, b4, b5, b6, b7, b8, bag, bnm⟩, hRR⟩ := hC
    have hZ0 := hZ
    obtain ⟨⟨s1, s2, s3, s4, s5, s6⟩, ra, ro, rp, rl, rt, rs, rw', rd, rwt, rpg, rk, rh, rtw⟩ := c_rows hRR
    obtain ⟨⟨z1, z2⟩, ⟨z3, z4, z5⟩, ⟨z6, z7, z8⟩, ⟨z9, z10⟩, ⟨z11, z12, z13⟩, ⟨z14, z15, z16⟩⟩ := hZ
    rw [z1] at b3; rw [z3] at b4; rw [z6] at b5; rw [z9] at b6; rw [z11] at b7; rw [z14] at b8
    obtain ⟨qa, qat, ql, qh, qs, qw, qwt, qpg, jl, jh, jp, qo, qol, qhp, qht, qrm, qgn, qqt, qop⟩ := hQ
    simp (disch := omega) only [f_X7_changeTowels_L2, b6, hy_le, e, Nat.le_refl, if_true]
  | k + 1, i, f, M, q, W, hi, hf => by
    obtain ⟨f, rfl⟩ : ∃ e, f = e + 1 := ⟨f - 1, by omega⟩
    obtain ⟨M1, e1, f1, W1⟩ := c_tow (f := f) W (t := i) (by omega)
    obtain ⟨M2, e2, f2, W2⟩ := c_towN k (i + 1) f M1 (tow q i) W1 (by rw [tow_tz]; omega) (by omega)
    exact ⟨M2, by rw [e1, e2], fun a ha => by rw [f2 a ha, f1 a ha], W2⟩
theorem c_gst (kk : Int32 → Int32 → Int32 → hz_M → hz_O) (x y z : Int32) {M : hz_M} {q : Nat → Int32} {g f : Nat} (W : hy_W M q) (hg : g < gz q) : ∃ M', f_X7_pass_L61 kk (f + 1) x y z (nI g) M = f_X7_pass_L61 kk f x y z (nI (g + 1)) M' ∧ (∀ a, (a < 11 ∨ 24 < a) → M' a = M a) ∧ hy_W M' (gst q g) := by
  have W0 := W
  obtain ⟨hC, hQ, hX⟩ := W
  have hC0 := hC
  obtain ⟨hZ, ⟨b3, b4, b5, b6, b7, b8, bag, bnm⟩, hRR⟩ := hC
  have hZ0 := hZ
  obtain ⟨⟨s1, s2, s3, s4, s5, s6⟩, ra, ro, rp, rl, rt, rs, rw', rd, rwt, rpg, rk, rh, rtw⟩ := c_rows hRR
  obtain ⟨⟨z1, z2⟩, ⟨z3, z4, z5⟩, ⟨z6, z7, z8⟩, ⟨z9, z10⟩, ⟨z11, z12, z13⟩, ⟨z14, z15, z16⟩⟩ := hZ
  rw [z1] at b3; rw [z3] at b4; rw [z6] at b5; rw [z9] at b6; rw [z11] at b7; rw [z14] at b8
  obtain ⟨qa, qat, ql, qh, qs, qw, qwt, qpg, jl, jh, jp, qo, qol, qhp, qht, qrm, qgn, qqt, qop⟩ := hQ
  have hg' : ¬ gz q ≤ g := by omega
  obtain ⟨s, hs, es⟩ := qs g hg
  have r13 := rp g hg
  have r16 := rs g hg
  have r2 := bag g hg
  have lt10 : ∀ k, k ≤ 9 → (nI k < 10) = True := fun k hk => eq_true (by rw [show (10 : Int32) = nI 10 from rfl, hy_lt (by omega) (by omega)]; omega)
  unfold gst
  by_cases e1 : q (25 + 8 * g + 2) = -1
  · rw [if_pos e1]
    refine ⟨M, ?_, fun _ _ => rfl, W0⟩
    simp (disch := omega) only [f_X7_pass_L61, b3, hy_le, hg', if_false, f_X7_strainGuest, hy_in, hy_gt, hy_lt', hy_c, r13, e1, show ((-1 : Int32) = 0) = False from eq_false (by decide), show ((-1 : Int32) ≤ 0) = True from eq_true (by decide), if_true, hy_cts, hy_jn, r16, es, lt10 s hs, hy_add1]
  · rw [if_neg e1]
    by_cases e2 : q (25 + 8 * g + 2) = 0
    · rw [if_pos e2]
      refine ⟨hz_set M 16 g (mx (nI s)), ?_, fun a ha => hy_seto _ _ _ (by omega), ?_⟩
      · simp (disch := omega) only [f_X7_pass_L61, b3, hy_le, hg', if_false, f_X7_strainGuest, hy_in, hy_gt, hy_lt', hy_c, r13, e2, if_true, hy_lm, r16, es, hy_cts, hy_jn, hy_setk]
        rw [show (if (0 : Int32) < nI s - 1 then nI s - 1 else 0) = mx (nI s) from rfl, mx_nI _ (by omega)]
        simp (disch := omega) only [lt10 (s - 1) (by omega), if_true, hy_add1]
      · rw [es, mx_nI _ (by omega)]
        exact p_str (k := s - 1) W0 hg (by omega) (fun a h => hy_seto _ _ _ h) (hy_srow _ _ _ _) (fun k c0 => hy_so _ _ c0) (hy_ss _ _ _)
    · rw [if_neg e2]
      obtain ⟨p, hp, ep⟩ : ∃ k, k ≤ sz q ∧ q (25 + 8 * g + 2) = nI k := by
        rcases qat g hg with e | e
        · exact absurd e e1
        · exact e
      have p0 : p ≠ 0 := by intro e; subst e; exact e2 ep
      obtain ⟨b, hb, eb⟩ := sbh_rg hZ0 W0.2.1 hg e1
      have np : ¬ nI p ≤ 0 := by rw [hy_0, hy_le (by omega) (by omega)]; omega
      have np0 : ¬ nI p = 0 := by rw [hy_0, hy_eq (by omega) (by omega)]; omega
      have sg : f_X7_strainGuest (nI g) M = some (0, hz_set M 16 g (sbh q g)) := by
        simp (disch := omega) only [f_X7_strainGuest, hy_in, hy_gt, hy_lt', hy_c, r13, ep, np, np0, if_false, f_X7_temperature, f_X3_bears, r2, s2, hy_cts, f_X7_strainBehind, r16, hy_lm]
        have eo : q 9 + 6 * nI p - (60 + q (25 + 8 * g + 1) / 4) = ovr q g := by unfold ovr; rw [ep]
        rw [eo]
        unfold sbh mx
        by_cases e : ovr q g ≤ 0 <;> simp only [e, if_true, if_false, hy_cts]
      by_cases e3 : 10 ≤ sbh q g
      · rw [if_pos e3, ep, hy_c (by omega)]
        have lw := low_le q (p - 1)
        have ra4 : M 24 4 = q 16 := ra 4 (by omega)
        refine ⟨hz_set (hz_set (hz_set (hz_set M 16 g (sbh q g)) 13 g (nI (low q (p - 1)))) 16 g (nI 5)) 24 4 (q 16 + 1), ?_, fun a ha => by simp (disch := omega) only [hy_seto], ?_⟩
        · have n10 : ¬ sbh q g < 10 := by grind
          have cl := c_low (fun (v1_3 : Int32) (v2_4 : Int32) (M5 : hz_M) =>
            hz_gd (hz_in v1_3 16) <|
            hz_lm (hz_set M5 13 (Int32.toNatClampNeg v1_3) v2_4) fun M7 =>
            hz_gd (hz_in v1_3 16) <|
            hz_lm (hz_set M7 16 (Int32.toNatClampNeg v1_3) (5 : Int32)) fun M9 =>
            hz_lm (hz_set M9 24 (Int32.toNatClampNeg (4 : Int32)) ((M9 24 (Int32.toNatClampNeg (4 : Int32))) + (1 : Int32))) fun M10 =>
            some (0, M10)) (M := hz_set M 16 g (sbh q g)) (q := q) (by rw [hy_seto _ _ _ (by omega)]; exact b3) z2 (fun h hh => by rw [hy_seto _ _ _ (by omega)]; exact rp h hh) (by rw [hy_seto _ _ _ (by omega)]; exact s4) (nI g) (p - 1) hz_FU (by omega) (hy_FU (by omega))
          have ecd : f_X7_comeDown (nI g) (hz_set M 16 g (sbh q g)) = some (0, hz_set (hz_set (hz_set (hz_set M 16 g (sbh q g)) 13 g (nI (low q (p - 1)))) 16 g (nI 5)) 24 4 (q 16 + 1)) := by
            unfold f_X7_comeDown
            simp (disch := omega) only [hy_in, hy_gt, hy_lt', hy_c, hy_jn, hy_seto, r13, ep]
            rw [hy_1, hy_sub (show 1 ≤ p by omega)]
            rw [← hy_1, cl]
            simp (disch := omega) only [hy_in, hy_gt, hy_c, hy_lm, hy_k4, hy_seto, ra4]
            rfl
          simp (disch := omega) only [f_X7_pass_L61, b3, hy_le, hg', if_false, sg, hy_cts, hy_in, hy_gt, hy_jn, hy_c, hy_setk, n10, hy_seto, r13, ep, np, ecd, hy_lt', hy_add1]
        · have W1 : hy_W (hz_set M 13 g (nI (low q (p - 1)))) (hy_st q (25 + 8 * g + 2) (nI (low q (p - 1)))) := p_move W0 hg (by omega) e1 (fun a h => hy_seto _ _ _ h) (hy_srow _ _ _ _) (fun k c0 => hy_so _ _ c0) (hy_ss _ _ _)
          have W2 : hy_W (hz_set (hz_set M 13 g (nI (low q (p - 1)))) 16 g (nI 5)) (hy_st (hy_st q (25 + 8 * g + 2) (nI (low q (p - 1)))) (25 + 8 * g + 5) (nI 5)) := p_str (k := 5) W1 (by simp (disch := omega) only [gz_st]; exact hg) (by omega) (fun a h => hy_seto _ _ _ h) (hy_srow _ _ _ _) (fun k c0 => hy_so _ _ c0) (hy_ss _ _ _)
          refine p_acc (g := 4) W2 (by omega) (fun a h => ?_) ?_ (fun k c0 => hy_so _ _ c0) (hy_ss _ _ _)
          · rw [hy_seto _ _ _ h]
            by_cases a16 : a = 16
            · subst a16; simp (disch := omega) only [hy_srow, hy_seto, hy_stt]
            · by_cases a13 : a = 13
              · subst a13; simp (disch := omega) only [hy_srow, hy_seto]
              · simp (disch := omega) only [hy_seto]
          · simp (disch := omega) only [hy_srow, hy_seto]
      · rw [if_neg e3]
        have b9 : b ≤ 9 := by
          rw [eb, show (10 : Int32) = nI 10 from rfl, hy_le (by omega) (by omega)] at e3; omega
        refine ⟨hz_set M 16 g (sbh q g), ?_, fun a ha => hy_seto _ _ _ (by omega), ?_⟩
        · simp (disch := omega) only [f_X7_pass_L61, b3, hy_le, hg', if_false, sg, hy_cts, hy_in, hy_gt, hy_jn, hy_c, hy_setk, eb, lt10 b b9, if_true, hy_lt', hy_add1]
        · rw [eb]
          exact p_str (k := b) W0 hg b9 (fun a h => hy_seto _ _ _ h) (hy_srow _ _ _ _) (fun k c0 => hy_so _ _ c0) (hy_ss _ _ _)
theorem gst_gz (q : Nat → Int32) (t : Nat) : gz (gst q t) = gz q := gz_cg (gst_o (by omega) (by omega) (by omega))
theorem c_gstN (kk : Int32 → Int32 → Int32 → hz_M → hz_O) (x y z : Int32) : ∀ (k i f : Nat) (M : hz_M) (q : Nat → Int32), hy_W M q → i + k = gz q → k < f → ∃ M', f_X7_pass_L61 kk f x y z (nI i) M = kk x y z M' ∧ (∀ a, (a < 11 ∨ 24 < a) → M' a = M a) ∧ hy_W M' (gstN q k i)
  | 0, i, f, M, q, W, hi, hf => by
    obtain ⟨f, rfl⟩ : ∃ e, f = e + 1 := ⟨f - 1, by omega⟩
    have e : i = gz q := by omega
    refine ⟨M, ?_, fun _ _ => rfl, W⟩
    have W0 := W
    obtain ⟨hC, hQ, hX⟩ := W
    have hC0 := hC
    obtain ⟨hZ, ⟨b3, b4, b5, b6, b7, b8, bag, bnm⟩, hRR⟩ := hC
    have hZ0 := hZ
    obtain ⟨⟨s1, s2, s3, s4, s5, s6⟩, ra, ro, rp, rl, rt, rs, rw', rd, rwt, rpg, rk, rh, rtw⟩ := c_rows hRR
    obtain ⟨⟨z1, z2⟩, ⟨z3, z4, z5⟩, ⟨z6, z7, z8⟩, ⟨z9, z10⟩, ⟨z11, z12, z13⟩, ⟨z14, z15, z16⟩⟩ := hZ
    rw [z1] at b3; rw [z3] at b4; rw [z6] at b5; rw [z9] at b6; rw [z11] at b7; rw [z14] at b8
    obtain ⟨qa, qat, ql, qh, qs, qw, qwt, qpg, jl, jh, jp, qo, qol, qhp, qht, qrm, qgn, qqt, qop⟩ := hQ
    simp (disch := omega) only [f_X7_pass_L61, b3, hy_le, e, Nat.le_refl, if_true]
  | k + 1, i, f, M, q, W, hi, hf => by
    obtain ⟨f, rfl⟩ : ∃ e, f = e + 1 := ⟨f - 1, by omega⟩
    obtain ⟨M1, e1, f1, W1⟩ := c_gst kk x y z (f := f) W (g := i) (by omega)
    obtain ⟨M2, e2, f2, W2⟩ := c_gstN kk x y z k (i + 1) f M1 (gst q i) W1 (by rw [gst_gz]; omega) (by omega)
    exact ⟨M2, by rw [e1, e2], fun a ha => by rw [f2 a ha, f1 a ha], W2⟩


