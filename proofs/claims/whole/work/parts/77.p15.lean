
def cs (b1 b2 k : Nat) (M : hz_M) : hz_M := hz_set M b1 k (M b2 k)
def cr (b1 b2 i n : Nat) (M : hz_M) : hz_M := hz_cpy M (b2 + i) (b1 + i) n
def cpM (b1 b2 : Nat) (M : hz_M) : hz_M := (cr b1 b2 13 9 (cr b1 b2 12 16 (cr b1 b2 11 16 (cr b1 b2 10 16 (cr b1 b2 9 16 (cr b1 b2 8 12 (cr b1 b2 7 16 (cr b1 b2 6 16 (cr b1 b2 5 16 (cr b1 b2 4 16 (cr b1 b2 3 16 (cr b1 b2 2 16 (cr b1 b2 1 4 (cs b1 b2 19 (cs b1 b2 18 (cs b1 b2 17 (cs b1 b2 16 (cs b1 b2 15 (cs b1 b2 14 M)))))))))))))))))))
theorem cp_eq (b1 b2 : Nat) (M : hz_M) : f_X7_copyFrom b1 b2 M = some (0, cpM b1 b2 M) := rfl
theorem cs_o {b1 b2 k a : Nat} (M : hz_M) (h : a ≠ b1) : cs b1 b2 k M a = M a := by unfold cs; rw [hy_seto _ _ _ h]
theorem cs_k (b1 b2 k : Nat) (M : hz_M) : cs b1 b2 k M b1 k = M b2 k := by unfold cs; rw [hy_setk]
theorem cs_n {b1 b2 k b : Nat} (M : hz_M) (h : b ≠ k) : cs b1 b2 k M b1 b = M b1 b := by unfold cs; rw [hy_setn _ _ _ h]
theorem cr_o {b1 b2 i n a : Nat} (M : hz_M) (h : a ≠ b1 + i) : cr b1 b2 i n M a = M a := by
  unfold cr hz_cpy; funext b; rw [if_neg (fun e => h e.1)]
theorem cr_k {b1 b2 i n k : Nat} (M : hz_M) (h : k < n) : cr b1 b2 i n M (b1 + i) k = M (b2 + i) k := by
  unfold cr hz_cpy; rw [if_pos ⟨rfl, h⟩]
theorem cp_o {b1 b2 : Nat} (M : hz_M) {a : Nat} (h : a < b1 ∨ b1 + 13 < a) : cpM b1 b2 M a = M a := by
  unfold cpM
  simp (disch := omega) only [cr_o, cs_o]
theorem cp_RC {b1 b2 : Nat} {M : hz_M} {q : Nat → Int32} (h : b1 + 14 ≤ b2 ∨ b2 + 14 ≤ b1) (hZ : hy_Z q) (hR : hy_RC b2 M q) : hy_RC b1 (cpM b1 b2 M) q := by
  obtain ⟨⟨s1, s2, s3, s4, s5, s6⟩, ra, ro, rp, rl, rt, rs, rw', rd, rwt, rpg, rk, rh, rtw⟩ := hR
  obtain ⟨⟨z1, z2⟩, ⟨z3, z4, z5⟩, ⟨z6, z7, z8⟩, ⟨z9, z10⟩, ⟨z11, z12, z13⟩, ⟨z14, z15, z16⟩⟩ := hZ
  unfold hy_RC cpM
  refine ⟨⟨?_, ?_, ?_, ?_, ?_, ?_⟩, fun g hg => ?_, fun g hg => ?_, fun g hg => ?_, fun g hg => ?_, fun g hg => ?_, fun g hg => ?_, fun g hg => ?_, fun g hg => ?_, fun g hg => ?_, fun g hg => ?_, fun g hg => ?_, fun g hg => ?_, fun g hg => ?_⟩
  · simp (disch := omega) only [cr_o, cr_k, cs_o, cs_k, cs_n]; exact s1
  · simp (disch := omega) only [cr_o, cr_k, cs_o, cs_k, cs_n]; exact s2
  · simp (disch := omega) only [cr_o, cr_k, cs_o, cs_k, cs_n]; exact s3
  · simp (disch := omega) only [cr_o, cr_k, cs_o, cs_k, cs_n]; exact s4
  · simp (disch := omega) only [cr_o, cr_k, cs_o, cs_k, cs_n]; exact s5
  · simp (disch := omega) only [cr_o, cr_k, cs_o, cs_k, cs_n]; exact s6
  · simp (disch := omega) only [cr_o, cr_k, cs_o, cs_k, cs_n]; exact ra g hg
  · simp (disch := omega) only [cr_o, cr_k, cs_o, cs_k, cs_n]; exact ro g hg
  · simp (disch := omega) only [cr_o, cr_k, cs_o, cs_k, cs_n]; exact rp g hg
  · simp (disch := omega) only [cr_o, cr_k, cs_o, cs_k, cs_n]; exact rl g hg
  · simp (disch := omega) only [cr_o, cr_k, cs_o, cs_k, cs_n]; exact rt g hg
  · simp (disch := omega) only [cr_o, cr_k, cs_o, cs_k, cs_n]; exact rs g hg
  · simp (disch := omega) only [cr_o, cr_k, cs_o, cs_k, cs_n]; exact rw' g hg
  · simp (disch := omega) only [cr_o, cr_k, cs_o, cs_k, cs_n]; exact rd g hg
  · simp (disch := omega) only [cr_o, cr_k, cs_o, cs_k, cs_n]; exact rwt g hg
  · simp (disch := omega) only [cr_o, cr_k, cs_o, cs_k, cs_n]; exact rpg g hg
  · simp (disch := omega) only [cr_o, cr_k, cs_o, cs_k, cs_n]; exact rk g hg
  · simp (disch := omega) only [cr_o, cr_k, cs_o, cs_k, cs_n]; exact rh g hg
  · simp (disch := omega) only [cr_o, cr_k, cs_o, cs_k, cs_n]; exact rtw g hg
theorem cp_Snap {b1 b2 : Nat} {M : hz_M} {q : Nat → Int32} (h : b1 + 14 ≤ b2 ∨ b2 + 14 ≤ b1) (h5 : 5 ≤ b1) (s : Snap b2 M q) : Snap b1 (cpM b1 b2 M) q := by
  obtain ⟨hZ, hH, hR, hQ, hT, hX⟩ := s
  refine ⟨hZ, ?_, cp_RC h hZ hR, hQ, hT, hX⟩
  unfold hy_Ho nmd at *
  simp (disch := omega) only [cp_o]
  exact hH
theorem c_record {M : hz_M} {u w : Nat} (hw : w < 8) (hu : u ≤ 8) (h3 : M 32 3 = nI w) (h4 : M 32 4 = nI u) (S : Snap 11 M (M 179)) :
    ∃ Mc, f_X2_record M = some (0, Mc) ∧ Mc 32 3 = nI ((w + 1) % 8) ∧ Mc 32 4 = nI (if u = 8 then 8 else u + 1) ∧ Snap (36 + 14 * ((w + 1) % 8)) Mc (M 179) ∧
      (∀ a, a ≠ 32 → (a < 36 + 14 * ((w + 1) % 8) ∨ 36 + 14 * ((w + 1) % 8) + 13 < a) → Mc a = M a) := by
  have key : f_X2_record M = some (0, hz_set (cpM (36 + 14 * ((w + 1) % 8)) 11 (hz_set M 32 3 (nI ((w + 1) % 8)))) 32 4 (nI (if u = 8 then 8 else u + 1))) := by
    have e1 : (if (8 : Int32) ≤ M 32 3 + 1 then (0 : Int32) else M 32 3 + 1) = nI ((w + 1) % 8) := by
      rw [h3, hy_add1]
      by_cases e : 8 ≤ w + 1
      · have e' : (8 : Int32) ≤ nI (w + 1) := by rw [show (8 : Int32) = nI 8 from rfl, hy_le (by omega) (by omega)]; exact e
        rw [if_pos e', show (w + 1) % 8 = 0 by omega]; rfl
      · have e' : ¬ (8 : Int32) ≤ nI (w + 1) := by rw [show (8 : Int32) = nI 8 from rfl, hy_le (by omega) (by omega)]; exact e
        rw [if_neg e', show (w + 1) % 8 = w + 1 by omega]
    have e2 : (if nI u + 1 < (8 : Int32) then nI u + 1 else 8) = nI (if u = 8 then 8 else u + 1) := by
      rw [hy_add1]
      by_cases e : u + 1 < 8
      · have e' : nI (u + 1) < (8 : Int32) := by rw [show (8 : Int32) = nI 8 from rfl, hy_lt (by omega) (by omega)]; exact e
        rw [if_pos e', if_neg (by omega)]
      · have e' : ¬ nI (u + 1) < (8 : Int32) := by rw [show (8 : Int32) = nI 8 from rfl, hy_lt (by omega) (by omega)]; exact e
        rw [if_neg e']
        by_cases e2 : u = 8
        · rw [if_pos e2]; rfl
        · rw [if_neg e2, show u + 1 = 8 by omega]; rfl
    have e3 : ∀ x, x = nI ((w + 1) % 8) → (hz_lm (hz_set M 32 3 x) fun M3 => hz_gd (hz_in (M3 32 3) 8) <| hz_ct (f_X7_copyFrom (hz_pa (M3 32 3)) 11 M3) fun r6 M7 => hz_lm (hz_set M7 32 4 (if ((M7 32 4) + (1 : Int32)) < (8 : Int32) then ((M7 32 4) + (1 : Int32)) else (8 : Int32))) fun M9 => some (0, M9)) = some (0, hz_set (cpM (36 + 14 * ((w + 1) % 8)) 11 (hz_set M 32 3 (nI ((w + 1) % 8)))) 32 4 (nI (if u = 8 then 8 else u + 1))) := by
      intro x hx
      subst hx
      simp (disch := omega) only [hy_lm, hy_setk, hy_in, hy_gt, hz_pa, hy_c, cp_eq, hy_cts, cp_o, hy_setn, h4, e2]
    unfold f_X2_record
    simp only [hy_jn]
    rw [← e3 _ e1]
    split <;> rfl
  refine ⟨_, key, ?_, ?_, ?_, ?_⟩
  · simp (disch := omega) only [hy_setn, cp_o, hy_setk]
  · simp only [hy_setk]
  · have S2 : Snap 11 (hz_set M 32 3 (nI ((w + 1) % 8))) (M 179) := Snap_fr (fun a ha => by rw [hy_seto _ _ _ (by omega)]) S
    have S3 := cp_Snap (b1 := 36 + 14 * ((w + 1) % 8)) (b2 := 11) (by omega) (by omega) S2
    exact Snap_fr (fun a ha => by rw [hy_seto _ _ _ (by omega)]) S3
  · intro a h1 h2
    simp (disch := omega) only [hy_seto, cp_o]

theorem k_tries  : ∀ (k i f : Nat) (M : hz_M) , i + k = 185 → k < f → f_X11_tries_L2 f (nI i) M = some (0, (hy_row M 180 (fun b => if 0 + i ≤ b ∧ b < 0 + 185 then M 179 (b - (0) + (0)) else M 180 b)))
  | 0, i, f, M, h, hf => by
    obtain ⟨f, rfl⟩ : ∃ e, f = e + 1 := ⟨f - 1, by omega⟩
    have e : i = 185 := by omega
    subst e
    have er : hy_row M 180 (fun b => if 0 + 185 ≤ b ∧ b < 0 + 185 then M 179 (b - (0) + (0)) else M 180 b) = M := by
      rw [show (fun b => if 0 + 185 ≤ b ∧ b < 0 + 185 then M 179 (b - (0) + (0)) else M 180 b) = M 180 from funext (fun b => if_neg (by omega)), hy_rid]
    have e5 : (185 : Int32) ≤ nI 185 := by decide
    rw [er]
    simp only [f_X11_tries_L2, e5, if_true]
  | k + 1, i, f, M, h, hf => by
    obtain ⟨f, rfl⟩ : ∃ e, f = e + 1 := ⟨f - 1, by omega⟩
    have e5 : ¬ (185 : Int32) ≤ nI i := by rw [show (185 : Int32) = nI 185 from rfl, hy_le (by omega) (by omega)]; omega
    have e6 : ¬ 185 ≤ i := by omega
    have ih := k_tries  k (i + 1) f (hz_set M 180 (0 + i) (M 179 (0 + i)))  (by omega) (by omega)
    have er : hy_row (hz_set M 180 (0 + i) (M 179 (0 + i))) 180 (fun b => if 0 + (i + 1) ≤ b ∧ b < 0 + 185 then (hz_set M 180 (0 + i) (M 179 (0 + i))) 179 (b - (0) + (0)) else (hz_set M 180 (0 + i) (M 179 (0 + i))) 180 b) = hy_row M 180 (fun b => if 0 + i ≤ b ∧ b < 0 + 185 then M 179 (b - (0) + (0)) else M 180 b) := by
      rw [hy_set, hy_rr]
      congr 1
      funext b
      rw [hy_ro _ _ (by omega), hy_rs]
      unfold hy_st
      by_cases e1 : b = 0 + i
      · subst e1
        rw [if_neg (by omega), if_pos rfl, if_pos (by omega)]
        congr 1 <;> omega
      · by_cases e2 : 0 + (i + 1) ≤ b ∧ b < 0 + 185
        · rw [if_pos e2, if_pos (by omega)]
        · rw [if_neg e2, if_neg e1, if_neg (by omega)]
    rw [er] at ih
    rw [← ih]
    simp (disch := omega) only [f_X11_tries_L2, e5, e6, hy_le, if_false,  hy_in, hy_c, hy_gt, hy_lm, hy_lt', hy_add1, hy_add, hy_mul, show (185 : Int32) = nI 185 from rfl, Nat.zero_add]
theorem k_back (a : Int32) : ∀ (k i f : Nat) (M : hz_M) , i + k = 185 → k < f → f_X11_back_L2 f a (nI i) M = some (a, (hy_row M 179 (fun b => if 0 + i ≤ b ∧ b < 0 + 185 then M 180 (b - (0) + (0)) else M 179 b)))
  | 0, i, f, M, h, hf => by
    obtain ⟨f, rfl⟩ : ∃ e, f = e + 1 := ⟨f - 1, by omega⟩
    have e : i = 185 := by omega
    subst e
    have er : hy_row M 179 (fun b => if 0 + 185 ≤ b ∧ b < 0 + 185 then M 180 (b - (0) + (0)) else M 179 b) = M := by
      rw [show (fun b => if 0 + 185 ≤ b ∧ b < 0 + 185 then M 180 (b - (0) + (0)) else M 179 b) = M 179 from funext (fun b => if_neg (by omega)), hy_rid]
    have e5 : (185 : Int32) ≤ nI 185 := by decide
    rw [er]
    simp only [f_X11_back_L2, e5, if_true]
  | k + 1, i, f, M, h, hf => by
    obtain ⟨f, rfl⟩ : ∃ e, f = e + 1 := ⟨f - 1, by omega⟩
    have e5 : ¬ (185 : Int32) ≤ nI i := by rw [show (185 : Int32) = nI 185 from rfl, hy_le (by omega) (by omega)]; omega
    have e6 : ¬ 185 ≤ i := by omega
    have ih := k_back a k (i + 1) f (hz_set M 179 (0 + i) (M 180 (0 + i)))  (by omega) (by omega)
    have er : hy_row (hz_set M 179 (0 + i) (M 180 (0 + i))) 179 (fun b => if 0 + (i + 1) ≤ b ∧ b < 0 + 185 then (hz_set M 179 (0 + i) (M 180 (0 + i))) 180 (b - (0) + (0)) else (hz_set M 179 (0 + i) (M 180 (0 + i))) 179 b) = hy_row M 179 (fun b => if 0 + i ≤ b ∧ b < 0 + 185 then M 180 (b - (0) + (0)) else M 179 b) := by
      rw [hy_set, hy_rr]
      congr 1
      funext b
      rw [hy_ro _ _ (by omega), hy_rs]
      unfold hy_st
      by_cases e1 : b = 0 + i
      · subst e1
        rw [if_neg (by omega), if_pos rfl, if_pos (by omega)]
        congr 1 <;> omega
      · by_cases e2 : 0 + (i + 1) ≤ b ∧ b < 0 + 185
        · rw [if_pos e2, if_pos (by omega)]
        · rw [if_neg e2, if_neg e1, if_neg (by omega)]
    rw [er] at ih
    rw [← ih]
    simp (disch := omega) only [f_X11_back_L2, e5, e6, hy_le, if_false,  hy_in, hy_c, hy_gt, hy_lm, hy_lt', hy_add1, hy_add, hy_mul, show (185 : Int32) = nI 185 from rfl, Nat.zero_add]
theorem k_keeps (kk : hz_M → hz_O) : ∀ (k i f : Nat) (M : hz_M) (u : Nat) (hu : u ≤ 7) (h6 : M 178 6 = nI u), i + k = 185 → k < f → f_X11_keeps_L52 kk f (nI i) M = kk (hy_row M 182 (fun b => if 185 * u + i ≤ b ∧ b < 185 * u + 185 then M 179 (b - (185 * u) + (0)) else M 182 b))
  | 0, i, f, M, u, hu, h6, h, hf => by
    obtain ⟨f, rfl⟩ : ∃ e, f = e + 1 := ⟨f - 1, by omega⟩
    have e : i = 185 := by omega
    subst e
    have er : hy_row M 182 (fun b => if 185 * u + 185 ≤ b ∧ b < 185 * u + 185 then M 179 (b - (185 * u) + (0)) else M 182 b) = M := by
      rw [show (fun b => if 185 * u + 185 ≤ b ∧ b < 185 * u + 185 then M 179 (b - (185 * u) + (0)) else M 182 b) = M 182 from funext (fun b => if_neg (by omega)), hy_rid]
    have e5 : (185 : Int32) ≤ nI 185 := by decide
    rw [er]
    simp only [f_X11_keeps_L52, e5, if_true]
  | k + 1, i, f, M, u, hu, h6, h, hf => by
    obtain ⟨f, rfl⟩ : ∃ e, f = e + 1 := ⟨f - 1, by omega⟩
    have e5 : ¬ (185 : Int32) ≤ nI i := by rw [show (185 : Int32) = nI 185 from rfl, hy_le (by omega) (by omega)]; omega
    have e6 : ¬ 185 ≤ i := by omega
    have ih := k_keeps kk k (i + 1) f (hz_set M 182 (185 * u + i) (M 179 (0 + i))) u hu (by rw [hy_seto _ _ _ (by omega)]; exact h6) (by omega) (by omega)
    have er : hy_row (hz_set M 182 (185 * u + i) (M 179 (0 + i))) 182 (fun b => if 185 * u + (i + 1) ≤ b ∧ b < 185 * u + 185 then (hz_set M 182 (185 * u + i) (M 179 (0 + i))) 179 (b - (185 * u) + (0)) else (hz_set M 182 (185 * u + i) (M 179 (0 + i))) 182 b) = hy_row M 182 (fun b => if 185 * u + i ≤ b ∧ b < 185 * u + 185 then M 179 (b - (185 * u) + (0)) else M 182 b) := by
      rw [hy_set, hy_rr]
      congr 1
      funext b
      rw [hy_ro _ _ (by omega), hy_rs]
      unfold hy_st
      by_cases e1 : b = 185 * u + i
      · subst e1
        rw [if_neg (by omega), if_pos rfl, if_pos (by omega)]
        congr 1 <;> omega
      · by_cases e2 : 185 * u + (i + 1) ≤ b ∧ b < 185 * u + 185
        · rw [if_pos e2, if_pos (by omega)]
        · rw [if_neg e2, if_neg e1, if_neg (by omega)]
    rw [er] at ih
    rw [← ih]
    simp (disch := omega) only [f_X11_keeps_L52, e5, e6, hy_le, if_false, h6,  hy_in, hy_c, hy_gt, hy_lm, hy_lt', hy_add1, hy_add, hy_mul, show (185 : Int32) = nI 185 from rfl, Nat.zero_add]
theorem k_undo (kk : hz_M → hz_O) : ∀ (k i f : Nat) (M : hz_M) (u : Nat) (hu : u ≤ 7) (h6 : M 178 6 = nI u), i + k = 185 → k < f → f_X11_undo_L26 kk f (nI i) M = kk (hy_row M 179 (fun b => if 0 + i ≤ b ∧ b < 0 + 185 then M 182 (b - (0) + (185 * u)) else M 179 b))
  | 0, i, f, M, u, hu, h6, h, hf => by
    obtain ⟨f, rfl⟩ : ∃ e, f = e + 1 := ⟨f - 1, by omega⟩
    have e : i = 185 := by omega
    subst e
    have er : hy_row M 179 (fun b => if 0 + 185 ≤ b ∧ b < 0 + 185 then M 182 (b - (0) + (185 * u)) else M 179 b) = M := by
      rw [show (fun b => if 0 + 185 ≤ b ∧ b < 0 + 185 then M 182 (b - (0) + (185 * u)) else M 179 b) = M 179 from funext (fun b => if_neg (by omega)), hy_rid]
    have e5 : (185 : Int32) ≤ nI 185 := by decide
    rw [er]
    simp only [f_X11_undo_L26, e5, if_true]
  | k + 1, i, f, M, u, hu, h6, h, hf => by
    obtain ⟨f, rfl⟩ : ∃ e, f = e + 1 := ⟨f - 1, by omega⟩
    have e5 : ¬ (185 : Int32) ≤ nI i := by rw [show (185 : Int32) = nI 185 from rfl, hy_le (by omega) (by omega)]; omega
    have e6 : ¬ 185 ≤ i := by omega
    have ih := k_undo kk k (i + 1) f (hz_set M 179 (0 + i) (M 182 (185 * u + i))) u hu (by rw [hy_seto _ _ _ (by omega)]; exact h6) (by omega) (by omega)
    have er : hy_row (hz_set M 179 (0 + i) (M 182 (185 * u + i))) 179 (fun b => if 0 + (i + 1) ≤ b ∧ b < 0 + 185 then (hz_set M 179 (0 + i) (M 182 (185 * u + i))) 182 (b - (0) + (185 * u)) else (hz_set M 179 (0 + i) (M 182 (185 * u + i))) 179 b) = hy_row M 179 (fun b => if 0 + i ≤ b ∧ b < 0 + 185 then M 182 (b - (0) + (185 * u)) else M 179 b) := by
      rw [hy_set, hy_rr]
      congr 1
      funext b
      rw [hy_ro _ _ (by omega), hy_rs]
      unfold hy_st
      by_cases e1 : b = 0 + i
      · subst e1
        rw [if_neg (by omega), if_pos rfl, if_pos (by omega)]
        congr 1 <;> omega
      · by_cases e2 : 0 + (i + 1) ≤ b ∧ b < 0 + 185
        · rw [if_pos e2, if_pos (by omega)]
        · rw [if_neg e2, if_neg e1, if_neg (by omega)]
    rw [er] at ih
    rw [← ih]
    simp (disch := omega) only [f_X11_undo_L26, e5, e6, hy_le, if_false, h6,  hy_in, hy_c, hy_gt, hy_lm, hy_lt', hy_add1, hy_add, hy_mul, show (185 : Int32) = nI 185 from rfl, Nat.zero_add]
theorem k_save (kk : Int32 → hz_M → hz_O) : ∀ (k i f : Nat) (M : hz_M) (s : Nat) (hs : s < 2), i + k = 185 → k < f → f_X11_save_L22 kk f (nI s) (nI i) M = kk (nI s) (hy_row M 183 (fun b => if 185 * s + i ≤ b ∧ b < 185 * s + 185 then M 179 (b - (185 * s) + (0)) else M 183 b))
  | 0, i, f, M, s, hs, h, hf => by
    obtain ⟨f, rfl⟩ : ∃ e, f = e + 1 := ⟨f - 1, by omega⟩
    have e : i = 185 := by omega
    subst e
    have er : hy_row M 183 (fun b => if 185 * s + 185 ≤ b ∧ b < 185 * s + 185 then M 179 (b - (185 * s) + (0)) else M 183 b) = M := by
      rw [show (fun b => if 185 * s + 185 ≤ b ∧ b < 185 * s + 185 then M 179 (b - (185 * s) + (0)) else M 183 b) = M 183 from funext (fun b => if_neg (by omega)), hy_rid]
    have e5 : (185 : Int32) ≤ nI 185 := by decide
    rw [er]
    simp only [f_X11_save_L22, e5, if_true]
  | k + 1, i, f, M, s, hs, h, hf => by
    obtain ⟨f, rfl⟩ : ∃ e, f = e + 1 := ⟨f - 1, by omega⟩
    have e5 : ¬ (185 : Int32) ≤ nI i := by rw [show (185 : Int32) = nI 185 from rfl, hy_le (by omega) (by omega)]; omega
    have e6 : ¬ 185 ≤ i := by omega
    have ih := k_save kk k (i + 1) f (hz_set M 183 (185 * s + i) (M 179 (0 + i))) s hs (by omega) (by omega)
    have er : hy_row (hz_set M 183 (185 * s + i) (M 179 (0 + i))) 183 (fun b => if 185 * s + (i + 1) ≤ b ∧ b < 185 * s + 185 then (hz_set M 183 (185 * s + i) (M 179 (0 + i))) 179 (b - (185 * s) + (0)) else (hz_set M 183 (185 * s + i) (M 179 (0 + i))) 183 b) = hy_row M 183 (fun b => if 185 * s + i ≤ b ∧ b < 185 * s + 185 then M 179 (b - (185 * s) + (0)) else M 183 b) := by
      rw [hy_set, hy_rr]
      congr 1
      funext b
      rw [hy_ro _ _ (by omega), hy_rs]
      unfold hy_st
      by_cases e1 : b = 185 * s + i
      · subst e1
        rw [if_neg (by omega), if_pos rfl, if_pos (by omega)]
        congr 1 <;> omega
      · by_cases e2 : 185 * s + (i + 1) ≤ b ∧ b < 185 * s + 185
        · rw [if_pos e2, if_pos (by omega)]
        · rw [if_neg e2, if_neg e1, if_neg (by omega)]
    rw [er] at ih
    rw [← ih]
    simp (disch := omega) only [f_X11_save_L22, e5, e6, hy_le, if_false,  hy_in, hy_c, hy_gt, hy_lm, hy_lt', hy_add1, hy_add, hy_mul, show (185 : Int32) = nI 185 from rfl, Nat.zero_add]
theorem k_restore (kk : hz_M → hz_O) : ∀ (k i f : Nat) (M : hz_M) (s : Nat) (hs : s < 2), i + k = 185 → k < f → f_X11_restore_L38 kk f (nI s) (nI i) M = kk (hy_row M 179 (fun b => if 0 + i ≤ b ∧ b < 0 + 185 then M 183 (b - (0) + (185 * s)) else M 179 b))
  | 0, i, f, M, s, hs, h, hf => by
    obtain ⟨f, rfl⟩ : ∃ e, f = e + 1 := ⟨f - 1, by omega⟩
    have e : i = 185 := by omega
    subst e
    have er : hy_row M 179 (fun b => if 0 + 185 ≤ b ∧ b < 0 + 185 then M 183 (b - (0) + (185 * s)) else M 179 b) = M := by
      rw [show (fun b => if 0 + 185 ≤ b ∧ b < 0 + 185 then M 183 (b - (0) + (185 * s)) else M 179 b) = M 179 from funext (fun b => if_neg (by omega)), hy_rid]
    have e5 : (185 : Int32) ≤ nI 185 := by decide
    rw [er]
    simp only [f_X11_restore_L38, e5, if_true]
  | k + 1, i, f, M, s, hs, h, hf => by
    obtain ⟨f, rfl⟩ : ∃ e, f = e + 1 := ⟨f - 1, by omega⟩
    have e5 : ¬ (185 : Int32) ≤ nI i := by rw [show (185 : Int32) = nI 185 from rfl, hy_le (by omega) (by omega)]; omega
    have e6 : ¬ 185 ≤ i := by omega
    have ih := k_restore kk k (i + 1) f (hz_set M 179 (0 + i) (M 183 (185 * s + i))) s hs (by omega) (by omega)
    have er : hy_row (hz_set M 179 (0 + i) (M 183 (185 * s + i))) 179 (fun b => if 0 + (i + 1) ≤ b ∧ b < 0 + 185 then (hz_set M 179 (0 + i) (M 183 (185 * s + i))) 183 (b - (0) + (185 * s)) else (hz_set M 179 (0 + i) (M 183 (185 * s + i))) 179 b) = hy_row M 179 (fun b => if 0 + i ≤ b ∧ b < 0 + 185 then M 183 (b - (0) + (185 * s)) else M 179 b) := by
      rw [hy_set, hy_rr]
      congr 1
      funext b
      rw [hy_ro _ _ (by omega), hy_rs]
      unfold hy_st
      by_cases e1 : b = 0 + i
      · subst e1
        rw [if_neg (by omega), if_pos rfl, if_pos (by omega)]
        congr 1 <;> omega
      · by_cases e2 : 0 + (i + 1) ≤ b ∧ b < 0 + 185
        · rw [if_pos e2, if_pos (by omega)]
        · rw [if_neg e2, if_neg e1, if_neg (by omega)]
    rw [er] at ih
    rw [← ih]
    simp (disch := omega) only [f_X11_restore_L38, e5, e6, hy_le, if_false,  hy_in, hy_c, hy_gt, hy_lm, hy_lt', hy_add1, hy_add, hy_mul, show (185 : Int32) = nI 185 from rfl, Nat.zero_add]
theorem k_shift (kk : hz_M → hz_O) (r : Nat → Int32) : ∀ (k i f : Nat) (M : hz_M), M 182 = (fun b => if b < i then r (b + 185) else r b) → i + k = 1295 → k < f → f_X11_keeps_L11 kk f (nI i) M = kk (hy_row M 182 (fun b => if b < 1295 then r (b + 185) else r b))
  | 0, i, f, M, hM, h, hf => by
    obtain ⟨f, rfl⟩ : ∃ e, f = e + 1 := ⟨f - 1, by omega⟩
    have e : i = 1295 := by omega
    subst e
    have e5 : (1295 : Int32) ≤ nI 1295 := by decide
    rw [← hM, hy_rid]
    simp only [f_X11_keeps_L11, e5, if_true]
  | k + 1, i, f, M, hM, h, hf => by
    obtain ⟨f, rfl⟩ : ∃ e, f = e + 1 := ⟨f - 1, by omega⟩
    have e5 : ¬ (1295 : Int32) ≤ nI i := by rw [show (1295 : Int32) = nI 1295 from rfl, hy_le (by omega) (by omega)]; omega
    have ih := k_shift kk r k (i + 1) f (hz_set M 182 i (M 182 (i + 185))) (by
      have hb : ∀ b, M 182 b = if b < i then r (b + 185) else r b := fun b => by rw [hM]
      rw [hy_srow]
      funext b
      unfold hy_st
      by_cases e1 : b = i
      · subst e1
        rw [if_pos rfl, if_pos (by omega), hb, if_neg (by omega)]
      · rw [if_neg e1, hb]
        by_cases e2 : b < i
        · rw [if_pos e2, if_pos (by omega)]
        · rw [if_neg e2, if_neg (by omega)]) (by omega) (by omega)
    rw [hy_set, hy_rr] at ih
    rw [← ih]
    have e6 : ¬ 1295 ≤ i := by omega
    simp (disch := omega) only [f_X11_keeps_L11, e5, if_false, hy_in, hy_c, hy_gt, hy_lm, hy_lt', hy_add1, hy_add, show (185 : Int32) = nI 185 from rfl, hy_set]
def keepRow (r q : Nat → Int32) (u : Nat) : Nat → Int32 := fun b => if u = 8 then (if 1295 ≤ b ∧ b < 1480 then q (b - 1295) else if b < 1295 then r (b + 185) else r b) else if 185 * u ≤ b ∧ b < 185 * u + 185 then q (b - 185 * u) else r b
theorem r_keeps {M : hz_M} {u : Nat} (hu : u ≤ 8) (h6 : M 178 6 = nI u) : ∃ M1, f_X11_keeps M = some (0, M1) ∧ M1 182 = keepRow (M 182) (M 179) u ∧ M1 178 6 = nI (if u = 8 then 8 else u + 1) ∧ (∀ b, b ≠ 6 → M1 178 b = M 178 b) ∧ ∀ a, a ≠ 178 → a ≠ 182 → M1 a = M a := by
  unfold f_X11_keeps
  simp only [hy_jn]
  by_cases e : u = 8
  · subst e
    have e1 : M 178 6 = (8 : Int32) := h6
    rw [if_pos e1]
    rw [show (0 : Int32) = nI 0 from rfl]
    rw [k_shift _ (M 182) 1295 0 hz_FU M (by funext b; rw [if_neg (by omega)]) (by omega) (hy_FU (by omega))]
    simp only [hy_lm]
    have e2 : ∀ (R : Nat → Int32), hz_set (hy_row M 182 R) 178 6 (hy_row M 182 R 178 6 - 1) 178 6 = nI 7 := by
      intro R
      rw [hy_setk, hy_ro _ _ (by omega), e1]; rfl
    rw [k_keeps _ 185 0 hz_FU _ 7 (by omega) (e2 _) (by omega) (hy_FU (by omega))]
    refine ⟨_, rfl, ?_, ?_, ?_, ?_⟩
    · rw [hy_seto _ _ _ (by omega), hy_rs]
      funext b
      rw [hy_seto _ _ _ (by omega), hy_seto _ _ _ (by omega), hy_ro _ _ (by omega), hy_rs]
      unfold keepRow
      rw [if_pos rfl]
      by_cases e3 : 1295 ≤ b ∧ b < 1480
      · rw [if_pos (by omega), if_pos e3]; exact congrArg (M 179) (by omega)
      · rw [if_neg (by omega), if_neg e3]
    · rw [hy_setk, hy_ro _ _ (by omega), e2]; simp only [if_true]; rfl
    · intro b hb
      rw [hy_setn _ _ _ hb, hy_ro _ _ (by omega), hy_setn _ _ _ hb, hy_ro _ _ (by omega)]
    · intro a h1 h2
      rw [hy_seto _ _ _ h1, hy_ro _ _ h2, hy_seto _ _ _ h1, hy_ro _ _ h2]
  · have e1 : ¬ M 178 6 = (8 : Int32) := by rw [h6, show (8 : Int32) = nI 8 from rfl, hy_eq (by omega) (by omega)]; exact e
    rw [if_neg e1]
    rw [show (0 : Int32) = nI 0 from rfl]
    rw [k_keeps _ 185 0 hz_FU _ u (by omega) h6 (by omega) (hy_FU (by omega))]
    refine ⟨_, rfl, ?_, ?_, ?_, ?_⟩
    · rw [hy_seto _ _ _ (by omega), hy_rs]
      funext b
      unfold keepRow
      rw [if_neg e]
      by_cases e3 : 185 * u ≤ b ∧ b < 185 * u + 185
      · rw [if_pos (by omega), if_pos e3]; rfl
      · rw [if_neg (by omega), if_neg e3]
    · rw [hy_setk, hy_ro _ _ (by omega), h6, hy_add1, if_neg e]
    · intro b hb
      rw [hy_setn _ _ _ hb, hy_ro _ _ (by omega)]
    · intro a h1 h2
      rw [hy_seto _ _ _ h1, hy_ro _ _ h2]
theorem hist_new {M Mc M' : hz_M} {u w : Nat} (hw : w < 8) (hu : u ≤ 8) (hS : ∀ j, j < u → Snap (36 + 14 * ((w + 9 + j - u) % 8)) M (fun k => if k < 185 then M 182 (185 * j + k) else 0))
    (c3 : Mc 32 3 = nI ((w + 1) % 8)) (c4 : Mc 32 4 = nI (if u = 8 then 8 else u + 1)) (cS : Snap (36 + 14 * ((w + 1) % 8)) Mc (M 179))
    (cf : ∀ a, a ≠ 32 → (a < 36 + 14 * ((w + 1) % 8) ∨ 36 + 14 * ((w + 1) % 8) + 13 < a) → Mc a = M a)
    (m1 : ∀ a, a = 1 ∨ a = 2 ∨ a = 3 ∨ a = 4 ∨ a = 32 ∨ (36 ≤ a ∧ a ≤ 147) → M' a = Mc a) (m2 : M' 182 = keepRow (M 182) (M 179) u) (m3 : M' 178 6 = nI (if u = 8 then 8 else u + 1)) : Hist M' := by
  have cX := cS.2.2.2.2.2
  by_cases e : u = 8
  · subst e
    refine ⟨8, (w + 1) % 8, by omega, by omega, m3, by rw [m1 32 (by omega)]; exact c4, by rw [m1 32 (by omega)]; exact c3, fun j hj => ?_⟩
    rw [m2]
    by_cases ej : j = 7
    · subst ej
      rw [show ((w + 1) % 8 + 9 + 7 - 8) % 8 = (w + 1) % 8 by omega]
      have er : (fun k => if k < 185 then keepRow (M 182) (M 179) 8 (185 * 7 + k) else 0) = M 179 := by
        funext k
        by_cases hk : k < 185
        · rw [if_pos hk]; unfold keepRow
          rw [if_pos rfl, if_pos (by omega)]; exact congrArg (M 179) (by omega)
        · rw [if_neg hk]; exact (cX k (by omega)).symm
      rw [er]
      exact Snap_fr (fun a ha => m1 a (by omega)) cS
    · have s := hS (j + 1) (by omega)
      rw [show (w + 9 + (j + 1) - 8) % 8 = ((w + 1) % 8 + 9 + j - 8) % 8 by omega] at s
      have er : (fun k => if k < 185 then keepRow (M 182) (M 179) 8 (185 * j + k) else 0) = (fun k => if k < 185 then M 182 (185 * (j + 1) + k) else 0) := by
        funext k
        by_cases hk : k < 185
        · rw [if_pos hk, if_pos hk]; unfold keepRow
          rw [if_pos rfl, if_neg (by omega), if_pos (by omega)]; exact congrArg (M 182) (by omega)
        · rw [if_neg hk, if_neg hk]
      rw [er]
      refine Snap_fr (fun a ha => ?_) s
      rw [m1 a (by omega), cf a (by omega) (by omega)]
  · rw [if_neg e] at c4 m3
    refine ⟨u + 1, (w + 1) % 8, by omega, by omega, m3, by rw [m1 32 (by omega)]; exact c4, by rw [m1 32 (by omega)]; exact c3, fun j hj => ?_⟩
    rw [m2]
    by_cases ej : j = u
    · subst ej
      rw [show ((w + 1) % 8 + 9 + j - (j + 1)) % 8 = (w + 1) % 8 by omega]
      have er : (fun k => if k < 185 then keepRow (M 182) (M 179) j (185 * j + k) else 0) = M 179 := by
        funext k
        by_cases hk : k < 185
        · rw [if_pos hk]; unfold keepRow
          rw [if_neg e, if_pos (by omega)]; exact congrArg (M 179) (by omega)
        · rw [if_neg hk]; exact (cX k (by omega)).symm
      rw [er]
      exact Snap_fr (fun a ha => m1 a (by omega)) cS
    · have s := hS j (by omega)
      rw [show (w + 9 + j - u) % 8 = ((w + 1) % 8 + 9 + j - (u + 1)) % 8 by omega] at s
      have er : (fun k => if k < 185 then keepRow (M 182) (M 179) u (185 * j + k) else 0) = (fun k => if k < 185 then M 182 (185 * j + k) else 0) := by
        funext k
        by_cases hk : k < 185
        · rw [if_pos hk, if_pos hk]; unfold keepRow
          rw [if_neg e, if_neg (by omega)]
        · rw [if_neg hk, if_neg hk]
      rw [er]
      refine Snap_fr (fun a ha => ?_) s
      rw [m1 a (by omega), cf a (by omega) (by omega)]

