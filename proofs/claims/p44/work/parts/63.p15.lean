def cs (b1 b2 k : Nat) (M : hz_M) : hz_M := hz_set M b1 k (M b2 k)
def cr (b1 b2 i n : Nat) (M : hz_M) : hz_M := hz_cpy M (b2 + i) (b1 + i) n
def cpM (b1 b2 : Nat) (M : hz_M) : hz_M := (cr b1 b2 13 9 (cr b1 b2 12 16 (cr b1 b2 11 16 (cr b1 b2 10 16 (cr b1 b2 9 16 (cr b1 b2 8 12 (cr b1 b2 7 16 (cr b1 b2 6 16 (cr b1 b2 5 16 (cr b1 b2 4 16 (cr b1 b2 3 16 (cr b1 b2 2 16 (cr b1 b2 1 4 (cs b1 b2 19 (cs b1 b2 18 (cs b1 b2 17 (cs b1 b2 16 (cs b1 b2 15 (cs b1 b2 14 M)))))))))))))))))))
theorem cp_eq (b1 b2 : Nat) (M : hz_M) : f_X7_copyFrom b1 b2 M = some (0, cpM b1 b2 M) := rfl
theorem cs_o {b1 b2 k a : Nat} (M : hz_M) (h : a ≠ b1) : cs b1 b2 k M a = M a := by unfold cs; rw [hy_seto _ _ _ h]
theorem cs_k (b1 b2 k : Nat) (M : hz_M) : cs b1 b2 k M b1 k = M b2 k := by unfold cs; rw [hy_setk]
theorem cs_n {b1 b2 k b : Nat} (M : hz_M) (h : b ≠ k) : cs b1 b2 k M b1 b = M b1 b := by unfold cs; rw [hy_setn _ _ _ h]
theorem cr_o {b1 b2 i n a : Nat} (M : hz_M) (h : a ≠ b1 + i) : cr b1 b2 i n M a = M a := by
  unfold cr hz_cpy; funext b; rw [if_neg (fun e => h e.1)]
theorem cr_k {b1 b2 i n k : Nat} (M : hz_M) (h : k < n) : cr b1 b2 i n M (b1 + i) k = M (b2 + i) k := by
  unfold cr hz_cpy; rw [if_pos ⟨rfl, h⟩]
theorem cp_o {b1 b2 : Nat} (M : hz_M) {a : Nat} (h : a < b1 ∨ b1 + 13 < a) : cpM b1 b2 M a = M a := by
  unfold cpM
  simp (disch := omega) only [cr_o, cs_o]
theorem cp_RC {b1 b2 : Nat} {M : hz_M} {q : Nat → Int32} (h : b1 + 14 ≤ b2 ∨ b2 + 14 ≤ b1) (hZ : hy_Z q) (hR : hy_RC b2 M q) : hy_RC b1 (cpM b1 b2 M) q := by
  obtain ⟨⟨s1, s2, s3, s4, s5, s6⟩, ra, ro, rp, rl, rt, rs, rw', rd, rwt, rpg, rk, rh, rtw⟩ := hR
  obtain ⟨⟨z1, z2⟩, ⟨z3, z4, z5⟩, ⟨z6, z7, z8⟩, ⟨z9, z10⟩, ⟨z11, z12, z13⟩, ⟨z14, z15, z16⟩⟩ := hZ
  unfold hy_RC cpM
  refine ⟨⟨?_, ?_, ?_, ?_, ?_, ?_⟩, fun g hg => ?_, fun g hg => ?_, fun g hg => ?_, fun g hg => ?_, fun g hg => ?_, fun g hg => ?_, fun g hg => ?_, fun g hg => ?_, fun g hg => ?_, fun g hg => ?_, fun g hg => ?_, fun g hg => ?_, fun g hg => ?_⟩
  · simp (disch := omega) only [cr_o, cr_k, cs_o, cs_k, cs_n]; exact s1
  · simp (disch := omega) only [cr_o, cr_k, cs_o, cs_k, cs_n]; exact s2
  · simp (disch := omega) only [cr_o, cr_k, cs_o, cs_k, cs_n]; exact s3
  · simp (disch := omega) only [cr_o, cr_k, cs_o, cs_k, cs_n]; exact s4
  · simp (disch := omega) only [cr_o, cr_k, cs_o, cs_k, cs_n]; exact s5
  · simp (disch := omega) only [cr_o, cr_k, cs_o, cs_k, cs_n]; exact s6
  · simp (disch := omega) only [cr_o, cr_k, cs_o, cs_k, cs_n]; exact ra g hg
  · simp (disch := omega) only [cr_o, cr_k, cs_o, cs_k, cs_n]; exact ro g hg
  · simp (disch := omega) only [cr_o, cr_k, cs_o, cs_k, cs_n]; exact rp g hg
  · simp (disch := omega) only [cr_o, cr_k, cs_o, cs_k, cs_n]; exact rl g hg
  · simp (disch := omega) only [cr_o, cr_k, cs_o, cs_k, cs_n]; exact rt g hg
  · simp (disch := omega) only [cr_o, cr_k, cs_o, cs_k, cs_n]; exact rs g hg
  · simp (disch := omega) only [cr_o, cr_k, cs_o, cs_k, cs_n]; exact rw' g hg
  · simp (disch := omega) only [cr_o, cr_k, cs_o, cs_k, cs_n]; exact rd g hg
  · simp (disch := omega) only [cr_o, cr_k, cs_o, cs_k, cs_n]; exact rwt g hg
  · simp (disch := omega) only [cr_o, cr_k, cs_o, cs_k, cs_n]; exact rpg g hg
  · simp (disch := omega) only [cr_o, cr_k, cs_o, cs_k, cs_n]; exact rk g hg
  · simp (disch := omega) only [cr_o, cr_k, cs_o, cs_k, cs_n]; exact rh g hg
  · simp (disch := omega) only [cr_o, cr_k, cs_o, cs_k, cs_n]; exact rtw g hg
theorem cp_Snap {b1 b2 : Nat} {M : hz_M} {q : Nat → Int32} (h : b1 + 14 ≤ b2 ∨ b2 + 14 ≤ b1) (h5 : 5 ≤ b1) (s : Snap b2 M q) : Snap b1 (cpM b1 b2 M) q := by
  obtain ⟨hZ, hH, hR, hQ, hT, hX⟩ := s
  refine ⟨hZ, ?_, cp_RC h hZ hR, hQ, hT, hX⟩
  unfold hy_Ho nmd at *
  simp (disch := omega) only [cp_o]
  exact hH
theorem c_record {M : hz_M} {u w : Nat} (hw : w < 8) (hu : u ≤ 8) (h3 : M 32 3 = nI w) (h4 : M 32 4 = nI u) (S : Snap 11 M (M 179)) :
    ∃ Mc, f_X2_record M = some (0, Mc) ∧ Mc 32 3 = nI ((w + 1) % 8) ∧ Mc 32 4 = nI (if u = 8 then 8 else u + 1) ∧ Snap (36 + 14 * ((w + 1) % 8)) Mc (M 179) ∧
      (∀ a, a ≠ 32 → (a < 36 + 14 * ((w + 1) % 8) ∨ 36 + 14 * ((w + 1) % 8) + 13 < a) → Mc a = M a) := by
  have key : f_X2_record M = some (0, hz_set (cpM (36 + 14 * ((w + 1) % 8)) 11 (hz_set M 32 3 (nI ((w + 1) % 8)))) 32 4 (nI (if u = 8 then 8 else u + 1))) := by
    have e1 : (if (8 : Int32) ≤ M 32 3 + 1 then (0 : Int32) else M 32 3 + 1) = nI ((w + 1) % 8) := by
      rw [h3, hy_add1]
      by_cases e : 8 ≤ w + 1
      · have e' : (8 : Int32) ≤ nI (w + 1) := by rw [show (8 : Int32) = nI 8 from rfl, hy_le (by omega) (by omega)]; exact e
        rw [if_pos e', show (w + 1) % 8 = 0 by omega]; rfl
      · have e' : ¬ (8 : Int32) ≤ nI (w + 1) := by rw [show (8 : Int32) = nI 8 from rfl, hy_le (by omega) (by omega)]; exact e
        rw [if_neg e', show (w + 1) % 8 = w + 1 by omega]
    have e2 : (if nI u + 1 < (8 : Int32) then nI u + 1 else 8) = nI (if u = 8 then 8 else u + 1) := by
      rw [hy_add1]
      by_cases e : u + 1 < 8
      · have e' : nI (u + 1) < (8 : Int32) := by rw [show (8 : Int32) = nI 8 from rfl, hy_lt (by omega) (by omega)]; exact e
        rw [if_pos e', if_neg (by omega)]
      · have e' : ¬ nI (u + 1) < (8 : Int32) := by rw [show (8 : Int32) = nI 8 from rfl, hy_lt (by omega) (by omega)]; exact e
        rw [if_neg e']
        by_cases e2 : u = 8
        · rw [if_pos e2]; rfl
        · rw [if_neg e2, show u + 1 = 8 by omega]; rfl
    have e3 : ∀ x, x = nI ((w + 1) % 8) → (hz_lm (hz_set M 32 3 x) fun M3 => hz_gd (hz_in (M3 32 3) 8) <| hz_ct (f_X7_copyFrom (hz_pa (M3 32 3)) 11 M3) fun r6 M7 => hz_lm (hz_set M7 32 4 (if ((M7 32 4) + (1 : Int32)) < (8 : Int32) then ((M7 32 4) + (1 : Int32)) else (8 : Int32))) fun M9 => some (0, M9)) = some (0, hz_set (cpM (36 + 14 * ((w + 1) % 8)) 11 (hz_set M 32 3 (nI ((w + 1) % 8)))) 32 4 (nI (if u = 8 then 8 else u + 1))) := by
      intro x hx
      subst hx
      simp (disch := omega) only [hy_lm, hy_setk, hy_in, hy_gt, hz_pa, hy_c, cp_eq, hy_cts, cp_o, hy_setn, h4, e2]
    unfold f_X2_record
    simp only [hy_jn]
    rw [← e3 _ e1]
    split <;> rfl
  refine ⟨_, key, ?_, ?_, ?_, ?_⟩
  · simp (disch := omega) only [hy_setn, cp_o, hy_setk]
  · simp only [hy_setk]
  · have S2 : Snap 11 (hz_set M 32 3 (nI ((w + 1) % 8))) (M 179) := Snap_fr (fun a ha => by rw [hy_seto _ _ _ (by omega)]) S
    have S3 := cp_Snap (b1 := 36 + 14 * ((w + 1) % 8)) (b2 := 11) (by omega) (by omega) S2
    exact Snap_fr (fun a ha => by rw [hy_seto _ _ _ (by omega)]) S3
  · intro a h1 h2
    simp (disch := omega) only [hy_seto, cp_o]

def keepRow (r q : Nat → Int32) (u : Nat) : Nat → Int32 := fun b => if u = 8 then (if 1295 ≤ b ∧ b < 1480 then q (b - 1295) else if b < 1295 then r (b + 185) else r b) else if 185 * u ≤ b ∧ b < 185 * u + 185 then q (b - 185 * u) else r b
