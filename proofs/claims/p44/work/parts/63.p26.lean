theorem b255 : ∀ i, i < 32 → 8 ≤ i → (255#32).getLsbD i = false := by decide
theorem bsh (x : BitVec 32) (s : Nat) (hs : s ≤ 24) : ((x >>> s) &&& 255#32) = ((x.sshiftRight s) &&& 255#32) := by
  apply BitVec.eq_of_getLsbD_eq
  intro i hi
  rw [BitVec.getLsbD_and, BitVec.getLsbD_and]
  by_cases h : 8 ≤ i
  · rw [b255 i hi h, Bool.and_false, Bool.and_false]
  · congr 1
    rw [BitVec.getLsbD_ushiftRight, BitVec.getLsbD_sshiftRight]
    have h1 : s + i < 32 := by omega
    simp [hi, h1]
    try omega
theorem by_sh (w : Int32) (k : Nat) (hk : k = 0 ∨ k = 8 ∨ k = 16 ∨ k = 24) : (((w).toUInt32 >>> ((nI k).toUInt32 &&& Int32.toUInt32 31)).toInt32 &&& (255 : Int32)) = ((w >>> ((nI k) &&& 31)) &&& (255 : Int32)) := by
  apply Int32.toBitVec_inj.mp
  rcases hk with rfl | rfl | rfl | rfl
  · exact bsh w.toBitVec 0 (by omega)
  · exact bsh w.toBitVec 8 (by omega)
  · exact bsh w.toBitVec 16 (by omega)
  · exact bsh w.toBitVec 24 (by omega)
theorem by_rg (x : Int32) : ∃ c, c ≤ 255 ∧ x &&& (255 : Int32) = nI c := by
  have e : (x &&& (255 : Int32)).toBitVec = x.toBitVec &&& 255#32 := rfl
  have h : (x.toBitVec &&& 255#32).toNat ≤ 255 := by
    rw [BitVec.toNat_and]
    exact Nat.and_le_right
  refine ⟨(x.toBitVec &&& 255#32).toNat, h, ?_⟩
  apply Int32.toBitVec_inj.mp
  rw [e]
  apply BitVec.eq_of_toNat_eq
  show _ = (Int32.ofNat _).toBitVec.toNat
  rw [Int32.toBitVec_ofNat', BitVec.toNat_ofNat]
  omega


def bt (w : Int32) (k : Nat) : Int32 := (w >>> ((nI k) &&& 31)) &&& (255 : Int32)
def btn (w : Int32) (k : Nat) : Nat := Int32.toNatClampNeg (bt w k)
theorem bt_n (w : Int32) (k : Nat) : bt w k = nI (btn w k) ∧ btn w k ≤ 255 := by
  obtain ⟨c, h1, h2⟩ := by_rg (w >>> ((nI k) &&& 31))
  have e : bt w k = nI c := h2
  unfold btn
  rw [e, hy_c (by omega)]
  exact ⟨rfl, h1⟩
def nz (w : Int32) : List Nat := [btn w 24, btn w 16, btn w 8, btn w 0].filter (fun c => c != 0)
theorem nz_len (w : Int32) : (nz w).length ≤ 4 := by
  unfold nz
  exact List.length_filter_le _ _
theorem nz_rg {w : Int32} {c : Nat} (h : c ∈ nz w) : 1 ≤ c ∧ c ≤ 255 := by
  unfold nz at h
  rw [List.mem_filter] at h
  obtain ⟨h1, h2⟩ := h
  have h3 : c ≠ 0 := by simpa using h2
  simp only [List.mem_cons, List.not_mem_nil, or_false] at h1
  have a := (bt_n w 24).2
  have b := (bt_n w 16).2
  have d := (bt_n w 8).2
  have e := (bt_n w 0).2
  omega
/-- the class's buffer with more bytes -/
def pl : hz_M → Nat → List Nat → hz_M
  | M, _, [] => M
  | M, n, c :: l => pl (hz_set (hz_set M 10 n (nI c)) 9 1 (nI (n + 1))) (n + 1) l
def rl_ : hz_M → Nat → List Nat → hz_M
  | M, _, [] => M
  | M, n, c :: l => rl_ (hz_set (if n < 600 then hz_set M 186 n (nI c) else M) 178 11 (nI (n + 1))) (n + 1) l
theorem pl_app : ∀ (l m : List Nat) (M : hz_M) (n : Nat), pl M n (l ++ m) = pl (pl M n l) (n + l.length) m
  | [], _, _, _ => rfl
  | c :: l, m, M, n => by
    show pl (hz_set (hz_set M 10 n (nI c)) 9 1 (nI (n + 1))) (n + 1) (l ++ m) = pl (pl (hz_set (hz_set M 10 n (nI c)) 9 1 (nI (n + 1))) (n + 1) l) (n + (l.length + 1)) m
    rw [pl_app l m, show n + 1 + l.length = n + (l.length + 1) by omega]
theorem rl_app : ∀ (l m : List Nat) (M : hz_M) (n : Nat), rl_ M n (l ++ m) = rl_ (rl_ M n l) (n + l.length) m
  | [], _, _, _ => rfl
  | c :: l, m, M, n => by
    show rl_ (hz_set (if n < 600 then hz_set M 186 n (nI c) else M) 178 11 (nI (n + 1))) (n + 1) (l ++ m) = rl_ (rl_ (hz_set (if n < 600 then hz_set M 186 n (nI c) else M) 178 11 (nI (n + 1))) (n + 1) l) (n + (l.length + 1)) m
    rw [rl_app l m, show n + 1 + l.length = n + (l.length + 1) by omega]
theorem pl_n : ∀ (l : List Nat) (M : hz_M) (n : Nat), M 9 1 = nI n → pl M n l 9 1 = nI (n + l.length)
  | [], _, _, h => h
  | c :: l, M, n, h => by
    show pl (hz_set (hz_set M 10 n (nI c)) 9 1 (nI (n + 1))) (n + 1) l 9 1 = nI (n + (l.length + 1))
    rw [pl_n l _ _ (hy_setk _ _ _ _), show n + 1 + l.length = n + (l.length + 1) by omega]
theorem rl_n : ∀ (l : List Nat) (M : hz_M) (n : Nat), M 178 11 = nI n → rl_ M n l 178 11 = nI (n + l.length)
  | [], _, _, h => h
  | c :: l, M, n, h => by
    show rl_ (hz_set (if n < 600 then hz_set M 186 n (nI c) else M) 178 11 (nI (n + 1))) (n + 1) l 178 11 = nI (n + (l.length + 1))
    rw [rl_n l _ _ (hy_setk _ _ _ _), show n + 1 + l.length = n + (l.length + 1) by omega]
theorem pl_o : ∀ (l : List Nat) (M : hz_M) (n a : Nat), a ≠ 9 → a ≠ 10 → pl M n l a = M a
  | [], _, _, _, _, _ => rfl
  | c :: l, M, n, a, h1, h2 => by
    show pl (hz_set (hz_set M 10 n (nI c)) 9 1 (nI (n + 1))) (n + 1) l a = M a
    rw [pl_o l _ _ _ h1 h2, hy_seto _ _ _ h1, hy_seto _ _ _ h2]
theorem rl_o : ∀ (l : List Nat) (M : hz_M) (n a : Nat), a ≠ 178 → a ≠ 186 → rl_ M n l a = M a
  | [], _, _, _, _, _ => rfl
  | c :: l, M, n, a, h1, h2 => by
    show rl_ (hz_set (if n < 600 then hz_set M 186 n (nI c) else M) 178 11 (nI (n + 1))) (n + 1) l a = M a
    rw [rl_o l _ _ _ h1 h2, hy_seto _ _ _ h1]
    split
    · rw [hy_seto _ _ _ h2]
    · rfl
theorem rl_8 : ∀ (l : List Nat) (M : hz_M) (n b : Nat), b ≠ 11 → rl_ M n l 178 b = M 178 b
  | [], _, _, _, _ => rfl
  | c :: l, M, n, b, h1 => by
    show rl_ (hz_set (if n < 600 then hz_set M 186 n (nI c) else M) 178 11 (nI (n + 1))) (n + 1) l 178 b = M 178 b
    rw [rl_8 l _ _ _ h1, hy_setn _ _ _ h1]
    split
    · rw [hy_seto _ _ _ (by omega)]
    · rfl
/-- what both buffers hold behind it -/
theorem pl_rl : ∀ (l : List Nat) (M N : hz_M) (n : Nat), (∀ c ∈ l, 1 ≤ c ∧ c ≤ 255) → n + l.length ≤ 600 → (∀ i, i < n → M 10 i = N 186 i ∧ ∃ c, 1 ≤ c ∧ c ≤ 255 ∧ M 10 i = nI c) →
    ∀ i, i < n + l.length → pl M n l 10 i = rl_ N n l 186 i ∧ ∃ c, 1 ≤ c ∧ c ≤ 255 ∧ pl M n l 10 i = nI c
  | [], _, _, _, _, _, h => h
  | c :: l, M, N, n, hc, hn, h => by
    have hn' : n + (l.length + 1) ≤ 600 := hn
    have ih := pl_rl l (hz_set (hz_set M 10 n (nI c)) 9 1 (nI (n + 1))) (hz_set (if n < 600 then hz_set N 186 n (nI c) else N) 178 11 (nI (n + 1))) (n + 1) (fun d hd => hc d (List.mem_cons_of_mem _ hd)) (by omega) (fun i hi => by
      have e1 : hz_set (hz_set M 10 n (nI c)) 9 1 (nI (n + 1)) 10 = hz_set M 10 n (nI c) 10 := hy_seto _ _ _ (by omega)
      have e2 : hz_set (if n < 600 then hz_set N 186 n (nI c) else N) 178 11 (nI (n + 1)) 186 = hz_set N 186 n (nI c) 186 := by rw [hy_seto _ _ _ (by omega), if_pos (by omega)]
      rw [e1, e2]
      by_cases e : i = n
      · subst e; rw [hy_setk, hy_setk]; exact ⟨rfl, c, (hc c List.mem_cons_self).1, (hc c List.mem_cons_self).2, rfl⟩
      · rw [hy_setn _ _ _ e, hy_setn _ _ _ e]; exact h i (by omega))
    intro i hi
    exact ih i (by have : i < n + (l.length + 1) := hi; omega)
theorem rl_keep : ∀ (l : List Nat) (N : hz_M) (n i : Nat), i < n → rl_ N n l 186 i = N 186 i
  | [], _, _, _, _ => rfl
  | c :: l, N, n, i, h => by
    show rl_ (hz_set (if n < 600 then hz_set N 186 n (nI c) else N) 178 11 (nI (n + 1))) (n + 1) l 186 i = N 186 i
    rw [rl_keep l _ _ _ (by omega), hy_seto _ _ _ (by omega)]
    split
    · rw [hy_setn _ _ _ (by omega)]
    · rfl
theorem c_put {M : hz_M} {n c : Nat} (h1 : M 9 1 = nI n) (hc : c ≤ 255) (hn : c = 0 ∨ n < 600) (hn2 : n ≤ 600) : f_X8_put (nI c) M = some (0, if c = 0 then M else hz_set (hz_set M 10 n (nI c)) 9 1 (nI (n + 1))) := by
  unfold f_X8_put
  by_cases e : c = 0
  · subst e; rfl
  · have e1 : ¬ nI c = 0 := by rw [hy_0, hy_eq (by omega) (by omega)]; exact e
    have e2 : ¬ (600 : Int32) ≤ M 9 1 := by rw [h1, show (600 : Int32) = nI 600 from rfl, hy_le (by omega) (by omega)]; omega
    rw [if_neg e1, if_neg e2, if_neg e, h1, hy_in (by omega) (by omega), hy_gt, hy_c (by omega), hy_lm, hy_lm, hy_seto _ _ _ (by omega), h1, hy_add1]
def bl4 (w : Int32) (k : Nat) : List Nat := if btn w k = 0 then [] else [btn w k]
theorem nz_4 (w : Int32) : nz w = bl4 w 24 ++ (bl4 w 16 ++ (bl4 w 8 ++ bl4 w 0)) := by
  unfold nz bl4
  by_cases a : btn w 24 = 0 <;> by_cases b : btn w 16 = 0 <;> by_cases c : btn w 8 = 0 <;> by_cases d : btn w 0 = 0 <;> simp [a, b, c, d]
theorem c_ap1 {w : Int32} {k n f : Nat} {M : hz_M} (hk : k = 0 ∨ k = 8 ∨ k = 16 ∨ k = 24) (h1 : M 9 1 = nI n) (hn : n + (bl4 w k).length ≤ 600) : f_X8_append_L3 (f + 1) w (nI k) M = f_X8_append_L3 f w (nI k + -8) (pl M n (bl4 w k)) := by
  have e0 : ¬ nI k < 0 := by rw [hy_0, hy_lt (by omega) (by omega)]; omega
  obtain ⟨b1, b2⟩ := bt_n w k
  have b3 : (((w).toUInt32 >>> ((nI k).toUInt32 &&& Int32.toUInt32 31)).toInt32 &&& (255 : Int32)) = nI (btn w k) := by rw [by_sh w k hk]; exact b1
  unfold bl4 at hn ⊢
  have ep : f_X8_put (nI (btn w k)) M = some (0, if btn w k = 0 then M else hz_set (hz_set M 10 n (nI (btn w k))) 9 1 (nI (n + 1))) := c_put h1 b2 (by
    by_cases e : btn w k = 0
    · exact Or.inl e
    · rw [if_neg e] at hn; exact Or.inr (by simp at hn; omega)) (by omega)
  simp only [f_X8_append_L3, e0, if_false, b3, ep, hy_cts, hy_lt']
  by_cases e : btn w k = 0
  · rw [if_pos e, if_pos e]; rfl
  · rw [if_neg e, if_neg e]; rfl
theorem hy_FU6 : ∃ m, hz_FU = m + 5 := ⟨99995, rfl⟩
theorem c_app {w : Int32} {n : Nat} {M : hz_M} (h1 : M 9 1 = nI n) (hn : n + (nz w).length ≤ 600) : f_X8_append w M = some (0, pl M n (nz w)) := by
  obtain ⟨m, hm⟩ := hy_FU6
  unfold f_X8_append
  rw [hm, show (24 : Int32) = nI 24 from rfl]
  rw [nz_4] at hn ⊢
  simp only [List.length_append] at hn
  rw [c_ap1 (by omega) h1 (by omega), show nI 24 + -8 = nI 16 from rfl]
  have p1 := pl_n (bl4 w 24) M n h1
  rw [c_ap1 (by omega) p1 (by omega), show nI 16 + -8 = nI 8 from rfl]
  have p2 := pl_n (bl4 w 16) _ _ p1
  rw [c_ap1 (by omega) p2 (by omega), show nI 8 + -8 = nI 0 from rfl]
  have p3 := pl_n (bl4 w 8) _ _ p2
  rw [c_ap1 (by omega) p3 (by omega)]
  have e0 : nI 0 + -8 < 0 := by decide
  rw [pl_app, pl_app, pl_app]
  simp only [f_X8_append_L3, e0, if_true]
theorem c_bytes (w : Int32) (M : hz_M) : f_X8_bytesIn w M = some (nI (nz w).length, M) := by
  obtain ⟨m, hm⟩ := hy_FU6
  have st : ∀ (k c f : Nat), (k = 0 ∨ k = 8 ∨ k = 16 ∨ k = 24) → f_X8_bytesIn_L5 (f + 1) w (nI c) (nI k) M = f_X8_bytesIn_L5 f w (nI (c + (bl4 w k).length)) (nI k + -8) M := by
    intro k c f hk
    have e0 : ¬ nI k < 0 := by rw [hy_0, hy_lt (by omega) (by omega)]; omega
    obtain ⟨b1, b2⟩ := bt_n w k
    have b3 : (((w).toUInt32 >>> ((nI k).toUInt32 &&& Int32.toUInt32 31)).toInt32 &&& (255 : Int32)) = nI (btn w k) := by rw [by_sh w k hk]; exact b1
    simp only [f_X8_bytesIn_L5, e0, if_false, hy_jn, hy_lt', b3]
    unfold bl4
    by_cases e : btn w k = 0
    · have e1 : nI (btn w k) = 0 := by rw [e]; rfl
      rw [if_pos e1, if_pos e]; rfl
    · have e1 : ¬ nI (btn w k) = 0 := by rw [hy_0, hy_eq (by omega) (by omega)]; exact e
      rw [if_neg e1, if_neg e, hy_add1]; rfl
  unfold f_X8_bytesIn
  rw [hm, show (24 : Int32) = nI 24 from rfl, show (0 : Int32) = nI 0 from rfl]
  rw [st 24 0 _ (by omega), show nI 24 + -8 = nI 16 from rfl, st 16 _ _ (by omega), show nI 16 + -8 = nI 8 from rfl, st 8 _ _ (by omega), show nI 8 + -8 = nI 0 from rfl, st 0 _ _ (by omega)]
  have e0 : nI 0 + -8 < 0 := by decide
  simp only [f_X8_bytesIn_L5, e0, if_true]
  congr 2
  rw [nz_4]
  simp only [List.length_append]
  congr 1; omega
theorem bl4_len (w : Int32) (k : Nat) : (bl4 w k).length ≤ 1 := by
  unfold bl4; split <;> simp
