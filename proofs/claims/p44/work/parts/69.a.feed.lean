/-! THE TEXT GOES INTO THE BUFFER -/
theorem or_sh {a c0 : Nat} (ha : a < 2 ^ 23) (hc : c0 < 256) : ((nI a <<< ((8 : Int32) &&& 31)) ||| nI c0) = nI (256 * a + c0) := by
  apply Int32.toBitVec_inj.mp
  show ((BitVec.ofNat 32 a) <<< 8 ||| BitVec.ofNat 32 c0 : BitVec 32) = BitVec.ofNat 32 (256 * a + c0)
  apply BitVec.eq_of_toNat_eq
  rw [BitVec.toNat_or, BitVec.toNat_shiftLeft, BitVec.toNat_ofNat, BitVec.toNat_ofNat, BitVec.toNat_ofNat, Nat.shiftLeft_eq]
  rw [Nat.mod_eq_of_lt (show a < 2 ^ 32 by omega), Nat.mod_eq_of_lt (show a * 2 ^ 8 < 2 ^ 32 by omega), Nat.mod_eq_of_lt (show c0 < 2 ^ 32 by omega), Nat.mod_eq_of_lt (show 256 * a + c0 < 2 ^ 32 by omega)]
  have h := Nat.two_pow_add_eq_or_of_lt (b := c0) (i := 8) (by omega) a
  rw [Nat.mul_comm a (2 ^ 8), ← h]
theorem bt_nI {m k : Nat} (hm : m < 2 ^ 31) (hk : k = 0 ∨ k = 8 ∨ k = 16 ∨ k = 24) : btn (nI m) k = m / 2 ^ k % 256 := by
  have key : bt (nI m) k = nI (m / 2 ^ k % 256) := by
    have g : ∀ s, s ≤ 24 → ((BitVec.ofNat 32 m).sshiftRight s &&& 255#32) = BitVec.ofNat 32 (m / 2 ^ s % 256) := by
      intro s hs
      rw [← bsh _ s hs]
      apply BitVec.eq_of_toNat_eq
      rw [BitVec.toNat_and, BitVec.toNat_ushiftRight, BitVec.toNat_ofNat, BitVec.toNat_ofNat, BitVec.toNat_ofNat, Nat.shiftRight_eq_div_pow, Nat.mod_eq_of_lt (show m < 2 ^ 32 by omega), Nat.mod_eq_of_lt (show m / 2 ^ s % 256 < 2 ^ 32 by omega)]
      exact Nat.and_two_pow_sub_one_eq_mod (m / 2 ^ s) 8
    apply Int32.toBitVec_inj.mp
    rcases hk with rfl | rfl | rfl | rfl
    · exact g 0 (by omega)
    · exact g 8 (by omega)
    · exact g 16 (by omega)
    · exact g 24 (by omega)
  unfold btn
  rw [key, hy_c (by omega)]
theorem nz_4n {d0 d1 d2 d3 : Nat} (h0 : d0 < 128) (h1 : d1 < 128) (h2 : d2 < 128) (h3 : d3 < 128) : nz (nI (256 * (256 * (256 * (256 * 0 + d0) + d1) + d2) + d3)) = [d0, d1, d2, d3].filter (fun c => c != 0) := by
  unfold nz
  rw [bt_nI (by omega) (by omega), bt_nI (by omega) (by omega), bt_nI (by omega) (by omega), bt_nI (by omega) (by omega)]
  rw [show (256 * (256 * (256 * (256 * 0 + d0) + d1) + d2) + d3) / 2 ^ 24 % 256 = d0 by omega, show (256 * (256 * (256 * (256 * 0 + d0) + d1) + d2) + d3) / 2 ^ 16 % 256 = d1 by omega, show (256 * (256 * (256 * (256 * 0 + d0) + d1) + d2) + d3) / 2 ^ 8 % 256 = d2 by omega, show (256 * (256 * (256 * (256 * 0 + d0) + d1) + d2) + d3) / 2 ^ 0 % 256 = d3 by omega]
/-- the j-th sign of a text, 0 behind its end -/
def tch (x : hz_TX) (j : Nat) : Nat := if j < x.1 then x.2 j else 0
def w4 (x : hz_TX) (p : Nat) : Nat := 256 * (256 * (256 * (256 * 0 + tch x p) + tch x (p + 1)) + tch x (p + 2)) + tch x (p + 3)
theorem tch_lt {x : hz_TX} (h : hz_asc x) (j : Nat) : tch x j < 128 := by
  unfold tch
  split
  · exact h j (by assumption)
  · omega
theorem cd_ok : ∀ v, v < 128 → ((nI v &&& 255).toUInt32 % 65536).toInt32 = nI v := by decide +kernel
theorem L_four1 {x : hz_TX} (ha : hz_asc x) (hx : x.1 ≤ 600) {p j a f : Nat} (hp : p ≤ 700) (hj : j < 4) (haa : a < 2 ^ 23) (M : hz_M) : f_L_four_L4 x.1 (fun j => nI (x.2 j)) (f + 1) (nI p) (nI a) (nI (p + j)) M = f_L_four_L4 x.1 (fun j => nI (x.2 j)) f (nI p) (nI (256 * a + tch x (p + j))) (nI (p + (j + 1))) M := by
  have e : ¬ nI p + 4 ≤ nI (p + j) := by
    rw [show nI p + (4 : Int32) = nI (p + 4) from hy_add p 4, hy_le (by omega) (by omega)]
    omega
  rw [f_L_four_L4, if_neg e]
  refine hy_jnI (fun k13 h13 => ?_)
  by_cases hn : x.1 ≤ p + j
  · rw [if_pos (by rw [hy_le (by omega) (by omega)]; exact hn), h13]
    dsimp only
    rw [hy_lt', hy_lt', hy_0, or_sh haa (by omega), hy_add1]
    unfold tch
    rw [if_neg (by omega)]
    rfl
  · rw [if_neg (by rw [hy_le (by omega) (by omega)]; exact hn), hy_in (by omega) (by omega), hy_gt, h13]
    dsimp only
    have ec : hz_cd (fun j => nI (x.2 j)) (nI (p + j)) = nI (tch x (p + j)) := by
      unfold hz_cd
      rw [hy_c (by omega)]
      unfold tch
      rw [if_pos (by omega)]
      exact cd_ok _ (ha _ (by omega))
    rw [hy_lt', hy_lt', ec, or_sh haa (by have := tch_lt ha (p + j); omega), hy_add1]
    rfl
theorem L_four {x : hz_TX} (ha : hz_asc x) (hx : x.1 ≤ 600) {p : Nat} (hp : p ≤ 700) (M : hz_M) : f_L_four x.1 (fun j => nI (x.2 j)) (nI p) M = some (nI (w4 x p), M) := by
  obtain ⟨m, hm⟩ := hy_FU6
  have t0 := tch_lt ha p
  have t1 := tch_lt ha (p + 1)
  have t2 := tch_lt ha (p + 2)
  have t3 := tch_lt ha (p + 3)
  unfold f_L_four
  rw [hm]
  have e0 := L_four1 ha hx (p := p) (j := 0) (a := 0) (f := m + 4) hp (by omega) (by omega) M
  have e1 := L_four1 ha hx (p := p) (j := 1) (a := 256 * 0 + tch x p) (f := m + 3) hp (by omega) (by omega) M
  have e2 := L_four1 ha hx (p := p) (j := 2) (a := 256 * (256 * 0 + tch x p) + tch x (p + 1)) (f := m + 2) hp (by omega) (by omega) M
  have e3 := L_four1 ha hx (p := p) (j := 3) (a := 256 * (256 * (256 * 0 + tch x p) + tch x (p + 1)) + tch x (p + 2)) (f := m + 1) hp (by omega) (by omega) M
  refine Eq.trans e0 (Eq.trans e1 (Eq.trans e2 (Eq.trans e3 ?_)))
  rw [f_L_four_L4, if_pos (by rw [show nI p + (4 : Int32) = nI (p + 4) from hy_add p 4]; exact (hy_le (a := p + 4) (b := p + (3 + 1)) (by omega) (by omega)).mpr (Nat.le_refl _))]
  rfl
/-- the buffer holds the first k signs -/
def Fed (M0 M : hz_M) (x : hz_TX) (k : Nat) : Prop := M 9 1 = nI k ∧ (∀ i, i < k → M 10 i = nI (x.2 i)) ∧ (∀ a, a ≠ 9 → a ≠ 10 → M a = M0 a)
theorem pl_Fed {M0 : hz_M} {x : hz_TX} : ∀ (l : List Nat) (k : Nat) (M : hz_M), Fed M0 M x k → (∀ j, j < l.length → l.getD j 0 = x.2 (k + j)) → Fed M0 (pl M k l) x (k + l.length)
  | [], k, M, h, _ => h
  | c :: l, k, M, h, hl => by
    have hc : c = x.2 k := hl 0 (by rw [List.length_cons]; omega)
    unfold pl
    have h1 : Fed M0 (hz_set (hz_set M 10 k (nI c)) 9 1 (nI (k + 1))) x (k + 1) := by
      refine ⟨hy_setk _ _ _ _, fun i hi => ?_, fun a h9 h10 => by rw [hy_seto _ _ _ h9, hy_seto _ _ _ h10]; exact h.2.2 a h9 h10⟩
      rw [hy_seto _ _ _ (by omega)]
      by_cases e : i = k
      · subst e
        rw [hy_setk, hc]
      · rw [hy_setn _ _ _ e]
        exact h.2.1 i (by omega)
    have h2 := pl_Fed l (k + 1) _ h1 (fun j hj => by
      have := hl (j + 1) (by rw [List.length_cons]; omega)
      rw [List.getD_cons_succ] at this
      rw [this, show k + (j + 1) = k + 1 + j by omega])
    rw [List.length_cons, show k + (l.length + 1) = k + 1 + l.length by omega]
    exact h2
theorem fil_y {c : Nat} {l : List Nat} (h : (c != 0) = true) : (c :: l).filter (fun c => c != 0) = c :: l.filter (fun c => c != 0) := List.filter_cons_of_pos h
theorem fil_n {c : Nat} {l : List Nat} (h : (c != 0) = false) : (c :: l).filter (fun c => c != 0) = l.filter (fun c => c != 0) := List.filter_cons_of_neg (by rw [h]; decide)
theorem nz_w4 {x : hz_TX} (ha : hz_asc x) (h1 : ∀ j, j < x.1 → 1 ≤ x.2 j) (p : Nat) : (nz (nI (w4 x p))).length = min (p + 4) x.1 - min p x.1 ∧ ∀ j, j < (nz (nI (w4 x p))).length → (nz (nI (w4 x p))).getD j 0 = x.2 (min p x.1 + j) := by
  have e : nz (nI (w4 x p)) = [tch x p, tch x (p + 1), tch x (p + 2), tch x (p + 3)].filter (fun c => c != 0) := nz_4n (tch_lt ha p) (tch_lt ha (p + 1)) (tch_lt ha (p + 2)) (tch_lt ha (p + 3))
  have tp : ∀ j, j < x.1 → tch x j = x.2 j ∧ (tch x j != 0) = true := by
    intro j hj
    have e1 : tch x j = x.2 j := if_pos hj
    refine ⟨e1, ?_⟩
    rw [e1]
    have := h1 j hj
    exact bne_iff_ne.mpr (by omega)
  have tn : ∀ j, ¬ j < x.1 → tch x j = 0 ∧ (tch x j != 0) = false := by
    intro j hj
    have e1 : tch x j = 0 := if_neg hj
    exact ⟨e1, by rw [e1]; rfl⟩
  rw [e]
  by_cases c0 : p < x.1
  · have a0 := tp p c0
    by_cases c1 : p + 1 < x.1
    · have a1 := tp (p + 1) c1
      by_cases c2 : p + 2 < x.1
      · have a2 := tp (p + 2) c2
        by_cases c3 : p + 3 < x.1
        · have a3 := tp (p + 3) c3
          rw [fil_y a0.2, fil_y a1.2, fil_y a2.2, fil_y a3.2, List.filter_nil, a0.1, a1.1, a2.1, a3.1]
          refine ⟨by simp only [List.length_cons, List.length_nil]; omega, fun j hj => ?_⟩
          simp only [List.length_cons, List.length_nil] at hj
          rw [show min p x.1 = p by omega]
          match j, hj with
          | 0, _ => rfl
          | 1, _ => rfl
          | 2, _ => rfl
          | 3, _ => rfl
          | j + 4, hj => exact absurd hj (by omega)
        · have a3 := tn (p + 3) c3
          rw [fil_y a0.2, fil_y a1.2, fil_y a2.2, fil_n a3.2, List.filter_nil, a0.1, a1.1, a2.1]
          refine ⟨by simp only [List.length_cons, List.length_nil]; omega, fun j hj => ?_⟩
          simp only [List.length_cons, List.length_nil] at hj
          rw [show min p x.1 = p by omega]
          match j, hj with
          | 0, _ => rfl
          | 1, _ => rfl
          | 2, _ => rfl
          | j + 3, hj => exact absurd hj (by omega)
      · have a2 := tn (p + 2) c2
        have a3 := tn (p + 3) (by omega)
        rw [fil_y a0.2, fil_y a1.2, fil_n a2.2, fil_n a3.2, List.filter_nil, a0.1, a1.1]
        refine ⟨by simp only [List.length_cons, List.length_nil]; omega, fun j hj => ?_⟩
        simp only [List.length_cons, List.length_nil] at hj
        rw [show min p x.1 = p by omega]
        match j, hj with
        | 0, _ => rfl
        | 1, _ => rfl
        | j + 2, hj => exact absurd hj (by omega)
    · have a1 := tn (p + 1) c1
      have a2 := tn (p + 2) (by omega)
      have a3 := tn (p + 3) (by omega)
      rw [fil_y a0.2, fil_n a1.2, fil_n a2.2, fil_n a3.2, List.filter_nil, a0.1]
      refine ⟨by simp only [List.length_cons, List.length_nil]; omega, fun j hj => ?_⟩
      simp only [List.length_cons, List.length_nil] at hj
      rw [show min p x.1 = p by omega]
      match j, hj with
      | 0, _ => rfl
      | j + 1, hj => exact absurd hj (by omega)
  · have a0 := tn p c0
    have a1 := tn (p + 1) (by omega)
    have a2 := tn (p + 2) (by omega)
    have a3 := tn (p + 3) (by omega)
    rw [fil_n a0.2, fil_n a1.2, fil_n a2.2, fil_n a3.2, List.filter_nil]
    refine ⟨by simp only [List.length_nil]; omega, fun j hj => absurd hj (by simp only [List.length_nil]; omega)⟩
theorem app_Fed {M0 M : hz_M} {x : hz_TX} (ha : hz_asc x) (h1 : ∀ j, j < x.1 → 1 ≤ x.2 j) (hx : x.1 ≤ 600) {p : Nat} (h : Fed M0 M x (min p x.1)) : ∃ M1, f_X8_append (nI (w4 x p)) M = some (0, M1) ∧ Fed M0 M1 x (min (p + 4) x.1) := by
  obtain ⟨n1, n2⟩ := nz_w4 ha h1 p
  refine ⟨_, c_app h.1 (by omega), ?_⟩
  have := pl_Fed (nz (nI (w4 x p))) (min p x.1) M h n2
  rw [n1, show min p x.1 + (min (p + 4) x.1 - min p x.1) = min (p + 4) x.1 by omega] at this
  exact this
theorem L_feedsL {M0 : hz_M} {x : hz_TX} (ha : hz_asc x) (h1 : ∀ j, j < x.1 → 1 ≤ x.2 j) (hx : x.1 ≤ 600) (kk : Int32 → hz_M → hz_O) : ∀ (k p f : Nat) (M : hz_M), Fed M0 M x (min p x.1) → x.1 ≤ p + 20 * k → p ≤ x.1 + 20 → k < f → ∃ M', f_L_feeds_L4 x.1 (fun j => nI (x.2 j)) kk f (nI (min p x.1)) (nI p) M = kk (nI x.1) M' ∧ Fed M0 M' x x.1
  | 0, p, f, M, h, hp, hp2, hf => by
    obtain ⟨f, rfl⟩ : ∃ e, f = e + 1 := ⟨f - 1, by omega⟩
    have e : min p x.1 = x.1 := by omega
    rw [e] at h ⊢
    refine ⟨M, ?_, h⟩
    rw [f_L_feeds_L4, if_pos (by rw [hy_le (by omega) (by omega)]; omega)]
  | k + 1, p, f, M, h, hp, hp2, hf => by
    obtain ⟨f, rfl⟩ : ∃ e, f = e + 1 := ⟨f - 1, by omega⟩
    by_cases c : x.1 ≤ p
    · have e : min p x.1 = x.1 := by omega
      rw [e] at h ⊢
      refine ⟨M, ?_, h⟩
      rw [f_L_feeds_L4, if_pos (by rw [hy_le (by omega) (by omega)]; exact c)]
    · obtain ⟨M1, e1, f1⟩ := app_Fed ha h1 hx h
      obtain ⟨M2, e2, f2⟩ := app_Fed ha h1 hx f1
      obtain ⟨M3, e3, f3⟩ := app_Fed ha h1 hx f2
      obtain ⟨M4, e4, f4⟩ := app_Fed ha h1 hx f3
      obtain ⟨M5, e5, f5⟩ := app_Fed ha h1 hx f4
      have l0 := (nz_w4 ha h1 p).1
      have l1 := (nz_w4 ha h1 (p + 4)).1
      have l2 := (nz_w4 ha h1 (p + 4 + 4)).1
      have l3 := (nz_w4 ha h1 (p + 4 + 4 + 4)).1
      have l4 := (nz_w4 ha h1 (p + 4 + 4 + 4 + 4)).1
      obtain ⟨M', e', f'⟩ := L_feedsL ha h1 hx kk k (p + 4 + 4 + 4 + 4 + 4) f M5 f5 (by omega) (by omega) (by omega)
      refine ⟨M', ?_, f'⟩
      have efeed : f_X10_feed (nI (w4 x p)) (nI (w4 x (p + 4))) (nI (w4 x (p + 4 + 4))) (nI (w4 x (p + 4 + 4 + 4))) (nI (w4 x (p + 4 + 4 + 4 + 4))) M = some (nI (min (p + 4 + 4 + 4 + 4 + 4) x.1), M5) := by
        unfold f_X10_feed
        rw [c_bytes, hy_cts, c_bytes, hy_cts, c_bytes, hy_cts, c_bytes, hy_cts, c_bytes, hy_cts, hy_lt', h.1, l0, l1, l2, l3, l4, hy_add, hy_add, hy_add, hy_add, hy_add, if_pos (by rw [show (600 : Int32) = nI 600 from rfl, hy_le (by omega) (by omega)]; omega), e1, hy_cts, e2, hy_cts, e3, hy_cts, e4, hy_cts, e5, hy_cts, f5.1]
      rw [f_L_feeds_L4, if_neg (by rw [hy_le (by omega) (by omega)]; exact c), L_four ha hx (by omega), hy_cts, show nI p + (4 : Int32) = nI (p + 4) from hy_add p 4, L_four ha hx (by omega), hy_cts, show nI p + (8 : Int32) = nI (p + 4 + 4) from hy_add p 8, L_four ha hx (by omega), hy_cts, show nI p + (12 : Int32) = nI (p + 4 + 4 + 4) from hy_add p 12, L_four ha hx (by omega), hy_cts, show nI p + (16 : Int32) = nI (p + 4 + 4 + 4 + 4) from hy_add p 16, L_four ha hx (by omega), hy_cts, efeed, hy_cts, hy_lt', show nI p + (20 : Int32) = nI (p + 4 + 4 + 4 + 4 + 4) from hy_add p 20]
      exact e'
theorem L_feeds {M : hz_M} {x : hz_TX} (ha : hz_asc x) (h1 : ∀ j, j < x.1 → 1 ≤ x.2 j) (hx : x.1 ≤ 600) (h0 : M 9 1 = 0) : ∃ M', f_L_feeds x.1 (fun j => nI (x.2 j)) M = some (1, M') ∧ Fed M M' x x.1 := by
  have h : Fed M M x (min 0 x.1) := by
    rw [show min 0 x.1 = 0 by omega]
    exact ⟨h0, fun i hi => absurd hi (Nat.not_lt_zero i), fun _ _ _ => rfl⟩
  obtain ⟨M', e, f⟩ := L_feedsL ha h1 hx (fun (v2_1 : Int32) (M2 : hz_M) => if v2_1 = (nI x.1) then some ((1 : Int32), M2) else some ((0 : Int32), M2)) 30 0 hz_FU M h (by omega) (by omega) (hy_FU (by omega))
  refine ⟨M', ?_, f⟩
  unfold f_L_feeds
  rw [hy_jn]
  rw [show nI (min 0 x.1) = (0 : Int32) by rw [show min 0 x.1 = 0 by omega]; rfl] at e
  refine Eq.trans e ?_
  exact if_pos rfl
