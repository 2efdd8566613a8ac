/-! the guests who came down in a minute, as bits -/
theorem bit_sh (x : Int32) : ∀ g, g < 9 → (x >>> (nI g &&& 31)).toBitVec = x.toBitVec.sshiftRight g
  | 0, _ => rfl
  | 1, _ => rfl
  | 2, _ => rfl
  | 3, _ => rfl
  | 4, _ => rfl
  | 5, _ => rfl
  | 6, _ => rfl
  | 7, _ => rfl
  | 8, _ => rfl
  | g + 9, h => absurd h (by omega)
theorem bit_1 : ∀ i, i < 32 → 1 ≤ i → (1#32).getLsbD i = false := by decide
theorem bit_or : ∀ i, i < 16 → ∀ j, j < 16 → ((1 : Int32) <<< (nI i &&& 31)).toBitVec.getLsbD j = decide (i = j) := by decide +kernel
theorem bit_is (x : Int32) {g : Nat} (hg : g < 9) : ((x >>> (nI g &&& 31)) &&& (1 : Int32) = 1) ↔ x.toBitVec.getLsbD g = true := by
  rw [← Int32.toBitVec_inj]
  show ((x >>> (nI g &&& 31)).toBitVec &&& 1#32 = 1#32) ↔ _
  rw [bit_sh x g hg]
  have h0 : (x.toBitVec.sshiftRight g).getLsbD 0 = x.toBitVec.getLsbD g := by
    rw [BitVec.getLsbD_sshiftRight]
    have e : 0 + g < 32 := by omega
    simp [show g < 32 by omega]
  rw [← h0]
  generalize x.toBitVec.sshiftRight g = y
  constructor
  · intro h
    have h1 : (y &&& 1#32).getLsbD 0 = true := by rw [h]; decide
    rw [BitVec.getLsbD_and] at h1
    exact (Bool.and_eq_true_iff.mp h1).1
  · intro h
    apply BitVec.eq_of_getLsbD_eq
    intro i hi
    rw [BitVec.getLsbD_and]
    match i, hi with
    | 0, _ => rw [h]; decide
    | i + 1, hi => rw [bit_1 (i + 1) hi (by omega), Bool.and_false]
theorem sb_bit {g : Nat} (hg : g < 16) : ∀ (k i : Nat) (q : Nat → Int32) (s : Int32), i + k ≤ 16 → (sbN k i q s).toBitVec.getLsbD g = (s.toBitVec.getLsbD g || (decide (i ≤ g ∧ g < i + k) && gdn (gstN q (g - i) i) g))
  | 0, i, q, s, _ => by
    rw [decide_eq_false (by omega), Bool.false_and, Bool.or_false]
    rfl
  | k + 1, i, q, s, h => by
    unfold sbN
    rw [sb_bit hg k (i + 1) _ _ (by omega)]
    by_cases e : g = i
    · subst e
      rw [decide_eq_false (p := g + 1 ≤ g ∧ g < g + 1 + k) (by omega), Bool.false_and, Bool.or_false, decide_eq_true (p := g ≤ g ∧ g < g + (k + 1)) (by omega), Bool.true_and, Nat.sub_self]
      show _ = (s.toBitVec.getLsbD g || gdn q g)
      by_cases c : gdn q g = true
      · rw [if_pos c, c]
        show (s.toBitVec ||| ((1 : Int32) <<< (nI g &&& 31)).toBitVec).getLsbD g = _
        rw [BitVec.getLsbD_or, bit_or g hg g hg, decide_eq_true rfl]
      · rw [if_neg c, Bool.eq_false_iff.mpr c, Bool.or_false]
    · have e1 : (if gdn q i = true then s ||| ((1 : Int32) <<< (nI i &&& 31)) else s).toBitVec.getLsbD g = s.toBitVec.getLsbD g := by
        by_cases c : gdn q i = true
        · rw [if_pos c]
          show (s.toBitVec ||| ((1 : Int32) <<< (nI i &&& 31)).toBitVec).getLsbD g = _
          rw [BitVec.getLsbD_or, bit_or i (by omega) g hg, decide_eq_false (fun x => e x.symm), Bool.or_false]
        · rw [if_neg c]
      rw [e1]
      congr 1
      by_cases c : i ≤ g ∧ g < i + (k + 1)
      · rw [decide_eq_true c, decide_eq_true (p := i + 1 ≤ g ∧ g < i + 1 + k) (by omega), show g - i = g - (i + 1) + 1 by omega]
        rfl
      · rw [decide_eq_false c, decide_eq_false (p := i + 1 ≤ g ∧ g < i + 1 + k) (by omega), Bool.false_and, Bool.false_and]
def sbs (q : Nat → Int32) : Int32 := sbN (gz q) 0 (mC q) 0
theorem bit_min {q : Nat → Int32} {g : Nat} (hz : gz q ≤ 16) (hg : g < gz q) (h9 : g < 9) : ((sbs q >>> (nI g &&& 31)) &&& (1 : Int32) = 1) ↔ gdn (qg q g) g = true := by
  rw [bit_is _ h9]
  unfold sbs
  rw [sb_bit (by omega) (gz q) 0 (mC q) 0 (by omega), decide_eq_true (p := 0 ≤ g ∧ g < 0 + gz q) (by omega), Bool.true_and, show (0 : Int32).toBitVec.getLsbD g = false from by show (0#32).getLsbD g = false; exact BitVec.getLsbD_zero, Bool.false_or, Nat.sub_zero]
  exact Iff.rfl
/-! the law's loop over 200 minutes: what it keeps of down, dry, silent -/
def u6 (g i : Nat) (q : Nat → Int32) (v : Int32) : Int32 := if 0 ≤ v then v else if (sbs q >>> (nI g &&& 31)) &&& (1 : Int32) = (1 : Int32) then (if (200 : Int32) ≤ nI i then v else nI i + 1) else v
def u7 (T t i : Nat) (q : Nat → Int32) (v : Int32) : Int32 := if 0 ≤ v then v else if nI T ≤ nI t then v else if q (153 + 2 * t) = 0 then nI i else v
def u8 (i : Nat) (q : Nat → Int32) (v : Int32) : Int32 := if 0 ≤ v then v else if silv q = 0 then v else nI i
def U6 (g : Nat) : Nat → Nat → (Nat → Int32) → Int32 → Int32
  | 0, _, _, v => v
  | k + 1, i, q, v => U6 g k (i + 1) (minute q) (u6 g i q v)
def U7 (T t : Nat) : Nat → Nat → (Nat → Int32) → Int32 → Int32
  | 0, _, _, v => v
  | k + 1, i, q, v => U7 T t k (i + 1) (minute q) (u7 T t i q v)
def U8 : Nat → Nat → (Nat → Int32) → Int32 → Int32
  | 0, _, _, v => v
  | k + 1, i, q, v => U8 k (i + 1) (minute q) (u8 i q v)
theorem U6_p (g : Nat) : ∀ (k i : Nat) (q : Nat → Int32) (v : Int32), 0 ≤ v → U6 g k i q v = v
  | 0, _, _, _, _ => rfl
  | k + 1, i, q, v, h => by
    unfold U6
    rw [show u6 g i q v = v from if_pos h]
    exact U6_p g k (i + 1) (minute q) v h
theorem U7_p (T t : Nat) : ∀ (k i : Nat) (q : Nat → Int32) (v : Int32), 0 ≤ v → U7 T t k i q v = v
  | 0, _, _, _, _ => rfl
  | k + 1, i, q, v, h => by
    unfold U7
    rw [show u7 T t i q v = v from if_pos h]
    exact U7_p T t k (i + 1) (minute q) v h
theorem U8_p : ∀ (k i : Nat) (q : Nat → Int32) (v : Int32), 0 ≤ v → U8 k i q v = v
  | 0, _, _, _, _ => rfl
  | k + 1, i, q, v, h => by
    unfold U8
    rw [show u8 i q v = v from if_pos h]
    exact U8_p k (i + 1) (minute q) v h
theorem U7_n {T t : Nat} (h1 : t < T) (h2 : T ≤ 16) : ∀ (k i : Nat) (q : Nat → Int32), i + k ≤ 1000 → U7 T t k i q (-1) = fDry t k i q
  | 0, _, _, _ => rfl
  | k + 1, i, q, h => by
    unfold U7 fDry
    have e : ¬ nI T ≤ nI t := by rw [hy_le (by omega) (by omega)]; omega
    by_cases c : q (153 + 2 * t) = 0
    · rw [if_pos c, show u7 T t i q (-1) = nI i from by unfold u7; rw [if_neg (by decide), if_neg e, if_pos c], U7_p _ _ _ _ _ _ (hy_nn (by omega))]
    · rw [if_neg c, show u7 T t i q (-1) = -1 from by unfold u7; rw [if_neg (by decide), if_neg e, if_neg c]]
      exact U7_n h1 h2 k (i + 1) (minute q) (by omega)
theorem U8_n : ∀ (k i : Nat) (q : Nat → Int32), i + k ≤ 1000 → U8 k i q (-1) = fSil k i q
  | 0, _, _, _ => rfl
  | k + 1, i, q, h => by
    unfold U8 fSil
    by_cases c : silv q = 0
    · rw [if_pos c, show u8 i q (-1) = -1 from by unfold u8; rw [if_neg (by decide), if_pos c]]
      exact U8_n k (i + 1) (minute q) (by omega)
    · rw [if_neg c, show u8 i q (-1) = nI i from by unfold u8; rw [if_neg (by decide), if_neg c], U8_p _ _ _ _ (hy_nn (by omega))]
theorem U6_n {g : Nat} (h9 : g < 9) : ∀ (k i : Nat) (q : Nat → Int32), gz q ≤ 16 → g < gz q → i + k = 200 → U6 g (k + 1) i q (-1) = fDn g k i q
  | 0, i, q, hz, hg, h => by
    unfold U6 U6 fDn u6
    rw [if_neg (by decide), if_pos (show (200 : Int32) ≤ nI i from by rw [show (200 : Int32) = nI 200 from rfl, hy_le (by omega) (by omega)]; omega)]
    split <;> rfl
  | k + 1, i, q, hz, hg, h => by
    rw [show U6 g (k + 1 + 1) i q (-1) = U6 g (k + 1) (i + 1) (minute q) (u6 g i q (-1)) from rfl]
    unfold fDn
    have b := bit_min hz hg h9
    by_cases c : gdn (qg q g) g = true
    · rw [if_pos c, show u6 g i q (-1) = nI (i + 1) from by
        unfold u6
        rw [if_neg (by decide), if_pos (b.mpr c), if_neg (by rw [show (200 : Int32) = nI 200 from rfl, hy_le (by omega) (by omega)]; omega), hy_add1], U6_p _ _ _ _ _ (hy_nn (by omega))]
    · rw [if_neg c, show u6 g i q (-1) = -1 from by
        unfold u6
        rw [if_neg (by decide), if_neg (fun x => c (b.mp x))]]
      exact U6_n h9 k (i + 1) (minute q) (by rw [minute_gz]; exact hz) (by rw [minute_gz]; exact hg) (by omega)
theorem F_step {b b2 : Nat} {M : hz_M} {q0 q : Nat → Int32} {Mw : hz_M} (kk : Int32 → Int32 → Int32 → Int32 → Int32 → Int32 → hz_M → hz_O) (W0 : hy_W M q0) (R0 : RO b M q0) (W : hy_W Mw q) (T : hy_T q) (R : RO b2 M q) {g t m i n : Nat} (hg : g < 9) (ht : t < 9) (hm : m ≤ 200) (hi : i ≤ 200) (h9 : q 9 = minN i q0 9) (htz : tz q = tz q0) (v6 v7 v8 : Int32) : ∃ M1, f_L_isForetold_L39 b b2 kk (n + 1) (nI g) (nI t) (nI m) v6 v7 v8 (nI i) M = f_L_isForetold_L39 b b2 kk n (nI g) (nI t) (nI m) (u6 g i q v6) (u7 (tz q0) t i q v7) (u8 i q v8) (nI (i + 1)) M1 ∧ (∀ a, (a < b2 ∨ b2 + 11 < a) → M1 a = M a) ∧ RO b2 M1 (minute q) := by
  have hZ0 := W0.1.1
  have z10 := hZ0.2.2.2.1
  have hZ := W.1.1
  obtain ⟨M1, e1, f1, R1⟩ := O_minute R W
  have hsl : f_X11_isSilent b2 M = some (silv q, M) := O_silent R hZ T W.2.1
  have e0 : ¬ 200 < nI i := by rw [show (200 : Int32) = nI 200 from rfl, hy_lt (by omega) (by omega)]; omega
  refine ⟨M1, ?_, f1, R1⟩
  rw [f_L_isForetold_L39, if_neg e0]
  refine hy_jnI (fun k93 h93 => ?_)
  have key93 : k93 (nI g) (nI t) (nI m) v6 v7 v8 (nI i) M = f_L_isForetold_L39 b b2 kk n (nI g) (nI t) (nI m) (u6 g i q v6) (u7 (tz q0) t i q v7) (u8 i q v8) (nI (i + 1)) M1 := by
    rw [h93]
    dsimp only
    refine hy_jnI (fun k79 h79 => ?_)
    have key79 : ∀ x7 : Int32, k79 (nI g) (nI t) (nI m) v6 v8 (nI i) x7 M = f_L_isForetold_L39 b b2 kk n (nI g) (nI t) (nI m) (u6 g i q v6) x7 (u8 i q v8) (nI (i + 1)) M1 := by
      intro x7
      rw [h79]
      dsimp only
      refine hy_jnI (fun k64 h64 => ?_)
      have key64 : ∀ x8 : Int32, k64 (nI g) (nI t) (nI m) v6 x7 (nI i) x8 M = f_L_isForetold_L39 b b2 kk n (nI g) (nI t) (nI m) (u6 g i q v6) x7 x8 (nI (i + 1)) M1 := by
        intro x8
        rw [h64]
        dsimp only
        rw [e1, hy_cts]
        refine hy_jnI (fun k51 h51 => ?_)
        have key51 : ∀ x6 : Int32, k51 (nI g) (nI t) (nI m) x7 x8 (nI i) x6 M1 = f_L_isForetold_L39 b b2 kk n (nI g) (nI t) (nI m) x6 x7 x8 (nI (i + 1)) M1 := by
          intro x6
          rw [h51]
          dsimp only
          rw [hy_lt', hy_add1]
        refine hy_jnI (fun k60 h60 => ?_)
        have key60 : ∀ x6 : Int32, k60 (nI g) (nI t) (nI m) x6 x7 x8 (nI i) M1 = f_L_isForetold_L39 b b2 kk n (nI g) (nI t) (nI m) x6 x7 x8 (nI (i + 1)) M1 := by
          intro x6
          rw [h60]
          dsimp only
          exact key51 x6
        unfold u6 sbs
        by_cases c1 : 0 ≤ v6
        · rw [if_pos c1, if_pos c1]
          exact key60 v6
        · rw [if_neg c1, if_neg c1]
          by_cases c2 : (sbN (gz q) 0 (mC q) 0 >>> (nI g &&& 31)) &&& (1 : Int32) = (1 : Int32)
          · rw [if_pos c2, if_pos c2]
            by_cases c3 : (200 : Int32) ≤ nI i
            · rw [if_pos c3, if_pos c3]
              exact key60 v6
            · rw [if_neg c3, if_neg c3]
              exact key51 _
          · rw [if_neg c2, if_neg c2]
            exact key60 v6
      refine hy_jnI (fun k73 h73 => ?_)
      have key73 : ∀ x8 : Int32, k73 (nI g) (nI t) (nI m) v6 x7 x8 (nI i) M = f_L_isForetold_L39 b b2 kk n (nI g) (nI t) (nI m) (u6 g i q v6) x7 x8 (nI (i + 1)) M1 := by
        intro x8
        rw [h73]
        dsimp only
        exact key64 x8
      unfold u8
      by_cases c1 : 0 ≤ v8
      · rw [if_pos c1, if_pos c1]
        exact key73 v8
      · rw [if_neg c1, if_neg c1, hsl, hy_cts]
        by_cases c2 : silv q = 0
        · rw [if_pos c2, if_pos c2]
          exact key73 v8
        · rw [if_neg c2, if_neg c2]
          exact key64 (nI i)
    refine hy_jnI (fun k88 h88 => ?_)
    have key88 : ∀ x7 : Int32, k88 (nI g) (nI t) (nI m) v6 x7 v8 (nI i) M = f_L_isForetold_L39 b b2 kk n (nI g) (nI t) (nI m) (u6 g i q v6) x7 (u8 i q v8) (nI (i + 1)) M1 := by
      intro x7
      rw [h88]
      dsimp only
      exact key79 x7
    have eT : M b 2 = nI (tz q0) := by rw [R0.1.2.2.1, z10.1]
    unfold u7
    by_cases c1 : 0 ≤ v7
    · rw [if_pos c1, if_pos c1]
      exact key88 v7
    · rw [if_neg c1, if_neg c1, eT]
      by_cases c2 : nI (tz q0) ≤ nI t
      · rw [if_pos c2, if_pos c2]
        exact key88 v7
      · rw [if_neg c2, if_neg c2]
        have z9 := hZ0.2.2.1
        have htt : t < tz q := by
          rw [htz]
          rw [hy_le (by omega) (by omega)] at c2
          omega
        rw [hy_in (by omega) (by omega), hy_gt, hy_c (by omega), R.2.2.2.2.1 t htt]
        by_cases c3 : q (153 + 2 * t) = 0
        · rw [if_pos c3, if_pos c3]
          exact key79 (nI i)
        · rw [if_neg c3, if_neg c3]
          exact key88 v7
  by_cases c : nI i = nI m
  · have him : i = m := by
      rw [hy_eq (by omega) (by omega)] at c
      exact c
    rw [if_pos c, cq_heatIn W0 hi, hy_cts, if_pos (by rw [R.1.2.2.2.2.2.2.2.2.2.1, h9])]
    exact key93
  · rw [if_neg c]
    exact key93
theorem minN_s (k : Nat) (q : Nat → Int32) : minN (k + 1) q = minute (minN k q) := by
  induction k generalizing q with
  | zero => rfl
  | succ k ih => exact ih (minute q)
theorem F_loop {b b2 : Nat} (hb : b + 12 ≤ b2) (hb8 : 178 ≤ b) {q0 : Nat → Int32} (kk : Int32 → Int32 → Int32 → Int32 → Int32 → Int32 → hz_M → hz_O) {g t m : Nat} (hg : g < 9) (ht : t < 9) (hm : m ≤ 200) {tm : Nat} (h8 : q0 8 = nI tm) (htm : tm + 300 ≤ 9999) (T0 : hy_T q0) : ∀ (k i n : Nat) (M Mw : hz_M) (v6 v7 v8 : Int32), hy_W M q0 → RO b M q0 → hy_W Mw (minN i q0) → RO b2 M (minN i q0) → i + k = 201 → k < n → ∃ M', f_L_isForetold_L39 b b2 kk n (nI g) (nI t) (nI m) v6 v7 v8 (nI i) M = kk (nI g) (nI t) (nI m) (U6 g k i (minN i q0) v6) (U7 (tz q0) t k i (minN i q0) v7) (U8 k i (minN i q0) v8) M' ∧ (∀ a, (a < b2 ∨ b2 + 11 < a) → M' a = M a)
  | 0, i, n, M, Mw, v6, v7, v8, W0, R0, W, R, hi, hn => by
    obtain ⟨n, rfl⟩ : ∃ e, n = e + 1 := ⟨n - 1, by omega⟩
    have e0 : 200 < nI i := by rw [show (200 : Int32) = nI 200 from rfl, hy_lt (by omega) (by omega)]; omega
    refine ⟨M, ?_, fun _ _ => rfl⟩
    rw [f_L_isForetold_L39, if_pos e0]
    rfl
  | k + 1, i, n, M, Mw, v6, v7, v8, W0, R0, W, R, hi, hn => by
    obtain ⟨n, rfl⟩ : ∃ e, n = e + 1 := ⟨n - 1, by omega⟩
    have z2 := W0.1.1.1.2
    have htz : ∀ j, tz (minN j q0) = tz q0 := by
      intro j
      induction j with
      | zero => rfl
      | succ j ih => rw [minN_s, tz_min]; exact ih
    obtain ⟨M1, e1, f1, R1⟩ := F_step (n := n) kk W0 R0 W (T_min i q0 tm z2 h8 (by omega) T0) R hg ht hm (by omega) rfl (htz i) v6 v7 v8
    obtain ⟨Mw1, W1⟩ := W_minute W
    rw [← minN_s] at W1 R1
    obtain ⟨M2, e2, f2⟩ := F_loop hb hb8 kk hg ht hm h8 htm T0 k (i + 1) n M1 Mw1 (u6 g i (minN i q0) v6) (u7 (tz q0) t i (minN i q0) v7) (u8 i (minN i q0) v8) (W_fr (fun a ha => f1 a (by omega)) W0 T0) (RO_fr (fun a h1 h2 => f1 a (by omega)) R0) W1 R1 (by omega) (by omega)
    refine ⟨M2, ?_, fun a ha => by rw [f2 a ha, f1 a ha]⟩
    rw [e1, e2, minN_s]
    rfl
