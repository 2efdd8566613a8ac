def pn (c : Nat → Nat) : Nat → Nat
  | 0 => 0
  | n + 1 => 27 * pn c n + c n
theorem pn_lt {c : Nat → Nat} : ∀ n, (∀ i, i < n → c i ≤ 26) → pn c n < 27 ^ n
  | 0, _ => by unfold pn; omega
  | n + 1, h => by
    have h1 := pn_lt n (fun i hi => h i (by omega))
    have h2 := h n (by omega)
    unfold pn
    rw [Nat.pow_succ]; omega
theorem pn_b {c : Nat → Nat} {n : Nat} (hn : n ≤ 6) (h : ∀ i, i < n → c i ≤ 26) : pn c n < 387420489 := by
  have h1 := pn_lt n h
  have h2 : 27 ^ n ≤ 27 ^ 6 := Nat.pow_le_pow_right (by omega) hn
  have h3 : (27 : Nat) ^ 6 = 387420489 := by decide
  omega
theorem pn_inj {c d : Nat → Nat} : ∀ n m, (∀ i, i < n → 1 ≤ c i ∧ c i ≤ 26) → (∀ i, i < m → 1 ≤ d i ∧ d i ≤ 26) → pn c n = pn d m → n = m ∧ ∀ i, i < n → c i = d i
  | 0, 0, _, _, _ => ⟨rfl, fun i hi => by omega⟩
  | 0, m + 1, _, h2, e => by
    have := h2 m (by omega); unfold pn at e; omega
  | n + 1, 0, h1, _, e => by
    have := h1 n (by omega); unfold pn at e; omega
  | n + 1, m + 1, h1, h2, e => by
    have a1 := h1 n (by omega)
    have a2 := h2 m (by omega)
    have e' : 27 * pn c n + c n = 27 * pn d m + d m := e
    obtain ⟨b1, b2⟩ := pn_inj n m (fun i hi => h1 i (by omega)) (fun i hi => h2 i (by omega)) (by omega)
    subst b1
    refine ⟨rfl, fun i hi => ?_⟩
    by_cases e2 : i = n
    · subst e2; omega
    · exact b2 i (by omega)
theorem pk_pn {f : Nat → Int32} {c : Nat → Nat} : ∀ (k i : Nat), i + k ≤ 6 → (∀ j, j < i + k → f j = nI (96 + c j) ∧ c j ≤ 26) → hy_fold (fun i a => 27 * a + f i - 96) k i (nI (pn c i)) = nI (pn c (i + k))
  | 0, _, _, _ => rfl
  | k + 1, i, h, hf => by
    have h1 := hf i (by omega)
    have e : 27 * nI (pn c i) + f i - 96 = nI (pn c (i + 1)) := by
      rw [h1.1, show (27 : Int32) = nI 27 from rfl, show (96 : Int32) = nI 96 from rfl, hy_mul, hy_add, hy_sub (by omega)]
      congr 1
      show _ = 27 * pn c i + c i
      omega
    show hy_fold (fun i a => 27 * a + f i - 96) k (i + 1) (27 * nI (pn c i) + f i - 96) = _
    rw [e, pk_pn k (i + 1) (by omega) (fun j hj => hf j (by omega))]
    congr 2; omega
theorem hy_pkq {f : Nat → Int32} {c : Nat → Nat} {n : Nat} (hn : n ≤ 6) (h : ∀ j, j < n → f j = nI (96 + c j) ∧ c j ≤ 26) : pk f n = nI (pn c n) := by
  have := pk_pn n 0 (by omega) (fun j hj => h j (by omega))
  rw [Nat.zero_add] at this
  exact this
/-- letters chosen -/
theorem let_ch {f : Nat → Int32} {n : Nat} (h : ∀ i, i < n → ∃ c, 1 ≤ c ∧ c ≤ 26 ∧ f i = nI (96 + c)) : ∃ c : Nat → Nat, ∀ i, i < n → 1 ≤ c i ∧ c i ≤ 26 ∧ f i = nI (96 + c i) := by
  refine ⟨fun i => Int32.toNatClampNeg (f i) - 96, fun i hi => ?_⟩
  obtain ⟨c, h1, h2, h3⟩ := h i hi
  have e : Int32.toNatClampNeg (f i) - 96 = c := by rw [h3, hy_c (by omega)]; omega
  show 1 ≤ Int32.toNatClampNeg (f i) - 96 ∧ Int32.toNatClampNeg (f i) - 96 ≤ 26 ∧ f i = nI (96 + (Int32.toNatClampNeg (f i) - 96))
  rw [e]; exact ⟨h1, h2, h3⟩
theorem nm_iff {M : hz_M} {g : Nat} {v : Int32} {t : Nat → Int32} {n : Nat} (hm : nmd M g v) (h1 : 1 ≤ n) (h6 : n ≤ 6) (ht : ∀ i, i < n → ∃ c, 1 ≤ c ∧ c ≤ 26 ∧ t i = nI (96 + c)) :
    decide (M 4 g = nI n ∧ ∀ i, i < n → M 3 (6 * g + i) = t i) = decide (v = pk t n) := by
  obtain ⟨m, m1, m6, m4, ml, mv⟩ := hm
  obtain ⟨c, hc⟩ := let_ch ht
  obtain ⟨d, hd⟩ := let_ch (f := fun i => M 3 (6 * g + i)) ml
  have e1 : pk t n = nI (pn c n) := hy_pkq h6 (fun j hj => ⟨(hc j hj).2.2, (hc j hj).2.1⟩)
  have e2 : v = nI (pn d m) := by rw [mv]; exact hy_pkq m6 (fun j hj => ⟨(hd j hj).2.2, (hd j hj).2.1⟩)
  have b1 := pn_b h6 (fun i hi => (hc i hi).2.1)
  have b2 := pn_b m6 (fun i hi => (hd i hi).2.1)
  apply decide_eq_decide.mpr
  rw [e1, e2, m4, hy_eq (by omega) (by omega), hy_eq (by omega) (by omega)]
  constructor
  · rintro ⟨e, h⟩
    subst e
    have : ∀ k, k ≤ m → pn d k = pn c k := by
      intro k
      induction k with
      | zero => intro _; rfl
      | succ k ih =>
        intro hk
        show 27 * pn d k + d k = 27 * pn c k + c k
        rw [ih (by omega)]
        have a1 := (hc k (by omega)).2.2
        have a2 := (hd k (by omega)).2.2
        have a3 := h k (by omega)
        have c1 := (hc k (by omega)).2.1
        have c2 := (hd k (by omega)).2.1
        have a2' : M 3 (6 * g + k) = nI (96 + d k) := a2
        rw [a2', a1, hy_eq (by omega) (by omega)] at a3
        omega
    exact this m (Nat.le_refl m)
  · intro e
    obtain ⟨e3, e4⟩ := pn_inj m n (fun i hi => ⟨(hd i hi).1, (hd i hi).2.1⟩) (fun i hi => ⟨(hc i hi).1, (hc i hi).2.1⟩) e
    refine ⟨e3, fun i hi => ?_⟩
    have a2 : M 3 (6 * g + i) = nI (96 + d i) := (hd i (by omega)).2.2
    rw [a2, (hc i hi).2.2, e4 i (by omega)]
theorem c_byteAt {M : hz_M} {n k : Nat} (h1 : M 9 1 = nI n) (hn : n ≤ 600) (hk : k < n) : f_X8_byteAt (nI k) M = some (M 10 k, M) := by
  have e1 : ¬ nI k < 0 := by rw [hy_0, hy_lt (by omega) (by omega)]; omega
  have e2 : ¬ n ≤ k := by omega
  simp (disch := omega) only [f_X8_byteAt, h1, e1, hy_le, e2, if_false, hy_in, hy_gt, hy_c]
theorem c_byteAtO {M : hz_M} {n k : Nat} (h1 : M 9 1 = nI n) (hn : n ≤ 600) (hk : n ≤ k) (hk2 : k < 2 ^ 31) : f_X8_byteAt (nI k) M = some (-1, M) := by
  have e1 : ¬ nI k < 0 := by rw [hy_0, hy_lt (by omega) (by omega)]; omega
  simp (disch := omega) only [f_X8_byteAt, h1, e1, hy_le, hk, if_false, if_true]
theorem c_isName {th : Nat} {M : hz_M} {g s n l : Nat} (hg : g < 16) (hn : n ≤ 6) (h4 : M (th + 3) g = nI n) (h9 : M 9 1 = nI l) (hl : l ≤ 600) (hs : s + n ≤ l) : ∀ (k i f : Nat), i + k = n → k < f →
    f_X3_isNameAt_L3 th f (nI g) (nI s) (nI i) M = some (if ∀ j, j < k → M (th + 2) (6 * g + (i + j)) = M 10 (s + (i + j)) then 1 else 0, M)
  | 0, i, f, hi, hf => by
    obtain ⟨f, rfl⟩ : ∃ e, f = e + 1 := ⟨f - 1, by omega⟩
    have e : n ≤ i := by omega
    simp (disch := omega) only [f_X3_isNameAt_L3, hy_in, hy_gt, hy_c, h4, hy_le, e, if_true]
    rw [if_pos (fun j hj => by omega)]
  | k + 1, i, f, hi, hf => by
    obtain ⟨f, rfl⟩ : ∃ e, f = e + 1 := ⟨f - 1, by omega⟩
    have e : ¬ n ≤ i := by omega
    have ih := c_isName hg hn h4 h9 hl hs k (i + 1) f (by omega) (by omega)
    simp (disch := omega) only [f_X3_isNameAt_L3, hy_in, hy_gt, hy_c, h4, hy_le, e, if_false, show (6 : Int32) = nI 6 from rfl, hy_mul, hy_add, c_byteAt h9 hl (k := s + i) (by omega), hy_cts, hy_lt', hy_add1, ih]
    rw [Nat.mul_comm g 6]
    by_cases e1 : M (th + 2) (6 * g + i) = M 10 (s + i)
    · rw [if_pos e1]
      suffices iffP : (∀ j, j < k → M (th + 2) (6 * g + (i + 1 + j)) = M 10 (s + (i + 1 + j))) ↔ (∀ j, j < k + 1 → M (th + 2) (6 * g + (i + j)) = M 10 (s + (i + j))) from by
        by_cases h : ∀ j, j < k → M (th + 2) (6 * g + (i + 1 + j)) = M 10 (s + (i + 1 + j))
        · rw [if_pos h, if_pos (iffP.mp h)]
        · rw [if_neg h, if_neg (fun h' => h (iffP.mpr h'))]
      constructor
      · intro h j hj
        by_cases e2 : j = 0
        · subst e2; exact e1
        · have := h (j - 1) (by omega)
          rw [show i + 1 + (j - 1) = i + j by omega] at this; exact this
      · intro h j hj
        have := h (j + 1) (by omega)
        rw [show i + (j + 1) = i + 1 + j by omega] at this; exact this
    · rw [if_neg e1, if_neg (fun h => e1 (h 0 (by omega)))]
def nmF (th : Nat) (M : hz_M) (s n : Nat) (g : Nat) : Bool := decide (M (th + 3) g = nI n ∧ ∀ i, i < n → M (th + 2) (6 * g + i) = M 10 (s + i))
theorem c_named {th : Nat} {M : hz_M} {G s e l : Nat} (hG : M th 3 = nI G) (hG16 : G ≤ 16) (h4 : ∀ g, g < G → ∃ n, n ≤ 6 ∧ M (th + 3) g = nI n) (h9 : M 9 1 = nI l) (hl : l ≤ 600) (hse : s ≤ e) (he : e ≤ l) :
    f_X3_guestNamed th (nI s) (nI e) M = some (hy_fnd (nmF th M s (e - s)) G 0, M) := by
  unfold f_X3_guestNamed
  refine hy_first (fun f i => f_X3_guestNamed_L3 th f (nI s) (nI e) (nI i) M) G _ (fun r => some (r, M)) ?_ ?_ G 0 hz_FU (by omega) (hy_FU (by omega))
  · intro f
    simp (disch := omega) only [f_X3_guestNamed_L3, hG, hy_le, Nat.le_refl, if_true]
  · intro f i hi
    have hi' : ¬ G ≤ i := by omega
    obtain ⟨n, hn, en⟩ := h4 i hi
    simp (disch := omega) only [f_X3_guestNamed_L3, hG, hy_le, hi', if_false, hy_in, hy_gt, hy_jn, hy_lt', hy_c, en, hy_sub, hy_add1]
    by_cases e1 : n = e - s
    · subst e1
      have nm := c_isName (th := th) (s := s) (by omega) hn en h9 hl (by omega) (e - s) 0 hz_FU (by omega) (hy_FU (by omega))
      have nm' : f_X3_isNameAt th (nI i) (nI s) M = some (if ∀ j, j < e - s → M (th + 2) (6 * i + (0 + j)) = M 10 (s + (0 + j)) then 1 else 0, M) := nm
      simp only [Nat.zero_add] at nm'
      rw [if_pos rfl, nm', hy_cts]
      by_cases e2 : ∀ j, j < e - s → M (th + 2) (6 * i + j) = M 10 (s + j)
      · simp only [if_pos e2, hy_f10, if_false]
        rw [show nmF th M s (e - s) i = true from decide_eq_true ⟨en, e2⟩]; rfl
      · simp only [if_neg e2, if_true]
        rw [show nmF th M s (e - s) i = false from decide_eq_false (fun h => e2 h.2)]; rfl
    · have e3 : ¬ nI n = nI (e - s) := by rw [hy_eq (by omega) (by omega)]; exact e1
      rw [if_neg e3, show nmF th M s (e - s) i = false from decide_eq_false (fun h => e3 (en.symm.trans h.1))]; rfl
theorem c_letter {M : hz_M} {q : Nat → Int32} (hC : hy_C M q) {g : Nat} (hg : g < gz q) (a : Int32) : ∃ (n : Nat) (c : Nat → Nat), 1 ≤ n ∧ n ≤ 6 ∧ (∀ i, i < n → 1 ≤ c i ∧ c i ≤ 26) ∧ q (25 + 8 * g) = nI (pn c n) ∧ M 4 g = nI n ∧ f_X3_letterOf (nI g) a M = some (if a < 0 ∨ nI n ≤ a then -1 else nI (96 + c (Int32.toNatClampNeg a)), M) := by
  have hC0 := hC
  obtain ⟨hZ, ⟨b3, b4, b5, b6, b7, b8, bag, bnm⟩, hRR⟩ := hC
  have hZ0 := hZ
  obtain ⟨⟨s1, s2, s3, s4, s5, s6⟩, ra, ro, rp, rl, rt, rs, rw', rd, rwt, rpg, rk, rh, rtw⟩ := c_rows hRR
  obtain ⟨⟨z1, z2⟩, ⟨z3, z4, z5⟩, ⟨z6, z7, z8⟩, ⟨z9, z10⟩, ⟨z11, z12, z13⟩, ⟨z14, z15, z16⟩⟩ := hZ
  rw [z1] at b3; rw [z3] at b4; rw [z6] at b5; rw [z9] at b6; rw [z11] at b7; rw [z14] at b8
  obtain ⟨n, n1, n6, n4, nl, nv⟩ := bnm g hg
  obtain ⟨c, hc⟩ := let_ch (f := fun i => M 3 (6 * g + i)) nl
  refine ⟨n, c, n1, n6, fun i hi => ⟨(hc i hi).1, (hc i hi).2.1⟩, by rw [nv]; exact hy_pkq n6 (fun j hj => ⟨(hc j hj).2.2, (hc j hj).2.1⟩), n4, ?_⟩
  have ig := c_isGuest hC0 hg
  rcases hy_two a (n := n) (by omega) with h | ⟨i, hi, rfl⟩
  · rw [if_pos h]
    by_cases e : a < 0
    · simp only [f_X3_letterOf, ig, hy_cts, hy_f10, if_false, e, if_true]
    · have e2 : ¬ a < nI n := by
        rcases h with h | h
        · exact absurd h e
        · grind
      simp (disch := omega) only [f_X3_letterOf, ig, hy_cts, hy_f10, if_false, e, hy_in, hy_gt, hy_c, n4, e2]
  · have hne : ¬ (nI i < 0 ∨ nI n ≤ nI i) := by
      rw [hy_0, hy_lt (by omega) (by omega), hy_le (by omega) (by omega)]; omega
    have e : ¬ nI i < 0 := fun h => hne (Or.inl h)
    have e2 : nI i < nI n := by rw [hy_lt (by omega) (by omega)]; exact hi
    have h3 : M 3 (6 * g + i) = nI (96 + c i) := (hc i hi).2.2
    rw [if_neg hne]
    simp (disch := omega) only [f_X3_letterOf, ig, hy_cts, hy_f10, if_false, e, hy_in, hy_gt, hy_c, n4, e2, if_true, show (6 : Int32) = nI 6 from rfl, hy_mul, hy_add, Nat.mul_comm g 6, h3]
