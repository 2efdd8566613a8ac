/-! COUNTING: a row and what points back at it -/
theorem cN_sn (p : Nat → Bool) : ∀ (k i : Nat), cN p (k + 1) i = cN p k i + (if p (i + k) = true then 1 else 0)
  | 0, i => by
    show (if p i = true then 1 else 0) + 0 = 0 + (if p (i + 0) = true then 1 else 0)
    rw [Nat.add_zero, Nat.add_zero, Nat.zero_add]
  | k + 1, i => by
    have h := cN_sn p k (i + 1)
    rw [show i + 1 + k = i + (k + 1) by omega] at h
    show (if p i = true then 1 else 0) + cN p (k + 1) (i + 1) = ((if p i = true then 1 else 0) + cN p k (i + 1)) + (if p (i + (k + 1)) = true then 1 else 0)
    rw [h]
    omega
theorem cN_cg {p r : Nat → Bool} : ∀ (k i : Nat), (∀ j, i ≤ j → j < i + k → p j = r j) → cN p k i = cN r k i
  | 0, _, _ => rfl
  | k + 1, i, h => by
    unfold cN
    rw [h i (by omega) (by omega), cN_cg k (i + 1) (fun j h1 h2 => h j (by omega) (by omega))]
theorem cN_pt {p r : Nat → Bool} {a : Nat} (h1 : p a = false) (h2 : r a = true) {m : Nat} (h3 : ∀ j, j < m → j ≠ a → r j = p j) : ∀ (k i : Nat), i + k ≤ m → cN r k i = cN p k i + (if i ≤ a ∧ a < i + k then 1 else 0)
  | 0, i, _ => by
    rw [if_neg (by omega)]
    rfl
  | k + 1, i, hm => by
    have ih := cN_pt h1 h2 h3 k (i + 1) (by omega)
    show (if r i = true then 1 else 0) + cN r k (i + 1) = ((if p i = true then 1 else 0) + cN p k (i + 1)) + _
    rw [ih]
    by_cases e : i = a
    · subst e
      rw [h1, h2, if_neg (show ¬ (i + 1 ≤ i ∧ i < i + 1 + k) by omega), if_pos (show i ≤ i ∧ i < i + (k + 1) by omega)]
      simp only [if_true, if_false, Bool.false_eq_true]
      omega
    · rw [h3 i (by omega) e]
      by_cases c : i ≤ a ∧ a < i + (k + 1)
      · rw [if_pos c, if_pos (show i + 1 ≤ a ∧ a < i + 1 + k by omega)]
        omega
      · rw [if_neg c, if_neg (show ¬ (i + 1 ≤ a ∧ a < i + 1 + k) by omega)]
        omega
theorem cN_all {p : Nat → Bool} : ∀ (k i : Nat), cN p k i = k ↔ ∀ j, i ≤ j → j < i + k → p j = true
  | 0, i => ⟨fun _ j h1 h2 => absurd h2 (by omega), fun _ => rfl⟩
  | k + 1, i => by
    have ih := cN_all (p := p) k (i + 1)
    have hle := cN_le p k (i + 1)
    unfold cN
    constructor
    · intro h j h1 h2
      cases hp : p i
      · rw [hp] at h
        simp at h
        omega
      · rw [hp] at h
        by_cases e : j = i
        · rw [e, hp]
        · exact ih.mp (by simp at h; omega) j (by omega) (by omega)
    · intro h
      have h0 := h i (by omega) (by omega)
      have h1 := ih.mpr (fun j a c => h j (by omega) (by omega))
      rw [h0, h1]
      simp
      omega
def imf (f : Nat → Int32) (n p : Nat) : Bool := decide (∃ i, i < n ∧ f i = nI p)
theorem fk_im {f : Nat → Int32} {n p : Nat} (hn : n ≤ 1000) : (fk f n p = -1) ↔ imf f n p = false := by
  rcases fk_al f n p with ⟨h1, h2⟩ | ⟨i, hi, h1, h2⟩
  · rw [h1]
    exact ⟨fun _ => decide_eq_false (fun ⟨i, hi, e⟩ => h2 i hi e), fun _ => rfl⟩
  · rw [h1]
    have e := hy_n1 (a := i) (by omega)
    rw [e]
    exact ⟨fun h => h.elim, fun h => by rw [imf, decide_eq_true ⟨i, hi, h2⟩] at h; cases h⟩
theorem im_cnt {f : Nat → Int32} {m : Nat} (hm : m ≤ 1000) : ∀ n, inj f n → (∀ i, i < n → f i = -1 ∨ ∃ p, p < m ∧ f i = nI p) → cN (imf f n) m 0 = cN (fun i => decide (f i ≠ -1)) n 0
  | 0, _, _ => by
    have : ∀ k i, cN (imf f 0) k i = 0 := by
      intro k
      induction k with
      | zero => intro i; rfl
      | succ k ih =>
        intro i
        unfold cN
        rw [ih, show imf f 0 i = false from decide_eq_false (fun ⟨j, hj, _⟩ => by omega)]
        rfl
    rw [this]
    rfl
  | n + 1, hj, hr => by
    have ih := im_cnt hm n (fun g h hg hh => hj g h (by omega) (by omega)) (fun i hi => hr i (by omega))
    rw [cN_sn, ← ih, Nat.zero_add]
    rcases hr n (by omega) with h | ⟨p0, hp0, h⟩
    · rw [show decide (f n ≠ -1) = false from decide_eq_false (fun e => e h)]
      simp only [Bool.false_eq_true, if_false, Nat.add_zero]
      refine cN_cg m 0 (fun p _ hp => ?_)
      unfold imf
      refine decide_eq_decide.mpr ⟨fun ⟨i, hi, e⟩ => ?_, fun ⟨i, hi, e⟩ => ⟨i, by omega, e⟩⟩
      by_cases c : i = n
      · subst c
        rw [h] at e
        have e2 := hy_n1' (a := p) (by omega)
        rw [e2] at e
        exact e.elim
      · exact ⟨i, by omega, e⟩
    · have hne : f n ≠ -1 := by
        rw [h]
        intro e
        have e2 := hy_n1 (a := p0) (by omega)
        rw [e2] at e
        exact e
      rw [show decide (f n ≠ -1) = true from decide_eq_true hne]
      simp only [if_true]
      have h1 := cN_pt (p := imf f n) (r := imf f (n + 1)) (a := p0) (decide_eq_false (fun ⟨i, hi, e⟩ => by
        rcases hj i n (by omega) (by omega) (by rw [e, h]) with c | c
        · rw [c] at e
          have e2 := hy_n1' (a := p0) (by omega)
          rw [e2] at e
          exact e
        · omega)) (decide_eq_true ⟨n, by omega, h⟩) (m := m) (fun p hpm hp => by
        unfold imf
        refine decide_eq_decide.mpr ⟨fun ⟨i, hi, e⟩ => ?_, fun ⟨i, hi, e⟩ => ⟨i, by omega, e⟩⟩
        by_cases c : i = n
        · subst c
          rw [h] at e
          have e2 := hy_eq (a := p0) (b := p) (by omega) (by omega)
          rw [e2] at e
          omega
        · exact ⟨i, by omega, e⟩) m 0 (by omega)
      rw [h1, if_pos (by omega)]
theorem fold_cN {P : Nat → Prop} [DecidablePred P] : ∀ (k i c : Nat), hy_fold (fun g c => if P g then c else c + 1) k i (nI c) = nI (c + cN (fun j => decide (¬ P j)) k i)
  | 0, _, _ => rfl
  | k + 1, i, c => by
    unfold hy_fold cN
    by_cases h : P i
    · rw [if_pos h, fold_cN k (i + 1) c, show decide (¬ P i) = false from decide_eq_false (fun e => e h)]
      exact congrArg nI (by simp)
    · rw [if_neg h, hy_add1, fold_cN k (i + 1) (c + 1), show decide (¬ P i) = true from decide_eq_true h]
      exact congrArg nI (by simp; omega)
