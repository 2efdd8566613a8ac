theorem hy_nI (n : Nat) : nI n = Int32.ofNat n := rfl
theorem hy_toInt {n : Nat} (h : n < 2 ^ 31) : (nI n).toInt = (n : Int) := Int32.toInt_ofNat_of_lt h
theorem hy_c {n : Nat} (h : n < 2 ^ 31) : Int32.toNatClampNeg (nI n) = n := by
  show (nI n).toInt.toNat = n
  rw [hy_toInt h]; rfl
theorem hy_in {k n : Nat} (h : k < n) (hn : n ≤ 2 ^ 31) : hz_in (nI k) n = true := by
  have := hy_toInt (n := k) (by omega)
  unfold hz_in
  simp [this, h]
theorem hy_add (a b : Nat) : nI a + nI b = nI (a + b) := by
  unfold nI; exact (Int32.ofNat_add a b).symm
theorem hy_mul (a b : Nat) : nI a * nI b = nI (a * b) := by
  unfold nI; exact (Int32.ofNat_mul a b).symm
theorem hy_sub {a b : Nat} (h : b ≤ a) : nI a - nI b = nI (a - b) := by
  have e : nI a = nI (a - b) + nI b := by rw [hy_add]; congr 1; omega
  rw [e]; exact Int32.add_sub_cancel _ _
theorem hy_le {a b : Nat} (ha : a < 2 ^ 31) (hb : b < 2 ^ 31) : (nI a ≤ nI b) = (a ≤ b) := by
  apply propext
  rw [Int32.le_iff_toInt_le, hy_toInt ha, hy_toInt hb]; omega
theorem hy_lt {a b : Nat} (ha : a < 2 ^ 31) (hb : b < 2 ^ 31) : (nI a < nI b) = (a < b) := by
  apply propext
  rw [Int32.lt_iff_toInt_lt, hy_toInt ha, hy_toInt hb]; omega
theorem hy_eq {a b : Nat} (ha : a < 2 ^ 31) (hb : b < 2 ^ 31) : (nI a = nI b) = (a = b) := by
  apply propext
  constructor
  · intro h
    have := congrArg Int32.toInt h
    rw [hy_toInt ha, hy_toInt hb] at this; omega
  · rintro rfl; rfl
theorem hy_n1 {a : Nat} (ha : a < 2 ^ 31) : (nI a = -1) = False := by
  apply propext
  constructor
  · intro h
    have := congrArg Int32.toInt h
    rw [hy_toInt ha] at this
    have e : (-1 : Int32).toInt = -1 := by decide
    rw [e] at this; omega
  · exact False.elim
theorem hy_n1' {a : Nat} (ha : a < 2 ^ 31) : ((-1 : Int32) = nI a) = False := by
  apply propext
  constructor
  · intro h
    exact (hy_n1 ha).mp h.symm
  · exact False.elim
/-- a number of a range is a name -/
theorem hy_ex {x : Int32} {n : Nat} (h0 : 0 ≤ x) (h1 : x < nI n) (hn : n < 2 ^ 31) : ∃ k, k < n ∧ x = nI k := by
  rw [Int32.le_iff_toInt_le] at h0
  rw [Int32.lt_iff_toInt_lt, hy_toInt hn] at h1
  rw [Int32.toInt_zero] at h0
  refine ⟨x.toInt.toNat, by omega, ?_⟩
  apply Int32.toInt_inj.mp
  rw [hy_toInt (by omega)]; omega
theorem hy_ex' {x : Int32} {n : Nat} (h0 : 0 ≤ x) (h1 : x ≤ nI n) (hn : n < 2 ^ 31) : ∃ k, k ≤ n ∧ x = nI k := by
  rw [Int32.le_iff_toInt_le] at h0
  rw [Int32.le_iff_toInt_le, hy_toInt hn] at h1
  rw [Int32.toInt_zero] at h0
  refine ⟨x.toInt.toNat, by omega, ?_⟩
  apply Int32.toInt_inj.mp
  rw [hy_toInt (by omega)]; omega
theorem hy_0 : (0 : Int32) = nI 0 := rfl
theorem hy_1 : (1 : Int32) = nI 1 := rfl
theorem hy_add1 (a : Nat) : nI a + 1 = nI (a + 1) := hy_add a 1
theorem hy_nn {a : Nat} (ha : a < 2 ^ 31) : (0 : Int32) ≤ nI a := by
  rw [hy_0, hy_le (by omega) ha]; omega
/-- rows -/
def hy_row (M : hz_M) (i : Nat) (r : Nat → Int32) : hz_M := fun a => if a = i then r else M a
def hy_st (q : Nat → Int32) (k : Nat) (v : Int32) : Nat → Int32 := fun b => if b = k then v else q b
theorem hy_set (M : hz_M) (i k : Nat) (v : Int32) : hz_set M i k v = hy_row M i (hy_st (M i) k v) := by
  funext a b
  unfold hz_set hy_row hy_st
  by_cases h : a = i
  · subst h
    by_cases h2 : b = k
    · subst h2; simp
    · simp [h2]
  · simp [h]
theorem hy_rs (M : hz_M) (i : Nat) (r : Nat → Int32) : hy_row M i r i = r := by unfold hy_row; simp
theorem hy_ro (M : hz_M) {i a : Nat} (r : Nat → Int32) (h : a ≠ i) : hy_row M i r a = M a := by unfold hy_row; simp [h]
theorem hy_rr (M : hz_M) (i : Nat) (r s : Nat → Int32) : hy_row (hy_row M i r) i s = hy_row M i s := by
  funext a; unfold hy_row; by_cases h : a = i <;> simp [h]
theorem hy_rid (M : hz_M) (i : Nat) : hy_row M i (M i) = M := by
  funext a; unfold hy_row; by_cases h : a = i <;> simp [h]
theorem hy_ss (q : Nat → Int32) (k : Nat) (v : Int32) : hy_st q k v k = v := by unfold hy_st; simp
theorem hy_so (q : Nat → Int32) {k b : Nat} (v : Int32) (h : b ≠ k) : hy_st q k v b = q b := by unfold hy_st; simp [h]
theorem hy_cts (r : Int32) (M : hz_M) (f : Int32 → hz_M → hz_O) : hz_ct (some (r, M)) f = f r M := Eq.trans (Eq.refl _) (Eq.refl _)
theorem hy_ctn (f : Int32 → hz_M → hz_O) : hz_ct none f = none := Eq.trans (Eq.refl _) (Eq.refl _)
theorem hy_gt (o : hz_O) : hz_gd true o = o := Eq.trans (Eq.refl _) (Eq.refl _)
theorem hy_lt' (v : Int32) (f : Int32 → hz_O) : hz_lt v f = f v := Eq.trans (Eq.refl _) (Eq.refl _)
theorem hy_lm (M : hz_M) (f : hz_M → hz_O) : hz_lm M f = f M := Eq.trans (Eq.refl _) (Eq.refl _)
theorem hy_jn {α : Type} (k : α) (f : α → hz_O) : hz_jn k f = f k := Eq.trans (Eq.refl _) (Eq.refl _)
/-- folds and searches -/
def hy_fold {α : Type} (s : Nat → α → α) : Nat → Nat → α → α
  | 0, _, a => a
  | k + 1, i, a => hy_fold s k (i + 1) (s i a)
def hy_fnd (p : Nat → Bool) : Nat → Nat → Int32
  | 0, _ => -1
  | k + 1, i => bif p i then nI i else hy_fnd p k (i + 1)
theorem hy_fold_congr {α : Type} {s t : Nat → α → α} : ∀ (k i : Nat) (a : α), (∀ j, i ≤ j → j < i + k → ∀ b, s j b = t j b) → hy_fold s k i a = hy_fold t k i a
  | 0, _, _, _ => rfl
  | k + 1, i, a, h => by
    unfold hy_fold
    rw [h i (Nat.le_refl i) (by omega)]
    exact hy_fold_congr k (i + 1) _ (fun j hj hk => h j (by omega) (by omega))
theorem hy_fnd_congr {p r : Nat → Bool} : ∀ (k i : Nat), (∀ j, i ≤ j → j < i + k → p j = r j) → hy_fnd p k i = hy_fnd r k i
  | 0, _, _ => rfl
  | k + 1, i, h => by
    unfold hy_fnd
    rw [h i (Nat.le_refl i) (by omega), hy_fnd_congr k (i + 1) (fun j hj hk => h j (by omega) (by omega))]
theorem hy_fnd_none {p : Nat → Bool} : ∀ (k i : Nat), (∀ j, i ≤ j → j < i + k → p j = false) → hy_fnd p k i = -1
  | 0, _, _ => rfl
  | k + 1, i, h => by
    unfold hy_fnd
    rw [h i (Nat.le_refl i) (by omega), hy_fnd_none k (i + 1) (fun j hj hk => h j (by omega) (by omega))]; rfl
theorem hy_fnd_one {p : Nat → Bool} {t : Nat} : ∀ (k i : Nat), i ≤ t → t < i + k → p t = true → (∀ j, i ≤ j → j < t → p j = false) → hy_fnd p k i = nI t
  | 0, _, _, h, _, _ => by omega
  | k + 1, i, h0, h, ht, hu => by
    unfold hy_fnd
    by_cases e : i = t
    · subst e; rw [ht]; rfl
    · rw [hu i (Nat.le_refl i) (by omega)]
      exact hy_fnd_one k (i + 1) (by omega) (by omega) ht (fun j hj hk => hu j (by omega) hk)
theorem hy_fnd_all {p : Nat → Bool} : ∀ (k i : Nat), (hy_fnd p k i = -1 ∧ ∀ j, i ≤ j → j < i + k → p j = false) ∨ ∃ t, i ≤ t ∧ t < i + k ∧ hy_fnd p k i = nI t ∧ p t = true ∧ ∀ j, i ≤ j → j < t → p j = false
  | 0, i => Or.inl ⟨rfl, fun j h1 h2 => by omega⟩
  | k + 1, i => by
    unfold hy_fnd
    cases e : p i with
    | true => exact Or.inr ⟨i, Nat.le_refl i, by omega, rfl, e, fun j h1 h2 => by omega⟩
    | false =>
      rcases hy_fnd_all (p := p) k (i + 1) with ⟨h1, h2⟩ | ⟨t, h1, h2, h3, h4, h5⟩
      · refine Or.inl ⟨h1, fun j h3 h4 => ?_⟩
        by_cases e2 : j = i
        · subst e2; exact e
        · exact h2 j (by omega) (by omega)
      · refine Or.inr ⟨t, by omega, by omega, h3, h4, fun j h6 h7 => ?_⟩
        by_cases e2 : j = i
        · subst e2; exact e
        · exact h5 j (by omega) h7
/-- a loop that goes on to its end -/
theorem hy_for {α : Type} (F : Nat → α → Nat → hz_O) (n : Nat) (s : Nat → α → α) (out : α → hz_O) (P : Nat → α → Prop)
    (hstop : ∀ f a, P n a → F (f + 1) a n = out a)
    (hstep : ∀ f a i, i < n → P i a → F (f + 1) a i = F f (s i a) (i + 1) ∧ P (i + 1) (s i a)) :
    ∀ (k i f : Nat) (a : α), i + k = n → k < f → P i a → F f a i = out (hy_fold s k i a) ∧ P n (hy_fold s k i a)
  | 0, i, f, a, h, hf, hp => by
    obtain ⟨f, rfl⟩ : ∃ e, f = e + 1 := ⟨f - 1, by omega⟩
    have e : i = n := by omega
    subst e
    exact ⟨hstop f a hp, hp⟩
  | k + 1, i, f, a, h, hf, hp => by
    obtain ⟨f, rfl⟩ : ∃ e, f = e + 1 := ⟨f - 1, by omega⟩
    obtain ⟨h1, h2⟩ := hstep f a i (by omega) hp
    rw [h1]
    exact hy_for F n s out P hstop hstep k (i + 1) f (s i a) (by omega) (by omega) h2
/-- a loop that changes nothing but its own numbers -/
theorem hy_for0 {α : Type} (F : Nat → α → Nat → hz_O) (n : Nat) (s : Nat → α → α) (out : α → hz_O)
    (hstop : ∀ f a, F (f + 1) a n = out a)
    (hstep : ∀ f a i, i < n → F (f + 1) a i = F f (s i a) (i + 1)) (f : Nat) (a : α) (hf : n < f) : F f a 0 = out (hy_fold s n 0 a) :=
  (hy_for F n s out (fun _ _ => True) (fun f a _ => hstop f a) (fun f a i h _ => ⟨hstep f a i h, trivial⟩) n 0 f a (by omega) hf trivial).1
/-- a loop that looks for the first -/
theorem hy_first (F : Nat → Nat → hz_O) (n : Nat) (p : Nat → Bool) (out : Int32 → hz_O)
    (hstop : ∀ f, F (f + 1) n = out (-1))
    (hstep : ∀ f i, i < n → F (f + 1) i = bif p i then out (nI i) else F f (i + 1)) :
    ∀ (k i f : Nat), i + k = n → k < f → F f i = out (hy_fnd p k i)
  | 0, i, f, h, hf => by
    obtain ⟨f, rfl⟩ : ∃ e, f = e + 1 := ⟨f - 1, by omega⟩
    have e : i = n := by omega
    subst e
    exact hstop f
  | k + 1, i, f, h, hf => by
    obtain ⟨f, rfl⟩ : ∃ e, f = e + 1 := ⟨f - 1, by omega⟩
    rw [hstep f i (by omega)]
    unfold hy_fnd
    cases p i
    · exact hy_first F n p out hstop hstep k (i + 1) f (by omega) (by omega)
    · rfl

