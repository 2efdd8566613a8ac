def hAt (q : Nat → Int32) (a : Int32) : Int32 := hy_fold (fun g c => if q (25 + 8 * g + 2) = a then c + 1 else c) (gz q) 0 0
def hIns (q : Nat → Int32) : Int32 := hy_fold (fun g c => if q (25 + 8 * g + 2) = -1 then c else c + 1) (gz q) 0 0
def fOn (q : Nat → Int32) (a b : Int32) : Int32 := hy_fnd (fun o => decide (¬ nI o = a ∧ q (25 + 8 * o + 2) = b)) (gz q) 0
def eldS (q : Nat → Int32) (a : Int32) (g : Nat) (b : Int32) : Int32 :=
  if q (25 + 8 * g + 2) = a then (if b = -1 then nI g else if q (25 + 8 * g + 1) ≤ q (25 + 8 * Int32.toNatClampNeg b + 1) then b else nI g) else b
def eld (q : Nat → Int32) (a : Int32) : Int32 := hy_fold (eldS q a) (gz q) 0 (-1)
def inUse (q : Nat → Int32) : Int32 := hy_fold (fun k c => if kpr q k = -1 then c else c + 1) (lz q) 0 0
def frLs (q : Nat → Int32) : Int32 := hy_fold (fun k c => if kpr q k = -1 then c + 1 else c) (lz q) 0 0
def frL (q : Nat → Int32) : Int32 := hy_fnd (fun k => decide (kpr q k = -1)) (lz q) 0
def frP (q : Nat → Int32) : Int32 := hy_fnd (fun k => decide (tw q k = -1)) (pz q) 0
def isB (q : Nat → Int32) (t : Nat) : Bool := decide (q (153 + 2 * t + 1) = -1 ∧ hld q t = -1)
def bsk (q : Nat → Int32) : Int32 := hy_fold (fun t c => if isB q t = true then c + 1 else c) (tz q) 0 0
def onPg (q : Nat → Int32) (a : Int32) : Int32 := hy_fold (fun p c => if tw q p = -1 then c else c + 1) (pz q) 0 a
def wth (q : Nat → Int32) : Int32 := hy_fold (fun g c => if q (25 + 8 * g + 4) = -1 then c else c + 1) (gz q) 0 0
def unt (q : Nat → Int32) (a : Int32) : Int32 := hy_fold (fun p c => if tw q p = -1 then c else if q (153 + 2 * Int32.toNatClampNeg (tw q p) + 1) = nI p then c else c + 1) (pz q) 0 a
def wts (q : Nat → Int32) : Int32 := hy_fold (fun t c => c + q (153 + 2 * t)) (tz q) 0 0
def dryS (q : Nat → Int32) (p : Nat) (b : Int32) : Int32 :=
  if tw q p = -1 then b else if 2 < q (153 + 2 * Int32.toNatClampNeg (tw q p)) then b else if b = -1 then tw q p else
  if q (153 + 2 * Int32.toNatClampNeg b) ≤ q (153 + 2 * Int32.toNatClampNeg (tw q p)) then b else tw q p
def dry (q : Nat → Int32) : Int32 := hy_fold (dryS q) (pz q) 0 (-1)
def stm (q : Nat → Int32) : Int32 := hy_fold (fun v c => c + q (21 + v)) (vz q) 0 0
def nxt (h s : Int32) : Int32 := if (0 : Int32) < (if (h + s - (3 + h / 20)) < 100 then (h + s - (3 + h / 20)) else 100) then (if (h + s - (3 + h / 20)) < 100 then (h + s - (3 + h / 20)) else 100) else 0
def sfr (q : Nat → Int32) (a : Int32) : Int32 := hy_fold (fun g c => if q (25 + 8 * g + 2) = a then (if q 9 + 6 * a ≤ 60 + q (25 + 8 * g + 1) / 4 then c else c + 1) else c) (gz q) 0 0
theorem hy_6 : Int32.toNatClampNeg (153 : Int32) = 153 := by decide
theorem tw_al {q : Nat → Int32} (hZ : hy_Z q) (p : Nat) : tw q p = -1 ∨ ∃ t, t < tz q ∧ tw q p = nI t ∧ q (153 + 2 * t + 1) = nI p := by
  rcases hy_fnd_all (p := fun t => decide (q (153 + 2 * t + 1) = nI p)) (tz q) 0 with ⟨h, _⟩ | ⟨t, _, h2, h3, h4, _⟩
  · exact Or.inl h
  · exact Or.inr ⟨t, by omega, h3, of_decide_eq_true h4⟩
theorem hld_al {q : Nat → Int32} (hZ : hy_Z q) (p : Nat) : hld q p = -1 ∨ ∃ t, t < gz q ∧ hld q p = nI t ∧ q (25 + 8 * t + 4) = nI p := by
  rcases hy_fnd_all (p := fun t => decide (q (25 + 8 * t + 4) = nI p)) (gz q) 0 with ⟨h, _⟩ | ⟨t, _, h2, h3, h4, _⟩
  · exact Or.inl h
  · exact Or.inr ⟨t, by omega, h3, of_decide_eq_true h4⟩
theorem kpr_al {q : Nat → Int32} (hZ : hy_Z q) (p : Nat) : kpr q p = -1 ∨ ∃ t, t < gz q ∧ kpr q p = nI t ∧ q (25 + 8 * t + 3) = nI p := by
  rcases hy_fnd_all (p := fun t => decide (q (25 + 8 * t + 3) = nI p)) (gz q) 0 with ⟨h, _⟩ | ⟨t, _, h2, h3, h4, _⟩
  · exact Or.inl h
  · exact Or.inr ⟨t, by omega, h3, of_decide_eq_true h4⟩
theorem hy_cmp {p : Nat → Prop} [DecidablePred p] : ∀ (k i : Nat) (a b : Int32), hy_fold (fun g c => if p g then c else c + 1) k i a + hy_fold (fun g c => if p g then c + 1 else c) k i b = a + b + nI k
  | 0, i, a, b => by unfold hy_fold; exact (Int32.add_zero _).symm
  | k + 1, i, a, b => by
    unfold hy_fold
    rw [hy_cmp k (i + 1), ← hy_add1]
    by_cases h : p i <;> simp only [h, if_true, if_false]
    · ac_rfl
    · ac_rfl
theorem hIns_eq {q : Nat → Int32} (hZ : hy_Z q) : q 11 - hAt q (-1) = hIns q := by
  rw [hZ.1.1]
  have := hy_cmp (p := fun g => q (25 + 8 * g + 2) = -1) (gz q) 0 0 0
  unfold hAt hIns
  rw [Int32.add_zero, Int32.zero_add] at this
  rw [← this]
  exact Int32.add_sub_cancel _ _
theorem inUse_eq {q : Nat → Int32} (hZ : hy_Z q) : q 0 - frLs q = inUse q := by
  rw [hZ.2.1.1]
  have := hy_cmp (p := fun k => kpr q k = -1) (lz q) 0 0 0
  unfold frLs inUse
  rw [Int32.add_zero, Int32.zero_add] at this
  rw [← this]
  exact Int32.add_sub_cancel _ _

