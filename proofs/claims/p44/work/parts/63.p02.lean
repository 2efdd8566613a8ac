theorem hy_k0 : Int32.toNatClampNeg (0 : Int32) = 0 := by decide
theorem hy_k1 : Int32.toNatClampNeg (1 : Int32) = 1 := by decide
theorem hy_k2 : Int32.toNatClampNeg (2 : Int32) = 2 := by decide
theorem hy_k3 : Int32.toNatClampNeg (3 : Int32) = 3 := by decide
theorem hy_k4 : Int32.toNatClampNeg (4 : Int32) = 4 := by decide
theorem hy_k5 : Int32.toNatClampNeg (5 : Int32) = 5 := by decide
theorem hy_k6 : Int32.toNatClampNeg (6 : Int32) = 6 := by decide
theorem hy_k7 : Int32.toNatClampNeg (7 : Int32) = 7 := by decide
theorem hy_k8 : Int32.toNatClampNeg (8 : Int32) = 8 := by decide
theorem hy_k9 : Int32.toNatClampNeg (9 : Int32) = 9 := by decide
theorem hy_k10 : Int32.toNatClampNeg (10 : Int32) = 10 := by decide
theorem hy_k11 : Int32.toNatClampNeg (11 : Int32) = 11 := by decide
theorem hy_k12 : Int32.toNatClampNeg (12 : Int32) = 12 := by decide
theorem hy_k13 : Int32.toNatClampNeg (13 : Int32) = 13 := by decide
theorem hy_FU {n : Nat} (h : n ≤ 4000) : n < hz_FU := by unfold hz_FU; omega
theorem hy_FUs : ∃ m, hz_FU = m + 1 := ⟨99999, rfl⟩
def gz (q : Nat → Int32) : Nat := Int32.toNatClampNeg (q 11)
def lz (q : Nat → Int32) : Nat := Int32.toNatClampNeg (q 0)
def pz (q : Nat → Int32) : Nat := Int32.toNatClampNeg (q 1)
def tz (q : Nat → Int32) : Nat := Int32.toNatClampNeg (q 2)
def vz (q : Nat → Int32) : Nat := Int32.toNatClampNeg (q 3)
def sz (q : Nat → Int32) : Nat := Int32.toNatClampNeg (q 4)
/-- the sizes -/
def hy_Z (q : Nat → Int32) : Prop := (q 11 = nI (gz q) ∧ gz q ≤ 16) ∧ (q 0 = nI (lz q) ∧ 1 ≤ lz q ∧ lz q ≤ 12) ∧ (q 1 = nI (pz q) ∧ 1 ≤ pz q ∧ pz q ≤ 16) ∧ (q 2 = nI (tz q) ∧ tz q ≤ pz q) ∧ (q 3 = nI (vz q) ∧ 1 ≤ vz q ∧ vz q ≤ 4) ∧ (q 4 = nI (sz q) ∧ 1 ≤ sz q ∧ sz q ≤ 6)
def tw (q : Nat → Int32) (p : Nat) : Int32 := hy_fnd (fun t => decide (q (153 + 2 * t + 1) = nI p)) (tz q) 0
def hld (q : Nat → Int32) (t : Nat) : Int32 := hy_fnd (fun g => decide (q (25 + 8 * g + 4) = nI t)) (gz q) 0
def kpr (q : Nat → Int32) (k : Nat) : Int32 := hy_fnd (fun g => decide (q (25 + 8 * g + 3) = nI k)) (gz q) 0
/-- the class's rows at a place are a row of the reference -/
def hy_RC (b : Nat) (M : hz_M) (q : Nat → Int32) : Prop :=
  (M b 14 = q 8 ∧ M b 15 = q 9 ∧ M b 16 = q 10 ∧ M b 17 = q 5 ∧ M b 18 = q 6 ∧ M b 19 = q 7) ∧
  (∀ k, k < 9 → M (b + 13) k = q (12 + k)) ∧ (∀ v, v < 4 → M (b + 1) v = q (21 + v)) ∧
  (∀ g, g < gz q → M (b + 2) g = q (25 + 8 * g + 2)) ∧ (∀ g, g < gz q → M (b + 3) g = q (25 + 8 * g + 3)) ∧
  (∀ g, g < gz q → M (b + 4) g = q (25 + 8 * g + 4)) ∧ (∀ g, g < gz q → M (b + 5) g = q (25 + 8 * g + 5)) ∧
  (∀ g, g < gz q → M (b + 6) g = q (25 + 8 * g + 6)) ∧ (∀ g, g < gz q → M (b + 7) g = q (25 + 8 * g + 7)) ∧
  (∀ t, t < tz q → M (b + 9) t = q (153 + 2 * t)) ∧ (∀ t, t < tz q → M (b + 10) t = q (153 + 2 * t + 1)) ∧
  (∀ k, k < lz q → M (b + 8) k = kpr q k) ∧ (∀ t, t < tz q → M (b + 11) t = hld q t) ∧ (∀ p, p < pz q → M (b + 12) p = tw q p)


theorem hy_i8 {g c : Nat} : (25 : Int32) + 8 * nI g + nI c = nI (25 + 8 * g + c) := by
  rw [show (25 : Int32) = nI 25 from rfl, show (8 : Int32) = nI 8 from rfl, hy_mul, hy_add, hy_add]
theorem hy_i2 {t c : Nat} : (153 : Int32) + 2 * nI t + nI c = nI (153 + 2 * t + c) := by
  rw [show (153 : Int32) = nI 153 from rfl, show (2 : Int32) = nI 2 from rfl, hy_mul, hy_add, hy_add]
