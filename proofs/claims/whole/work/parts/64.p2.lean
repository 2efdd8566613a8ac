theorem hy_k0 : Int32.toNatClampNeg (0 : Int32) = 0 := by decide
theorem hy_k1 : Int32.toNatClampNeg (1 : Int32) = 1 := by decide
theorem hy_k2 : Int32.toNatClampNeg (2 : Int32) = 2 := by decide
theorem hy_k3 : Int32.toNatClampNeg (3 : Int32) = 3 := by decide
theorem hy_k4 : Int32.toNatClampNeg (4 : Int32) = 4 := by decide
theorem hy_k5 : Int32.toNatClampNeg (5 : Int32) = 5 := by decide
theorem hy_k6 : Int32.toNatClampNeg (6 : Int32) = 6 := by decide
theorem hy_k7 : Int32.toNatClampNeg (7 : Int32) = 7 := by decide
theorem hy_k8 : Int32.toNatClampNeg (8 : Int32) = 8 := by decide
theorem hy_k9 : Int32.toNatClampNeg (9 : Int32) = 9 := by decide
theorem hy_k10 : Int32.toNatClampNeg (10 : Int32) = 10 := by decide
theorem hy_k11 : Int32.toNatClampNeg (11 : Int32) = 11 := by decide
theorem hy_k12 : Int32.toNatClampNeg (12 : Int32) = 12 := by decide
theorem hy_k13 : Int32.toNatClampNeg (13 : Int32) = 13 := by decide
theorem hy_FU {n : Nat} (h : n ≤ 4000) : n < hz_FU := by unfold hz_FU; omega
theorem hy_FUs : ∃ m, hz_FU = m + 1 := ⟨99999, rfl⟩
def gz (q : Nat → Int32) : Nat := Int32.toNatClampNeg (q 11)
def lz (q : Nat → Int32) : Nat := Int32.toNatClampNeg (q 0)
def pz (q : Nat → Int32) : Nat := Int32.toNatClampNeg (q 1)
def tz (q : Nat → Int32) : Nat := Int32.toNatClampNeg (q 2)
def vz (q : Nat → Int32) : Nat := Int32.toNatClampNeg (q 3)
def sz (q : Nat → Int32) : Nat := Int32.toNatClampNeg (q 4)
/-- the sizes -/
def hy_Z (q : Nat → Int32) : Prop := (q 11 = nI (gz q) ∧ gz q ≤ 16) ∧ (q 0 = nI (lz q) ∧ 1 ≤ lz q ∧ lz q ≤ 12) ∧ (q 1 = nI (pz q) ∧ 1 ≤ pz q ∧ pz q ≤ 16) ∧ (q 2 = nI (tz q) ∧ tz q ≤ pz q) ∧ (q 3 = nI (vz q) ∧ 1 ≤ vz q ∧ vz q ≤ 4) ∧ (q 4 = nI (sz q) ∧ 1 ≤ sz q ∧ sz q ≤ 6)
def tw (q : Nat → Int32) (p : Nat) : Int32 := hy_fnd (fun t => decide (q (153 + 2 * t + 1) = nI p)) (tz q) 0
def hld (q : Nat → Int32) (t : Nat) : Int32 := hy_fnd (fun g => decide (q (25 + 8 * g + 4) = nI t)) (gz q) 0
def kpr (q : Nat → Int32) (k : Nat) : Int32 := hy_fnd (fun g => decide (q (25 + 8 * g + 3) = nI k)) (gz q) 0
/-- the class's rows at a place are a row of the reference -/
def hy_RC (b : Nat) (M : hz_M) (q : Nat → Int32) : Prop :=
  (M b 14 = q 8 ∧ M b 15 = q 9 ∧ M b 16 = q 10 ∧ M b 17 = q 5 ∧ M b 18 = q 6 ∧ M b 19 = q 7) ∧
  (∀ k, k < 9 → M (b + 13) k = q (12 + k)) ∧ (∀ v, v < 4 → M (b + 1) v = q (21 + v)) ∧
  (∀ g, g < gz q → M (b + 2) g = q (25 + 8 * g + 2)) ∧ (∀ g, g < gz q → M (b + 3) g = q (25 + 8 * g + 3)) ∧
  (∀ g, g < gz q → M (b + 4) g = q (25 + 8 * g + 4)) ∧ (∀ g, g < gz q → M (b + 5) g = q (25 + 8 * g + 5)) ∧
  (∀ g, g < gz q → M (b + 6) g = q (25 + 8 * g + 6)) ∧ (∀ g, g < gz q → M (b + 7) g = q (25 + 8 * g + 7)) ∧
  (∀ t, t < tz q → M (b + 9) t = q (153 + 2 * t)) ∧ (∀ t, t < tz q → M (b + 10) t = q (153 + 2 * t + 1)) ∧
  (∀ k, k < lz q → M (b + 8) k = kpr q k) ∧ (∀ t, t < tz q → M (b + 11) t = hld q t) ∧ (∀ p, p < pz q → M (b + 12) p = tw q p)


theorem hy_i8 {g c : Nat} : (25 : Int32) + 8 * nI g + nI c = nI (25 + 8 * g + c) := by
  rw [show (25 : Int32) = nI 25 from rfl, show (8 : Int32) = nI 8 from rfl, hy_mul, hy_add, hy_add]
theorem hy_i2 {t c : Nat} : (153 : Int32) + 2 * nI t + nI c = nI (153 + 2 * t + c) := by
  rw [show (153 : Int32) = nI 153 from rfl, show (2 : Int32) = nI 2 from rfl, hy_mul, hy_add, hy_add]
theorem r_of {g c : Nat} (M : hz_M) (hg : g < 16) (hc : c < 8) : f_X11_of (nI g) (nI c) M = some (M 179 (25 + 8 * g + c), M) := by
  unfold f_X11_of
  rw [hy_i8, hy_in (by omega) (by omega), hy_c (by omega)]; rfl
theorem r_ofT {t c : Nat} (M : hz_M) (ht : t < 16) (hc : c < 2) : f_X11_ofT (nI t) (nI c) M = some (M 179 (153 + 2 * t + c), M) := by
  unfold f_X11_ofT
  rw [hy_i2, hy_in (by omega) (by omega), hy_c (by omega)]; rfl
theorem r_puts {g c : Nat} (v : Int32) (M : hz_M) (hg : g < 16) (hc : c < 8) : f_X11_puts (nI g) (nI c) v M = some (0, hy_row M 179 (hy_st (M 179) (25 + 8 * g + c) v)) := by
  unfold f_X11_puts
  rw [hy_i8, hy_in (by omega) (by omega), hy_c (by omega), hy_set]; rfl
theorem r_putT {t c : Nat} (v : Int32) (M : hz_M) (ht : t < 16) (hc : c < 2) : f_X11_putT (nI t) (nI c) v M = some (0, hy_row M 179 (hy_st (M 179) (153 + 2 * t + c) v)) := by
  unfold f_X11_putT
  rw [hy_i2, hy_in (by omega) (by omega), hy_c (by omega), hy_set]; rfl
theorem r_counts {a : Nat} (v : Int32) (M : hz_M) (ha : a < 9) : f_X11_counts (nI a) v M = some (0, hy_row M 179 (hy_st (M 179) (12 + a) (M 179 (12 + a) + v))) := by
  unfold f_X11_counts
  rw [hy_lt', show (12 : Int32) = nI 12 from rfl, hy_add, hy_in (by omega) (by omega), hy_c (by omega), hy_set]; rfl

theorem r_of0 {g : Nat} (M : hz_M) (hg : g < 16) : f_X11_of (nI g) (0 : Int32) M = some (M 179 (25 + 8 * g), M) := r_of (c := 0) M hg (by omega)
theorem r_puts0 {g : Nat} (v : Int32) (M : hz_M) (hg : g < 16) : f_X11_puts (nI g) (0 : Int32) v M = some (0, hy_row M 179 (hy_st (M 179) (25 + 8 * g) v)) := r_puts (c := 0) v M hg (by omega)
theorem r_of1 {g : Nat} (M : hz_M) (hg : g < 16) : f_X11_of (nI g) (1 : Int32) M = some (M 179 (25 + 8 * g + 1), M) := r_of (c := 1) M hg (by omega)
theorem r_puts1 {g : Nat} (v : Int32) (M : hz_M) (hg : g < 16) : f_X11_puts (nI g) (1 : Int32) v M = some (0, hy_row M 179 (hy_st (M 179) (25 + 8 * g + 1) v)) := r_puts (c := 1) v M hg (by omega)
theorem r_of2 {g : Nat} (M : hz_M) (hg : g < 16) : f_X11_of (nI g) (2 : Int32) M = some (M 179 (25 + 8 * g + 2), M) := r_of (c := 2) M hg (by omega)
theorem r_puts2 {g : Nat} (v : Int32) (M : hz_M) (hg : g < 16) : f_X11_puts (nI g) (2 : Int32) v M = some (0, hy_row M 179 (hy_st (M 179) (25 + 8 * g + 2) v)) := r_puts (c := 2) v M hg (by omega)
theorem r_of3 {g : Nat} (M : hz_M) (hg : g < 16) : f_X11_of (nI g) (3 : Int32) M = some (M 179 (25 + 8 * g + 3), M) := r_of (c := 3) M hg (by omega)
theorem r_puts3 {g : Nat} (v : Int32) (M : hz_M) (hg : g < 16) : f_X11_puts (nI g) (3 : Int32) v M = some (0, hy_row M 179 (hy_st (M 179) (25 + 8 * g + 3) v)) := r_puts (c := 3) v M hg (by omega)
theorem r_of4 {g : Nat} (M : hz_M) (hg : g < 16) : f_X11_of (nI g) (4 : Int32) M = some (M 179 (25 + 8 * g + 4), M) := r_of (c := 4) M hg (by omega)
theorem r_puts4 {g : Nat} (v : Int32) (M : hz_M) (hg : g < 16) : f_X11_puts (nI g) (4 : Int32) v M = some (0, hy_row M 179 (hy_st (M 179) (25 + 8 * g + 4) v)) := r_puts (c := 4) v M hg (by omega)
theorem r_of5 {g : Nat} (M : hz_M) (hg : g < 16) : f_X11_of (nI g) (5 : Int32) M = some (M 179 (25 + 8 * g + 5), M) := r_of (c := 5) M hg (by omega)
theorem r_puts5 {g : Nat} (v : Int32) (M : hz_M) (hg : g < 16) : f_X11_puts (nI g) (5 : Int32) v M = some (0, hy_row M 179 (hy_st (M 179) (25 + 8 * g + 5) v)) := r_puts (c := 5) v M hg (by omega)
theorem r_of6 {g : Nat} (M : hz_M) (hg : g < 16) : f_X11_of (nI g) (6 : Int32) M = some (M 179 (25 + 8 * g + 6), M) := r_of (c := 6) M hg (by omega)
theorem r_puts6 {g : Nat} (v : Int32) (M : hz_M) (hg : g < 16) : f_X11_puts (nI g) (6 : Int32) v M = some (0, hy_row M 179 (hy_st (M 179) (25 + 8 * g + 6) v)) := r_puts (c := 6) v M hg (by omega)
theorem r_of7 {g : Nat} (M : hz_M) (hg : g < 16) : f_X11_of (nI g) (7 : Int32) M = some (M 179 (25 + 8 * g + 7), M) := r_of (c := 7) M hg (by omega)
theorem r_puts7 {g : Nat} (v : Int32) (M : hz_M) (hg : g < 16) : f_X11_puts (nI g) (7 : Int32) v M = some (0, hy_row M 179 (hy_st (M 179) (25 + 8 * g + 7) v)) := r_puts (c := 7) v M hg (by omega)
theorem r_ofT0 {t : Nat} (M : hz_M) (ht : t < 16) : f_X11_ofT (nI t) (0 : Int32) M = some (M 179 (153 + 2 * t), M) := r_ofT (c := 0) M ht (by omega)
theorem r_putT0 {t : Nat} (v : Int32) (M : hz_M) (ht : t < 16) : f_X11_putT (nI t) (0 : Int32) v M = some (0, hy_row M 179 (hy_st (M 179) (153 + 2 * t) v)) := r_putT (c := 0) v M ht (by omega)
theorem r_ofT1 {t : Nat} (M : hz_M) (ht : t < 16) : f_X11_ofT (nI t) (1 : Int32) M = some (M 179 (153 + 2 * t + 1), M) := r_ofT (c := 1) M ht (by omega)
theorem r_putT1 {t : Nat} (v : Int32) (M : hz_M) (ht : t < 16) : f_X11_putT (nI t) (1 : Int32) v M = some (0, hy_row M 179 (hy_st (M 179) (153 + 2 * t + 1) v)) := r_putT (c := 1) v M ht (by omega)
theorem r_counts0 (v : Int32) (M : hz_M) : f_X11_counts (0 : Int32) v M = some (0, hy_row M 179 (hy_st (M 179) (12) (M 179 (12) + v))) := r_counts (a := 0) v M (by omega)
theorem r_counts1 (v : Int32) (M : hz_M) : f_X11_counts (1 : Int32) v M = some (0, hy_row M 179 (hy_st (M 179) (13) (M 179 (13) + v))) := r_counts (a := 1) v M (by omega)
theorem r_counts2 (v : Int32) (M : hz_M) : f_X11_counts (2 : Int32) v M = some (0, hy_row M 179 (hy_st (M 179) (14) (M 179 (14) + v))) := r_counts (a := 2) v M (by omega)
theorem r_counts3 (v : Int32) (M : hz_M) : f_X11_counts (3 : Int32) v M = some (0, hy_row M 179 (hy_st (M 179) (15) (M 179 (15) + v))) := r_counts (a := 3) v M (by omega)
theorem r_counts4 (v : Int32) (M : hz_M) : f_X11_counts (4 : Int32) v M = some (0, hy_row M 179 (hy_st (M 179) (16) (M 179 (16) + v))) := r_counts (a := 4) v M (by omega)
theorem r_counts5 (v : Int32) (M : hz_M) : f_X11_counts (5 : Int32) v M = some (0, hy_row M 179 (hy_st (M 179) (17) (M 179 (17) + v))) := r_counts (a := 5) v M (by omega)
theorem r_counts6 (v : Int32) (M : hz_M) : f_X11_counts (6 : Int32) v M = some (0, hy_row M 179 (hy_st (M 179) (18) (M 179 (18) + v))) := r_counts (a := 6) v M (by omega)
theorem r_counts7 (v : Int32) (M : hz_M) : f_X11_counts (7 : Int32) v M = some (0, hy_row M 179 (hy_st (M 179) (19) (M 179 (19) + v))) := r_counts (a := 7) v M (by omega)
theorem r_counts8 (v : Int32) (M : hz_M) : f_X11_counts (8 : Int32) v M = some (0, hy_row M 179 (hy_st (M 179) (20) (M 179 (20) + v))) := r_counts (a := 8) v M (by omega)
theorem r_tw {M : hz_M} {q : Nat → Int32} (hq : M 179 = q) (hZ : hy_Z q) (a : Nat) :
    f_X11_towelOn (nI a) M = some (tw q a, M) := by
  obtain ⟨⟨z1, z2⟩, ⟨z3, z4, z5⟩, ⟨z6, z7, z8⟩, ⟨z9, z10⟩, ⟨z11, z12, z13⟩, ⟨z14, z15, z16⟩⟩ := hZ
  unfold f_X11_towelOn
  refine hy_first (fun f i => f_X11_towelOn_L2 f (nI a) (nI i) M) (tz q) (fun t => decide (q (153 + 2 * t + 1) = nI a)) (fun r => some (r, M)) ?_ ?_ (tz q) 0 hz_FU (by omega) (hy_FU (by omega))
  · intro f
    simp (disch := omega) [f_X11_towelOn_L2, hq, z9, hy_cts, hy_gt, hy_lt', hy_lm, hy_jn, hy_c, hy_in, hy_le, hy_add1, hy_k0, hy_k1, hy_k2, hy_k3, hy_k4, hy_k5, hy_k6, hy_k7, hy_k8, hy_k9, hy_k10, hy_k11, hy_k12, hy_k13, r_of0, r_of1, r_of2, r_of3, r_of4, r_of5, r_of6, r_of7, r_ofT0, r_ofT1]
  · intro f i hi
    have hi' : ¬ (tz q) ≤ i := by omega
    simp (disch := omega) only [f_X11_towelOn_L2, hq, z9, hi', hy_cts, hy_gt, hy_lt', hy_lm, hy_jn, hy_c, hy_in, hy_le, hy_add1, hy_k0, hy_k1, hy_k2, hy_k3, hy_k4, hy_k5, hy_k6, hy_k7, hy_k8, hy_k9, hy_k10, hy_k11, hy_k12, hy_k13, r_of0, r_of1, r_of2, r_of3, r_of4, r_of5, r_of6, r_of7, r_ofT0, r_ofT1]
    by_cases e : q (153 + 2 * i + 1) = nI a <;> simp [e]
theorem r_hld {M : hz_M} {q : Nat → Int32} (hq : M 179 = q) (hZ : hy_Z q) (a : Nat) :
    f_X11_holderOf (nI a) M = some (hld q a, M) := by
  obtain ⟨⟨z1, z2⟩, ⟨z3, z4, z5⟩, ⟨z6, z7, z8⟩, ⟨z9, z10⟩, ⟨z11, z12, z13⟩, ⟨z14, z15, z16⟩⟩ := hZ
  unfold f_X11_holderOf
  refine hy_first (fun f i => f_X11_holderOf_L2 f (nI a) (nI i) M) (gz q) (fun t => decide (q (25 + 8 * t + 4) = nI a)) (fun r => some (r, M)) ?_ ?_ (gz q) 0 hz_FU (by omega) (hy_FU (by omega))
  · intro f
    simp (disch := omega) [f_X11_holderOf_L2, hq, z1, hy_cts, hy_gt, hy_lt', hy_lm, hy_jn, hy_c, hy_in, hy_le, hy_add1, hy_k0, hy_k1, hy_k2, hy_k3, hy_k4, hy_k5, hy_k6, hy_k7, hy_k8, hy_k9, hy_k10, hy_k11, hy_k12, hy_k13, r_of0, r_of1, r_of2, r_of3, r_of4, r_of5, r_of6, r_of7, r_ofT0, r_ofT1]
  · intro f i hi
    have hi' : ¬ (gz q) ≤ i := by omega
    simp (disch := omega) only [f_X11_holderOf_L2, hq, z1, hi', hy_cts, hy_gt, hy_lt', hy_lm, hy_jn, hy_c, hy_in, hy_le, hy_add1, hy_k0, hy_k1, hy_k2, hy_k3, hy_k4, hy_k5, hy_k6, hy_k7, hy_k8, hy_k9, hy_k10, hy_k11, hy_k12, hy_k13, r_of0, r_of1, r_of2, r_of3, r_of4, r_of5, r_of6, r_of7, r_ofT0, r_ofT1]
    by_cases e : q (25 + 8 * i + 4) = nI a <;> simp [e]
theorem r_kpr {M : hz_M} {q : Nat → Int32} (hq : M 179 = q) (hZ : hy_Z q) (a : Nat) :
    f_X11_keeperOf (nI a) M = some (kpr q a, M) := by
  obtain ⟨⟨z1, z2⟩, ⟨z3, z4, z5⟩, ⟨z6, z7, z8⟩, ⟨z9, z10⟩, ⟨z11, z12, z13⟩, ⟨z14, z15, z16⟩⟩ := hZ
  unfold f_X11_keeperOf
  refine hy_first (fun f i => f_X11_keeperOf_L2 f (nI a) (nI i) M) (gz q) (fun t => decide (q (25 + 8 * t + 3) = nI a)) (fun r => some (r, M)) ?_ ?_ (gz q) 0 hz_FU (by omega) (hy_FU (by omega))
  · intro f
    simp (disch := omega) [f_X11_keeperOf_L2, hq, z1, hy_cts, hy_gt, hy_lt', hy_lm, hy_jn, hy_c, hy_in, hy_le, hy_add1, hy_k0, hy_k1, hy_k2, hy_k3, hy_k4, hy_k5, hy_k6, hy_k7, hy_k8, hy_k9, hy_k10, hy_k11, hy_k12, hy_k13, r_of0, r_of1, r_of2, r_of3, r_of4, r_of5, r_of6, r_of7, r_ofT0, r_ofT1]
  · intro f i hi
    have hi' : ¬ (gz q) ≤ i := by omega
    simp (disch := omega) only [f_X11_keeperOf_L2, hq, z1, hi', hy_cts, hy_gt, hy_lt', hy_lm, hy_jn, hy_c, hy_in, hy_le, hy_add1, hy_k0, hy_k1, hy_k2, hy_k3, hy_k4, hy_k5, hy_k6, hy_k7, hy_k8, hy_k9, hy_k10, hy_k11, hy_k12, hy_k13, r_of0, r_of1, r_of2, r_of3, r_of4, r_of5, r_of6, r_of7, r_ofT0, r_ofT1]
    by_cases e : q (25 + 8 * i + 3) = nI a <;> simp [e]
