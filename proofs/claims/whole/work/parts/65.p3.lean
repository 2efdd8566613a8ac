
def hAt (q : Nat → Int32) (a : Int32) : Int32 := hy_fold (fun g c => if q (25 + 8 * g + 2) = a then c + 1 else c) (gz q) 0 0
def hIns (q : Nat → Int32) : Int32 := hy_fold (fun g c => if q (25 + 8 * g + 2) = -1 then c else c + 1) (gz q) 0 0
def fOn (q : Nat → Int32) (a b : Int32) : Int32 := hy_fnd (fun o => decide (¬ nI o = a ∧ q (25 + 8 * o + 2) = b)) (gz q) 0
def eldS (q : Nat → Int32) (a : Int32) (g : Nat) (b : Int32) : Int32 :=
  if q (25 + 8 * g + 2) = a then (if b = -1 then nI g else if q (25 + 8 * g + 1) ≤ q (25 + 8 * Int32.toNatClampNeg b + 1) then b else nI g) else b
def eld (q : Nat → Int32) (a : Int32) : Int32 := hy_fold (eldS q a) (gz q) 0 (-1)
def inUse (q : Nat → Int32) : Int32 := hy_fold (fun k c => if kpr q k = -1 then c else c + 1) (lz q) 0 0
def frLs (q : Nat → Int32) : Int32 := hy_fold (fun k c => if kpr q k = -1 then c + 1 else c) (lz q) 0 0
def frL (q : Nat → Int32) : Int32 := hy_fnd (fun k => decide (kpr q k = -1)) (lz q) 0
def frP (q : Nat → Int32) : Int32 := hy_fnd (fun k => decide (tw q k = -1)) (pz q) 0
def isB (q : Nat → Int32) (t : Nat) : Bool := decide (q (153 + 2 * t + 1) = -1 ∧ hld q t = -1)
def bsk (q : Nat → Int32) : Int32 := hy_fold (fun t c => if isB q t = true then c + 1 else c) (tz q) 0 0
def onPg (q : Nat → Int32) (a : Int32) : Int32 := hy_fold (fun p c => if tw q p = -1 then c else c + 1) (pz q) 0 a
def wth (q : Nat → Int32) : Int32 := hy_fold (fun g c => if q (25 + 8 * g + 4) = -1 then c else c + 1) (gz q) 0 0
def unt (q : Nat → Int32) (a : Int32) : Int32 := hy_fold (fun p c => if tw q p = -1 then c else if q (153 + 2 * Int32.toNatClampNeg (tw q p) + 1) = nI p then c else c + 1) (pz q) 0 a
def wts (q : Nat → Int32) : Int32 := hy_fold (fun t c => c + q (153 + 2 * t)) (tz q) 0 0
def dryS (q : Nat → Int32) (p : Nat) (b : Int32) : Int32 :=
  if tw q p = -1 then b else if 2 < q (153 + 2 * Int32.toNatClampNeg (tw q p)) then b else if b = -1 then tw q p else
  if q (153 + 2 * Int32.toNatClampNeg b) ≤ q (153 + 2 * Int32.toNatClampNeg (tw q p)) then b else tw q p
def dry (q : Nat → Int32) : Int32 := hy_fold (dryS q) (pz q) 0 (-1)
def stm (q : Nat → Int32) : Int32 := hy_fold (fun v c => c + q (21 + v)) (vz q) 0 0
def nxt (h s : Int32) : Int32 := if (0 : Int32) < (if (h + s - (3 + h / 20)) < 100 then (h + s - (3 + h / 20)) else 100) then (if (h + s - (3 + h / 20)) < 100 then (h + s - (3 + h / 20)) else 100) else 0
def sfr (q : Nat → Int32) (a : Int32) : Int32 := hy_fold (fun g c => if q (25 + 8 * g + 2) = a then (if q 9 + 6 * a ≤ 60 + q (25 + 8 * g + 1) / 4 then c else c + 1) else c) (gz q) 0 0
theorem hy_6 : Int32.toNatClampNeg (153 : Int32) = 153 := by decide
theorem tw_al {q : Nat → Int32} (hZ : hy_Z q) (p : Nat) : tw q p = -1 ∨ ∃ t, t < tz q ∧ tw q p = nI t ∧ q (153 + 2 * t + 1) = nI p := by
  rcases hy_fnd_all (p := fun t => decide (q (153 + 2 * t + 1) = nI p)) (tz q) 0 with ⟨h, _⟩ | ⟨t, _, h2, h3, h4, _⟩
  · exact Or.inl h
  · exact Or.inr ⟨t, by omega, h3, of_decide_eq_true h4⟩
theorem hld_al {q : Nat → Int32} (hZ : hy_Z q) (p : Nat) : hld q p = -1 ∨ ∃ t, t < gz q ∧ hld q p = nI t ∧ q (25 + 8 * t + 4) = nI p := by
  rcases hy_fnd_all (p := fun t => decide (q (25 + 8 * t + 4) = nI p)) (gz q) 0 with ⟨h, _⟩ | ⟨t, _, h2, h3, h4, _⟩
  · exact Or.inl h
  · exact Or.inr ⟨t, by omega, h3, of_decide_eq_true h4⟩
theorem kpr_al {q : Nat → Int32} (hZ : hy_Z q) (p : Nat) : kpr q p = -1 ∨ ∃ t, t < gz q ∧ kpr q p = nI t ∧ q (25 + 8 * t + 3) = nI p := by
  rcases hy_fnd_all (p := fun t => decide (q (25 + 8 * t + 3) = nI p)) (gz q) 0 with ⟨h, _⟩ | ⟨t, _, h2, h3, h4, _⟩
  · exact Or.inl h
  · exact Or.inr ⟨t, by omega, h3, of_decide_eq_true h4⟩
theorem hy_cmp {p : Nat → Prop} [DecidablePred p] : ∀ (k i : Nat) (a b : Int32), hy_fold (fun g c => if p g then c else c + 1) k i a + hy_fold (fun g c => if p g then c + 1 else c) k i b = a + b + nI k
  | 0, i, a, b => by unfold hy_fold; exact (Int32.add_zero _).symm
  | k + 1, i, a, b => by
    unfold hy_fold
    rw [hy_cmp k (i + 1), ← hy_add1]
    by_cases h : p i <;> simp only [h, if_true, if_false]
    · ac_rfl
    · ac_rfl
theorem hIns_eq {q : Nat → Int32} (hZ : hy_Z q) : q 11 - hAt q (-1) = hIns q := by
  rw [hZ.1.1]
  have := hy_cmp (p := fun g => q (25 + 8 * g + 2) = -1) (gz q) 0 0 0
  unfold hAt hIns
  rw [Int32.add_zero, Int32.zero_add] at this
  rw [← this]
  exact Int32.add_sub_cancel _ _
theorem inUse_eq {q : Nat → Int32} (hZ : hy_Z q) : q 0 - frLs q = inUse q := by
  rw [hZ.2.1.1]
  have := hy_cmp (p := fun k => kpr q k = -1) (lz q) 0 0 0
  unfold frLs inUse
  rw [Int32.add_zero, Int32.zero_add] at this
  rw [← this]
  exact Int32.add_sub_cancel _ _

theorem r_hAt {M : hz_M} {q : Nat → Int32} (hq : M 179 = q) (hZ : hy_Z q) (a : Int32) :
    f_X11_guestsOn a M = some (hAt q a, M) := by
  have hZ0 := hZ
  obtain ⟨⟨z1, z2⟩, ⟨z3, z4, z5⟩, ⟨z6, z7, z8⟩, ⟨z9, z10⟩, ⟨z11, z12, z13⟩, ⟨z14, z15, z16⟩⟩ := hZ
  unfold f_X11_guestsOn 
  refine hy_for0 (fun f c i => f_X11_guestsOn_L4 f a c (nI i) M) (gz q) (fun g c => if q (25 + 8 * g + 2) = a then c + 1 else c) (fun r => some (r, M)) ?_ ?_ hz_FU _ (hy_FU (by omega))
  · intro f c
    simp (disch := omega) [f_X11_guestsOn_L4, hq, z1, hy_cts, hy_gt, hy_lt', hy_lm, hy_jn, hy_c, hy_in, hy_le, hy_add1, hy_k0, hy_k1, hy_k2, hy_k3, hy_k4, hy_k5, hy_k6, hy_k7, hy_k8, hy_k9, hy_k10, hy_k11, hy_k12, hy_k13, r_of0, r_of1, r_of2, r_of3, r_of4, r_of5, r_of6, r_of7, r_ofT0, r_ofT1]
  · intro f c i hi
    have hi' : ¬ (gz q) ≤ i := by omega
    simp (disch := omega) only [f_X11_guestsOn_L4, hq, z1, hi', if_false, hy_cts, hy_gt, hy_lt', hy_lm, hy_jn, hy_c, hy_in, hy_le, hy_add1, hy_k0, hy_k1, hy_k2, hy_k3, hy_k4, hy_k5, hy_k6, hy_k7, hy_k8, hy_k9, hy_k10, hy_k11, hy_k12, hy_k13, r_of0, r_of1, r_of2, r_of3, r_of4, r_of5, r_of6, r_of7, r_ofT0, r_ofT1 ]
    split <;> simp_all
theorem r_inside {M : hz_M} {q : Nat → Int32} (hq : M 179 = q) (hZ : hy_Z q) : f_X11_inside M = some (hIns q, M) := by
  unfold f_X11_inside
  rw [r_hAt hq hZ, hy_cts, hq, hy_k11, hIns_eq hZ]
theorem r_fOn {M : hz_M} {q : Nat → Int32} (hq : M 179 = q) (hZ : hy_Z q) (a b : Int32) :
    f_X11_firstOn a b M = some (fOn q a b, M) := by
  obtain ⟨⟨z1, z2⟩, ⟨z3, z4, z5⟩, ⟨z6, z7, z8⟩, ⟨z9, z10⟩, ⟨z11, z12, z13⟩, ⟨z14, z15, z16⟩⟩ := hZ
  unfold f_X11_firstOn
  refine hy_first (fun f i => f_X11_firstOn_L2 f a b (nI i) M) (gz q) (fun o => decide (¬ nI o = a ∧ q (25 + 8 * o + 2) = b)) (fun r => some (r, M)) ?_ ?_ (gz q) 0 hz_FU (by omega) (hy_FU (by omega))
  · intro f
    simp (disch := omega) [f_X11_firstOn_L2, hq, z1, hy_cts, hy_gt, hy_lt', hy_lm, hy_jn, hy_c, hy_in, hy_le, hy_add1, hy_k0, hy_k1, hy_k2, hy_k3, hy_k4, hy_k5, hy_k6, hy_k7, hy_k8, hy_k9, hy_k10, hy_k11, hy_k12, hy_k13, r_of0, r_of1, r_of2, r_of3, r_of4, r_of5, r_of6, r_of7, r_ofT0, r_ofT1]
  · intro f i hi
    have hi' : ¬ (gz q) ≤ i := by omega
    simp (disch := omega) only [f_X11_firstOn_L2, hq, z1, hi', if_false, hy_cts, hy_gt, hy_lt', hy_lm, hy_jn, hy_c, hy_in, hy_le, hy_add1, hy_k0, hy_k1, hy_k2, hy_k3, hy_k4, hy_k5, hy_k6, hy_k7, hy_k8, hy_k9, hy_k10, hy_k11, hy_k12, hy_k13, r_of0, r_of1, r_of2, r_of3, r_of4, r_of5, r_of6, r_of7, r_ofT0, r_ofT1]
    by_cases e : nI i = a <;> by_cases e2 : q (25 + 8 * i + 2) = b <;> simp [e, e2]
theorem r_frL {M : hz_M} {q : Nat → Int32} (hq : M 179 = q) (hZ : hy_Z q) :
    f_X11_freeLocker M = some (frL q, M) := by
  have h1 := fun k => r_kpr hq hZ k
  obtain ⟨⟨z1, z2⟩, ⟨z3, z4, z5⟩, ⟨z6, z7, z8⟩, ⟨z9, z10⟩, ⟨z11, z12, z13⟩, ⟨z14, z15, z16⟩⟩ := hZ
  unfold f_X11_freeLocker
  refine hy_first (fun f i => f_X11_freeLocker_L2 f (nI i) M) (lz q) (fun k => decide (kpr q k = -1)) (fun r => some (r, M)) ?_ ?_ (lz q) 0 hz_FU (by omega) (hy_FU (by omega))
  · intro f
    simp (disch := omega) [f_X11_freeLocker_L2, hq, z3, hy_cts, hy_gt, hy_lt', hy_lm, hy_jn, hy_c, hy_in, hy_le, hy_add1, hy_k0, hy_k1, hy_k2, hy_k3, hy_k4, hy_k5, hy_k6, hy_k7, hy_k8, hy_k9, hy_k10, hy_k11, hy_k12, hy_k13, r_of0, r_of1, r_of2, r_of3, r_of4, r_of5, r_of6, r_of7, r_ofT0, r_ofT1]
  · intro f i hi
    have hi' : ¬ (lz q) ≤ i := by omega
    simp (disch := omega) only [f_X11_freeLocker_L2, hq, z3, hi', h1, if_false, hy_cts, hy_gt, hy_lt', hy_lm, hy_jn, hy_c, hy_in, hy_le, hy_add1, hy_k0, hy_k1, hy_k2, hy_k3, hy_k4, hy_k5, hy_k6, hy_k7, hy_k8, hy_k9, hy_k10, hy_k11, hy_k12, hy_k13, r_of0, r_of1, r_of2, r_of3, r_of4, r_of5, r_of6, r_of7, r_ofT0, r_ofT1]
    by_cases e : kpr q i = -1 <;> simp [e]
theorem r_frP {M : hz_M} {q : Nat → Int32} (hq : M 179 = q) (hZ : hy_Z q) :
    f_X11_freePeg M = some (frP q, M) := by
  have h1 := fun k => r_tw hq hZ k
  obtain ⟨⟨z1, z2⟩, ⟨z3, z4, z5⟩, ⟨z6, z7, z8⟩, ⟨z9, z10⟩, ⟨z11, z12, z13⟩, ⟨z14, z15, z16⟩⟩ := hZ
  unfold f_X11_freePeg
  refine hy_first (fun f i => f_X11_freePeg_L2 f (nI i) M) (pz q) (fun k => decide (tw q k = -1)) (fun r => some (r, M)) ?_ ?_ (pz q) 0 hz_FU (by omega) (hy_FU (by omega))
  · intro f
    simp (disch := omega) [f_X11_freePeg_L2, hq, z6, hy_cts, hy_gt, hy_lt', hy_lm, hy_jn, hy_c, hy_in, hy_le, hy_add1, hy_k0, hy_k1, hy_k2, hy_k3, hy_k4, hy_k5, hy_k6, hy_k7, hy_k8, hy_k9, hy_k10, hy_k11, hy_k12, hy_k13, r_of0, r_of1, r_of2, r_of3, r_of4, r_of5, r_of6, r_of7, r_ofT0, r_ofT1]
  · intro f i hi
    have hi' : ¬ (pz q) ≤ i := by omega
    simp (disch := omega) only [f_X11_freePeg_L2, hq, z6, hi', h1, if_false, hy_cts, hy_gt, hy_lt', hy_lm, hy_jn, hy_c, hy_in, hy_le, hy_add1, hy_k0, hy_k1, hy_k2, hy_k3, hy_k4, hy_k5, hy_k6, hy_k7, hy_k8, hy_k9, hy_k10, hy_k11, hy_k12, hy_k13, r_of0, r_of1, r_of2, r_of3, r_of4, r_of5, r_of6, r_of7, r_ofT0, r_ofT1]
    by_cases e : tw q i = -1 <;> simp [e]
theorem r_isB {M : hz_M} {q : Nat → Int32} (hq : M 179 = q) (hZ : hy_Z q) {t : Nat} (ht : t < tz q) :
    f_X11_isInBasket (nI t) M = some (if isB q t = true then 1 else 0, M) := by
  have h1 := r_hld hq hZ t
  obtain ⟨⟨z1, z2⟩, ⟨z3, z4, z5⟩, ⟨z6, z7, z8⟩, ⟨z9, z10⟩, ⟨z11, z12, z13⟩, ⟨z14, z15, z16⟩⟩ := hZ
  unfold f_X11_isInBasket isB
  rw [r_ofT1 M (by omega), hy_cts, hq]
  by_cases e : q (153 + 2 * t + 1) = -1
  · rw [if_pos e, h1, hy_cts]
    by_cases e2 : hld q t = -1 <;> simp [e, e2]
  · rw [if_neg e]; simp [e]
theorem r_bsk {M : hz_M} {q : Nat → Int32} (hq : M 179 = q) (hZ : hy_Z q)  :
    f_X11_basket  M = some (bsk q, M) := by
  have hZ0 := hZ
  obtain ⟨⟨z1, z2⟩, ⟨z3, z4, z5⟩, ⟨z6, z7, z8⟩, ⟨z9, z10⟩, ⟨z11, z12, z13⟩, ⟨z14, z15, z16⟩⟩ := hZ
  unfold f_X11_basket 
  refine hy_for0 (fun f c i => f_X11_basket_L4 f c (nI i) M) (tz q) (fun t c => if isB q t = true then c + 1 else c) (fun r => some (r, M)) ?_ ?_ hz_FU _ (hy_FU (by omega))
  · intro f c
    simp (disch := omega) [f_X11_basket_L4, hq, z9, hy_cts, hy_gt, hy_lt', hy_lm, hy_jn, hy_c, hy_in, hy_le, hy_add1, hy_k0, hy_k1, hy_k2, hy_k3, hy_k4, hy_k5, hy_k6, hy_k7, hy_k8, hy_k9, hy_k10, hy_k11, hy_k12, hy_k13, r_of0, r_of1, r_of2, r_of3, r_of4, r_of5, r_of6, r_of7, r_ofT0, r_ofT1]
  · intro f c i hi
    have hi' : ¬ (tz q) ≤ i := by omega
    simp (disch := omega) only [f_X11_basket_L4, hq, z9, hi', if_false, hy_cts, hy_gt, hy_lt', hy_lm, hy_jn, hy_c, hy_in, hy_le, hy_add1, hy_k0, hy_k1, hy_k2, hy_k3, hy_k4, hy_k5, hy_k6, hy_k7, hy_k8, hy_k9, hy_k10, hy_k11, hy_k12, hy_k13, r_of0, r_of1, r_of2, r_of3, r_of4, r_of5, r_of6, r_of7, r_ofT0, r_ofT1 , r_isB hq hZ0 hi]
    by_cases e : isB q i = true <;> simp [e]
theorem r_frLs {M : hz_M} {q : Nat → Int32} (hq : M 179 = q) (hZ : hy_Z q)  :
    f_X11_freeLockers  M = some (frLs q, M) := by
  have hZ0 := hZ
  obtain ⟨⟨z1, z2⟩, ⟨z3, z4, z5⟩, ⟨z6, z7, z8⟩, ⟨z9, z10⟩, ⟨z11, z12, z13⟩, ⟨z14, z15, z16⟩⟩ := hZ
  unfold f_X11_freeLockers 
  refine hy_for0 (fun f c i => f_X11_freeLockers_L4 f c (nI i) M) (lz q) (fun k c => if kpr q k = -1 then c + 1 else c) (fun r => some (r, M)) ?_ ?_ hz_FU _ (hy_FU (by omega))
  · intro f c
    simp (disch := omega) [f_X11_freeLockers_L4, hq, z3, hy_cts, hy_gt, hy_lt', hy_lm, hy_jn, hy_c, hy_in, hy_le, hy_add1, hy_k0, hy_k1, hy_k2, hy_k3, hy_k4, hy_k5, hy_k6, hy_k7, hy_k8, hy_k9, hy_k10, hy_k11, hy_k12, hy_k13, r_of0, r_of1, r_of2, r_of3, r_of4, r_of5, r_of6, r_of7, r_ofT0, r_ofT1]
  · intro f c i hi
    have hi' : ¬ (lz q) ≤ i := by omega
    simp (disch := omega) only [f_X11_freeLockers_L4, hq, z3, hi', if_false, hy_cts, hy_gt, hy_lt', hy_lm, hy_jn, hy_c, hy_in, hy_le, hy_add1, hy_k0, hy_k1, hy_k2, hy_k3, hy_k4, hy_k5, hy_k6, hy_k7, hy_k8, hy_k9, hy_k10, hy_k11, hy_k12, hy_k13, r_of0, r_of1, r_of2, r_of3, r_of4, r_of5, r_of6, r_of7, r_ofT0, r_ofT1 , r_kpr hq hZ0]
    split <;> simp_all
theorem r_sfr {M : hz_M} {q : Nat → Int32} (hq : M 179 = q) (hZ : hy_Z q) (a : Int32) :
    f_X11_suffering a M = some (sfr q a, M) := by
  have hZ0 := hZ
  obtain ⟨⟨z1, z2⟩, ⟨z3, z4, z5⟩, ⟨z6, z7, z8⟩, ⟨z9, z10⟩, ⟨z11, z12, z13⟩, ⟨z14, z15, z16⟩⟩ := hZ
  unfold f_X11_suffering 
  refine hy_for0 (fun f c i => f_X11_suffering_L4 f a c (nI i) M) (gz q) (fun g c => if q (25 + 8 * g + 2) = a then (if q 9 + 6 * a ≤ 60 + q (25 + 8 * g + 1) / 4 then c else c + 1) else c) (fun r => some (r, M)) ?_ ?_ hz_FU _ (hy_FU (by omega))
  · intro f c
    simp (disch := omega) [f_X11_suffering_L4, hq, z1, hy_cts, hy_gt, hy_lt', hy_lm, hy_jn, hy_c, hy_in, hy_le, hy_add1, hy_k0, hy_k1, hy_k2, hy_k3, hy_k4, hy_k5, hy_k6, hy_k7, hy_k8, hy_k9, hy_k10, hy_k11, hy_k12, hy_k13, r_of0, r_of1, r_of2, r_of3, r_of4, r_of5, r_of6, r_of7, r_ofT0, r_ofT1]
  · intro f c i hi
    have hi' : ¬ (gz q) ≤ i := by omega
    simp (disch := omega) only [f_X11_suffering_L4, hq, z1, hi', if_false, hy_cts, hy_gt, hy_lt', hy_lm, hy_jn, hy_c, hy_in, hy_le, hy_add1, hy_k0, hy_k1, hy_k2, hy_k3, hy_k4, hy_k5, hy_k6, hy_k7, hy_k8, hy_k9, hy_k10, hy_k11, hy_k12, hy_k13, r_of0, r_of1, r_of2, r_of3, r_of4, r_of5, r_of6, r_of7, r_ofT0, r_ofT1 , f_X11_warmthOf, f_X11_bears]
    repeat (first | rfl | split) <;> simp_all
