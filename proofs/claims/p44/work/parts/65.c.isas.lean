theorem hy_up {F : Nat → Nat → hz_O} {n : Nat} {out : hz_O} (hstop : ∀ f, F (f + 1) n = out) (hstep : ∀ f i, i < n → F (f + 1) i = F f (i + 1)) : ∀ (k i f : Nat), i + k = n → k < f → F f i = out
  | 0, i, f, h, hf => by
    obtain ⟨f, rfl⟩ : ∃ e, f = e + 1 := ⟨f - 1, by omega⟩
    rw [show i = n by omega]
    exact hstop f
  | k + 1, i, f, h, hf => by
    obtain ⟨f, rfl⟩ : ∃ e, f = e + 1 := ⟨f - 1, by omega⟩
    rw [hstep f i (by omega)]
    exact hy_up hstop hstep k (i + 1) f (by omega) (by omega)
theorem A_8 {b : Nat} {M : hz_M} {q : Nat → Int32} (hC : hy_C M q) (hQ : hy_Q q) (hR : RO b M q) (hN : hy_N q) {x y z : Int32} (kk : Int32 → Int32 → Int32 → hz_M → hz_O) : f_L_isAs_L8 b kk hz_FU x y z (0 : Int32) M = kk x y z M := by
  have hZ := hC.1
  have hZ1 := hZ
  have hZ0 := hZ
  have hR := hR
  obtain ⟨⟨b0, b1, b2, b3, b4, b5, b6, b7, b8, b9, b10, b11⟩, rop, rpg, rlk, rwt, rac, rag, rat, rhs, rst, rwn, rsd⟩ := hR
  obtain ⟨⟨z1, z2⟩, ⟨z3, z4, z5⟩, ⟨z6, z7, z8⟩, ⟨z9, z10⟩, ⟨z11, z12, z13⟩, ⟨z14, z15, z16⟩⟩ := hZ
  rw [z1] at b10; rw [z3] at b0; rw [z6] at b1; rw [z9] at b2; rw [z11] at b3; rw [z14] at b4
  rw [show (0 : Int32) = nI 0 from rfl]
  refine hy_up (F := fun f i => f_L_isAs_L8 b kk f x y z (nI i) M) (n := gz q) (fun f => ?_) (fun f i hi => ?_) (gz q) 0 hz_FU (by omega) (hy_FU (by omega))
  · simp (disch := omega) only [f_L_isAs_L8, b10, hy_le, Nat.le_refl, if_true, show (9 : Int32) = nI 9 from rfl]
  · have hi' : ¬ gz q ≤ i := by omega
    simp (disch := omega) only [f_L_isAs_L8, b10, hi', if_false, if_true, hy_cts, hy_gt, hy_lt', hy_lm, hy_jn, hy_c, hy_in, hy_le, hy_add1, hy_k0, hy_k1, hy_k2, hy_k3, hy_k4, hy_k5, hy_k6, hy_k7, hy_k8, hy_k9, hy_k10, hy_k11, hy_k12, hy_k13, L_isGuest hC hQ hR hN hi, hy_f10, show (9 : Int32) = nI 9 from rfl]
theorem A_190 {b : Nat} {M : hz_M} {q : Nat → Int32} (hC : hy_C M q) (hQ : hy_Q q) (hR : RO b M q) {x y z : Int32} (kk : Int32 → Int32 → Int32 → hz_M → hz_O) : f_L_isAs_L190 b kk hz_FU x y z (0 : Int32) M = kk x y z M := by
  have hZ := hC.1
  have hZ1 := hZ
  have hZ0 := hZ
  obtain ⟨⟨b0, b1, b2, b3, b4, b5, b6, b7, b8, b9, b10, b11⟩, rop, rpg, rlk, rwt, rac, rag, rat, rhs, rst, rwn, rsd⟩ := hR
  obtain ⟨⟨z1, z2⟩, ⟨z3, z4, z5⟩, ⟨z6, z7, z8⟩, ⟨z9, z10⟩, ⟨z11, z12, z13⟩, ⟨z14, z15, z16⟩⟩ := hZ
  rw [z1] at b10; rw [z3] at b0; rw [z6] at b1; rw [z9] at b2; rw [z11] at b3; rw [z14] at b4
  rw [show (0 : Int32) = nI 0 from rfl]
  refine hy_up (F := fun f i => f_L_isAs_L190 b kk f x y z (nI i) M) (n := pz q) (fun f => ?_) (fun f i hi => ?_) (pz q) 0 hz_FU (by omega) (hy_FU (by omega))
  · simp (disch := omega) only [f_L_isAs_L190, b1, hy_le, Nat.le_refl, if_true, show (9 : Int32) = nI 9 from rfl]
  · have hi' : ¬ pz q ≤ i := by omega
    simp (disch := omega) only [f_L_isAs_L190, b1, hi', if_false, if_true, hy_cts, hy_gt, hy_lt', hy_lm, hy_jn, hy_c, hy_in, hy_le, hy_add1, hy_k0, hy_k1, hy_k2, hy_k3, hy_k4, hy_k5, hy_k6, hy_k7, hy_k8, hy_k9, hy_k10, hy_k11, hy_k12, hy_k13, cq_peg hC hi, rpg i hi, show (9 : Int32) = nI 9 from rfl]
theorem A_226 {b : Nat} {M : hz_M} {q : Nat → Int32} (hC : hy_C M q) (hQ : hy_Q q) (hR : RO b M q) {x y z : Int32} (kk : Int32 → Int32 → Int32 → hz_M → hz_O) : f_L_isAs_L226 b kk hz_FU x y z (0 : Int32) M = kk x y z M := by
  have hZ := hC.1
  have hZ1 := hZ
  have hZ0 := hZ
  obtain ⟨⟨b0, b1, b2, b3, b4, b5, b6, b7, b8, b9, b10, b11⟩, rop, rpg, rlk, rwt, rac, rag, rat, rhs, rst, rwn, rsd⟩ := hR
  obtain ⟨⟨z1, z2⟩, ⟨z3, z4, z5⟩, ⟨z6, z7, z8⟩, ⟨z9, z10⟩, ⟨z11, z12, z13⟩, ⟨z14, z15, z16⟩⟩ := hZ
  rw [z1] at b10; rw [z3] at b0; rw [z6] at b1; rw [z9] at b2; rw [z11] at b3; rw [z14] at b4
  rw [show (0 : Int32) = nI 0 from rfl]
  refine hy_up (F := fun f i => f_L_isAs_L226 b kk f x y z (nI i) M) (n := lz q) (fun f => ?_) (fun f i hi => ?_) (lz q) 0 hz_FU (by omega) (hy_FU (by omega))
  · simp (disch := omega) only [f_L_isAs_L226, b0, hy_le, Nat.le_refl, if_true, show (9 : Int32) = nI 9 from rfl]
  · have hi' : ¬ lz q ≤ i := by omega
    simp (disch := omega) only [f_L_isAs_L226, b0, hi', if_false, if_true, hy_cts, hy_gt, hy_lt', hy_lm, hy_jn, hy_c, hy_in, hy_le, hy_add1, hy_k0, hy_k1, hy_k2, hy_k3, hy_k4, hy_k5, hy_k6, hy_k7, hy_k8, hy_k9, hy_k10, hy_k11, hy_k12, hy_k13, cq_locker hC hi, rlk i hi, show (9 : Int32) = nI 9 from rfl]
theorem A_262 {b : Nat} {M : hz_M} {q : Nat → Int32} (hC : hy_C M q) (hQ : hy_Q q) (hR : RO b M q) {x y z : Int32} (kk : Int32 → Int32 → Int32 → hz_M → hz_O) : f_L_isAs_L262 b kk hz_FU x y z (0 : Int32) M = kk x y z M := by
  have hZ := hC.1
  have hZ1 := hZ
  have hZ0 := hZ
  obtain ⟨⟨b0, b1, b2, b3, b4, b5, b6, b7, b8, b9, b10, b11⟩, rop, rpg, rlk, rwt, rac, rag, rat, rhs, rst, rwn, rsd⟩ := hR
  obtain ⟨⟨z1, z2⟩, ⟨z3, z4, z5⟩, ⟨z6, z7, z8⟩, ⟨z9, z10⟩, ⟨z11, z12, z13⟩, ⟨z14, z15, z16⟩⟩ := hZ
  rw [z1] at b10; rw [z3] at b0; rw [z6] at b1; rw [z9] at b2; rw [z11] at b3; rw [z14] at b4
  rw [show (0 : Int32) = nI 0 from rfl]
  refine hy_up (F := fun f i => f_L_isAs_L262 b kk f x y z (nI i) M) (n := vz q) (fun f => ?_) (fun f i hi => ?_) (vz q) 0 hz_FU (by omega) (hy_FU (by omega))
  · simp (disch := omega) only [f_L_isAs_L262, b3, hy_le, Nat.le_refl, if_true, show (9 : Int32) = nI 9 from rfl]
  · have hi' : ¬ vz q ≤ i := by omega
    simp (disch := omega) only [f_L_isAs_L262, b3, hi', if_false, if_true, hy_cts, hy_gt, hy_lt', hy_lm, hy_jn, hy_c, hy_in, hy_le, hy_add1, hy_k0, hy_k1, hy_k2, hy_k3, hy_k4, hy_k5, hy_k6, hy_k7, hy_k8, hy_k9, hy_k10, hy_k11, hy_k12, hy_k13, cq_opening hC hi, rop i (by omega), show (9 : Int32) = nI 9 from rfl]
theorem A_298 {b : Nat} {M : hz_M} {q : Nat → Int32} (hC : hy_C M q) (hQ : hy_Q q) (hR : RO b M q) {x y z : Int32} (kk : Int32 → Int32 → Int32 → hz_M → hz_O) : f_L_isAs_L298 b kk hz_FU x y z (0 : Int32) M = kk x y z M := by
  have hZ := hC.1
  have hZ1 := hZ
  have hZ0 := hZ
  obtain ⟨⟨b0, b1, b2, b3, b4, b5, b6, b7, b8, b9, b10, b11⟩, rop, rpg, rlk, rwt, rac, rag, rat, rhs, rst, rwn, rsd⟩ := hR
  obtain ⟨⟨z1, z2⟩, ⟨z3, z4, z5⟩, ⟨z6, z7, z8⟩, ⟨z9, z10⟩, ⟨z11, z12, z13⟩, ⟨z14, z15, z16⟩⟩ := hZ
  rw [z1] at b10; rw [z3] at b0; rw [z6] at b1; rw [z9] at b2; rw [z11] at b3; rw [z14] at b4
  rw [show (0 : Int32) = nI 0 from rfl]
  refine hy_up (F := fun f i => f_L_isAs_L298 b kk f x y z (nI i) M) (n := 9) (fun f => ?_) (fun f i hi => ?_) (9) 0 hz_FU (by omega) (hy_FU (by omega))
  · simp (disch := omega) only [f_L_isAs_L298, hy_le, Nat.le_refl, if_true, show (9 : Int32) = nI 9 from rfl]
  · have hi' : ¬ 9 ≤ i := by omega
    simp (disch := omega) only [f_L_isAs_L298, hi', if_false, if_true, hy_cts, hy_gt, hy_lt', hy_lm, hy_jn, hy_c, hy_in, hy_le, hy_add1, hy_k0, hy_k1, hy_k2, hy_k3, hy_k4, hy_k5, hy_k6, hy_k7, hy_k8, hy_k9, hy_k10, hy_k11, hy_k12, hy_k13, cq_account hC hi, rac i hi, show (9 : Int32) = nI 9 from rfl]
theorem A_38 {b : Nat} {M : hz_M} {q : Nat → Int32} (hC : hy_C M q) (hQ : hy_Q q) (hR : RO b M q) {x y z : Int32} (kk : Int32 → Int32 → Int32 → hz_M → hz_O) : f_L_isAs_L38 b kk hz_FU x y z (1 : Int32) M = kk x y z M := by
  have hZ := hC.1
  have b4 := hR.1.2.2.2.2.1
  have z14 := hZ.2.2.2.2.2
  rw [z14.1] at b4
  rw [show (1 : Int32) = nI 1 from rfl]
  refine hy_up (F := fun f i => f_L_isAs_L38 b kk f x y z (nI (1 + i)) M) (n := sz q) (fun f => ?_) (fun f i hi => ?_) (sz q) 0 hz_FU (by omega) (hy_FU (by omega))
  · simp (disch := omega) only [f_L_isAs_L38, b4, hy_lt, show sz q < 1 + sz q from by omega, if_true]
  · have hi' : ¬ sz q < 1 + i := by omega
    rw [show 1 + (i + 1) = 1 + i + 1 by omega]
    simp (disch := omega) only [f_L_isAs_L38, b4, hi', if_false, hy_cts, hy_gt, hy_lt', hy_lm, hy_jn, hy_c, hy_in, hy_le, hy_add1, hy_k0, hy_k1, hy_k2, hy_k3, hy_k4, hy_k5, hy_k6, hy_k7, hy_k8, hy_k9, hy_k10, hy_k11, hy_k12, hy_k13, hy_lt, L_isStep hC hQ hR (k := 1 + i) (by omega) (by omega), hy_f10]
theorem A_68 {b : Nat} {M : hz_M} {q : Nat → Int32} (hC : hy_C M q) (hQ : hy_Q q) (hR : RO b M q) {x : Int32} (kk : Int32 → Int32 → Int32 → hz_M → hz_O) : ∀ (k i f : Nat) (y z : Int32), i + k = tz q → k < f → f_L_isAs_L68 b kk f x y z (nI i) M = kk x (hy_fold (fun t c => if isB q t = true then c + 1 else c) k i y) (hy_fold (fun t c => c + q (153 + 2 * t)) k i z) M
  | 0, i, f, y, z, h, hf => by
    have hZ := hC.1
    have b2 := hR.1.2.2.1
    have z9 := hZ.2.2.2.1
    have z6 := hZ.2.2.1
    rw [z9.1] at b2
    obtain ⟨f, rfl⟩ : ∃ e, f = e + 1 := ⟨f - 1, by omega⟩
    rw [show i = tz q by omega]
    simp (disch := omega) only [f_L_isAs_L68, b2, hy_le, Nat.le_refl, if_true, hy_fold]
  | k + 1, i, f, y, z, h, hf => by
    have ih := A_68 hC hQ hR (x := x) kk k (i + 1)
    have hZ := hC.1
    have hib := O_isBasket hR hZ hQ (t := i) (by omega)
    have hpg := O_pegOf hR hZ hQ (g := i) (by omega)
    have hhl := O_holder hR hZ i
    have hZ0 := hZ
    obtain ⟨⟨b0, b1, b2, b3, b4, b5, b6, b7, b8, b9, b10, b11⟩, rop, rpg, rlk, rwt, rac, rag, rat, rhs, rst, rwn, rsd⟩ := hR
    obtain ⟨⟨z1, z2⟩, ⟨z3, z4, z5⟩, ⟨z6, z7, z8⟩, ⟨z9, z10⟩, ⟨z11, z12, z13⟩, ⟨z14, z15, z16⟩⟩ := hZ
    rw [z1] at b10; rw [z3] at b0; rw [z6] at b1; rw [z9] at b2; rw [z11] at b3; rw [z14] at b4
    obtain ⟨f, rfl⟩ : ∃ e, f = e + 1 := ⟨f - 1, by omega⟩
    have ihf := fun y z => ih f y z (by omega) (by omega)
    have hi' : ¬ tz q ≤ i := by omega
    cases hb : isB q i
    · rw [hb] at hib
      have e3 := cq_towel3 hC (t := i) (by omega)
      rw [hb] at e3
      simp (disch := omega) only [f_L_isAs_L68, b2, hi', if_false, if_true, hy_cts, hy_gt, hy_lt', hy_lm, hy_jn, hy_c, hy_in, hy_le, hy_add1, hy_k0, hy_k1, hy_k2, hy_k3, hy_k4, hy_k5, hy_k6, hy_k7, hy_k8, hy_k9, hy_k10, hy_k11, hy_k12, hy_k13, hib, hpg, hhl, rwt i (by omega), cq_towel0 hC (t := i) (by omega), cq_towel1 hC (t := i) (by omega), cq_towel2 hC (t := i) (by omega), e3, Bool.false_eq_true, ihf, hy_fold, hb, Int32.add_zero]
    · rw [hb] at hib
      have e3 := cq_towel3 hC (t := i) (by omega)
      rw [hb] at e3
      simp (disch := omega) only [f_L_isAs_L68, b2, hi', if_false, if_true, hy_cts, hy_gt, hy_lt', hy_lm, hy_jn, hy_c, hy_in, hy_le, hy_add1, hy_k0, hy_k1, hy_k2, hy_k3, hy_k4, hy_k5, hy_k6, hy_k7, hy_k8, hy_k9, hy_k10, hy_k11, hy_k12, hy_k13, hib, hpg, hhl, rwt i (by omega), cq_towel0 hC (t := i) (by omega), cq_towel1 hC (t := i) (by omega), cq_towel2 hC (t := i) (by omega), e3, hy_f10, ihf, hy_fold, hb]
theorem L_isAs {b : Nat} {M : hz_M} {q : Nat → Int32} (hC : hy_C M q) (hQ : hy_Q q) (hR : RO b M q) (hT : hy_T q) (hN : hy_N q) (hE : hy_E q) {rf : Int32} (hrf : M 26 3 = rf) : f_L_isAs b rf M = some (1, M) := by
  have hZ := hC.1
  have hdr := O_driest hR hZ hQ
  have hin := O_inside hR hZ
  have hon := O_on hR hZ 0
  have hsl := O_silent hR hZ hT hQ
  have hfr := inUse_hIns hZ hQ
  obtain ⟨vh, h1, h2, h3, h4⟩ := cq_heat hC hQ
  have hmw := cq_mean hC hQ
  have hgp := c_gap hC
  rw [gap0 hZ hQ hE] at hgp
  have hR0 := hR
  obtain ⟨⟨b0, b1, b2, b3, b4, b5, b6, b7, b8, b9, b10, b11⟩, -⟩ := hR
  have hrr := cq_refused M
  rw [hrf] at hrr
  unfold f_L_isAs
  refine hy_jnI (fun k277 h277 => ?_)
  rw [A_8 hC hQ hR0 hN, h277]
  dsimp only
  refine hy_jnI (fun k265 h265 => ?_)
  rw [A_38 hC hQ hR0, h265]
  dsimp only
  refine hy_jnI (fun k208 h208 => ?_)
  have e68 := A_68 hC hQ hR0 (x := rf) k208 (tz q) 0 hz_FU 0 0 (by omega) (hy_FU (by have := hZ.2.2.1; have := hZ.2.2.2.1; omega))
  refine Eq.trans e68 ?_
  rw [h208]
  dsimp only
  refine hy_jnI (fun k195 h195 => ?_)
  rw [A_190 hC hQ hR0, h195]
  dsimp only
  refine hy_jnI (fun k182 h182 => ?_)
  rw [A_226 hC hQ hR0, h182]
  dsimp only
  refine hy_jnI (fun k169 h169 => ?_)
  rw [A_262 hC hQ hR0, h169]
  dsimp only
  refine hy_jnI (fun k156 h156 => ?_)
  rw [A_298 hC hQ hR0, h156]
  dsimp only
  rw [cq_size0 hC, hy_cts]
  refine hy_jnI (fun k68 h68 => ?_)
  refine hy_jnI (fun k72 h72 => ?_)
  rw [if_pos b10.symm, cq_size1 hC, hy_cts, if_pos b0.symm, cq_size2 hC, hy_cts, if_pos b1.symm, cq_size3 hC, hy_cts, if_pos b2.symm, cq_size4 hC, hy_cts, if_pos b3.symm, cq_size5 hC, hy_cts, if_pos b4.symm, cq_size6 hC, hy_cts, if_pos b5.symm, cq_size7 hC, hy_cts, if_pos b6.symm, cq_size8 hC, hy_cts, if_pos b7.symm, cq_size9 hC, hy_cts, if_pos b8.symm, cq_size10 hC, hy_cts, if_pos b9.symm]
  rw [cq_size11 hC, hy_cts, hin, hy_cts, if_pos rfl, cq_size12 hC, hy_cts, hin, hy_cts, hon, hy_cts, if_pos rfl, cq_size13 hC, hy_cts, if_pos (show bsk q = hy_fold (fun t c => if isB q t = true then c + 1 else c) (tz q) 0 0 from rfl), cq_size14 hC, hy_cts, hin, hy_cts, if_pos (by rw [b0, hfr]), cq_size15 hC, hy_cts, hsl, hy_cts]
  refine hy_jnI (fun k154 h154 => ?_)
  have e154 : ∀ r : Int32, (r = 0 ∨ r = 1) → (if r = 0 then k154 rf (hy_fold (fun t c => c + q (153 + 2 * t)) (tz q) 0 0) (0 : Int32) r M else k154 rf (hy_fold (fun t c => c + q (153 + 2 * t)) (tz q) 0 0) (1 : Int32) r M) = k68 rf (hy_fold (fun t c => c + q (153 + 2 * t)) (tz q) 0 0) (1 : Int32) M := by
    intro r hr
    rw [h154]
    rcases hr with rfl | rfl <;> simp
  refine Eq.trans (e154 _ ?_) ?_
  · split
    · exact Or.inl rfl
    · split
      · exact Or.inl rfl
      · exact Or.inr rfl
  rw [h68]
  dsimp only
  rw [if_neg (by decide), cq_driest hC, hy_cts, hdr, hy_cts, if_pos rfl, hrr, hy_cts, if_pos rfl, hgp, hy_cts, if_pos rfl]
  have heat : (hz_ct (f_X10_heatBits M) fun r59 M60 => hz_gd (hz_n32 (FP.fdiv (FP.i2f (M60 b 9)) (1120403456 : UInt32))) <| hz_gd (Op.cmpValue (FP.fcmp (FP.fdiv (FP.i2f (M60 b 9)) (1120403456 : UInt32)) (FP.fdiv (FP.i2f (M60 b 9)) (1120403456 : UInt32))) .l == 0) <| if r59 = (UInt32.toInt32 (FP.fdiv (FP.i2f (M60 b 9)) (1120403456 : UInt32))) then (some ((1 : Int32), M60) : hz_O) else some ((0 : Int32), M60)) = some (1, M) := by
    rw [h1, hy_cts, b9, h2, hy_gt, h3, hy_gt, if_pos h4]
  rcases hmw with ⟨t0, m1, m2⟩ | ⟨t0, r, m1, m2, m3, m4⟩
  · rw [m1, hy_cts]
    refine hy_jnI (fun k65 h65 => ?_)
    have z9 := hZ.2.2.2.1.1
    rw [t0] at z9
    rw [if_pos (by rw [b2, z9]; rfl), h65]
    dsimp only
    rw [if_pos mw_cmp0]
    exact heat
  · rw [m1, hy_cts]
    refine hy_jnI (fun k65 h65 => ?_)
    have z9 := hZ.2.2.2.1
    have z6 := hZ.2.2.1
    rw [if_neg (by rw [b2, z9.1, hy_0, hy_eq (by omega) (by omega)]; exact t0), h65]
    dsimp only
    rw [b2]
    have m2' : hz_n64 (FP.ddiv (FP.i2d (hy_fold (fun t c => c + q (153 + 2 * t)) (tz q) 0 0)) (FP.i2d (q 2))) = true := m2
    have m3' : FP.ddiv (FP.i2d (hy_fold (fun t c => c + q (153 + 2 * t)) (tz q) 0 0)) (FP.i2d (q 2)) = hz_dd r := m3
    rw [m2', hy_gt, m3', if_pos m4]
    exact heat
