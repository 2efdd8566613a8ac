
/-! one order of a script -/
def nmc (M : hz_M) (v : Int32) : Int32 := hy_fnd (fun g => decide (pk (fun i => M 3 (6 * g + i)) (Int32.toNatClampNeg (M 4 g)) = v)) (Int32.toNatClampNeg (M 1 3)) 0
theorem nmc_eq {M : hz_M} {q : Nat → Int32} (H : hy_Ho M q) (v : Int32) : hy_fnd (fun g => decide (q (25 + 8 * g) = v)) (gz q) 0 = nmc M v := by
  have e : Int32.toNatClampNeg (M 1 3) = gz q := by rw [H.1]; rfl
  unfold nmc
  rw [e]
  refine hy_fnd_congr _ _ (fun j _ hj => ?_)
  obtain ⟨n, n1, n6, n4, nl, nv⟩ := H.2.2.2.2.2.2.2 j (by omega)
  rw [n4, hy_c (by omega), ← nv]
theorem nmc_al {M : hz_M} {q : Nat → Int32} (H : hy_Ho M q) (v : Int32) : nmc M v = -1 ∨ ∃ g, g < gz q ∧ nmc M v = nI g := by
  rw [← nmc_eq H]
  rcases hy_fnd_all (p := fun g => decide (q (25 + 8 * g) = v)) (gz q) 0 with ⟨h, _⟩ | ⟨t, _, h2, h3, _⟩
  · exact Or.inl h
  · exact Or.inr ⟨t, by omega, h3⟩
def RS (q : Nat → Int32) (d : Nat) (Mc Mr : hz_M) : Prop := hy_W Mc q ∧ hy_T q ∧ Mr 179 = q ∧ d ≤ 40 ∧ Mc 27 7 = nI d ∧ Mr 178 23 = nI d ∧ Mc 26 3 = Mr 178 7 ∧ Mr 178 24 = 1
/-- order k told to both: kind c (not again) -/
def OR (Mc Mr : hz_M) (k c : Nat) : Prop := c ≤ 9 ∧ Mc 28 k = nI (c + 1) ∧ Mr 187 k = nI c ∧
  (c ≠ 7 → c ≠ 8 → c ≠ 9 → Mc 29 k = nmc Mc (Mr 188 k)) ∧ (c = 1 → ∃ n, 1 ≤ n ∧ n ≤ 6 ∧ Mc 30 k = nI n ∧ Mr 189 k = nI n) ∧ (c = 3 ∨ c = 4 → ∃ n, n ≤ 15 ∧ Mc 30 k = nI n ∧ Mr 189 k = nI n) ∧
  (c = 8 → ∃ v n, v ≤ 3 ∧ n ≤ 9 ∧ Mc 29 k = nI v ∧ Mr 189 k = nI v ∧ Mc 30 k = nI n ∧ Mr 190 k = nI n) ∧ (c = 9 → ∃ n, n ≤ 60 ∧ Mc 30 k = nI n ∧ Mr 189 k = nI n)
def FRc (Mc Mc' : hz_M) : Prop := (∀ a, (a < 11 ∨ 24 < a) → a ≠ 26 → a ≠ 27 → Mc' a = Mc a) ∧ ∀ b, b ≠ 7 → b ≠ 8 → Mc' 27 b = Mc 27 b
def FRr (Mr Mr' : hz_M) : Prop := (∀ a, a ≠ 178 → a ≠ 179 → a ≠ 185 → Mr' a = Mr a) ∧ ∀ b, b ≠ 7 → Mr' 178 b = Mr 178 b
/-- what one order leaves -/
def R1 (q : Nat → Int32) (d : Nat) (Mc Mr : hz_M) (oc orf : hz_O) : Prop := ∃ (b : Int32) (q' : Nat → Int32) (Mc' Mr' : hz_M), oc = some (0, Mc') ∧ orf = some (b, Mr') ∧ FRc Mc Mc' ∧ FRr Mr Mr' ∧ hy_W Mc' q' ∧ hy_T q' ∧ Mr' 179 = q' ∧ Mc' 26 3 = Mr' 178 7 ∧
  ((b = 1 ∧ Mc' 27 7 = nI (d + 1) ∧ Mc' 27 8 = (if d + 1 < 40 then 0 else 1)) ∨ (b = 0 ∧ Mc' 27 7 = nI d ∧ Mc' 27 8 = 1))
theorem R1_no {q : Nat → Int32} {d : Nat} {Mc Mr : hz_M} {oc orf : hz_O} (R : RS q d Mc Mr) (h1 : oc = some (0, hz_set Mc 27 8 1)) (h2 : orf = some (0, Mr)) : R1 q d Mc Mr oc orf := by
  obtain ⟨r1, r2, r3, r4, r5, r6, r7, r8⟩ := R
  refine ⟨0, q, _, _, h1, h2, ⟨fun a h _ h3 => hy_seto _ _ _ h3, fun b _ h => hy_setn _ _ _ h⟩, ⟨fun _ _ _ _ => rfl, fun _ _ => rfl⟩, W_fr (fun a ha => hy_seto _ _ _ (by omega)) r1 r2, r2, r3, by rw [hy_seto _ _ _ (by omega)]; exact r7, Or.inr ⟨rfl, by rw [hy_setn _ _ _ (by omega)]; exact r5, hy_setk _ _ _ _⟩⟩
def roF (k c : Nat) : Int32 → hz_M → hz_O := fun r15 M16 => if r15 = 0 then hz_ct (f_X1_perform (nI (c + 1)) (M16 29 k) (M16 30 k) M16) (fun r21 M22 => some (0, hz_set (hz_set M22 27 7 (M22 27 7 + 1)) 27 8 (if M22 27 7 + 1 < 40 then 0 else 1))) else some (0, hz_set (hz_set M16 26 3 (M16 26 3 + 1)) 27 8 1)
theorem R1_op {q : Nat → Int32} {d : Nat} {Mc Mr : hz_M} {k cc : Nat} {c g n : Int32} {oc orf : hz_O} {Rf : hz_M → hz_O} (R : RS q d Mc Mr) (hd : d < 40) (op : opair (f_X1_refusal c g n) (f_X1_perform c g n) Rf q)
    (ec : nI (cc + 1) = c) (eg : Mc 29 k = g) (en : Mc 30 k = n) (h1 : oc = hz_ct (f_X1_refusal c g n Mc) (roF k cc))
    (h2 : orf = hz_ct (Rf Mr) (fun r M => if r < 0 then some (0, M) else some (1, M))) : R1 q d Mc Mr oc orf := by
  obtain ⟨r1, r2, r3, r4, r5, r6, r7, r8⟩ := R
  rcases op with ⟨kk, hk, hC, hR⟩ | ⟨hC, r, q', hr, hT, hP, hR⟩
  · have nk : ¬ kk = 0 := by intro e; subst e; revert hk; decide
    rw [hC Mc r1, hy_cts] at h1
    unfold roF at h1
    rw [if_neg nk] at h1
    rw [hR Mr r3, hy_cts, if_pos hk] at h2
    refine ⟨0, q, _, _, h1, h2, ⟨fun a _ h h3 => by rw [hy_seto _ _ _ h3, hy_seto _ _ _ h], fun b _ h => by rw [hy_setn _ _ _ h, hy_seto _ _ _ (by omega)]⟩, ⟨fun a h _ _ => hy_seto _ _ _ h, fun b h => hy_setn _ _ _ h⟩, W_fr (fun a ha => by rw [hy_seto _ _ _ (by omega), hy_seto _ _ _ (by omega)]) r1 r2, r2, by rw [hy_seto _ _ _ (by omega)]; exact r3, ?_, Or.inr ⟨rfl, by rw [hy_setn _ _ _ (by omega), hy_seto _ _ _ (by omega)]; exact r5, hy_setk _ _ _ _⟩⟩
    rw [hy_seto _ _ _ (by omega), hy_setk, hy_setk, r7]
  · obtain ⟨Mp, p1, p2, p3⟩ := hP Mc r1
    have hch : f_X11_changes Mr = some (0, Mr) := by simp only [f_X11_changes, r8, hy_f10, if_false]
    obtain ⟨Mr', s1, s2, s3⟩ := hR Mr Mr r3 hch r3
    have nr : ¬ r < 0 := by grind
    rw [hC Mc r1, hy_cts] at h1
    unfold roF at h1
    rw [if_pos rfl, ec, eg, en, p1, hy_cts] at h1
    rw [s1, hy_cts, if_neg nr] at h2
    have p27 : Mp 27 = Mc 27 := p2 27 (by omega)
    refine ⟨1, q', _, _, h1, h2, ⟨fun a h0 h h3 => by rw [hy_seto _ _ _ h3, hy_seto _ _ _ h3, p2 a h0], fun b h h' => by rw [hy_setn _ _ _ h', hy_setn _ _ _ h, p27]⟩, ⟨fun a _ h h' => s3 a h h', fun b _ => by rw [s3 178 (by omega) (by omega)]⟩, W_fr (fun a ha => by rw [hy_seto _ _ _ (by omega), hy_seto _ _ _ (by omega)]) p3 hT, hT, s2, ?_, Or.inl ⟨rfl, ?_, ?_⟩⟩
    · rw [hy_seto _ _ _ (by omega), hy_seto _ _ _ (by omega), p2 26 (by omega), s3 178 (by omega) (by omega)]; exact r7
    · rw [hy_setn _ _ _ (by omega), hy_setk, p27, r5, hy_add1]
    · rw [hy_setk, p27, r5, hy_add1]
      have e : (nI (d + 1) < 40) = (d + 1 < 40) := hy_lt (b := 40) (by omega) (by omega)
      by_cases h : d + 1 < 40
      · rw [if_pos (by rw [e]; exact h), if_pos h]
      · rw [if_neg (by rw [e]; exact h), if_neg h]

theorem it_1 (a n : Int32) (M : hz_M) : f_X1_isThere 1 a n M = (hz_ct (f_X3_isGuest a M) fun r M1 => if r = 0 then some (0, M1) else some (1, M1)) := by
  simp only [f_X1_isThere, show hz_vo (1 : Int32) = true from by decide, show hz_nn (1 : Int32) = true from by decide, show hz_eF 1 (1 : Int32) = 1 from by decide, hy_gt, hy_e1_0, hy_e1_2, hy_e1_4, hy_e1_5, hy_e1_9, hy_jn, hy_f10, if_true, if_false]
theorem it_2 (a n : Int32) (M : hz_M) : f_X1_isThere 2 a n M = hz_ct (f_X3_isGuest a M) fun r M1 => if r = 0 then some (0, M1) else hz_ct (f_X3_isStep n M1) fun r M2 => hz_gd (hz_bt r) (some (r, M2)) := by
  simp only [f_X1_isThere, show hz_vo (2 : Int32) = true from by decide, show hz_nn (2 : Int32) = true from by decide, show hz_eF 1 (2 : Int32) = 1 from by decide, hy_gt, hy_e2_0, hy_e2_4, hy_e2_5, hy_e2_9, hy_jn, hy_f10, if_true, if_false]
theorem it_3 (a n : Int32) (M : hz_M) : f_X1_isThere 3 a n M = (hz_ct (f_X3_isGuest a M) fun r M1 => if r = 0 then some (0, M1) else some (1, M1)) := by
  simp only [f_X1_isThere, show hz_vo (3 : Int32) = true from by decide, show hz_nn (3 : Int32) = true from by decide, show hz_eF 1 (3 : Int32) = 1 from by decide, hy_gt, hy_e3_0, hy_e3_2, hy_e3_4, hy_e3_5, hy_e3_9, hy_jn, hy_f10, if_true, if_false]
theorem it_4 (a n : Int32) (M : hz_M) : f_X1_isThere 4 a n M = hz_ct (f_X3_isGuest a M) fun r M1 => if r = 0 then some (0, M1) else hz_ct (f_X3_isPeg n M1) fun r M2 => if r = 0 then some (0, M2) else some (1, M2) := by
  simp only [f_X1_isThere, show hz_vo (4 : Int32) = true from by decide, show hz_nn (4 : Int32) = true from by decide, show hz_eF 1 (4 : Int32) = 1 from by decide, hy_gt, hy_e4_0, hy_e4_2, hy_e4_5, hy_e4_9, hy_jn, hy_f10, if_true, if_false]
theorem it_5 (a n : Int32) (M : hz_M) : f_X1_isThere 5 a n M = hz_ct (f_X3_isGuest a M) fun r M1 => if r = 0 then some (0, M1) else hz_ct (f_X3_isPeg n M1) fun r M2 => if r = 0 then some (0, M2) else some (1, M2) := by
  simp only [f_X1_isThere, show hz_vo (5 : Int32) = true from by decide, show hz_nn (5 : Int32) = true from by decide, show hz_eF 1 (5 : Int32) = 1 from by decide, hy_gt, hy_e5_0, hy_e5_2, hy_e5_4, hy_e5_9, hy_jn, hy_f10, if_true, if_false]
theorem it_6 (a n : Int32) (M : hz_M) : f_X1_isThere 6 a n M = (hz_ct (f_X3_isGuest a M) fun r M1 => if r = 0 then some (0, M1) else some (1, M1)) := by
  simp only [f_X1_isThere, show hz_vo (6 : Int32) = true from by decide, show hz_nn (6 : Int32) = true from by decide, show hz_eF 1 (6 : Int32) = 1 from by decide, hy_gt, hy_e6_0, hy_e6_2, hy_e6_4, hy_e6_5, hy_e6_9, hy_jn, hy_f10, if_true, if_false]
theorem it_7 (a n : Int32) (M : hz_M) : f_X1_isThere 7 a n M = (hz_ct (f_X3_isGuest a M) fun r M1 => if r = 0 then some (0, M1) else some (1, M1)) := by
  simp only [f_X1_isThere, show hz_vo (7 : Int32) = true from by decide, show hz_nn (7 : Int32) = true from by decide, show hz_eF 1 (7 : Int32) = 1 from by decide, hy_gt, hy_e7_0, hy_e7_2, hy_e7_4, hy_e7_5, hy_e7_9, hy_jn, hy_f10, if_true, if_false]
theorem it_8 (a n : Int32) (M : hz_M) : f_X1_isThere 8 a n M = (some (1, M)) := by
  simp only [f_X1_isThere, show hz_vo (8 : Int32) = true from by decide, show hz_nn (8 : Int32) = true from by decide, show hz_eF 1 (8 : Int32) = 0 from by decide, hy_gt, hy_e8_0, hy_e8_2, hy_e8_4, hy_e8_5, hy_e8_9, hy_jn, hy_f10, if_true, if_false]
theorem it_9k (a n : Int32) (M : hz_M) : f_X1_isThere 9 a n M = hz_ct (f_X3_isValve a M) fun r M1 => hz_gd (hz_bt r) (some (r, M1)) := by
  simp only [f_X1_isThere, show hz_vo (9 : Int32) = true from by decide, show hz_nn (9 : Int32) = true from by decide, show hz_eF 1 (9 : Int32) = 0 from by decide, hy_gt, hy_e9_0, hy_e9_2, hy_e9_4, hy_e9_5, if_true]
theorem it_10 (a n : Int32) (M : hz_M) : f_X1_isThere 10 a n M = (some (1, M)) := by
  simp only [f_X1_isThere, show hz_vo (10 : Int32) = true from by decide, show hz_nn (10 : Int32) = true from by decide, show hz_eF 1 (10 : Int32) = 0 from by decide, hy_gt, hy_e10_0, hy_e10_2, hy_e10_4, hy_e10_5, hy_e10_9, hy_jn, hy_f10, if_true, if_false]

theorem ro_eq {M : hz_M} {k c : Nat} (hk : k < 30) (hc : c ≤ 9) (h28 : M 28 k = nI (c + 1)) : f_X6_runOrder (nI k) M = hz_ct (f_X1_isThere (nI (c + 1)) (M 29 k) (M 30 k) M) (fun r9 M10 => if r9 = 0 then some (0, hz_set M10 27 8 1) else hz_ct (f_X1_refusal (nI (c + 1)) (M10 29 k) (M10 30 k) M10) (roF k c)) := by
  have n0 : ¬ nI (c + 1) = 0 := by rw [hy_0, hy_eq (by omega) (by omega)]; omega
  simp (disch := omega) only [f_X6_runOrder, hy_in, hy_gt, hy_lt', hy_c, h28, hy_jn, n0, if_false, hy_lm, hy_setk]
  congr 1
  funext r M10
  split
  · rfl
  · congr 1
    funext r M16
    unfold roF
    split
    · congr 1
      funext r M22
      split
      · rfl
      · rfl
    · rfl

