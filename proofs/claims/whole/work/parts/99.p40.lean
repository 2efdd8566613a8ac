
def FRs (Mr Mr' : hz_M) : Prop := (∀ a, a ≠ 178 → a ≠ 179 → a ≠ 185 → Mr' a = Mr a) ∧ ∀ b, b ≠ 7 → b ≠ 23 → Mr' 178 b = Mr 178 b
theorem hy_FUx {a b : Nat} (h : b ≤ 4000) : b < a + hz_FU := by have := hy_FU h; omega
theorem FRc_r (a : hz_M) : FRc a a := ⟨fun _ _ _ _ => rfl, fun _ _ _ => rfl⟩
theorem FRs_r (a : hz_M) : FRs a a := ⟨fun _ _ _ _ => rfl, fun _ _ _ => rfl⟩
theorem FRc_t {a b c : hz_M} (h : FRc a b) (k : FRc b c) : FRc a c := ⟨fun x h1 h2 h3 => by rw [k.1 x h1 h2 h3, h.1 x h1 h2 h3], fun x h1 h2 => by rw [k.2 x h1 h2, h.2 x h1 h2]⟩
theorem FRs_t {a b c : hz_M} (h : FRs a b) (k : FRs b c) : FRs a c := ⟨fun x h1 h2 h3 => by rw [k.1 x h1 h2 h3, h.1 x h1 h2 h3], fun x h1 h2 => by rw [k.2 x h1 h2, h.2 x h1 h2]⟩
theorem OR_fr {Mc Mr Mc' Mr' : hz_M} {k c : Nat} (h1 : FRc Mc Mc') (h2 : FRs Mr Mr') (O : OR Mc Mr k c) : OR Mc' Mr' k c := by
  unfold OR nmc at *
  rw [h1.1 28 (by omega) (by omega) (by omega), h1.1 29 (by omega) (by omega) (by omega), h1.1 30 (by omega) (by omega) (by omega), h1.1 1 (by omega) (by omega) (by omega), h1.1 3 (by omega) (by omega) (by omega), h1.1 4 (by omega) (by omega) (by omega), h2.1 187 (by omega) (by omega) (by omega), h2.1 188 (by omega) (by omega) (by omega), h2.1 189 (by omega) (by omega) (by omega), h2.1 190 (by omega) (by omega) (by omega)]
  exact O
def WFo (Mc Mr : hz_M) : Nat → Nat → Nat → Nat → Prop
  | 0, _, fr, to => fr = to
  | w + 1, lvl, fr, to => fr = to ∨ (fr < to ∧ fr < 30 ∧ ∃ b, fr < b ∧ b ≤ to ∧ Mc 31 fr = nI b ∧
      ((b = fr + 1 ∧ ∃ c, OR Mc Mr fr c) ∨ (lvl < 2 ∧ Mc 28 fr = 11 ∧ Mr 187 fr = 10 ∧ Mr 190 fr = nI b ∧ (∃ m, m ≤ 20 ∧ Mc 30 fr = nI m ∧ Mr 189 fr = nI m) ∧ WFo Mc Mr w (lvl + 1) (fr + 1) b)) ∧ WFo Mc Mr w lvl b to)
theorem WFo_fr {Mc Mr Mc' Mr' : hz_M} (h1 : FRc Mc Mc') (h2 : FRs Mr Mr') : ∀ w lvl fr to, WFo Mc Mr w lvl fr to → WFo Mc' Mr' w lvl fr to
  | 0, _, _, _, h => h
  | w + 1, lvl, fr, to, h => by
    unfold WFo at *
    rcases h with h | ⟨a1, a2, b, a3, a4, a5, a6, a7⟩
    · exact Or.inl h
    · refine Or.inr ⟨a1, a2, b, a3, a4, by rw [h1.1 31 (by omega) (by omega) (by omega)]; exact a5, ?_, WFo_fr h1 h2 w lvl b to a7⟩
      rcases a6 with ⟨e, c, O⟩ | ⟨l, k1, k2, k3, ⟨m, m1, m2, m3⟩, k4⟩
      · exact Or.inl ⟨e, c, OR_fr h1 h2 O⟩
      · exact Or.inr ⟨l, by rw [h1.1 28 (by omega) (by omega) (by omega)]; exact k1, by rw [h2.1 187 (by omega) (by omega) (by omega)]; exact k2, by rw [h2.1 190 (by omega) (by omega) (by omega)]; exact k3, ⟨m, m1, by rw [h1.1 30 (by omega) (by omega) (by omega)]; exact m2, by rw [h2.1 189 (by omega) (by omega) (by omega)]; exact m3⟩, WFo_fr h1 h2 w (lvl + 1) (fr + 1) b k4⟩
def OUT (Mc Mr : hz_M) (oc orf : hz_O) : Prop := ∃ (r : Int32) (q' : Nat → Int32) (d' : Nat) (Mc' Mr' : hz_M), oc = some (0, Mc') ∧ orf = some (r, Mr') ∧ FRc Mc Mc' ∧ FRs Mr Mr' ∧ RS q' d' Mc' Mr' ∧ ((r = 1 ∧ Mc' 27 8 = (if d' < 40 then 0 else 1)) ∨ (r = 0 ∧ Mc' 27 8 = 1))
/-- an ended script does nothing more -/
theorem c_end (rec : Int32 → Int32 → Int32 → hz_M → hz_O) (lvl nx : Int32) {M : hz_M} {to : Nat} (ht : to ≤ 1000) (h8 : M 27 8 = 1) : ∀ (k i f : Nat), to ≤ i + k → i ≤ 1000 → k < f → r_X6_runOrders_L6 rec f (nI to) lvl nx (nI i) M = some (0, M)
  | 0, i, f, h, hi, hf => by
    obtain ⟨f, rfl⟩ : ∃ e, f = e + 1 := ⟨f - 1, by omega⟩
    have e : to ≤ i := by omega
    simp (disch := omega) only [r_X6_runOrders_L6, hy_le, e, if_true]
  | k + 1, i, f, h, hi, hf => by
    obtain ⟨f, rfl⟩ : ∃ e, f = e + 1 := ⟨f - 1, by omega⟩
    by_cases e : to ≤ i
    · simp (disch := omega) only [r_X6_runOrders_L6, hy_le, e, if_true]
    · have ih := c_end rec lvl nx ht h8 k (i + 1) f (by omega) (by omega) (by omega)
      simp (disch := omega) only [r_X6_runOrders_L6, hy_le (a := to) (b := i), e, if_false, hy_jn, hy_lt', hy_add1, h8, hy_f10, ih]
      repeat (first | rfl | split)
theorem c_skip (rec : Int32 → Int32 → Int32 → hz_M → hz_O) (lvl : Int32) {M : hz_M} {to b cnt : Nat} (ht : to ≤ 1000) (hb : b ≤ to) (hc : M 27 6 = nI cnt) (hcnt : to ≤ cnt) (hc2 : cnt ≤ 1000) : ∀ (k i f : Nat), i + k = b → r_X6_runOrders_L6 rec (f + k) (nI to) lvl (nI b) (nI i) M = r_X6_runOrders_L6 rec f (nI to) lvl (nI b) (nI b) M
  | 0, i, f, h => by
    have : i = b := by omega
    subst this; rfl
  | k + 1, i, f, h => by
    have e1 : ¬ to ≤ i := by omega
    have e2 : ¬ cnt ≤ i := by omega
    have e3 : i < b := by omega
    have ih := c_skip rec lvl ht hb hc hcnt hc2 k (i + 1) f (by omega)
    rw [← ih, show f + (k + 1) = (f + k) + 1 by omega]
    simp (disch := omega) only [r_X6_runOrders_L6, hy_le (a := to) (b := i), e1, if_false, hc, hy_le (a := cnt) (b := i), e2, hy_jn, hy_lt (a := i) (b := b), e3, if_true, hy_lt', hy_add1]
/-- at forty the reference does nothing more -/
theorem r_40 {Mc Mr : hz_M} (h40 : Mr 178 23 = 40) : ∀ (w lvl fr to n f : Nat), WFo Mc Mr w lvl fr to → lvl + n = 3 → to ≤ 30 → to < fr + f → ∃ b, (b = 0 ∨ b = 1) ∧ r_X11_doesAll_L2 (f_X11_doesAll n) f (nI to) (nI fr) Mr = some (b, Mr)
  | 0, lvl, fr, to, n, f, W, hl, ht, hf => by
    have e : fr = to := W
    obtain ⟨f, rfl⟩ : ∃ e, f = e + 1 := ⟨f - 1, by omega⟩
    refine ⟨1, Or.inr rfl, ?_⟩
    have e1 : to ≤ fr := by omega
    simp (disch := omega) only [r_X11_doesAll_L2, hy_le, e1, if_true]
  | w + 1, lvl, fr, to, n, f, W, hl, ht, hf => by
    unfold WFo at W
    rcases W with e | ⟨a1, a2, b, a3, a4, a5, a6, a7⟩
    · obtain ⟨f, rfl⟩ : ∃ e, f = e + 1 := ⟨f - 1, by omega⟩
      refine ⟨1, Or.inr rfl, ?_⟩
      have e1 : to ≤ fr := by omega
      simp (disch := omega) only [r_X11_doesAll_L2, hy_le, e1, if_true]
    · obtain ⟨f, rfl⟩ : ∃ e, f = e + 1 := ⟨f - 1, by omega⟩
      have e1 : ¬ to ≤ fr := by omega
      rcases a6 with ⟨eb, c, O⟩ | ⟨l2, k1, k2, k3, ⟨m, m1, m2, m3⟩, k4⟩
      · have e2 : ¬ nI c = 10 := by rw [show (10 : Int32) = nI 10 from rfl, hy_eq (by have := O.1; omega) (by omega)]; have := O.1; omega
        refine ⟨0, Or.inl rfl, ?_⟩
        simp (disch := omega) only [r_X11_doesAll_L2, hy_le, e1, if_false, hy_in, hy_gt, hy_c, O.2.2.1, e2, h40, if_true]
      · obtain ⟨b1, _, ihb⟩ := r_40 h40 w lvl b to n f a7 hl ht (by omega)
        obtain ⟨n', rfl⟩ : ∃ n', n = n' + 1 := ⟨n - 1, by omega⟩
        obtain ⟨b2, hb2, ihi⟩ := r_40 h40 w (lvl + 1) (fr + 1) b n' hz_FU k4 (by omega) (by omega) (hy_FUx (by omega))
        have rec1 : f_X11_doesAll (n' + 1) (nI (fr + 1)) (nI b) Mr = some (b2, Mr) := ihi
        have st : r_X11_doesAll_L2 (f_X11_doesAll (n' + 1)) (f + 1) (nI to) (nI fr) Mr = r_X11_doesAll_L21 (f_X11_doesAll (n' + 1)) (fun (v2_14 : Int32) (v3_15 : Int32) (M16 : hz_M) => hz_gd (hz_in v3_15 30) <| hz_lt ((M16 190 (Int32.toNatClampNeg v3_15))) fun x18 => r_X11_doesAll_L2 (f_X11_doesAll (n' + 1)) f v2_14 x18 M16) hz_FU (nI to) (nI fr) (nI 0) Mr := by
          simp (disch := omega) only [r_X11_doesAll_L2, hy_le, e1, if_false, hy_in, hy_gt, hy_c, k2, if_true, hy_jn]
          rfl
        have loop : ∀ (k t g : Nat), t + k = m → k < g → ∃ b, (b = 0 ∨ b = 1) ∧ r_X11_doesAll_L21 (f_X11_doesAll (n' + 1)) (fun (v2_14 : Int32) (v3_15 : Int32) (M16 : hz_M) => hz_gd (hz_in v3_15 30) <| hz_lt ((M16 190 (Int32.toNatClampNeg v3_15))) fun x18 => r_X11_doesAll_L2 (f_X11_doesAll (n' + 1)) f v2_14 x18 M16) g (nI to) (nI fr) (nI t) Mr = some (b, Mr) := by
          intro k
          induction k with
          | zero =>
            intro t g ht' hg
            obtain ⟨g, rfl⟩ : ∃ e, g = e + 1 := ⟨g - 1, by omega⟩
            have e3 : m ≤ t := by omega
            refine ⟨b1, by assumption, ?_⟩
            simp (disch := omega) only [r_X11_doesAll_L21, hy_in, hy_gt, hy_c, m3, hy_le, e3, if_true, hy_lt', k3]
            exact ihb
          | succ k ih =>
            intro t g ht' hg
            obtain ⟨g, rfl⟩ : ∃ e, g = e + 1 := ⟨g - 1, by omega⟩
            have e3 : ¬ m ≤ t := by omega
            obtain ⟨b3, hb3, ih3⟩ := ih (t + 1) g (by omega) (by omega)
            rcases hb2 with rfl | rfl
            · refine ⟨0, Or.inl rfl, ?_⟩
              simp (disch := omega) only [r_X11_doesAll_L21, hy_in, hy_gt, hy_c, m3, hy_le, e3, if_false, hy_add1, k3, rec1, hy_cts, if_true]
            · refine ⟨b3, hb3, ?_⟩
              simp (disch := omega) only [r_X11_doesAll_L21, hy_in, hy_gt, hy_c, m3, hy_le, e3, if_false, hy_add1, k3, rec1, hy_cts, hy_f10, hy_lt']
              exact ih3
        obtain ⟨b4, hb4, l4⟩ := loop m 0 hz_FU (by omega) (hy_FU (by omega))
        exact ⟨b4, hb4, by rw [st, l4]⟩

