theorem an_rg (x : Int32) : ∃ c, c ≤ 65535 ∧ x &&& (65535 : Int32) = nI c := by
  have e : (x &&& (65535 : Int32)).toBitVec = x.toBitVec &&& 65535#32 := rfl
  have h : (x.toBitVec &&& 65535#32).toNat ≤ 65535 := by
    rw [BitVec.toNat_and]
    exact Nat.and_le_right
  refine ⟨(x.toBitVec &&& 65535#32).toNat, h, ?_⟩
  apply Int32.toBitVec_inj.mp
  rw [e]
  apply BitVec.eq_of_toNat_eq
  show _ = (Int32.ofNat _).toBitVec.toNat
  rw [Int32.toBitVec_ofNat', BitVec.toNat_ofNat]
  omega
theorem nz_nI {k : Nat} (h0 : 0 < k) (h : k < 2 ^ 31) : hz_nz (nI k) = true := by
  have e : ¬ nI k = 0 := by
    rw [hy_0, hy_eq h (by omega)]
    omega
  unfold hz_nz
  rw [beq_false_of_ne e]
  rfl
theorem L_cell (xs : Nat → Int32) {L a : Nat} (hL : L ≤ 260) (ha : a ≤ 1000) : ∃ y : Int32, ∀ M, f_L_cell xs L (nI a) M = some (y, M) := by
  by_cases h : L = 0
  · refine ⟨0, fun M => ?_⟩
    unfold f_L_cell
    rw [if_pos (by rw [h]; rfl)]
  · refine ⟨(xs (a % L)) ^^^ ((40503 : Int32) * (nI (a / L))), fun M => ?_⟩
    unfold f_L_cell
    rw [if_neg (by rw [hy_0, hy_eq (by omega) (by omega)]; exact h), nz_nI (by omega) (by omega), hy_gt, hy_mod (by omega) (by omega) (by omega), hy_in (Nat.mod_lt _ (by omega)) (by omega), hy_gt, hy_gt, hy_c (by have := Nat.mod_lt a (show L > 0 by omega); omega), hy_div (by omega) (by omega) (by omega)]
theorem L_pick (xs : Nat → Int32) {L a n : Nat} (hL : L ≤ 260) (ha : a ≤ 1000) (h0 : 0 < n) (hn : n ≤ 1000) : ∃ r, r < n ∧ ∀ M, f_L_pick xs L (nI a) (nI n) M = some (nI r, M) := by
  obtain ⟨y, hy⟩ := L_cell xs hL ha
  obtain ⟨c, hc, e⟩ := an_rg y
  refine ⟨c % n, Nat.mod_lt _ h0, fun M => ?_⟩
  unfold f_L_pick
  rw [hy M, hy_cts, nz_nI h0 (by omega), hy_gt, e, hy_mod (by omega) (by omega) h0]
theorem L_deeds {b : Nat} {M : hz_M} {q : Nat → Int32} {qs : Nat → Nat → Int32} {n : Nat} {rf : Int32} (hb : 178 ≤ b) (h : hLS b M q qs n rf) {g v : Nat} (kd : Int32) (hg : g < gz q) (hv : v < 1000) : hLR b M q qs n rf 0 (f_L_deeds b kd (nI g) (nI v) M) := by
  have hh := h
  obtain ⟨W, T, N, E, R, G, F⟩ := hh
  have hZ := W.1.1
  have hQ := W.2.1
  have hz := hZ
  obtain ⟨⟨z1, z2⟩, ⟨z3, z4, z5⟩, ⟨z6, z7, z8⟩, ⟨z9, z10⟩, ⟨z11, z12, z13⟩, ⟨z14, z15, z16⟩⟩ := hz
  have b4 : M b 4 = nI (sz q) := by rw [R.1.2.2.2.2.1, z14]
  have b1 : M b 1 = nI (pz q) := by rw [R.1.2.1, z6]
  have hs : v % sz q < sz q := Nat.mod_lt _ (by omega)
  have hp : v % pz q < pz q := Nat.mod_lt _ (by omega)
  unfold f_L_deeds
  rw [b4, b1, nz_nI (k := sz q) (by omega) (by omega), hy_gt, hy_lt', nz_nI (k := pz q) (by omega) (by omega), hy_gt, hy_lt', hy_mod (a := v) (b := sz q) (by omega) (by omega) (by omega), hy_mod (a := v) (b := pz q) (by omega) (by omega) (by omega), show (1 : Int32) + nI (v % sz q) = nI (1 + v % sz q) from hy_add 1 _]
  by_cases c4 : (4 : Int32) ≤ kd
  · rw [if_pos c4]
    by_cases c9 : (9 : Int32) ≤ kd
    · rw [if_pos c9]
      by_cases e9 : kd = (9 : Int32)
      · rw [if_pos e9]
        exact D_hall hb h hg
      · rw [if_neg e9]
        by_cases e10 : kd = (10 : Int32)
        · rw [if_pos e10]
          exact D_hang hb h hg hp
        · rw [if_neg e10]
          by_cases e11 : kd = (11 : Int32)
          · rw [if_pos e11]
            exact D_take hb h hg hp
          · rw [if_neg e11]
            by_cases e12 : kd = (12 : Int32)
            · rw [if_pos e12]
              exact D_leave hb h hg
            · rw [if_neg e12]
              exact D_speak hb h hg
    · rw [if_neg c9]
      exact D_sit hb h hg (by omega) (by omega)
  · rw [if_neg c4]
    exact D_enter hb h hg
theorem hLR_w {b : Nat} {M : hz_M} {q : Nat → Int32} {qs : Nat → Nat → Int32} {n d : Nat} {rf : Int32} {res : hz_O} (h : hLR b M q qs n rf 0 res) : hLR b M q qs n rf d res := by
  obtain ⟨r, M', e, fr, h | ⟨hr, q', hL, h8⟩⟩ := h
  · exact ⟨r, M', e, fr, Or.inl h⟩
  · refine ⟨r, M', e, fr, Or.inr ⟨hr, q', hL, fun k hk => ?_⟩⟩
    obtain ⟨j, hj, ej⟩ := h8 k hk
    exact ⟨j, by omega, ej⟩
theorem hy_jnP {α : Type} {P : hz_O → Prop} {k : α} {f : α → hz_O} (h : ∀ k', k' = k → P (f k')) : P (hz_jn k f) := h k rfl
theorem D_set6 {b : Nat} {M : hz_M} {q : Nat → Int32} {qs : Nat → Nat → Int32} {n : Nat} {rf : Int32} (hb : 178 ≤ b) (h : hLS b M q qs n rf) {k : Nat} (h1 : 1 ≤ k) (h2 : k ≤ 9) : hLR b M q qs n rf 0 (hz_ct (f_X10_set (6 : Int32) (nI k) (hz_set M b 5 (nI k))) fun r50 M51 =>
                if r50 = (M b 5) then
                  some ((1 : Int32), M51)
                else
                  some ((0 : Int32), M51)) := by
  have hh := h
  obtain ⟨W, T, N, E, R, G, F⟩ := hh
  have hZ := W.1.1
  have hQ := W.2.1
  have hz := hZ
  obtain ⟨⟨z1, z2⟩, ⟨z3, z4, z5⟩, ⟨z6, z7, z8⟩, ⟨z9, z10⟩, ⟨z11, z12, z13⟩, ⟨z14, z15, z16⟩⟩ := hz
  have W0 : hy_W (hz_set M b 5 (nI k)) q := W_fr (fun a ha => hy_seto _ _ _ (by omega)) W T
  have G0 : Ring (hz_set M b 5 (nI k)) qs n := Ring_fr (fun a ha => hy_seto _ _ _ (by omega)) G
  have R0 := ro_room (v := nI k) R hZ
  obtain ⟨M1, e, W1, G1, f1⟩ := k_set6 W0 T G0 h1 h2
  have R1 := RO_fr (M' := M1) (fun a h1 h2 => f1 a (by unfold CF; omega)) R0
  refine hLR_yes (M2 := M1) hb h ?_ W1 G1 (fun a ha => by rw [f1 a (by unfold CF; omega), hy_seto _ _ _ (by omega)]) (by rw [f1 26 (Or.inr rfl), hy_seto _ _ _ (by omega)]) (fun _ _ => rfl) R1 (T_st (by simp (disch := omega) only [hy_so, hy_ss]) (by simp (disch := omega) only [hy_so, hy_ss]) T) (N_eqv N (gz_cg (by simp (disch := omega) only [hy_so, hy_ss])) (fun k hk => by simp (disch := omega) only [hy_so, hy_ss])) (E_eqv E (gz_cg (by simp (disch := omega) only [hy_so, hy_ss])) (fun k hk => by rw [hy_so _ _ (by omega)]) (by simp (disch := omega) only [hy_so, hy_ss]) (by simp (disch := omega) only [hy_so, hy_ss])) (keep8 0 (by simp (disch := omega) only [hy_so, hy_ss]))
  rw [e, hy_cts, if_pos R.1.2.2.2.2.2.1.symm]
theorem D_set7 {b : Nat} {M : hz_M} {q : Nat → Int32} {qs : Nat → Nat → Int32} {n : Nat} {rf : Int32} (hb : 178 ≤ b) (h : hLS b M q qs n rf) {k : Nat} (h1 : 2 ≤ k) (h2 : k ≤ 60) : hLR b M q qs n rf 0 (hz_ct (f_X10_set (7 : Int32) (nI k) (hz_set M b 6 (nI k))) fun r50 M51 =>
                if r50 = (M b 6) then
                  some ((1 : Int32), M51)
                else
                  some ((0 : Int32), M51)) := by
  have hh := h
  obtain ⟨W, T, N, E, R, G, F⟩ := hh
  have hZ := W.1.1
  have hQ := W.2.1
  have hz := hZ
  obtain ⟨⟨z1, z2⟩, ⟨z3, z4, z5⟩, ⟨z6, z7, z8⟩, ⟨z9, z10⟩, ⟨z11, z12, z13⟩, ⟨z14, z15, z16⟩⟩ := hz
  have W0 : hy_W (hz_set M b 6 (nI k)) q := W_fr (fun a ha => hy_seto _ _ _ (by omega)) W T
  have G0 : Ring (hz_set M b 6 (nI k)) qs n := Ring_fr (fun a ha => hy_seto _ _ _ (by omega)) G
  have R0 := ro_gong (v := nI k) R hZ
  obtain ⟨M1, e, W1, G1, f1⟩ := k_set7 W0 T G0 h1 h2
  have R1 := RO_fr (M' := M1) (fun a h1 h2 => f1 a (by unfold CF; omega)) R0
  refine hLR_yes (M2 := M1) hb h ?_ W1 G1 (fun a ha => by rw [f1 a (by unfold CF; omega), hy_seto _ _ _ (by omega)]) (by rw [f1 26 (Or.inr rfl), hy_seto _ _ _ (by omega)]) (fun _ _ => rfl) R1 (T_st (by simp (disch := omega) only [hy_so, hy_ss]) (by simp (disch := omega) only [hy_so, hy_ss]) T) (N_eqv N (gz_cg (by simp (disch := omega) only [hy_so, hy_ss])) (fun k hk => by simp (disch := omega) only [hy_so, hy_ss])) (E_eqv E (gz_cg (by simp (disch := omega) only [hy_so, hy_ss])) (fun k hk => by rw [hy_so _ _ (by omega)]) (by simp (disch := omega) only [hy_so, hy_ss]) (by simp (disch := omega) only [hy_so, hy_ss])) (keep8 0 (by simp (disch := omega) only [hy_so, hy_ss]))
  rw [e, hy_cts, if_pos R.1.2.2.2.2.2.2.1.symm]
theorem D_set8 {b : Nat} {M : hz_M} {q : Nat → Int32} {qs : Nat → Nat → Int32} {n : Nat} {rf : Int32} (hb : 178 ≤ b) (h : hLS b M q qs n rf) {k : Nat} (h1 : 0 ≤ k) (h2 : k ≤ 30) : hLR b M q qs n rf 0 (hz_ct (f_X10_set (8 : Int32) (nI k) (hz_set M b 7 (nI k))) fun r50 M51 =>
                if r50 = (M b 7) then
                  some ((1 : Int32), M51)
                else
                  some ((0 : Int32), M51)) := by
  have hh := h
  obtain ⟨W, T, N, E, R, G, F⟩ := hh
  have hZ := W.1.1
  have hQ := W.2.1
  have hz := hZ
  obtain ⟨⟨z1, z2⟩, ⟨z3, z4, z5⟩, ⟨z6, z7, z8⟩, ⟨z9, z10⟩, ⟨z11, z12, z13⟩, ⟨z14, z15, z16⟩⟩ := hz
  have W0 : hy_W (hz_set M b 7 (nI k)) q := W_fr (fun a ha => hy_seto _ _ _ (by omega)) W T
  have G0 : Ring (hz_set M b 7 (nI k)) qs n := Ring_fr (fun a ha => hy_seto _ _ _ (by omega)) G
  have R0 := ro_quiet (v := nI k) R hZ
  obtain ⟨M1, e, W1, G1, f1⟩ := k_set8 W0 T G0 h1 h2
  have R1 := RO_fr (M' := M1) (fun a h1 h2 => f1 a (by unfold CF; omega)) R0
  refine hLR_yes (M2 := M1) hb h ?_ W1 G1 (fun a ha => by rw [f1 a (by unfold CF; omega), hy_seto _ _ _ (by omega)]) (by rw [f1 26 (Or.inr rfl), hy_seto _ _ _ (by omega)]) (fun _ _ => rfl) R1 (T_st (by simp (disch := omega) only [hy_so, hy_ss]) (by simp (disch := omega) only [hy_so, hy_ss]) T) (N_eqv N (gz_cg (by simp (disch := omega) only [hy_so, hy_ss])) (fun k hk => by simp (disch := omega) only [hy_so, hy_ss])) (E_eqv E (gz_cg (by simp (disch := omega) only [hy_so, hy_ss])) (fun k hk => by rw [hy_so _ _ (by omega)]) (by simp (disch := omega) only [hy_so, hy_ss]) (by simp (disch := omega) only [hy_so, hy_ss])) (keep8 0 (by simp (disch := omega) only [hy_so, hy_ss]))
  rw [e, hy_cts, if_pos R.1.2.2.2.2.2.2.2.1.symm]
theorem D_waits {b : Nat} {M : hz_M} {q : Nat → Int32} {qs : Nat → Nat → Int32} {n : Nat} {rf : Int32} (hb : 178 ≤ b) (h : hLS b M q qs n rf) (xs : Nat → Int32) (L : Nat) {m t : Nat} (h1 : 1 ≤ m) (h2 : m ≤ 60) (ht : q 8 = nI t) (ht2 : t + 60 ≤ 9999) (k23 : Int32 → Int32 → hz_M → hz_O) (hk : k23 = fun (v6_16 : Int32) (v7_17 : Int32) (M18 : hz_M) =>
              hz_ct (f_X10_waits v6_16 M18) fun r19 M20 =>
              if r19 = ((M20 (b + 5) (Int32.toNatClampNeg (4 : Int32))) - v7_17) then
                some ((1 : Int32), M20)
              else
                some ((0 : Int32), M20)) : hLR b M q qs n rf 60 (f_L_acts_L311 b xs L k23 hz_FU (nI m) (M (b + 5) (Int32.toNatClampNeg (4 : Int32))) (0 : Int32) M) := by
  have hh := h
  obtain ⟨W, T, N, E, R, G, F⟩ := hh
  have hZ := W.1.1
  have hQ := W.2.1
  have hz := hZ
  obtain ⟨⟨z1, z2⟩, ⟨z3, z4, z5⟩, ⟨z6, z7, z8⟩, ⟨z9, z10⟩, ⟨z11, z12, z13⟩, ⟨z14, z15, z16⟩⟩ := hz
  have e4 : M (b + 5) (Int32.toNatClampNeg (4 : Int32)) = q 16 := by
    rw [hy_k4]
    exact R.2.2.2.2.2.1 4 (by omega)
  rw [e4]
  obtain ⟨M', e, fr, R'⟩ := O_waitL (b := b) xs L k23 (q 16) m 0 hz_FU m M M q R W (by omega) (by omega) (hy_FU (by omega))
  refine Eq.mpr (congrArg (hLR b M q qs n rf 60) e) ?_
  have W0 : hy_W M' q := W_fr (fun a ha => fr a (by omega)) W T
  have G0 : Ring M' qs n := Ring_fr (fun a ha => fr a (by omega)) G
  obtain ⟨M1, e1, W1, G1, f1⟩ := k_waits W0 T G0 h1 h2 ht (by omega)
  have R1 := RO_fr (M' := M1) (fun a h1 h2 => f1 a (by unfold CF; omega)) R'
  obtain ⟨a1, a2, a3, a4⟩ := minN_keep m q z2 N E
  have e5 : M1 (b + 5) (Int32.toNatClampNeg (4 : Int32)) = minN m q 16 := by
    rw [hy_k4]
    exact R1.2.2.2.2.2.1 4 (by omega)
  refine hLR_yes (M2 := M1) hb h ?_ W1 G1 (fun a ha => by rw [f1 a (by unfold CF; omega), fr a (by omega)]) (by rw [f1 26 (Or.inr rfl), fr 26 (by omega)]) (fun _ _ => rfl) R1 (T_min m q t z2 ht (by omega) T) a1 a2 (fun k hk => ⟨k + m, by omega, a4 k hk⟩)
  rw [hk]
  dsimp only
  rw [e1, hy_cts, e5, if_pos rfl]
theorem L_acts {b : Nat} {M : hz_M} {q : Nat → Int32} {qs : Nat → Nat → Int32} {n : Nat} {rf : Int32} (hb : 178 ≤ b) (h : hLS b M q qs n rf) (xs : Nat → Int32) {L a t : Nat} (hL : L ≤ 260) (ha : a ≤ 990) (ht : q 8 = nI t) (ht2 : t + 60 ≤ 9999) : hLR b M q qs n rf 60 (f_L_acts b xs L (nI a) M) := by
  have hh := h
  obtain ⟨W, T, N, E, R, G, F⟩ := hh
  have hZ := W.1.1
  have hQ := W.2.1
  have hz := hZ
  obtain ⟨⟨z1, z2⟩, ⟨z3, z4, z5⟩, ⟨z6, z7, z8⟩, ⟨z9, z10⟩, ⟨z11, z12, z13⟩, ⟨z14, z15, z16⟩⟩ := hz
  obtain ⟨kd, hkd, p1⟩ := L_pick xs (a := a) (n := 26) hL (by omega) (by omega) (by omega)
  obtain ⟨v, hv, p2⟩ := L_pick xs (a := a + 1) (n := 1000) hL (by omega) (by omega) (by omega)
  have p1' : ∀ M, f_L_pick xs L (nI a) (26 : Int32) M = some (nI kd, M) := p1
  have p2' : ∀ M, f_L_pick xs L (nI (a + 1)) (1000 : Int32) M = some (nI v, M) := p2
  unfold f_L_acts
  rw [p1', hy_cts, hy_add1, p2', hy_cts]
  refine hy_jnP (P := hLR b M q qs n rf 60) (fun k82 h82 => ?_)
  have key : hLR b M q qs n rf 60 (k82 (nI kd) (nI v) M) := by
    rw [h82]
    dsimp only
    by_cases e16 : nI kd = (16 : Int32)
    · rw [if_pos e16]
      exact hLR_w (D_wash hb h)
    · rw [if_neg e16]
      by_cases e20 : (20 : Int32) ≤ nI kd
      · rw [if_pos e20]
        by_cases f20 : nI kd = (20 : Int32)
        · rw [if_pos f20, show nI v - nI v / (3 : Int32) * (3 : Int32) = nI (v % 3) from hy_mod (b := 3) (by omega) (by omega) (by omega), show (6 : Int32) + nI (v % 3) = nI (6 + v % 3) from hy_add 6 _, hy_lt']
          refine hy_jnP (P := hLR b M q qs n rf 60) (fun k62 h62 => ?_)
          have hm : v % 3 < 3 := Nat.mod_lt _ (by omega)
          have eu : (2 : Int32) + (nI v / (3 : Int32) - nI v / (3 : Int32) / (8 : Int32) * (8 : Int32)) = nI (2 + v / 3 % 8) := by
            rw [show nI v / (3 : Int32) = nI (v / 3) from hy_div (b := 3) (by omega) (by omega) (by omega), show nI (v / 3) - nI (v / 3) / (8 : Int32) * (8 : Int32) = nI (v / 3 % 8) from hy_mod (b := 8) (by omega) (by omega) (by omega)]
            exact hy_add 2 _
          have hu : v / 3 % 8 < 8 := Nat.mod_lt _ (by omega)
          have hc : v % 3 = 0 ∨ v % 3 = 1 ∨ v % 3 = 2 := by omega
          rcases hc with hc | hc | hc
          · rw [show nI (6 + v % 3) = (6 : Int32) by rw [hc]; rfl, if_pos rfl, h62]
            dsimp only
            rw [eu, hy_lt']
            refine hy_jnP (P := hLR b M q qs n rf 60) (fun k56 h56 => ?_)
            rw [if_pos rfl, hy_lm, h56]
            dsimp only
            refine hy_jnP (P := hLR b M q qs n rf 60) (fun k54 h54 => ?_)
            rw [if_pos rfl, h54]
            dsimp only
            rw [show nI (2 + v / 3 % 8) - (1 : Int32) = nI (2 + v / 3 % 8 - 1) from hy_sub (b := 1) (by omega)]
            exact hLR_w (D_set6 hb h (by omega) (by omega))
          · rw [show nI (6 + v % 3) = (7 : Int32) by rw [hc]; rfl, if_neg (show ¬ (7 : Int32) = 6 by decide), if_pos rfl, h62]
            dsimp only
            rw [eu, hy_lt']
            refine hy_jnP (P := hLR b M q qs n rf 60) (fun k56 h56 => ?_)
            rw [if_neg (show ¬ (7 : Int32) = 6 by decide), if_pos rfl, hy_lm, h56]
            dsimp only
            refine hy_jnP (P := hLR b M q qs n rf 60) (fun k54 h54 => ?_)
            rw [if_neg (show ¬ (7 : Int32) = 6 by decide), h54]
            dsimp only
            exact hLR_w (D_set7 hb h (by omega) (by omega))
          · rw [show nI (6 + v % 3) = (8 : Int32) by rw [hc]; rfl, if_neg (show ¬ (8 : Int32) = 6 by decide), if_neg (show ¬ (8 : Int32) = 7 by decide), h62]
            dsimp only
            rw [eu, hy_lt']
            refine hy_jnP (P := hLR b M q qs n rf 60) (fun k56 h56 => ?_)
            rw [if_neg (show ¬ (8 : Int32) = 6 by decide), if_neg (show ¬ (8 : Int32) = 7 by decide), hy_lm, h56]
            dsimp only
            refine hy_jnP (P := hLR b M q qs n rf 60) (fun k54 h54 => ?_)
            rw [if_neg (show ¬ (8 : Int32) = 6 by decide), h54]
            dsimp only
            exact hLR_w (D_set8 hb h (by omega) (by omega))
        · rw [if_neg f20]
          refine hy_jnP (P := hLR b M q qs n rf 60) (fun k34 h34 => ?_)
          have k2 : ∀ m, 1 ≤ m → m ≤ 60 → hLR b M q qs n rf 60 (k34 (nI m) M) := by
            intro m m1 m2
            rw [h34]
            dsimp only
            rw [hy_lt']
            refine hy_jnP (P := hLR b M q qs n rf 60) (fun k23 h23 => ?_)
            exact D_waits hb h xs L m1 m2 ht ht2 k23 h23
          by_cases f21 : nI kd = (21 : Int32)
          · rw [if_pos f21]
            exact k2 60 (by omega) (by omega)
          · rw [if_neg f21, show nI v - nI v / (6 : Int32) * (6 : Int32) = nI (v % 6) from hy_mod (b := 6) (by omega) (by omega) (by omega), show (1 : Int32) + nI (v % 6) = nI (1 + v % 6) from hy_add 1 _]
            have hm : v % 6 < 6 := Nat.mod_lt _ (by omega)
            exact k2 _ (by omega) (by omega)
      · rw [if_neg e20, show M b 3 = nI (vz q) by rw [R.1.2.2.2.1, z11], nz_nI (by omega) (by omega), hy_gt, hy_lt', hy_mod (a := v) (b := vz q) (by omega) (by omega) (by omega), show nI v / (7 : Int32) = nI (v / 7) from hy_div (b := 7) (by omega) (by omega) (by omega), show nI (v / 7) - nI (v / 7) / (10 : Int32) * (10 : Int32) = nI (v / 7 % 10) from hy_mod (b := 10) (by omega) (by omega) (by omega)]
        have hm : v / 7 % 10 < 10 := Nat.mod_lt _ (by omega)
        exact hLR_w (D_valve hb h (Nat.mod_lt _ (by omega)) (by omega))
  by_cases c16 : (16 : Int32) ≤ nI kd
  · rw [if_pos c16]
    exact key
  · rw [if_neg c16]
    have b10 : M b 10 = nI (gz q) := by rw [R.1.2.2.2.2.2.2.2.2.2.2.1, z1]
    rw [b10]
    by_cases c0 : nI (gz q) ≤ 0
    · rw [if_pos c0]
      exact key
    · have hg0 : 0 < gz q := by
        refine Nat.pos_of_ne_zero (fun e => c0 ?_)
        rw [e]
        decide
      obtain ⟨g, hg, p3⟩ := L_pick xs (a := a + 2) (n := gz q) hL (by omega) hg0 (by omega)
      rw [if_neg c0, show nI a + (2 : Int32) = nI (a + 2) from hy_add a 2, p3, hy_cts, hy_ctid]
      exact hLR_w (L_deeds hb h (nI kd) hg hv)
