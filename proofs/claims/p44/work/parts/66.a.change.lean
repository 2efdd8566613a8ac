theorem tw_st {q : Nat → Int32} {i : Nat} (v : Int32) (h : ∀ t, t < tz q → i ≠ 153 + 2 * t + 1) (h2 : i ≠ 2) (p : Nat) : tw (hy_st q i v) p = tw q p := by
  rw [tw_fk, tw_fk, tz_st q v h2]
  exact fk_cg p (fun t ht => hy_so q v (fun e => h t ht e.symm))
theorem kpr_st {q : Nat → Int32} {i : Nat} (v : Int32) (h : ∀ g, g < gz q → i ≠ 25 + 8 * g + 3) (h2 : i ≠ 11) (p : Nat) : kpr (hy_st q i v) p = kpr q p := by
  rw [kpr_fk, kpr_fk, gz_st q v h2]
  exact fk_cg p (fun t ht => hy_so q v (fun e => h t ht e.symm))
theorem ro_at {b : Nat} {M : hz_M} {q : Nat → Int32} (hR : RO b M q) (hZ : hy_Z q) {g : Nat} {v : Int32} (hg : g < gz q) : RO b (hz_set M (b + 7) g v) (hy_st q (25 + 8 * g + 2) v) := by
  obtain ⟨⟨z1, z2⟩, ⟨z3, z4, z5⟩, ⟨z6, z7, z8⟩, ⟨z9, z10⟩, ⟨z11, z12, z13⟩, ⟨z14, z15, z16⟩⟩ := id hZ
  obtain ⟨⟨f0, f1, f2, f3, f4, f5, f6, f7, f8, f9, f10, f11⟩, rop, rpg, rlk, rwt, rac, rag, rat, rhs, rst, rwn, rsd⟩ := hR
  have egz : gz (hy_st q (25 + 8 * g + 2) v) = gz q := gz_st q v (by omega)
  have elz : lz (hy_st q (25 + 8 * g + 2) v) = lz q := lz_st q v (by omega)
  have epz : pz (hy_st q (25 + 8 * g + 2) v) = pz q := pz_st q v (by omega)
  have etz : tz (hy_st q (25 + 8 * g + 2) v) = tz q := tz_st q v (by omega)
  have etw : ∀ p, p < pz q → tw (hy_st q (25 + 8 * g + 2) v) p = tw q p := fun p _ => tw_st v (fun t ht => by omega) (by omega) p
  have ekp : ∀ p, p < lz q → kpr (hy_st q (25 + 8 * g + 2) v) p = kpr q p := fun p _ => kpr_st v (fun t ht => by omega) (by omega) p
  refine ⟨⟨by rw [hy_seto _ _ _ (by omega), hy_so _ _ (by omega)]; exact f0, by rw [hy_seto _ _ _ (by omega), hy_so _ _ (by omega)]; exact f1, by rw [hy_seto _ _ _ (by omega), hy_so _ _ (by omega)]; exact f2, by rw [hy_seto _ _ _ (by omega), hy_so _ _ (by omega)]; exact f3, by rw [hy_seto _ _ _ (by omega), hy_so _ _ (by omega)]; exact f4, by rw [hy_seto _ _ _ (by omega), hy_so _ _ (by omega)]; exact f5, by rw [hy_seto _ _ _ (by omega), hy_so _ _ (by omega)]; exact f6, by rw [hy_seto _ _ _ (by omega), hy_so _ _ (by omega)]; exact f7, by rw [hy_seto _ _ _ (by omega), hy_so _ _ (by omega)]; exact f8, by rw [hy_seto _ _ _ (by omega), hy_so _ _ (by omega)]; exact f9, by rw [hy_seto _ _ _ (by omega), hy_so _ _ (by omega)]; exact f10, by rw [hy_seto _ _ _ (by omega), hy_so _ _ (by omega)]; exact f11⟩, ?_, ?_, ?_, ?_, ?_, ?_, ?_, ?_, ?_, ?_, ?_⟩
  · intro k hk
    rw [hy_seto _ _ _ (by omega)]
    rw [hy_so _ _ (by omega)]
    exact rop k hk
  · intro k hk
    rw [epz] at hk
    rw [hy_seto _ _ _ (by omega)]
    rw [etw k hk]
    exact rpg k hk
  · intro k hk
    rw [elz] at hk
    rw [hy_seto _ _ _ (by omega)]
    rw [ekp k hk]
    exact rlk k hk
  · intro k hk
    rw [etz] at hk
    rw [hy_seto _ _ _ (by omega)]
    rw [hy_so _ _ (by omega)]
    exact rwt k hk
  · intro k hk
    rw [hy_seto _ _ _ (by omega)]
    rw [hy_so _ _ (by omega)]
    exact rac k hk
  · intro k hk
    rw [egz] at hk
    rw [hy_seto _ _ _ (by omega)]
    rw [hy_so _ _ (by omega)]
    exact rag k hk
  · intro k hk
    rw [egz] at hk
    by_cases e : k = g
    · subst e
      rw [hy_setk, hy_ss]
    · rw [hy_setn _ _ _ e, hy_so _ _ (by omega)]
      exact rat k hk
  · intro k hk
    rw [egz] at hk
    rw [hy_seto _ _ _ (by omega)]
    rw [hy_so _ _ (by omega)]
    exact rhs k hk
  · intro k hk
    rw [egz] at hk
    rw [hy_seto _ _ _ (by omega)]
    rw [hy_so _ _ (by omega)]
    exact rst k hk
  · intro k hk
    rw [egz] at hk
    rw [hy_seto _ _ _ (by omega)]
    rw [hy_so _ _ (by omega)]
    exact rwn k hk
  · intro k hk
    rw [egz] at hk
    rw [hy_seto _ _ _ (by omega)]
    rw [hy_so _ _ (by omega)]
    exact rsd k hk
theorem ro_has {b : Nat} {M : hz_M} {q : Nat → Int32} (hR : RO b M q) (hZ : hy_Z q) {g : Nat} {v : Int32} (hg : g < gz q) : RO b (hz_set M (b + 8) g v) (hy_st q (25 + 8 * g + 4) v) := by
  obtain ⟨⟨z1, z2⟩, ⟨z3, z4, z5⟩, ⟨z6, z7, z8⟩, ⟨z9, z10⟩, ⟨z11, z12, z13⟩, ⟨z14, z15, z16⟩⟩ := id hZ
  obtain ⟨⟨f0, f1, f2, f3, f4, f5, f6, f7, f8, f9, f10, f11⟩, rop, rpg, rlk, rwt, rac, rag, rat, rhs, rst, rwn, rsd⟩ := hR
  have egz : gz (hy_st q (25 + 8 * g + 4) v) = gz q := gz_st q v (by omega)
  have elz : lz (hy_st q (25 + 8 * g + 4) v) = lz q := lz_st q v (by omega)
  have epz : pz (hy_st q (25 + 8 * g + 4) v) = pz q := pz_st q v (by omega)
  have etz : tz (hy_st q (25 + 8 * g + 4) v) = tz q := tz_st q v (by omega)
  have etw : ∀ p, p < pz q → tw (hy_st q (25 + 8 * g + 4) v) p = tw q p := fun p _ => tw_st v (fun t ht => by omega) (by omega) p
  have ekp : ∀ p, p < lz q → kpr (hy_st q (25 + 8 * g + 4) v) p = kpr q p := fun p _ => kpr_st v (fun t ht => by omega) (by omega) p
  refine ⟨⟨by rw [hy_seto _ _ _ (by omega), hy_so _ _ (by omega)]; exact f0, by rw [hy_seto _ _ _ (by omega), hy_so _ _ (by omega)]; exact f1, by rw [hy_seto _ _ _ (by omega), hy_so _ _ (by omega)]; exact f2, by rw [hy_seto _ _ _ (by omega), hy_so _ _ (by omega)]; exact f3, by rw [hy_seto _ _ _ (by omega), hy_so _ _ (by omega)]; exact f4, by rw [hy_seto _ _ _ (by omega), hy_so _ _ (by omega)]; exact f5, by rw [hy_seto _ _ _ (by omega), hy_so _ _ (by omega)]; exact f6, by rw [hy_seto _ _ _ (by omega), hy_so _ _ (by omega)]; exact f7, by rw [hy_seto _ _ _ (by omega), hy_so _ _ (by omega)]; exact f8, by rw [hy_seto _ _ _ (by omega), hy_so _ _ (by omega)]; exact f9, by rw [hy_seto _ _ _ (by omega), hy_so _ _ (by omega)]; exact f10, by rw [hy_seto _ _ _ (by omega), hy_so _ _ (by omega)]; exact f11⟩, ?_, ?_, ?_, ?_, ?_, ?_, ?_, ?_, ?_, ?_, ?_⟩
  · intro k hk
    rw [hy_seto _ _ _ (by omega)]
    rw [hy_so _ _ (by omega)]
    exact rop k hk
  · intro k hk
    rw [epz] at hk
    rw [hy_seto _ _ _ (by omega)]
    rw [etw k hk]
    exact rpg k hk
  · intro k hk
    rw [elz] at hk
    rw [hy_seto _ _ _ (by omega)]
    rw [ekp k hk]
    exact rlk k hk
  · intro k hk
    rw [etz] at hk
    rw [hy_seto _ _ _ (by omega)]
    rw [hy_so _ _ (by omega)]
    exact rwt k hk
  · intro k hk
    rw [hy_seto _ _ _ (by omega)]
    rw [hy_so _ _ (by omega)]
    exact rac k hk
  · intro k hk
    rw [egz] at hk
    rw [hy_seto _ _ _ (by omega)]
    rw [hy_so _ _ (by omega)]
    exact rag k hk
  · intro k hk
    rw [egz] at hk
    rw [hy_seto _ _ _ (by omega)]
    rw [hy_so _ _ (by omega)]
    exact rat k hk
  · intro k hk
    rw [egz] at hk
    by_cases e : k = g
    · subst e
      rw [hy_setk, hy_ss]
    · rw [hy_setn _ _ _ e, hy_so _ _ (by omega)]
      exact rhs k hk
  · intro k hk
    rw [egz] at hk
    rw [hy_seto _ _ _ (by omega)]
    rw [hy_so _ _ (by omega)]
    exact rst k hk
  · intro k hk
    rw [egz] at hk
    rw [hy_seto _ _ _ (by omega)]
    rw [hy_so _ _ (by omega)]
    exact rwn k hk
  · intro k hk
    rw [egz] at hk
    rw [hy_seto _ _ _ (by omega)]
    rw [hy_so _ _ (by omega)]
    exact rsd k hk
theorem ro_str {b : Nat} {M : hz_M} {q : Nat → Int32} (hR : RO b M q) (hZ : hy_Z q) {g : Nat} {v : Int32} (hg : g < gz q) : RO b (hz_set M (b + 9) g v) (hy_st q (25 + 8 * g + 5) v) := by
  obtain ⟨⟨z1, z2⟩, ⟨z3, z4, z5⟩, ⟨z6, z7, z8⟩, ⟨z9, z10⟩, ⟨z11, z12, z13⟩, ⟨z14, z15, z16⟩⟩ := id hZ
  obtain ⟨⟨f0, f1, f2, f3, f4, f5, f6, f7, f8, f9, f10, f11⟩, rop, rpg, rlk, rwt, rac, rag, rat, rhs, rst, rwn, rsd⟩ := hR
  have egz : gz (hy_st q (25 + 8 * g + 5) v) = gz q := gz_st q v (by omega)
  have elz : lz (hy_st q (25 + 8 * g + 5) v) = lz q := lz_st q v (by omega)
  have epz : pz (hy_st q (25 + 8 * g + 5) v) = pz q := pz_st q v (by omega)
  have etz : tz (hy_st q (25 + 8 * g + 5) v) = tz q := tz_st q v (by omega)
  have etw : ∀ p, p < pz q → tw (hy_st q (25 + 8 * g + 5) v) p = tw q p := fun p _ => tw_st v (fun t ht => by omega) (by omega) p
  have ekp : ∀ p, p < lz q → kpr (hy_st q (25 + 8 * g + 5) v) p = kpr q p := fun p _ => kpr_st v (fun t ht => by omega) (by omega) p
  refine ⟨⟨by rw [hy_seto _ _ _ (by omega), hy_so _ _ (by omega)]; exact f0, by rw [hy_seto _ _ _ (by omega), hy_so _ _ (by omega)]; exact f1, by rw [hy_seto _ _ _ (by omega), hy_so _ _ (by omega)]; exact f2, by rw [hy_seto _ _ _ (by omega), hy_so _ _ (by omega)]; exact f3, by rw [hy_seto _ _ _ (by omega), hy_so _ _ (by omega)]; exact f4, by rw [hy_seto _ _ _ (by omega), hy_so _ _ (by omega)]; exact f5, by rw [hy_seto _ _ _ (by omega), hy_so _ _ (by omega)]; exact f6, by rw [hy_seto _ _ _ (by omega), hy_so _ _ (by omega)]; exact f7, by rw [hy_seto _ _ _ (by omega), hy_so _ _ (by omega)]; exact f8, by rw [hy_seto _ _ _ (by omega), hy_so _ _ (by omega)]; exact f9, by rw [hy_seto _ _ _ (by omega), hy_so _ _ (by omega)]; exact f10, by rw [hy_seto _ _ _ (by omega), hy_so _ _ (by omega)]; exact f11⟩, ?_, ?_, ?_, ?_, ?_, ?_, ?_, ?_, ?_, ?_, ?_⟩
  · intro k hk
    rw [hy_seto _ _ _ (by omega)]
    rw [hy_so _ _ (by omega)]
    exact rop k hk
  · intro k hk
    rw [epz] at hk
    rw [hy_seto _ _ _ (by omega)]
    rw [etw k hk]
    exact rpg k hk
  · intro k hk
    rw [elz] at hk
    rw [hy_seto _ _ _ (by omega)]
    rw [ekp k hk]
    exact rlk k hk
  · intro k hk
    rw [etz] at hk
    rw [hy_seto _ _ _ (by omega)]
    rw [hy_so _ _ (by omega)]
    exact rwt k hk
  · intro k hk
    rw [hy_seto _ _ _ (by omega)]
    rw [hy_so _ _ (by omega)]
    exact rac k hk
  · intro k hk
    rw [egz] at hk
    rw [hy_seto _ _ _ (by omega)]
    rw [hy_so _ _ (by omega)]
    exact rag k hk
  · intro k hk
    rw [egz] at hk
    rw [hy_seto _ _ _ (by omega)]
    rw [hy_so _ _ (by omega)]
    exact rat k hk
  · intro k hk
    rw [egz] at hk
    rw [hy_seto _ _ _ (by omega)]
    rw [hy_so _ _ (by omega)]
    exact rhs k hk
  · intro k hk
    rw [egz] at hk
    by_cases e : k = g
    · subst e
      rw [hy_setk, hy_ss]
    · rw [hy_setn _ _ _ e, hy_so _ _ (by omega)]
      exact rst k hk
  · intro k hk
    rw [egz] at hk
    rw [hy_seto _ _ _ (by omega)]
    rw [hy_so _ _ (by omega)]
    exact rwn k hk
  · intro k hk
    rw [egz] at hk
    rw [hy_seto _ _ _ (by omega)]
    rw [hy_so _ _ (by omega)]
    exact rsd k hk
theorem ro_wrn {b : Nat} {M : hz_M} {q : Nat → Int32} (hR : RO b M q) (hZ : hy_Z q) {g : Nat} {v : Int32} (hg : g < gz q) : RO b (hz_set M (b + 10) g v) (hy_st q (25 + 8 * g + 6) v) := by
  obtain ⟨⟨z1, z2⟩, ⟨z3, z4, z5⟩, ⟨z6, z7, z8⟩, ⟨z9, z10⟩, ⟨z11, z12, z13⟩, ⟨z14, z15, z16⟩⟩ := id hZ
  obtain ⟨⟨f0, f1, f2, f3, f4, f5, f6, f7, f8, f9, f10, f11⟩, rop, rpg, rlk, rwt, rac, rag, rat, rhs, rst, rwn, rsd⟩ := hR
  have egz : gz (hy_st q (25 + 8 * g + 6) v) = gz q := gz_st q v (by omega)
  have elz : lz (hy_st q (25 + 8 * g + 6) v) = lz q := lz_st q v (by omega)
  have epz : pz (hy_st q (25 + 8 * g + 6) v) = pz q := pz_st q v (by omega)
  have etz : tz (hy_st q (25 + 8 * g + 6) v) = tz q := tz_st q v (by omega)
  have etw : ∀ p, p < pz q → tw (hy_st q (25 + 8 * g + 6) v) p = tw q p := fun p _ => tw_st v (fun t ht => by omega) (by omega) p
  have ekp : ∀ p, p < lz q → kpr (hy_st q (25 + 8 * g + 6) v) p = kpr q p := fun p _ => kpr_st v (fun t ht => by omega) (by omega) p
  refine ⟨⟨by rw [hy_seto _ _ _ (by omega), hy_so _ _ (by omega)]; exact f0, by rw [hy_seto _ _ _ (by omega), hy_so _ _ (by omega)]; exact f1, by rw [hy_seto _ _ _ (by omega), hy_so _ _ (by omega)]; exact f2, by rw [hy_seto _ _ _ (by omega), hy_so _ _ (by omega)]; exact f3, by rw [hy_seto _ _ _ (by omega), hy_so _ _ (by omega)]; exact f4, by rw [hy_seto _ _ _ (by omega), hy_so _ _ (by omega)]; exact f5, by rw [hy_seto _ _ _ (by omega), hy_so _ _ (by omega)]; exact f6, by rw [hy_seto _ _ _ (by omega), hy_so _ _ (by omega)]; exact f7, by rw [hy_seto _ _ _ (by omega), hy_so _ _ (by omega)]; exact f8, by rw [hy_seto _ _ _ (by omega), hy_so _ _ (by omega)]; exact f9, by rw [hy_seto _ _ _ (by omega), hy_so _ _ (by omega)]; exact f10, by rw [hy_seto _ _ _ (by omega), hy_so _ _ (by omega)]; exact f11⟩, ?_, ?_, ?_, ?_, ?_, ?_, ?_, ?_, ?_, ?_, ?_⟩
  · intro k hk
    rw [hy_seto _ _ _ (by omega)]
    rw [hy_so _ _ (by omega)]
    exact rop k hk
  · intro k hk
    rw [epz] at hk
    rw [hy_seto _ _ _ (by omega)]
    rw [etw k hk]
    exact rpg k hk
  · intro k hk
    rw [elz] at hk
    rw [hy_seto _ _ _ (by omega)]
    rw [ekp k hk]
    exact rlk k hk
  · intro k hk
    rw [etz] at hk
    rw [hy_seto _ _ _ (by omega)]
    rw [hy_so _ _ (by omega)]
    exact rwt k hk
  · intro k hk
    rw [hy_seto _ _ _ (by omega)]
    rw [hy_so _ _ (by omega)]
    exact rac k hk
  · intro k hk
    rw [egz] at hk
    rw [hy_seto _ _ _ (by omega)]
    rw [hy_so _ _ (by omega)]
    exact rag k hk
  · intro k hk
    rw [egz] at hk
    rw [hy_seto _ _ _ (by omega)]
    rw [hy_so _ _ (by omega)]
    exact rat k hk
  · intro k hk
    rw [egz] at hk
    rw [hy_seto _ _ _ (by omega)]
    rw [hy_so _ _ (by omega)]
    exact rhs k hk
  · intro k hk
    rw [egz] at hk
    rw [hy_seto _ _ _ (by omega)]
    rw [hy_so _ _ (by omega)]
    exact rst k hk
  · intro k hk
    rw [egz] at hk
    by_cases e : k = g
    · subst e
      rw [hy_setk, hy_ss]
    · rw [hy_setn _ _ _ e, hy_so _ _ (by omega)]
      exact rwn k hk
  · intro k hk
    rw [egz] at hk
    rw [hy_seto _ _ _ (by omega)]
    rw [hy_so _ _ (by omega)]
    exact rsd k hk
theorem ro_snt {b : Nat} {M : hz_M} {q : Nat → Int32} (hR : RO b M q) (hZ : hy_Z q) {g : Nat} {v : Int32} (hg : g < gz q) : RO b (hz_set M (b + 11) g v) (hy_st q (25 + 8 * g + 7) v) := by
  obtain ⟨⟨z1, z2⟩, ⟨z3, z4, z5⟩, ⟨z6, z7, z8⟩, ⟨z9, z10⟩, ⟨z11, z12, z13⟩, ⟨z14, z15, z16⟩⟩ := id hZ
  obtain ⟨⟨f0, f1, f2, f3, f4, f5, f6, f7, f8, f9, f10, f11⟩, rop, rpg, rlk, rwt, rac, rag, rat, rhs, rst, rwn, rsd⟩ := hR
  have egz : gz (hy_st q (25 + 8 * g + 7) v) = gz q := gz_st q v (by omega)
  have elz : lz (hy_st q (25 + 8 * g + 7) v) = lz q := lz_st q v (by omega)
  have epz : pz (hy_st q (25 + 8 * g + 7) v) = pz q := pz_st q v (by omega)
  have etz : tz (hy_st q (25 + 8 * g + 7) v) = tz q := tz_st q v (by omega)
  have etw : ∀ p, p < pz q → tw (hy_st q (25 + 8 * g + 7) v) p = tw q p := fun p _ => tw_st v (fun t ht => by omega) (by omega) p
  have ekp : ∀ p, p < lz q → kpr (hy_st q (25 + 8 * g + 7) v) p = kpr q p := fun p _ => kpr_st v (fun t ht => by omega) (by omega) p
  refine ⟨⟨by rw [hy_seto _ _ _ (by omega), hy_so _ _ (by omega)]; exact f0, by rw [hy_seto _ _ _ (by omega), hy_so _ _ (by omega)]; exact f1, by rw [hy_seto _ _ _ (by omega), hy_so _ _ (by omega)]; exact f2, by rw [hy_seto _ _ _ (by omega), hy_so _ _ (by omega)]; exact f3, by rw [hy_seto _ _ _ (by omega), hy_so _ _ (by omega)]; exact f4, by rw [hy_seto _ _ _ (by omega), hy_so _ _ (by omega)]; exact f5, by rw [hy_seto _ _ _ (by omega), hy_so _ _ (by omega)]; exact f6, by rw [hy_seto _ _ _ (by omega), hy_so _ _ (by omega)]; exact f7, by rw [hy_seto _ _ _ (by omega), hy_so _ _ (by omega)]; exact f8, by rw [hy_seto _ _ _ (by omega), hy_so _ _ (by omega)]; exact f9, by rw [hy_seto _ _ _ (by omega), hy_so _ _ (by omega)]; exact f10, by rw [hy_seto _ _ _ (by omega), hy_so _ _ (by omega)]; exact f11⟩, ?_, ?_, ?_, ?_, ?_, ?_, ?_, ?_, ?_, ?_, ?_⟩
  · intro k hk
    rw [hy_seto _ _ _ (by omega)]
    rw [hy_so _ _ (by omega)]
    exact rop k hk
  · intro k hk
    rw [epz] at hk
    rw [hy_seto _ _ _ (by omega)]
    rw [etw k hk]
    exact rpg k hk
  · intro k hk
    rw [elz] at hk
    rw [hy_seto _ _ _ (by omega)]
    rw [ekp k hk]
    exact rlk k hk
  · intro k hk
    rw [etz] at hk
    rw [hy_seto _ _ _ (by omega)]
    rw [hy_so _ _ (by omega)]
    exact rwt k hk
  · intro k hk
    rw [hy_seto _ _ _ (by omega)]
    rw [hy_so _ _ (by omega)]
    exact rac k hk
  · intro k hk
    rw [egz] at hk
    rw [hy_seto _ _ _ (by omega)]
    rw [hy_so _ _ (by omega)]
    exact rag k hk
  · intro k hk
    rw [egz] at hk
    rw [hy_seto _ _ _ (by omega)]
    rw [hy_so _ _ (by omega)]
    exact rat k hk
  · intro k hk
    rw [egz] at hk
    rw [hy_seto _ _ _ (by omega)]
    rw [hy_so _ _ (by omega)]
    exact rhs k hk
  · intro k hk
    rw [egz] at hk
    rw [hy_seto _ _ _ (by omega)]
    rw [hy_so _ _ (by omega)]
    exact rst k hk
  · intro k hk
    rw [egz] at hk
    rw [hy_seto _ _ _ (by omega)]
    rw [hy_so _ _ (by omega)]
    exact rwn k hk
  · intro k hk
    rw [egz] at hk
    by_cases e : k = g
    · subst e
      rw [hy_setk, hy_ss]
    · rw [hy_setn _ _ _ e, hy_so _ _ (by omega)]
      exact rsd k hk
theorem ro_acc {b : Nat} {M : hz_M} {q : Nat → Int32} (hR : RO b M q) (hZ : hy_Z q) {a : Nat} {v : Int32} (ha : a < 9) : RO b (hz_set M (b + 5) a v) (hy_st q (12 + a) v) := by
  obtain ⟨⟨z1, z2⟩, ⟨z3, z4, z5⟩, ⟨z6, z7, z8⟩, ⟨z9, z10⟩, ⟨z11, z12, z13⟩, ⟨z14, z15, z16⟩⟩ := id hZ
  obtain ⟨⟨f0, f1, f2, f3, f4, f5, f6, f7, f8, f9, f10, f11⟩, rop, rpg, rlk, rwt, rac, rag, rat, rhs, rst, rwn, rsd⟩ := hR
  have egz : gz (hy_st q (12 + a) v) = gz q := gz_st q v (by omega)
  have elz : lz (hy_st q (12 + a) v) = lz q := lz_st q v (by omega)
  have epz : pz (hy_st q (12 + a) v) = pz q := pz_st q v (by omega)
  have etz : tz (hy_st q (12 + a) v) = tz q := tz_st q v (by omega)
  have etw : ∀ p, p < pz q → tw (hy_st q (12 + a) v) p = tw q p := fun p _ => tw_st v (fun t ht => by omega) (by omega) p
  have ekp : ∀ p, p < lz q → kpr (hy_st q (12 + a) v) p = kpr q p := fun p _ => kpr_st v (fun t ht => by omega) (by omega) p
  refine ⟨⟨by rw [hy_seto _ _ _ (by omega), hy_so _ _ (by omega)]; exact f0, by rw [hy_seto _ _ _ (by omega), hy_so _ _ (by omega)]; exact f1, by rw [hy_seto _ _ _ (by omega), hy_so _ _ (by omega)]; exact f2, by rw [hy_seto _ _ _ (by omega), hy_so _ _ (by omega)]; exact f3, by rw [hy_seto _ _ _ (by omega), hy_so _ _ (by omega)]; exact f4, by rw [hy_seto _ _ _ (by omega), hy_so _ _ (by omega)]; exact f5, by rw [hy_seto _ _ _ (by omega), hy_so _ _ (by omega)]; exact f6, by rw [hy_seto _ _ _ (by omega), hy_so _ _ (by omega)]; exact f7, by rw [hy_seto _ _ _ (by omega), hy_so _ _ (by omega)]; exact f8, by rw [hy_seto _ _ _ (by omega), hy_so _ _ (by omega)]; exact f9, by rw [hy_seto _ _ _ (by omega), hy_so _ _ (by omega)]; exact f10, by rw [hy_seto _ _ _ (by omega), hy_so _ _ (by omega)]; exact f11⟩, ?_, ?_, ?_, ?_, ?_, ?_, ?_, ?_, ?_, ?_, ?_⟩
  · intro k hk
    rw [hy_seto _ _ _ (by omega)]
    rw [hy_so _ _ (by omega)]
    exact rop k hk
  · intro k hk
    rw [epz] at hk
    rw [hy_seto _ _ _ (by omega)]
    rw [etw k hk]
    exact rpg k hk
  · intro k hk
    rw [elz] at hk
    rw [hy_seto _ _ _ (by omega)]
    rw [ekp k hk]
    exact rlk k hk
  · intro k hk
    rw [etz] at hk
    rw [hy_seto _ _ _ (by omega)]
    rw [hy_so _ _ (by omega)]
    exact rwt k hk
  · intro k hk
    by_cases e : k = a
    · subst e
      rw [hy_setk, hy_ss]
    · rw [hy_setn _ _ _ e, hy_so _ _ (by omega)]
      exact rac k hk
  · intro k hk
    rw [egz] at hk
    rw [hy_seto _ _ _ (by omega)]
    rw [hy_so _ _ (by omega)]
    exact rag k hk
  · intro k hk
    rw [egz] at hk
    rw [hy_seto _ _ _ (by omega)]
    rw [hy_so _ _ (by omega)]
    exact rat k hk
  · intro k hk
    rw [egz] at hk
    rw [hy_seto _ _ _ (by omega)]
    rw [hy_so _ _ (by omega)]
    exact rhs k hk
  · intro k hk
    rw [egz] at hk
    rw [hy_seto _ _ _ (by omega)]
    rw [hy_so _ _ (by omega)]
    exact rst k hk
  · intro k hk
    rw [egz] at hk
    rw [hy_seto _ _ _ (by omega)]
    rw [hy_so _ _ (by omega)]
    exact rwn k hk
  · intro k hk
    rw [egz] at hk
    rw [hy_seto _ _ _ (by omega)]
    rw [hy_so _ _ (by omega)]
    exact rsd k hk
theorem ro_op {b : Nat} {M : hz_M} {q : Nat → Int32} (hR : RO b M q) (hZ : hy_Z q) {a : Nat} {v : Int32} (ha : a < 4) : RO b (hz_set M (b + 1) a v) (hy_st q (21 + a) v) := by
  obtain ⟨⟨z1, z2⟩, ⟨z3, z4, z5⟩, ⟨z6, z7, z8⟩, ⟨z9, z10⟩, ⟨z11, z12, z13⟩, ⟨z14, z15, z16⟩⟩ := id hZ
  obtain ⟨⟨f0, f1, f2, f3, f4, f5, f6, f7, f8, f9, f10, f11⟩, rop, rpg, rlk, rwt, rac, rag, rat, rhs, rst, rwn, rsd⟩ := hR
  have egz : gz (hy_st q (21 + a) v) = gz q := gz_st q v (by omega)
  have elz : lz (hy_st q (21 + a) v) = lz q := lz_st q v (by omega)
  have epz : pz (hy_st q (21 + a) v) = pz q := pz_st q v (by omega)
  have etz : tz (hy_st q (21 + a) v) = tz q := tz_st q v (by omega)
  have etw : ∀ p, p < pz q → tw (hy_st q (21 + a) v) p = tw q p := fun p _ => tw_st v (fun t ht => by omega) (by omega) p
  have ekp : ∀ p, p < lz q → kpr (hy_st q (21 + a) v) p = kpr q p := fun p _ => kpr_st v (fun t ht => by omega) (by omega) p
  refine ⟨⟨by rw [hy_seto _ _ _ (by omega), hy_so _ _ (by omega)]; exact f0, by rw [hy_seto _ _ _ (by omega), hy_so _ _ (by omega)]; exact f1, by rw [hy_seto _ _ _ (by omega), hy_so _ _ (by omega)]; exact f2, by rw [hy_seto _ _ _ (by omega), hy_so _ _ (by omega)]; exact f3, by rw [hy_seto _ _ _ (by omega), hy_so _ _ (by omega)]; exact f4, by rw [hy_seto _ _ _ (by omega), hy_so _ _ (by omega)]; exact f5, by rw [hy_seto _ _ _ (by omega), hy_so _ _ (by omega)]; exact f6, by rw [hy_seto _ _ _ (by omega), hy_so _ _ (by omega)]; exact f7, by rw [hy_seto _ _ _ (by omega), hy_so _ _ (by omega)]; exact f8, by rw [hy_seto _ _ _ (by omega), hy_so _ _ (by omega)]; exact f9, by rw [hy_seto _ _ _ (by omega), hy_so _ _ (by omega)]; exact f10, by rw [hy_seto _ _ _ (by omega), hy_so _ _ (by omega)]; exact f11⟩, ?_, ?_, ?_, ?_, ?_, ?_, ?_, ?_, ?_, ?_, ?_⟩
  · intro k hk
    by_cases e : k = a
    · subst e
      rw [hy_setk, hy_ss]
    · rw [hy_setn _ _ _ e, hy_so _ _ (by omega)]
      exact rop k hk
  · intro k hk
    rw [epz] at hk
    rw [hy_seto _ _ _ (by omega)]
    rw [etw k hk]
    exact rpg k hk
  · intro k hk
    rw [elz] at hk
    rw [hy_seto _ _ _ (by omega)]
    rw [ekp k hk]
    exact rlk k hk
  · intro k hk
    rw [etz] at hk
    rw [hy_seto _ _ _ (by omega)]
    rw [hy_so _ _ (by omega)]
    exact rwt k hk
  · intro k hk
    rw [hy_seto _ _ _ (by omega)]
    rw [hy_so _ _ (by omega)]
    exact rac k hk
  · intro k hk
    rw [egz] at hk
    rw [hy_seto _ _ _ (by omega)]
    rw [hy_so _ _ (by omega)]
    exact rag k hk
  · intro k hk
    rw [egz] at hk
    rw [hy_seto _ _ _ (by omega)]
    rw [hy_so _ _ (by omega)]
    exact rat k hk
  · intro k hk
    rw [egz] at hk
    rw [hy_seto _ _ _ (by omega)]
    rw [hy_so _ _ (by omega)]
    exact rhs k hk
  · intro k hk
    rw [egz] at hk
    rw [hy_seto _ _ _ (by omega)]
    rw [hy_so _ _ (by omega)]
    exact rst k hk
  · intro k hk
    rw [egz] at hk
    rw [hy_seto _ _ _ (by omega)]
    rw [hy_so _ _ (by omega)]
    exact rwn k hk
  · intro k hk
    rw [egz] at hk
    rw [hy_seto _ _ _ (by omega)]
    rw [hy_so _ _ (by omega)]
    exact rsd k hk
theorem ro_wet {b : Nat} {M : hz_M} {q : Nat → Int32} (hR : RO b M q) (hZ : hy_Z q) {t : Nat} {v : Int32} (ht : t < tz q) : RO b (hz_set M (b + 4) t v) (hy_st q (153 + 2 * t) v) := by
  obtain ⟨⟨z1, z2⟩, ⟨z3, z4, z5⟩, ⟨z6, z7, z8⟩, ⟨z9, z10⟩, ⟨z11, z12, z13⟩, ⟨z14, z15, z16⟩⟩ := id hZ
  obtain ⟨⟨f0, f1, f2, f3, f4, f5, f6, f7, f8, f9, f10, f11⟩, rop, rpg, rlk, rwt, rac, rag, rat, rhs, rst, rwn, rsd⟩ := hR
  have egz : gz (hy_st q (153 + 2 * t) v) = gz q := gz_st q v (by omega)
  have elz : lz (hy_st q (153 + 2 * t) v) = lz q := lz_st q v (by omega)
  have epz : pz (hy_st q (153 + 2 * t) v) = pz q := pz_st q v (by omega)
  have etz : tz (hy_st q (153 + 2 * t) v) = tz q := tz_st q v (by omega)
  have etw : ∀ p, p < pz q → tw (hy_st q (153 + 2 * t) v) p = tw q p := fun p _ => tw_st v (fun t ht => by omega) (by omega) p
  have ekp : ∀ p, p < lz q → kpr (hy_st q (153 + 2 * t) v) p = kpr q p := fun p _ => kpr_st v (fun t ht => by omega) (by omega) p
  refine ⟨⟨by rw [hy_seto _ _ _ (by omega), hy_so _ _ (by omega)]; exact f0, by rw [hy_seto _ _ _ (by omega), hy_so _ _ (by omega)]; exact f1, by rw [hy_seto _ _ _ (by omega), hy_so _ _ (by omega)]; exact f2, by rw [hy_seto _ _ _ (by omega), hy_so _ _ (by omega)]; exact f3, by rw [hy_seto _ _ _ (by omega), hy_so _ _ (by omega)]; exact f4, by rw [hy_seto _ _ _ (by omega), hy_so _ _ (by omega)]; exact f5, by rw [hy_seto _ _ _ (by omega), hy_so _ _ (by omega)]; exact f6, by rw [hy_seto _ _ _ (by omega), hy_so _ _ (by omega)]; exact f7, by rw [hy_seto _ _ _ (by omega), hy_so _ _ (by omega)]; exact f8, by rw [hy_seto _ _ _ (by omega), hy_so _ _ (by omega)]; exact f9, by rw [hy_seto _ _ _ (by omega), hy_so _ _ (by omega)]; exact f10, by rw [hy_seto _ _ _ (by omega), hy_so _ _ (by omega)]; exact f11⟩, ?_, ?_, ?_, ?_, ?_, ?_, ?_, ?_, ?_, ?_, ?_⟩
  · intro k hk
    rw [hy_seto _ _ _ (by omega)]
    rw [hy_so _ _ (by omega)]
    exact rop k hk
  · intro k hk
    rw [epz] at hk
    rw [hy_seto _ _ _ (by omega)]
    rw [etw k hk]
    exact rpg k hk
  · intro k hk
    rw [elz] at hk
    rw [hy_seto _ _ _ (by omega)]
    rw [ekp k hk]
    exact rlk k hk
  · intro k hk
    rw [etz] at hk
    by_cases e : k = t
    · subst e
      rw [hy_setk, hy_ss]
    · rw [hy_setn _ _ _ e, hy_so _ _ (by omega)]
      exact rwt k hk
  · intro k hk
    rw [hy_seto _ _ _ (by omega)]
    rw [hy_so _ _ (by omega)]
    exact rac k hk
  · intro k hk
    rw [egz] at hk
    rw [hy_seto _ _ _ (by omega)]
    rw [hy_so _ _ (by omega)]
    exact rag k hk
  · intro k hk
    rw [egz] at hk
    rw [hy_seto _ _ _ (by omega)]
    rw [hy_so _ _ (by omega)]
    exact rat k hk
  · intro k hk
    rw [egz] at hk
    rw [hy_seto _ _ _ (by omega)]
    rw [hy_so _ _ (by omega)]
    exact rhs k hk
  · intro k hk
    rw [egz] at hk
    rw [hy_seto _ _ _ (by omega)]
    rw [hy_so _ _ (by omega)]
    exact rst k hk
  · intro k hk
    rw [egz] at hk
    rw [hy_seto _ _ _ (by omega)]
    rw [hy_so _ _ (by omega)]
    exact rwn k hk
  · intro k hk
    rw [egz] at hk
    rw [hy_seto _ _ _ (by omega)]
    rw [hy_so _ _ (by omega)]
    exact rsd k hk
theorem ro_room {b : Nat} {M : hz_M} {q : Nat → Int32} (hR : RO b M q) (hZ : hy_Z q) {v : Int32} : RO b (hz_set M b 5 v) (hy_st q (5) v) := by
  obtain ⟨⟨z1, z2⟩, ⟨z3, z4, z5⟩, ⟨z6, z7, z8⟩, ⟨z9, z10⟩, ⟨z11, z12, z13⟩, ⟨z14, z15, z16⟩⟩ := id hZ
  obtain ⟨⟨f0, f1, f2, f3, f4, f5, f6, f7, f8, f9, f10, f11⟩, rop, rpg, rlk, rwt, rac, rag, rat, rhs, rst, rwn, rsd⟩ := hR
  have egz : gz (hy_st q (5) v) = gz q := gz_st q v (by omega)
  have elz : lz (hy_st q (5) v) = lz q := lz_st q v (by omega)
  have epz : pz (hy_st q (5) v) = pz q := pz_st q v (by omega)
  have etz : tz (hy_st q (5) v) = tz q := tz_st q v (by omega)
  have etw : ∀ p, p < pz q → tw (hy_st q (5) v) p = tw q p := fun p _ => tw_st v (fun t ht => by omega) (by omega) p
  have ekp : ∀ p, p < lz q → kpr (hy_st q (5) v) p = kpr q p := fun p _ => kpr_st v (fun t ht => by omega) (by omega) p
  refine ⟨⟨by rw [hy_setn _ _ _ (by omega), hy_so _ _ (by omega)]; exact f0, by rw [hy_setn _ _ _ (by omega), hy_so _ _ (by omega)]; exact f1, by rw [hy_setn _ _ _ (by omega), hy_so _ _ (by omega)]; exact f2, by rw [hy_setn _ _ _ (by omega), hy_so _ _ (by omega)]; exact f3, by rw [hy_setn _ _ _ (by omega), hy_so _ _ (by omega)]; exact f4, by rw [hy_setk, hy_ss], by rw [hy_setn _ _ _ (by omega), hy_so _ _ (by omega)]; exact f6, by rw [hy_setn _ _ _ (by omega), hy_so _ _ (by omega)]; exact f7, by rw [hy_setn _ _ _ (by omega), hy_so _ _ (by omega)]; exact f8, by rw [hy_setn _ _ _ (by omega), hy_so _ _ (by omega)]; exact f9, by rw [hy_setn _ _ _ (by omega), hy_so _ _ (by omega)]; exact f10, by rw [hy_setn _ _ _ (by omega), hy_so _ _ (by omega)]; exact f11⟩, ?_, ?_, ?_, ?_, ?_, ?_, ?_, ?_, ?_, ?_, ?_⟩
  · intro k hk
    rw [hy_seto _ _ _ (by omega)]
    rw [hy_so _ _ (by omega)]
    exact rop k hk
  · intro k hk
    rw [epz] at hk
    rw [hy_seto _ _ _ (by omega)]
    rw [etw k hk]
    exact rpg k hk
  · intro k hk
    rw [elz] at hk
    rw [hy_seto _ _ _ (by omega)]
    rw [ekp k hk]
    exact rlk k hk
  · intro k hk
    rw [etz] at hk
    rw [hy_seto _ _ _ (by omega)]
    rw [hy_so _ _ (by omega)]
    exact rwt k hk
  · intro k hk
    rw [hy_seto _ _ _ (by omega)]
    rw [hy_so _ _ (by omega)]
    exact rac k hk
  · intro k hk
    rw [egz] at hk
    rw [hy_seto _ _ _ (by omega)]
    rw [hy_so _ _ (by omega)]
    exact rag k hk
  · intro k hk
    rw [egz] at hk
    rw [hy_seto _ _ _ (by omega)]
    rw [hy_so _ _ (by omega)]
    exact rat k hk
  · intro k hk
    rw [egz] at hk
    rw [hy_seto _ _ _ (by omega)]
    rw [hy_so _ _ (by omega)]
    exact rhs k hk
  · intro k hk
    rw [egz] at hk
    rw [hy_seto _ _ _ (by omega)]
    rw [hy_so _ _ (by omega)]
    exact rst k hk
  · intro k hk
    rw [egz] at hk
    rw [hy_seto _ _ _ (by omega)]
    rw [hy_so _ _ (by omega)]
    exact rwn k hk
  · intro k hk
    rw [egz] at hk
    rw [hy_seto _ _ _ (by omega)]
    rw [hy_so _ _ (by omega)]
    exact rsd k hk
theorem ro_gong {b : Nat} {M : hz_M} {q : Nat → Int32} (hR : RO b M q) (hZ : hy_Z q) {v : Int32} : RO b (hz_set M b 6 v) (hy_st q (6) v) := by
  obtain ⟨⟨z1, z2⟩, ⟨z3, z4, z5⟩, ⟨z6, z7, z8⟩, ⟨z9, z10⟩, ⟨z11, z12, z13⟩, ⟨z14, z15, z16⟩⟩ := id hZ
  obtain ⟨⟨f0, f1, f2, f3, f4, f5, f6, f7, f8, f9, f10, f11⟩, rop, rpg, rlk, rwt, rac, rag, rat, rhs, rst, rwn, rsd⟩ := hR
  have egz : gz (hy_st q (6) v) = gz q := gz_st q v (by omega)
  have elz : lz (hy_st q (6) v) = lz q := lz_st q v (by omega)
  have epz : pz (hy_st q (6) v) = pz q := pz_st q v (by omega)
  have etz : tz (hy_st q (6) v) = tz q := tz_st q v (by omega)
  have etw : ∀ p, p < pz q → tw (hy_st q (6) v) p = tw q p := fun p _ => tw_st v (fun t ht => by omega) (by omega) p
  have ekp : ∀ p, p < lz q → kpr (hy_st q (6) v) p = kpr q p := fun p _ => kpr_st v (fun t ht => by omega) (by omega) p
  refine ⟨⟨by rw [hy_setn _ _ _ (by omega), hy_so _ _ (by omega)]; exact f0, by rw [hy_setn _ _ _ (by omega), hy_so _ _ (by omega)]; exact f1, by rw [hy_setn _ _ _ (by omega), hy_so _ _ (by omega)]; exact f2, by rw [hy_setn _ _ _ (by omega), hy_so _ _ (by omega)]; exact f3, by rw [hy_setn _ _ _ (by omega), hy_so _ _ (by omega)]; exact f4, by rw [hy_setn _ _ _ (by omega), hy_so _ _ (by omega)]; exact f5, by rw [hy_setk, hy_ss], by rw [hy_setn _ _ _ (by omega), hy_so _ _ (by omega)]; exact f7, by rw [hy_setn _ _ _ (by omega), hy_so _ _ (by omega)]; exact f8, by rw [hy_setn _ _ _ (by omega), hy_so _ _ (by omega)]; exact f9, by rw [hy_setn _ _ _ (by omega), hy_so _ _ (by omega)]; exact f10, by rw [hy_setn _ _ _ (by omega), hy_so _ _ (by omega)]; exact f11⟩, ?_, ?_, ?_, ?_, ?_, ?_, ?_, ?_, ?_, ?_, ?_⟩
  · intro k hk
    rw [hy_seto _ _ _ (by omega)]
    rw [hy_so _ _ (by omega)]
    exact rop k hk
  · intro k hk
    rw [epz] at hk
    rw [hy_seto _ _ _ (by omega)]
    rw [etw k hk]
    exact rpg k hk
  · intro k hk
    rw [elz] at hk
    rw [hy_seto _ _ _ (by omega)]
    rw [ekp k hk]
    exact rlk k hk
  · intro k hk
    rw [etz] at hk
    rw [hy_seto _ _ _ (by omega)]
    rw [hy_so _ _ (by omega)]
    exact rwt k hk
  · intro k hk
    rw [hy_seto _ _ _ (by omega)]
    rw [hy_so _ _ (by omega)]
    exact rac k hk
  · intro k hk
    rw [egz] at hk
    rw [hy_seto _ _ _ (by omega)]
    rw [hy_so _ _ (by omega)]
    exact rag k hk
  · intro k hk
    rw [egz] at hk
    rw [hy_seto _ _ _ (by omega)]
    rw [hy_so _ _ (by omega)]
    exact rat k hk
  · intro k hk
    rw [egz] at hk
    rw [hy_seto _ _ _ (by omega)]
    rw [hy_so _ _ (by omega)]
    exact rhs k hk
  · intro k hk
    rw [egz] at hk
    rw [hy_seto _ _ _ (by omega)]
    rw [hy_so _ _ (by omega)]
    exact rst k hk
  · intro k hk
    rw [egz] at hk
    rw [hy_seto _ _ _ (by omega)]
    rw [hy_so _ _ (by omega)]
    exact rwn k hk
  · intro k hk
    rw [egz] at hk
    rw [hy_seto _ _ _ (by omega)]
    rw [hy_so _ _ (by omega)]
    exact rsd k hk
theorem ro_quiet {b : Nat} {M : hz_M} {q : Nat → Int32} (hR : RO b M q) (hZ : hy_Z q) {v : Int32} : RO b (hz_set M b 7 v) (hy_st q (7) v) := by
  obtain ⟨⟨z1, z2⟩, ⟨z3, z4, z5⟩, ⟨z6, z7, z8⟩, ⟨z9, z10⟩, ⟨z11, z12, z13⟩, ⟨z14, z15, z16⟩⟩ := id hZ
  obtain ⟨⟨f0, f1, f2, f3, f4, f5, f6, f7, f8, f9, f10, f11⟩, rop, rpg, rlk, rwt, rac, rag, rat, rhs, rst, rwn, rsd⟩ := hR
  have egz : gz (hy_st q (7) v) = gz q := gz_st q v (by omega)
  have elz : lz (hy_st q (7) v) = lz q := lz_st q v (by omega)
  have epz : pz (hy_st q (7) v) = pz q := pz_st q v (by omega)
  have etz : tz (hy_st q (7) v) = tz q := tz_st q v (by omega)
  have etw : ∀ p, p < pz q → tw (hy_st q (7) v) p = tw q p := fun p _ => tw_st v (fun t ht => by omega) (by omega) p
  have ekp : ∀ p, p < lz q → kpr (hy_st q (7) v) p = kpr q p := fun p _ => kpr_st v (fun t ht => by omega) (by omega) p
  refine ⟨⟨by rw [hy_setn _ _ _ (by omega), hy_so _ _ (by omega)]; exact f0, by rw [hy_setn _ _ _ (by omega), hy_so _ _ (by omega)]; exact f1, by rw [hy_setn _ _ _ (by omega), hy_so _ _ (by omega)]; exact f2, by rw [hy_setn _ _ _ (by omega), hy_so _ _ (by omega)]; exact f3, by rw [hy_setn _ _ _ (by omega), hy_so _ _ (by omega)]; exact f4, by rw [hy_setn _ _ _ (by omega), hy_so _ _ (by omega)]; exact f5, by rw [hy_setn _ _ _ (by omega), hy_so _ _ (by omega)]; exact f6, by rw [hy_setk, hy_ss], by rw [hy_setn _ _ _ (by omega), hy_so _ _ (by omega)]; exact f8, by rw [hy_setn _ _ _ (by omega), hy_so _ _ (by omega)]; exact f9, by rw [hy_setn _ _ _ (by omega), hy_so _ _ (by omega)]; exact f10, by rw [hy_setn _ _ _ (by omega), hy_so _ _ (by omega)]; exact f11⟩, ?_, ?_, ?_, ?_, ?_, ?_, ?_, ?_, ?_, ?_, ?_⟩
  · intro k hk
    rw [hy_seto _ _ _ (by omega)]
    rw [hy_so _ _ (by omega)]
    exact rop k hk
  · intro k hk
    rw [epz] at hk
    rw [hy_seto _ _ _ (by omega)]
    rw [etw k hk]
    exact rpg k hk
  · intro k hk
    rw [elz] at hk
    rw [hy_seto _ _ _ (by omega)]
    rw [ekp k hk]
    exact rlk k hk
  · intro k hk
    rw [etz] at hk
    rw [hy_seto _ _ _ (by omega)]
    rw [hy_so _ _ (by omega)]
    exact rwt k hk
  · intro k hk
    rw [hy_seto _ _ _ (by omega)]
    rw [hy_so _ _ (by omega)]
    exact rac k hk
  · intro k hk
    rw [egz] at hk
    rw [hy_seto _ _ _ (by omega)]
    rw [hy_so _ _ (by omega)]
    exact rag k hk
  · intro k hk
    rw [egz] at hk
    rw [hy_seto _ _ _ (by omega)]
    rw [hy_so _ _ (by omega)]
    exact rat k hk
  · intro k hk
    rw [egz] at hk
    rw [hy_seto _ _ _ (by omega)]
    rw [hy_so _ _ (by omega)]
    exact rhs k hk
  · intro k hk
    rw [egz] at hk
    rw [hy_seto _ _ _ (by omega)]
    rw [hy_so _ _ (by omega)]
    exact rst k hk
  · intro k hk
    rw [egz] at hk
    rw [hy_seto _ _ _ (by omega)]
    rw [hy_so _ _ (by omega)]
    exact rwn k hk
  · intro k hk
    rw [egz] at hk
    rw [hy_seto _ _ _ (by omega)]
    rw [hy_so _ _ (by omega)]
    exact rsd k hk
theorem ro_time {b : Nat} {M : hz_M} {q : Nat → Int32} (hR : RO b M q) (hZ : hy_Z q) {v : Int32} : RO b (hz_set M b 8 v) (hy_st q (8) v) := by
  obtain ⟨⟨z1, z2⟩, ⟨z3, z4, z5⟩, ⟨z6, z7, z8⟩, ⟨z9, z10⟩, ⟨z11, z12, z13⟩, ⟨z14, z15, z16⟩⟩ := id hZ
  obtain ⟨⟨f0, f1, f2, f3, f4, f5, f6, f7, f8, f9, f10, f11⟩, rop, rpg, rlk, rwt, rac, rag, rat, rhs, rst, rwn, rsd⟩ := hR
  have egz : gz (hy_st q (8) v) = gz q := gz_st q v (by omega)
  have elz : lz (hy_st q (8) v) = lz q := lz_st q v (by omega)
  have epz : pz (hy_st q (8) v) = pz q := pz_st q v (by omega)
  have etz : tz (hy_st q (8) v) = tz q := tz_st q v (by omega)
  have etw : ∀ p, p < pz q → tw (hy_st q (8) v) p = tw q p := fun p _ => tw_st v (fun t ht => by omega) (by omega) p
  have ekp : ∀ p, p < lz q → kpr (hy_st q (8) v) p = kpr q p := fun p _ => kpr_st v (fun t ht => by omega) (by omega) p
  refine ⟨⟨by rw [hy_setn _ _ _ (by omega), hy_so _ _ (by omega)]; exact f0, by rw [hy_setn _ _ _ (by omega), hy_so _ _ (by omega)]; exact f1, by rw [hy_setn _ _ _ (by omega), hy_so _ _ (by omega)]; exact f2, by rw [hy_setn _ _ _ (by omega), hy_so _ _ (by omega)]; exact f3, by rw [hy_setn _ _ _ (by omega), hy_so _ _ (by omega)]; exact f4, by rw [hy_setn _ _ _ (by omega), hy_so _ _ (by omega)]; exact f5, by rw [hy_setn _ _ _ (by omega), hy_so _ _ (by omega)]; exact f6, by rw [hy_setn _ _ _ (by omega), hy_so _ _ (by omega)]; exact f7, by rw [hy_setk, hy_ss], by rw [hy_setn _ _ _ (by omega), hy_so _ _ (by omega)]; exact f9, by rw [hy_setn _ _ _ (by omega), hy_so _ _ (by omega)]; exact f10, by rw [hy_setn _ _ _ (by omega), hy_so _ _ (by omega)]; exact f11⟩, ?_, ?_, ?_, ?_, ?_, ?_, ?_, ?_, ?_, ?_, ?_⟩
  · intro k hk
    rw [hy_seto _ _ _ (by omega)]
    rw [hy_so _ _ (by omega)]
    exact rop k hk
  · intro k hk
    rw [epz] at hk
    rw [hy_seto _ _ _ (by omega)]
    rw [etw k hk]
    exact rpg k hk
  · intro k hk
    rw [elz] at hk
    rw [hy_seto _ _ _ (by omega)]
    rw [ekp k hk]
    exact rlk k hk
  · intro k hk
    rw [etz] at hk
    rw [hy_seto _ _ _ (by omega)]
    rw [hy_so _ _ (by omega)]
    exact rwt k hk
  · intro k hk
    rw [hy_seto _ _ _ (by omega)]
    rw [hy_so _ _ (by omega)]
    exact rac k hk
  · intro k hk
    rw [egz] at hk
    rw [hy_seto _ _ _ (by omega)]
    rw [hy_so _ _ (by omega)]
    exact rag k hk
  · intro k hk
    rw [egz] at hk
    rw [hy_seto _ _ _ (by omega)]
    rw [hy_so _ _ (by omega)]
    exact rat k hk
  · intro k hk
    rw [egz] at hk
    rw [hy_seto _ _ _ (by omega)]
    rw [hy_so _ _ (by omega)]
    exact rhs k hk
  · intro k hk
    rw [egz] at hk
    rw [hy_seto _ _ _ (by omega)]
    rw [hy_so _ _ (by omega)]
    exact rst k hk
  · intro k hk
    rw [egz] at hk
    rw [hy_seto _ _ _ (by omega)]
    rw [hy_so _ _ (by omega)]
    exact rwn k hk
  · intro k hk
    rw [egz] at hk
    rw [hy_seto _ _ _ (by omega)]
    rw [hy_so _ _ (by omega)]
    exact rsd k hk
theorem ro_heat {b : Nat} {M : hz_M} {q : Nat → Int32} (hR : RO b M q) (hZ : hy_Z q) {v : Int32} : RO b (hz_set M b 9 v) (hy_st q (9) v) := by
  obtain ⟨⟨z1, z2⟩, ⟨z3, z4, z5⟩, ⟨z6, z7, z8⟩, ⟨z9, z10⟩, ⟨z11, z12, z13⟩, ⟨z14, z15, z16⟩⟩ := id hZ
  obtain ⟨⟨f0, f1, f2, f3, f4, f5, f6, f7, f8, f9, f10, f11⟩, rop, rpg, rlk, rwt, rac, rag, rat, rhs, rst, rwn, rsd⟩ := hR
  have egz : gz (hy_st q (9) v) = gz q := gz_st q v (by omega)
  have elz : lz (hy_st q (9) v) = lz q := lz_st q v (by omega)
  have epz : pz (hy_st q (9) v) = pz q := pz_st q v (by omega)
  have etz : tz (hy_st q (9) v) = tz q := tz_st q v (by omega)
  have etw : ∀ p, p < pz q → tw (hy_st q (9) v) p = tw q p := fun p _ => tw_st v (fun t ht => by omega) (by omega) p
  have ekp : ∀ p, p < lz q → kpr (hy_st q (9) v) p = kpr q p := fun p _ => kpr_st v (fun t ht => by omega) (by omega) p
  refine ⟨⟨by rw [hy_setn _ _ _ (by omega), hy_so _ _ (by omega)]; exact f0, by rw [hy_setn _ _ _ (by omega), hy_so _ _ (by omega)]; exact f1, by rw [hy_setn _ _ _ (by omega), hy_so _ _ (by omega)]; exact f2, by rw [hy_setn _ _ _ (by omega), hy_so _ _ (by omega)]; exact f3, by rw [hy_setn _ _ _ (by omega), hy_so _ _ (by omega)]; exact f4, by rw [hy_setn _ _ _ (by omega), hy_so _ _ (by omega)]; exact f5, by rw [hy_setn _ _ _ (by omega), hy_so _ _ (by omega)]; exact f6, by rw [hy_setn _ _ _ (by omega), hy_so _ _ (by omega)]; exact f7, by rw [hy_setn _ _ _ (by omega), hy_so _ _ (by omega)]; exact f8, by rw [hy_setk, hy_ss], by rw [hy_setn _ _ _ (by omega), hy_so _ _ (by omega)]; exact f10, by rw [hy_setn _ _ _ (by omega), hy_so _ _ (by omega)]; exact f11⟩, ?_, ?_, ?_, ?_, ?_, ?_, ?_, ?_, ?_, ?_, ?_⟩
  · intro k hk
    rw [hy_seto _ _ _ (by omega)]
    rw [hy_so _ _ (by omega)]
    exact rop k hk
  · intro k hk
    rw [epz] at hk
    rw [hy_seto _ _ _ (by omega)]
    rw [etw k hk]
    exact rpg k hk
  · intro k hk
    rw [elz] at hk
    rw [hy_seto _ _ _ (by omega)]
    rw [ekp k hk]
    exact rlk k hk
  · intro k hk
    rw [etz] at hk
    rw [hy_seto _ _ _ (by omega)]
    rw [hy_so _ _ (by omega)]
    exact rwt k hk
  · intro k hk
    rw [hy_seto _ _ _ (by omega)]
    rw [hy_so _ _ (by omega)]
    exact rac k hk
  · intro k hk
    rw [egz] at hk
    rw [hy_seto _ _ _ (by omega)]
    rw [hy_so _ _ (by omega)]
    exact rag k hk
  · intro k hk
    rw [egz] at hk
    rw [hy_seto _ _ _ (by omega)]
    rw [hy_so _ _ (by omega)]
    exact rat k hk
  · intro k hk
    rw [egz] at hk
    rw [hy_seto _ _ _ (by omega)]
    rw [hy_so _ _ (by omega)]
    exact rhs k hk
  · intro k hk
    rw [egz] at hk
    rw [hy_seto _ _ _ (by omega)]
    rw [hy_so _ _ (by omega)]
    exact rst k hk
  · intro k hk
    rw [egz] at hk
    rw [hy_seto _ _ _ (by omega)]
    rw [hy_so _ _ (by omega)]
    exact rwn k hk
  · intro k hk
    rw [egz] at hk
    rw [hy_seto _ _ _ (by omega)]
    rw [hy_so _ _ (by omega)]
    exact rsd k hk
theorem ro_since {b : Nat} {M : hz_M} {q : Nat → Int32} (hR : RO b M q) (hZ : hy_Z q) {v : Int32} : RO b (hz_set M b 11 v) (hy_st q (10) v) := by
  obtain ⟨⟨z1, z2⟩, ⟨z3, z4, z5⟩, ⟨z6, z7, z8⟩, ⟨z9, z10⟩, ⟨z11, z12, z13⟩, ⟨z14, z15, z16⟩⟩ := id hZ
  obtain ⟨⟨f0, f1, f2, f3, f4, f5, f6, f7, f8, f9, f10, f11⟩, rop, rpg, rlk, rwt, rac, rag, rat, rhs, rst, rwn, rsd⟩ := hR
  have egz : gz (hy_st q (10) v) = gz q := gz_st q v (by omega)
  have elz : lz (hy_st q (10) v) = lz q := lz_st q v (by omega)
  have epz : pz (hy_st q (10) v) = pz q := pz_st q v (by omega)
  have etz : tz (hy_st q (10) v) = tz q := tz_st q v (by omega)
  have etw : ∀ p, p < pz q → tw (hy_st q (10) v) p = tw q p := fun p _ => tw_st v (fun t ht => by omega) (by omega) p
  have ekp : ∀ p, p < lz q → kpr (hy_st q (10) v) p = kpr q p := fun p _ => kpr_st v (fun t ht => by omega) (by omega) p
  refine ⟨⟨by rw [hy_setn _ _ _ (by omega), hy_so _ _ (by omega)]; exact f0, by rw [hy_setn _ _ _ (by omega), hy_so _ _ (by omega)]; exact f1, by rw [hy_setn _ _ _ (by omega), hy_so _ _ (by omega)]; exact f2, by rw [hy_setn _ _ _ (by omega), hy_so _ _ (by omega)]; exact f3, by rw [hy_setn _ _ _ (by omega), hy_so _ _ (by omega)]; exact f4, by rw [hy_setn _ _ _ (by omega), hy_so _ _ (by omega)]; exact f5, by rw [hy_setn _ _ _ (by omega), hy_so _ _ (by omega)]; exact f6, by rw [hy_setn _ _ _ (by omega), hy_so _ _ (by omega)]; exact f7, by rw [hy_setn _ _ _ (by omega), hy_so _ _ (by omega)]; exact f8, by rw [hy_setn _ _ _ (by omega), hy_so _ _ (by omega)]; exact f9, by rw [hy_setn _ _ _ (by omega), hy_so _ _ (by omega)]; exact f10, by rw [hy_setk, hy_ss]⟩, ?_, ?_, ?_, ?_, ?_, ?_, ?_, ?_, ?_, ?_, ?_⟩
  · intro k hk
    rw [hy_seto _ _ _ (by omega)]
    rw [hy_so _ _ (by omega)]
    exact rop k hk
  · intro k hk
    rw [epz] at hk
    rw [hy_seto _ _ _ (by omega)]
    rw [etw k hk]
    exact rpg k hk
  · intro k hk
    rw [elz] at hk
    rw [hy_seto _ _ _ (by omega)]
    rw [ekp k hk]
    exact rlk k hk
  · intro k hk
    rw [etz] at hk
    rw [hy_seto _ _ _ (by omega)]
    rw [hy_so _ _ (by omega)]
    exact rwt k hk
  · intro k hk
    rw [hy_seto _ _ _ (by omega)]
    rw [hy_so _ _ (by omega)]
    exact rac k hk
  · intro k hk
    rw [egz] at hk
    rw [hy_seto _ _ _ (by omega)]
    rw [hy_so _ _ (by omega)]
    exact rag k hk
  · intro k hk
    rw [egz] at hk
    rw [hy_seto _ _ _ (by omega)]
    rw [hy_so _ _ (by omega)]
    exact rat k hk
  · intro k hk
    rw [egz] at hk
    rw [hy_seto _ _ _ (by omega)]
    rw [hy_so _ _ (by omega)]
    exact rhs k hk
  · intro k hk
    rw [egz] at hk
    rw [hy_seto _ _ _ (by omega)]
    rw [hy_so _ _ (by omega)]
    exact rst k hk
  · intro k hk
    rw [egz] at hk
    rw [hy_seto _ _ _ (by omega)]
    rw [hy_so _ _ (by omega)]
    exact rwn k hk
  · intro k hk
    rw [egz] at hk
    rw [hy_seto _ _ _ (by omega)]
    rw [hy_so _ _ (by omega)]
    exact rsd k hk
theorem ro_pegoff {b : Nat} {M : hz_M} {q : Nat → Int32} (hR : RO b M q) (hZ : hy_Z q) (hQ : inj (fun t => q (153 + 2 * t + 1)) (tz q)) {t p0 : Nat} {v vr : Int32} (hv : v = -1) (hvr : vr = -1) (ht : t < tz q) (hp0 : p0 < pz q) (hpt : q (153 + 2 * t + 1) = nI p0) : RO b (hz_set M (b + 2) p0 vr) (hy_st q (153 + 2 * t + 1) v) := by
  obtain ⟨⟨z1, z2⟩, ⟨z3, z4, z5⟩, ⟨z6, z7, z8⟩, ⟨z9, z10⟩, ⟨z11, z12, z13⟩, ⟨z14, z15, z16⟩⟩ := id hZ
  obtain ⟨⟨f0, f1, f2, f3, f4, f5, f6, f7, f8, f9, f10, f11⟩, rop, rpg, rlk, rwt, rac, rag, rat, rhs, rst, rwn, rsd⟩ := hR
  have egz : gz (hy_st q (153 + 2 * t + 1) v) = gz q := gz_st q v (by omega)
  have elz : lz (hy_st q (153 + 2 * t + 1) v) = lz q := lz_st q v (by omega)
  have epz : pz (hy_st q (153 + 2 * t + 1) v) = pz q := pz_st q v (by omega)
  have etz : tz (hy_st q (153 + 2 * t + 1) v) = tz q := tz_st q v (by omega)
  have etw : ∀ p, p < pz q → tw (hy_st q (153 + 2 * t + 1) v) p = if p = p0 then vr else tw q p := by
    intro p hp
    rw [tw_fk, tw_fk, etz, hvr]
    exact fk_off hQ ht (by omega) hpt (by rw [hy_ss, hv]) (fun k h1 h2 => hy_so _ _ (by omega)) (by omega)
  have ekp : ∀ p, p < lz q → kpr (hy_st q (153 + 2 * t + 1) v) p = kpr q p := fun p _ => kpr_st v (fun t ht => by omega) (by omega) p
  refine ⟨⟨by rw [hy_seto _ _ _ (by omega), hy_so _ _ (by omega)]; exact f0, by rw [hy_seto _ _ _ (by omega), hy_so _ _ (by omega)]; exact f1, by rw [hy_seto _ _ _ (by omega), hy_so _ _ (by omega)]; exact f2, by rw [hy_seto _ _ _ (by omega), hy_so _ _ (by omega)]; exact f3, by rw [hy_seto _ _ _ (by omega), hy_so _ _ (by omega)]; exact f4, by rw [hy_seto _ _ _ (by omega), hy_so _ _ (by omega)]; exact f5, by rw [hy_seto _ _ _ (by omega), hy_so _ _ (by omega)]; exact f6, by rw [hy_seto _ _ _ (by omega), hy_so _ _ (by omega)]; exact f7, by rw [hy_seto _ _ _ (by omega), hy_so _ _ (by omega)]; exact f8, by rw [hy_seto _ _ _ (by omega), hy_so _ _ (by omega)]; exact f9, by rw [hy_seto _ _ _ (by omega), hy_so _ _ (by omega)]; exact f10, by rw [hy_seto _ _ _ (by omega), hy_so _ _ (by omega)]; exact f11⟩, ?_, ?_, ?_, ?_, ?_, ?_, ?_, ?_, ?_, ?_, ?_⟩
  · intro k hk
    rw [hy_seto _ _ _ (by omega)]
    rw [hy_so _ _ (by omega)]
    exact rop k hk
  · intro k hk
    rw [epz] at hk
    rw [etw k hk]
    by_cases e : k = p0
    · subst e
      rw [hy_setk, if_pos rfl]
    · rw [hy_setn _ _ _ e, if_neg e]
      exact rpg k hk
  · intro k hk
    rw [elz] at hk
    rw [hy_seto _ _ _ (by omega)]
    rw [ekp k hk]
    exact rlk k hk
  · intro k hk
    rw [etz] at hk
    rw [hy_seto _ _ _ (by omega)]
    rw [hy_so _ _ (by omega)]
    exact rwt k hk
  · intro k hk
    rw [hy_seto _ _ _ (by omega)]
    rw [hy_so _ _ (by omega)]
    exact rac k hk
  · intro k hk
    rw [egz] at hk
    rw [hy_seto _ _ _ (by omega)]
    rw [hy_so _ _ (by omega)]
    exact rag k hk
  · intro k hk
    rw [egz] at hk
    rw [hy_seto _ _ _ (by omega)]
    rw [hy_so _ _ (by omega)]
    exact rat k hk
  · intro k hk
    rw [egz] at hk
    rw [hy_seto _ _ _ (by omega)]
    rw [hy_so _ _ (by omega)]
    exact rhs k hk
  · intro k hk
    rw [egz] at hk
    rw [hy_seto _ _ _ (by omega)]
    rw [hy_so _ _ (by omega)]
    exact rst k hk
  · intro k hk
    rw [egz] at hk
    rw [hy_seto _ _ _ (by omega)]
    rw [hy_so _ _ (by omega)]
    exact rwn k hk
  · intro k hk
    rw [egz] at hk
    rw [hy_seto _ _ _ (by omega)]
    rw [hy_so _ _ (by omega)]
    exact rsd k hk
theorem ro_pegon {b : Nat} {M : hz_M} {q : Nat → Int32} (hR : RO b M q) (hZ : hy_Z q) (hQ : inj (fun t => q (153 + 2 * t + 1)) (tz q)) {t p0 : Nat} {v vr : Int32} (hv : v = nI p0) (hvr : vr = nI t) (ht : t < tz q) (hp0 : p0 < pz q) (hpt : q (153 + 2 * t + 1) = -1) (htw : tw q p0 = -1) : RO b (hz_set M (b + 2) p0 vr) (hy_st q (153 + 2 * t + 1) v) := by
  obtain ⟨⟨z1, z2⟩, ⟨z3, z4, z5⟩, ⟨z6, z7, z8⟩, ⟨z9, z10⟩, ⟨z11, z12, z13⟩, ⟨z14, z15, z16⟩⟩ := id hZ
  obtain ⟨⟨f0, f1, f2, f3, f4, f5, f6, f7, f8, f9, f10, f11⟩, rop, rpg, rlk, rwt, rac, rag, rat, rhs, rst, rwn, rsd⟩ := hR
  have egz : gz (hy_st q (153 + 2 * t + 1) v) = gz q := gz_st q v (by omega)
  have elz : lz (hy_st q (153 + 2 * t + 1) v) = lz q := lz_st q v (by omega)
  have epz : pz (hy_st q (153 + 2 * t + 1) v) = pz q := pz_st q v (by omega)
  have etz : tz (hy_st q (153 + 2 * t + 1) v) = tz q := tz_st q v (by omega)
  have etw : ∀ p, p < pz q → tw (hy_st q (153 + 2 * t + 1) v) p = if p = p0 then vr else tw q p := by
    intro p hp
    rw [tw_fk, tw_fk, etz, hvr]
    refine fk_on hQ ht (by omega) hpt (fun k hk e => ?_) (by rw [hy_ss, hv]) (fun k h1 h2 => hy_so _ _ (by omega)) (by omega)
    have e2 := fk_is (f := fun t => q (153 + 2 * t + 1)) (by omega) hk e hQ
    rw [tw_fk, e2, hy_n1 (by omega)] at htw
    exact htw
  have ekp : ∀ p, p < lz q → kpr (hy_st q (153 + 2 * t + 1) v) p = kpr q p := fun p _ => kpr_st v (fun t ht => by omega) (by omega) p
  refine ⟨⟨by rw [hy_seto _ _ _ (by omega), hy_so _ _ (by omega)]; exact f0, by rw [hy_seto _ _ _ (by omega), hy_so _ _ (by omega)]; exact f1, by rw [hy_seto _ _ _ (by omega), hy_so _ _ (by omega)]; exact f2, by rw [hy_seto _ _ _ (by omega), hy_so _ _ (by omega)]; exact f3, by rw [hy_seto _ _ _ (by omega), hy_so _ _ (by omega)]; exact f4, by rw [hy_seto _ _ _ (by omega), hy_so _ _ (by omega)]; exact f5, by rw [hy_seto _ _ _ (by omega), hy_so _ _ (by omega)]; exact f6, by rw [hy_seto _ _ _ (by omega), hy_so _ _ (by omega)]; exact f7, by rw [hy_seto _ _ _ (by omega), hy_so _ _ (by omega)]; exact f8, by rw [hy_seto _ _ _ (by omega), hy_so _ _ (by omega)]; exact f9, by rw [hy_seto _ _ _ (by omega), hy_so _ _ (by omega)]; exact f10, by rw [hy_seto _ _ _ (by omega), hy_so _ _ (by omega)]; exact f11⟩, ?_, ?_, ?_, ?_, ?_, ?_, ?_, ?_, ?_, ?_, ?_⟩
  · intro k hk
    rw [hy_seto _ _ _ (by omega)]
    rw [hy_so _ _ (by omega)]
    exact rop k hk
  · intro k hk
    rw [epz] at hk
    rw [etw k hk]
    by_cases e : k = p0
    · subst e
      rw [hy_setk, if_pos rfl]
    · rw [hy_setn _ _ _ e, if_neg e]
      exact rpg k hk
  · intro k hk
    rw [elz] at hk
    rw [hy_seto _ _ _ (by omega)]
    rw [ekp k hk]
    exact rlk k hk
  · intro k hk
    rw [etz] at hk
    rw [hy_seto _ _ _ (by omega)]
    rw [hy_so _ _ (by omega)]
    exact rwt k hk
  · intro k hk
    rw [hy_seto _ _ _ (by omega)]
    rw [hy_so _ _ (by omega)]
    exact rac k hk
  · intro k hk
    rw [egz] at hk
    rw [hy_seto _ _ _ (by omega)]
    rw [hy_so _ _ (by omega)]
    exact rag k hk
  · intro k hk
    rw [egz] at hk
    rw [hy_seto _ _ _ (by omega)]
    rw [hy_so _ _ (by omega)]
    exact rat k hk
  · intro k hk
    rw [egz] at hk
    rw [hy_seto _ _ _ (by omega)]
    rw [hy_so _ _ (by omega)]
    exact rhs k hk
  · intro k hk
    rw [egz] at hk
    rw [hy_seto _ _ _ (by omega)]
    rw [hy_so _ _ (by omega)]
    exact rst k hk
  · intro k hk
    rw [egz] at hk
    rw [hy_seto _ _ _ (by omega)]
    rw [hy_so _ _ (by omega)]
    exact rwn k hk
  · intro k hk
    rw [egz] at hk
    rw [hy_seto _ _ _ (by omega)]
    rw [hy_so _ _ (by omega)]
    exact rsd k hk
theorem ro_lkoff {b : Nat} {M : hz_M} {q : Nat → Int32} (hR : RO b M q) (hZ : hy_Z q) (hQ : inj (fun g => q (25 + 8 * g + 3)) (gz q)) {g l : Nat} {v vr : Int32} (hv : v = -1) (hvr : vr = -1) (hg : g < gz q) (hl : l < lz q) (hlg : q (25 + 8 * g + 3) = nI l) : RO b (hz_set M (b + 3) l vr) (hy_st q (25 + 8 * g + 3) v) := by
  obtain ⟨⟨z1, z2⟩, ⟨z3, z4, z5⟩, ⟨z6, z7, z8⟩, ⟨z9, z10⟩, ⟨z11, z12, z13⟩, ⟨z14, z15, z16⟩⟩ := id hZ
  obtain ⟨⟨f0, f1, f2, f3, f4, f5, f6, f7, f8, f9, f10, f11⟩, rop, rpg, rlk, rwt, rac, rag, rat, rhs, rst, rwn, rsd⟩ := hR
  have egz : gz (hy_st q (25 + 8 * g + 3) v) = gz q := gz_st q v (by omega)
  have elz : lz (hy_st q (25 + 8 * g + 3) v) = lz q := lz_st q v (by omega)
  have epz : pz (hy_st q (25 + 8 * g + 3) v) = pz q := pz_st q v (by omega)
  have etz : tz (hy_st q (25 + 8 * g + 3) v) = tz q := tz_st q v (by omega)
  have etw : ∀ p, p < pz q → tw (hy_st q (25 + 8 * g + 3) v) p = tw q p := fun p _ => tw_st v (fun t ht => by omega) (by omega) p
  have ekp : ∀ p, p < lz q → kpr (hy_st q (25 + 8 * g + 3) v) p = if p = l then vr else kpr q p := by
    intro p hp
    rw [kpr_fk, kpr_fk, egz, hvr]
    exact fk_off hQ hg (by omega) hlg (by rw [hy_ss, hv]) (fun k h1 h2 => hy_so _ _ (by omega)) (by omega)
  refine ⟨⟨by rw [hy_seto _ _ _ (by omega), hy_so _ _ (by omega)]; exact f0, by rw [hy_seto _ _ _ (by omega), hy_so _ _ (by omega)]; exact f1, by rw [hy_seto _ _ _ (by omega), hy_so _ _ (by omega)]; exact f2, by rw [hy_seto _ _ _ (by omega), hy_so _ _ (by omega)]; exact f3, by rw [hy_seto _ _ _ (by omega), hy_so _ _ (by omega)]; exact f4, by rw [hy_seto _ _ _ (by omega), hy_so _ _ (by omega)]; exact f5, by rw [hy_seto _ _ _ (by omega), hy_so _ _ (by omega)]; exact f6, by rw [hy_seto _ _ _ (by omega), hy_so _ _ (by omega)]; exact f7, by rw [hy_seto _ _ _ (by omega), hy_so _ _ (by omega)]; exact f8, by rw [hy_seto _ _ _ (by omega), hy_so _ _ (by omega)]; exact f9, by rw [hy_seto _ _ _ (by omega), hy_so _ _ (by omega)]; exact f10, by rw [hy_seto _ _ _ (by omega), hy_so _ _ (by omega)]; exact f11⟩, ?_, ?_, ?_, ?_, ?_, ?_, ?_, ?_, ?_, ?_, ?_⟩
  · intro k hk
    rw [hy_seto _ _ _ (by omega)]
    rw [hy_so _ _ (by omega)]
    exact rop k hk
  · intro k hk
    rw [epz] at hk
    rw [hy_seto _ _ _ (by omega)]
    rw [etw k hk]
    exact rpg k hk
  · intro k hk
    rw [elz] at hk
    rw [ekp k hk]
    by_cases e : k = l
    · subst e
      rw [hy_setk, if_pos rfl]
    · rw [hy_setn _ _ _ e, if_neg e]
      exact rlk k hk
  · intro k hk
    rw [etz] at hk
    rw [hy_seto _ _ _ (by omega)]
    rw [hy_so _ _ (by omega)]
    exact rwt k hk
  · intro k hk
    rw [hy_seto _ _ _ (by omega)]
    rw [hy_so _ _ (by omega)]
    exact rac k hk
  · intro k hk
    rw [egz] at hk
    rw [hy_seto _ _ _ (by omega)]
    rw [hy_so _ _ (by omega)]
    exact rag k hk
  · intro k hk
    rw [egz] at hk
    rw [hy_seto _ _ _ (by omega)]
    rw [hy_so _ _ (by omega)]
    exact rat k hk
  · intro k hk
    rw [egz] at hk
    rw [hy_seto _ _ _ (by omega)]
    rw [hy_so _ _ (by omega)]
    exact rhs k hk
  · intro k hk
    rw [egz] at hk
    rw [hy_seto _ _ _ (by omega)]
    rw [hy_so _ _ (by omega)]
    exact rst k hk
  · intro k hk
    rw [egz] at hk
    rw [hy_seto _ _ _ (by omega)]
    rw [hy_so _ _ (by omega)]
    exact rwn k hk
  · intro k hk
    rw [egz] at hk
    rw [hy_seto _ _ _ (by omega)]
    rw [hy_so _ _ (by omega)]
    exact rsd k hk
theorem ro_lkon {b : Nat} {M : hz_M} {q : Nat → Int32} (hR : RO b M q) (hZ : hy_Z q) (hQ : inj (fun g => q (25 + 8 * g + 3)) (gz q)) {g l : Nat} {v vr : Int32} (hv : v = nI l) (hvr : vr = nI g) (hg : g < gz q) (hl : l < lz q) (hlg : q (25 + 8 * g + 3) = -1) (hkp : kpr q l = -1) : RO b (hz_set M (b + 3) l vr) (hy_st q (25 + 8 * g + 3) v) := by
  obtain ⟨⟨z1, z2⟩, ⟨z3, z4, z5⟩, ⟨z6, z7, z8⟩, ⟨z9, z10⟩, ⟨z11, z12, z13⟩, ⟨z14, z15, z16⟩⟩ := id hZ
  obtain ⟨⟨f0, f1, f2, f3, f4, f5, f6, f7, f8, f9, f10, f11⟩, rop, rpg, rlk, rwt, rac, rag, rat, rhs, rst, rwn, rsd⟩ := hR
  have egz : gz (hy_st q (25 + 8 * g + 3) v) = gz q := gz_st q v (by omega)
  have elz : lz (hy_st q (25 + 8 * g + 3) v) = lz q := lz_st q v (by omega)
  have epz : pz (hy_st q (25 + 8 * g + 3) v) = pz q := pz_st q v (by omega)
  have etz : tz (hy_st q (25 + 8 * g + 3) v) = tz q := tz_st q v (by omega)
  have etw : ∀ p, p < pz q → tw (hy_st q (25 + 8 * g + 3) v) p = tw q p := fun p _ => tw_st v (fun t ht => by omega) (by omega) p
  have ekp : ∀ p, p < lz q → kpr (hy_st q (25 + 8 * g + 3) v) p = if p = l then vr else kpr q p := by
    intro p hp
    rw [kpr_fk, kpr_fk, egz, hvr]
    refine fk_on hQ hg (by omega) hlg (fun k hk e => ?_) (by rw [hy_ss, hv]) (fun k h1 h2 => hy_so _ _ (by omega)) (by omega)
    have e2 := fk_is (f := fun g => q (25 + 8 * g + 3)) (by omega) hk e hQ
    rw [kpr_fk, e2, hy_n1 (by omega)] at hkp
    exact hkp
  refine ⟨⟨by rw [hy_seto _ _ _ (by omega), hy_so _ _ (by omega)]; exact f0, by rw [hy_seto _ _ _ (by omega), hy_so _ _ (by omega)]; exact f1, by rw [hy_seto _ _ _ (by omega), hy_so _ _ (by omega)]; exact f2, by rw [hy_seto _ _ _ (by omega), hy_so _ _ (by omega)]; exact f3, by rw [hy_seto _ _ _ (by omega), hy_so _ _ (by omega)]; exact f4, by rw [hy_seto _ _ _ (by omega), hy_so _ _ (by omega)]; exact f5, by rw [hy_seto _ _ _ (by omega), hy_so _ _ (by omega)]; exact f6, by rw [hy_seto _ _ _ (by omega), hy_so _ _ (by omega)]; exact f7, by rw [hy_seto _ _ _ (by omega), hy_so _ _ (by omega)]; exact f8, by rw [hy_seto _ _ _ (by omega), hy_so _ _ (by omega)]; exact f9, by rw [hy_seto _ _ _ (by omega), hy_so _ _ (by omega)]; exact f10, by rw [hy_seto _ _ _ (by omega), hy_so _ _ (by omega)]; exact f11⟩, ?_, ?_, ?_, ?_, ?_, ?_, ?_, ?_, ?_, ?_, ?_⟩
  · intro k hk
    rw [hy_seto _ _ _ (by omega)]
    rw [hy_so _ _ (by omega)]
    exact rop k hk
  · intro k hk
    rw [epz] at hk
    rw [hy_seto _ _ _ (by omega)]
    rw [etw k hk]
    exact rpg k hk
  · intro k hk
    rw [elz] at hk
    rw [ekp k hk]
    by_cases e : k = l
    · subst e
      rw [hy_setk, if_pos rfl]
    · rw [hy_setn _ _ _ e, if_neg e]
      exact rlk k hk
  · intro k hk
    rw [etz] at hk
    rw [hy_seto _ _ _ (by omega)]
    rw [hy_so _ _ (by omega)]
    exact rwt k hk
  · intro k hk
    rw [hy_seto _ _ _ (by omega)]
    rw [hy_so _ _ (by omega)]
    exact rac k hk
  · intro k hk
    rw [egz] at hk
    rw [hy_seto _ _ _ (by omega)]
    rw [hy_so _ _ (by omega)]
    exact rag k hk
  · intro k hk
    rw [egz] at hk
    rw [hy_seto _ _ _ (by omega)]
    rw [hy_so _ _ (by omega)]
    exact rat k hk
  · intro k hk
    rw [egz] at hk
    rw [hy_seto _ _ _ (by omega)]
    rw [hy_so _ _ (by omega)]
    exact rhs k hk
  · intro k hk
    rw [egz] at hk
    rw [hy_seto _ _ _ (by omega)]
    rw [hy_so _ _ (by omega)]
    exact rst k hk
  · intro k hk
    rw [egz] at hk
    rw [hy_seto _ _ _ (by omega)]
    rw [hy_so _ _ (by omega)]
    exact rwn k hk
  · intro k hk
    rw [egz] at hk
    rw [hy_seto _ _ _ (by omega)]
    rw [hy_so _ _ (by omega)]
    exact rsd k hk
