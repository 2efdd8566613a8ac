
def Snap (b : Nat) (M : hz_M) (q : Nat → Int32) : Prop := hy_Z q ∧ hy_Ho M q ∧ hy_RC b M q ∧ hy_Q q ∧ hy_T q ∧ (∀ k, 185 ≤ k → q k = 0)
def Hist (M : hz_M) : Prop := ∃ u w : Nat, u ≤ 8 ∧ w < 8 ∧ M 178 6 = nI u ∧ M 32 4 = nI u ∧ M 32 3 = nI w ∧ ∀ j, j < u → Snap (36 + 14 * ((w + 9 + j - u) % 8)) M (fun k => if k < 185 then M 182 (185 * j + k) else 0)
def Save (M : hz_M) : Prop := ∀ s, s < 2 → M 35 s = M 184 s ∧ (M 35 s = 0 ∨ (M 35 s = 1 ∧ Snap (148 + 14 * s) M (fun k => if k < 185 then M 183 (185 * s + k) else 0)))
def Txt (M : hz_M) : Prop := ∃ n : Nat, n ≤ 600 ∧ M 9 1 = nI n ∧ M 178 11 = nI n ∧ ∀ i, i < n → M 10 i = M 186 i ∧ ∃ c, 1 ≤ c ∧ c ≤ 255 ∧ M 10 i = nI c
def Rep (M : hz_M) : Prop := ∃ n : Nat, n ≤ 256 ∧ M 176 2 = nI n ∧ M 178 27 = nI n ∧ ∀ i, i < n → M 177 i = M 191 i
def Inv (M : hz_M) : Prop := Snap 11 M (M 179) ∧ Hist M ∧ Save M ∧ M 26 3 = M 178 7 ∧ M 0 9 = M 178 12 ∧ Txt M ∧ Rep M ∧ M 178 24 = 0
theorem Snap_fr {b : Nat} {M M' : hz_M} {q : Nat → Int32} (h : ∀ a, a = 1 ∨ a = 2 ∨ a = 3 ∨ a = 4 ∨ (b ≤ a ∧ a ≤ b + 13) → M' a = M a) (s : Snap b M q) : Snap b M' q := by
  obtain ⟨hZ, hH, hR, hQ, hT⟩ := s
  refine ⟨hZ, ?_, ?_, hQ, hT⟩
  · unfold hy_Ho nmd at *
    rw [h 1 (by omega), h 2 (by omega), h 3 (by omega), h 4 (by omega)]
    exact hH
  · unfold hy_RC at *
    rw [h b (by omega), h (b + 13) (by omega), h (b + 1) (by omega), h (b + 2) (by omega), h (b + 3) (by omega), h (b + 4) (by omega), h (b + 5) (by omega), h (b + 6) (by omega), h (b + 7) (by omega), h (b + 8) (by omega), h (b + 9) (by omega), h (b + 10) (by omega), h (b + 11) (by omega), h (b + 12) (by omega)]
    exact hR
theorem Inv_fr {M M' : hz_M} (h : ∀ a, a ≠ 193 → a ≠ 178 → M' a = M a) (h8 : ∀ b, b ≠ 8 → M' 178 b = M 178 b) (I : Inv M) : Inv M' := by
  obtain ⟨i1, ⟨u, w, h1, h2, h3, h4, h5, h6⟩, i3, i4, i5, ⟨n, t1, t2, t3, t4⟩, ⟨m, p1, p2, p3, p4⟩, i8⟩ := I
  refine ⟨?_, ⟨u, w, h1, h2, ?_, ?_, ?_, ?_⟩, ?_, ?_, ?_, ⟨n, t1, ?_, ?_, ?_⟩, ⟨m, p1, ?_, ?_, ?_⟩, ?_⟩
  · rw [h 179 (by omega) (by omega)]
    exact Snap_fr (fun a ha => h a (by omega) (by omega)) i1
  · rw [h8 6 (by omega)]; exact h3
  · rw [h 32 (by omega) (by omega)]; exact h4
  · rw [h 32 (by omega) (by omega)]; exact h5
  · intro j hj
    rw [h 182 (by omega) (by omega)]
    exact Snap_fr (fun a ha => h a (by omega) (by omega)) (h6 j hj)
  · intro s hs
    rw [h 35 (by omega) (by omega), h 184 (by omega) (by omega), h 183 (by omega) (by omega)]
    obtain ⟨e1, e2⟩ := i3 s hs
    refine ⟨e1, ?_⟩
    rcases e2 with e2 | ⟨e2, e3⟩
    · exact Or.inl e2
    · exact Or.inr ⟨e2, Snap_fr (fun a ha => h a (by omega) (by omega)) e3⟩
  · rw [h 26 (by omega) (by omega), h8 7 (by omega)]; exact i4
  · rw [h 0 (by omega) (by omega), h8 12 (by omega)]; exact i5
  · rw [h 9 (by omega) (by omega)]; exact t2
  · rw [h8 11 (by omega)]; exact t3
  · rw [h 10 (by omega) (by omega), h 186 (by omega) (by omega)]; exact t4
  · rw [h 176 (by omega) (by omega)]; exact p2
  · rw [h8 27 (by omega)]; exact p3
  · rw [h 177 (by omega) (by omega), h 191 (by omega) (by omega)]; exact p4
  · rw [h8 24 (by omega)]; exact i8
theorem hy_seto (M : hz_M) {i a : Nat} (k : Nat) (v : Int32) (h : a ≠ i) : hz_set M i k v a = M a := by
  rw [hy_set, hy_ro _ _ h]
theorem hy_setk (M : hz_M) (i k : Nat) (v : Int32) : hz_set M i k v i k = v := by
  rw [hy_set, hy_rs, hy_ss]
theorem hy_setn (M : hz_M) (i : Nat) {k b : Nat} (v : Int32) (h : b ≠ k) : hz_set M i k v i b = M i b := by
  rw [hy_set, hy_rs, hy_so _ _ h]
theorem Inv_1 {M : hz_M} (r v : Int32) (I : Inv M) : Inv (hz_set (hz_set M 193 0 r) 178 8 v) := by
  refine Inv_fr (fun a h1 h2 => ?_) (fun b h => ?_) I
  · rw [hy_seto _ _ _ h2, hy_seto _ _ _ h1]
  · rw [hy_setn _ _ _ h, hy_seto _ _ _ (by omega)]
theorem Inv_2 {M : hz_M} (r v : Int32) (I : Inv M) : Inv (hz_set (hz_set M 178 8 r) 178 8 v) := by
  refine Inv_fr (fun a h1 h2 => ?_) (fun b h => ?_) I
  · rw [hy_seto _ _ _ h2, hy_seto _ _ _ h2]
  · rw [hy_setn _ _ _ h, hy_setn _ _ _ h]
theorem Inv_3 {M : hz_M} (r : Int32) (I : Inv M) : Inv (hz_set M 178 8 r) := by
  refine Inv_fr (fun a h1 h2 => ?_) (fun b h => ?_) I
  · rw [hy_seto _ _ _ h2]
  · rw [hy_setn _ _ _ h]
def hy_go (A X : hz_O) (B : hz_M → hz_O) : hz_O := hz_ct (hz_xt A (hz_ct X fun t M1 => hz_gd (t == 1) (some (1, M1))) fun r M1 => some (0, hz_set M1 193 0 r)) fun r1 M2 => hz_ct (B M2) fun r4 M5 => hz_ct (f_X11_thrown M5) fun r7 M8 => hz_gd (r7 == r1) <| hz_gd (!(r1 == 0) || M8 193 0 == r4) <| some (0, M8)
theorem hy_okc {A X : hz_O} {B : hz_M → hz_O} {M1 M2 : hz_M} {r : Int32} (hA : A = some (r, M1)) (hB : B (hz_set M1 193 0 r) = some (r, M2)) (h8 : M2 178 8 = 0) (h9 : M2 193 0 = r) : hy_go A X B = some (0, M2) := by
  unfold hy_go
  rw [hA, hy_xts, hy_cts, hB, hy_cts, f_X11_thrown, hy_cts, h8, h9]
  simp [hz_gd]
theorem hy_noc {A X : hz_O} {B : hz_M → hz_O} {M1 M2 : hz_M} {r : Int32} (hA : A = none) (hX : X = some (1, M1)) (hB : B M1 = some (r, M2)) (h8 : M2 178 8 = 1) : hy_go A X B = some (0, M2) := by
  unfold hy_go
  rw [hA, hX, hy_xtn, hy_cts, show ((1 : Int32) == 1) = true from by decide, hy_gt, hy_cts, hB, hy_cts, f_X11_thrown, hy_cts, h8]
  simp [hz_gd]
theorem g_ok {M : hz_M} {A X : hz_O} {B : hz_M → hz_O} {r : Int32} (I : Inv M) (hA : A = some (r, M)) (hB : B (hz_set M 193 0 r) = some (r, hz_set (hz_set M 193 0 r) 178 8 0)) : ∃ M', hy_go A X B = some (0, M') ∧ Inv M' :=
  ⟨_, hy_okc hA hB (hy_setk _ _ _ _) (by rw [hy_seto _ _ _ (by omega), hy_setk]), Inv_1 r 0 I⟩
theorem g_no {M : hz_M} {A X : hz_O} {B : hz_M → hz_O} {r : Int32} (I : Inv M) (hA : A = none) (hX : X = some (1, M)) (hB : B M = some (r, hz_set (hz_set M 178 8 0) 178 8 1)) : ∃ M', hy_go A X B = some (0, M') ∧ Inv M' :=
  ⟨_, hy_noc hA hX hB (hy_setk _ _ _ _), Inv_2 0 1 I⟩
def hy_ge (A : hz_O) (B : hz_M → hz_O) : hz_O := hz_ct A fun r1 M2 => hz_ct (B M2) fun r4 M5 => hz_gd (r1 == r4) <| some (0, M5)
theorem hy_gec {A : hz_O} {B : hz_M → hz_O} {M1 M2 : hz_M} {r : Int32} (hA : A = some (r, M1)) (hB : B M1 = some (r, M2)) : hy_ge A B = some (0, M2) := by
  unfold hy_ge
  rw [hA, hy_cts, hB, hy_cts]
  simp [hz_gd]
theorem g_eq {M : hz_M} {A : hz_O} {B : hz_M → hz_O} {r : Int32} (I : Inv M) (hA : A = some (r, M)) (hB : B M = some (r, hz_set M 178 8 0)) : ∃ M', hy_ge A B = some (0, M') ∧ Inv M' :=
  ⟨_, hy_gec hA hB, Inv_3 0 I⟩
theorem c_need0 (M : hz_M) : f_X10_need 0 M = none := by simp only [f_X10_need, if_true]
theorem c_need1 (M : hz_M) : f_X10_need 1 M = some (0, M) := by simp only [f_X10_need, hy_f10, if_false]
theorem x_need0 (M : hz_M) : fx_X10_need 0 M = some (1, M) := by simp only [fx_X10_need, if_true]
theorem x_need1 (M : hz_M) : fx_X10_need 1 M = none := by simp only [fx_X10_need, hy_f10, if_false]
theorem r_right0 (M : hz_M) : f_X11_right 0 M = some (0, hz_set M 178 8 1) := by simp only [f_X11_right, if_true, hy_lm, hy_bt0, hy_gt]
theorem r_right1 (M : hz_M) : f_X11_right 1 M = some (1, M) := by simp only [f_X11_right, hy_f10, if_false, hy_bt1, hy_gt]
theorem I_C {M : hz_M} (I : Inv M) : hy_C M (M 179) := ⟨I.1.1, I.1.2.1, I.1.2.2.1⟩
theorem I_Q {M : hz_M} (I : Inv M) : hy_Q (M 179) := I.1.2.2.2.1
theorem I_T {M : hz_M} (I : Inv M) : hy_T (M 179) := I.1.2.2.2.2.1
theorem q_1 (M : hz_M) (r v : Int32) : hz_set (hz_set M 193 0 r) 178 8 v 179 = M 179 := by rw [hy_seto _ _ _ (by omega), hy_seto _ _ _ (by omega)]
theorem q_2 (M : hz_M) (v : Int32) : hz_set M 178 8 v 179 = M 179 := by rw [hy_seto _ _ _ (by omega)]

theorem hy_lit17 (a : Int32) : (a < 0 ∨ nI 17 ≤ a) ∨ a = 0 ∨ a = 1 ∨ a = 2 ∨ a = 3 ∨ a = 4 ∨ a = 5 ∨ a = 6 ∨ a = 7 ∨ a = 8 ∨ a = 9 ∨ a = 10 ∨ a = 11 ∨ a = 12 ∨ a = 13 ∨ a = 14 ∨ a = 15 ∨ a = 16 := by
  rcases hy_two a (n := 17) (by omega) with h | ⟨k, hk, rfl⟩
  · exact Or.inl h
  · have : k = 0 ∨ k = 1 ∨ k = 2 ∨ k = 3 ∨ k = 4 ∨ k = 5 ∨ k = 6 ∨ k = 7 ∨ k = 8 ∨ k = 9 ∨ k = 10 ∨ k = 11 ∨ k = 12 ∨ k = 13 ∨ k = 14 ∨ k = 15 ∨ k = 16 := by omega
    rcases this with rfl | rfl | rfl | rfl | rfl | rfl | rfl | rfl | rfl | rfl | rfl | rfl | rfl | rfl | rfl | rfl | rfl
    · exact Or.inr (Or.inl rfl)
    · exact Or.inr (Or.inr (Or.inl rfl))
    · exact Or.inr (Or.inr (Or.inr (Or.inl rfl)))
    · exact Or.inr (Or.inr (Or.inr (Or.inr (Or.inl rfl))))
    · exact Or.inr (Or.inr (Or.inr (Or.inr (Or.inr (Or.inl rfl)))))
    · exact Or.inr (Or.inr (Or.inr (Or.inr (Or.inr (Or.inr (Or.inl rfl))))))
    · exact Or.inr (Or.inr (Or.inr (Or.inr (Or.inr (Or.inr (Or.inr (Or.inl rfl)))))))
    · exact Or.inr (Or.inr (Or.inr (Or.inr (Or.inr (Or.inr (Or.inr (Or.inr (Or.inl rfl))))))))
    · exact Or.inr (Or.inr (Or.inr (Or.inr (Or.inr (Or.inr (Or.inr (Or.inr (Or.inr (Or.inl rfl)))))))))
    · exact Or.inr (Or.inr (Or.inr (Or.inr (Or.inr (Or.inr (Or.inr (Or.inr (Or.inr (Or.inr (Or.inl rfl))))))))))
    · exact Or.inr (Or.inr (Or.inr (Or.inr (Or.inr (Or.inr (Or.inr (Or.inr (Or.inr (Or.inr (Or.inr (Or.inl rfl)))))))))))
    · exact Or.inr (Or.inr (Or.inr (Or.inr (Or.inr (Or.inr (Or.inr (Or.inr (Or.inr (Or.inr (Or.inr (Or.inr (Or.inl rfl))))))))))))
    · exact Or.inr (Or.inr (Or.inr (Or.inr (Or.inr (Or.inr (Or.inr (Or.inr (Or.inr (Or.inr (Or.inr (Or.inr (Or.inr (Or.inl rfl)))))))))))))
    · exact Or.inr (Or.inr (Or.inr (Or.inr (Or.inr (Or.inr (Or.inr (Or.inr (Or.inr (Or.inr (Or.inr (Or.inr (Or.inr (Or.inr (Or.inl rfl))))))))))))))
    · exact Or.inr (Or.inr (Or.inr (Or.inr (Or.inr (Or.inr (Or.inr (Or.inr (Or.inr (Or.inr (Or.inr (Or.inr (Or.inr (Or.inr (Or.inr (Or.inl rfl)))))))))))))))
    · exact Or.inr (Or.inr (Or.inr (Or.inr (Or.inr (Or.inr (Or.inr (Or.inr (Or.inr (Or.inr (Or.inr (Or.inr (Or.inr (Or.inr (Or.inr (Or.inr (Or.inl rfl))))))))))))))))
    · exact Or.inr (Or.inr (Or.inr (Or.inr (Or.inr (Or.inr (Or.inr (Or.inr (Or.inr (Or.inr (Or.inr (Or.inr (Or.inr (Or.inr (Or.inr (Or.inr (Or.inr (rfl)))))))))))))))))
theorem hy_lit17n {a : Int32} (h : a < 0 ∨ nI 17 ≤ a) : ¬ a = 0 ∧ ¬ a = 1 ∧ ¬ a = 2 ∧ ¬ a = 3 ∧ ¬ a = 4 ∧ ¬ a = 5 ∧ ¬ a = 6 ∧ ¬ a = 7 ∧ ¬ a = 8 ∧ ¬ a = 9 ∧ ¬ a = 10 ∧ ¬ a = 11 ∧ ¬ a = 12 ∧ ¬ a = 13 ∧ ¬ a = 14 ∧ ¬ a = 15 ∧ ¬ a = 16 := by
  refine ⟨?_, ?_, ?_, ?_, ?_, ?_, ?_, ?_, ?_, ?_, ?_, ?_, ?_, ?_, ?_, ?_, ?_⟩ <;> (rintro rfl; revert h; decide)
theorem hy_lit17o {a : Int32} (h : a < 0 ∨ nI 17 ≤ a) : a < 0 ∨ (16 : Int32) < a := by
  rcases h with h | h
  · exact Or.inl h
  · exact Or.inr (by rw [show nI 17 = (17 : Int32) from rfl] at h; grind)
theorem hy_lit9 (a : Int32) : (a < 0 ∨ nI 9 ≤ a) ∨ a = 0 ∨ a = 1 ∨ a = 2 ∨ a = 3 ∨ a = 4 ∨ a = 5 ∨ a = 6 ∨ a = 7 ∨ a = 8 := by
  rcases hy_two a (n := 9) (by omega) with h | ⟨k, hk, rfl⟩
  · exact Or.inl h
  · have : k = 0 ∨ k = 1 ∨ k = 2 ∨ k = 3 ∨ k = 4 ∨ k = 5 ∨ k = 6 ∨ k = 7 ∨ k = 8 := by omega
    rcases this with rfl | rfl | rfl | rfl | rfl | rfl | rfl | rfl | rfl
    · exact Or.inr (Or.inl rfl)
    · exact Or.inr (Or.inr (Or.inl rfl))
    · exact Or.inr (Or.inr (Or.inr (Or.inl rfl)))
    · exact Or.inr (Or.inr (Or.inr (Or.inr (Or.inl rfl))))
    · exact Or.inr (Or.inr (Or.inr (Or.inr (Or.inr (Or.inl rfl)))))
    · exact Or.inr (Or.inr (Or.inr (Or.inr (Or.inr (Or.inr (Or.inl rfl))))))
    · exact Or.inr (Or.inr (Or.inr (Or.inr (Or.inr (Or.inr (Or.inr (Or.inl rfl)))))))
    · exact Or.inr (Or.inr (Or.inr (Or.inr (Or.inr (Or.inr (Or.inr (Or.inr (Or.inl rfl))))))))
    · exact Or.inr (Or.inr (Or.inr (Or.inr (Or.inr (Or.inr (Or.inr (Or.inr (Or.inr (rfl)))))))))
theorem hy_lit9n {a : Int32} (h : a < 0 ∨ nI 9 ≤ a) : ¬ a = 0 ∧ ¬ a = 1 ∧ ¬ a = 2 ∧ ¬ a = 3 ∧ ¬ a = 4 ∧ ¬ a = 5 ∧ ¬ a = 6 ∧ ¬ a = 7 ∧ ¬ a = 8 := by
  refine ⟨?_, ?_, ?_, ?_, ?_, ?_, ?_, ?_, ?_⟩ <;> (rintro rfl; revert h; decide)
theorem hy_lit9o {a : Int32} (h : a < 0 ∨ nI 9 ≤ a) : a < 0 ∨ (8 : Int32) < a := by
  rcases h with h | h
  · exact Or.inl h
  · exact Or.inr (by rw [show nI 9 = (9 : Int32) from rfl] at h; grind)
theorem hy_lit4 (a : Int32) : (a < 0 ∨ nI 4 ≤ a) ∨ a = 0 ∨ a = 1 ∨ a = 2 ∨ a = 3 := by
  rcases hy_two a (n := 4) (by omega) with h | ⟨k, hk, rfl⟩
  · exact Or.inl h
  · have : k = 0 ∨ k = 1 ∨ k = 2 ∨ k = 3 := by omega
    rcases this with rfl | rfl | rfl | rfl
    · exact Or.inr (Or.inl rfl)
    · exact Or.inr (Or.inr (Or.inl rfl))
    · exact Or.inr (Or.inr (Or.inr (Or.inl rfl)))
    · exact Or.inr (Or.inr (Or.inr (Or.inr (rfl))))
theorem hy_lit4n {a : Int32} (h : a < 0 ∨ nI 4 ≤ a) : ¬ a = 0 ∧ ¬ a = 1 ∧ ¬ a = 2 ∧ ¬ a = 3 := by
  refine ⟨?_, ?_, ?_, ?_⟩ <;> (rintro rfl; revert h; decide)
theorem hy_lit4o {a : Int32} (h : a < 0 ∨ nI 4 ≤ a) : a < 0 ∨ (3 : Int32) < a := by
  rcases h with h | h
  · exact Or.inl h
  · exact Or.inr (by rw [show nI 4 = (4 : Int32) from rfl] at h; grind)
theorem hy_lit5 (a : Int32) : (a < 0 ∨ nI 5 ≤ a) ∨ a = 0 ∨ a = 1 ∨ a = 2 ∨ a = 3 ∨ a = 4 := by
  rcases hy_two a (n := 5) (by omega) with h | ⟨k, hk, rfl⟩
  · exact Or.inl h
  · have : k = 0 ∨ k = 1 ∨ k = 2 ∨ k = 3 ∨ k = 4 := by omega
    rcases this with rfl | rfl | rfl | rfl | rfl
    · exact Or.inr (Or.inl rfl)
    · exact Or.inr (Or.inr (Or.inl rfl))
    · exact Or.inr (Or.inr (Or.inr (Or.inl rfl)))
    · exact Or.inr (Or.inr (Or.inr (Or.inr (Or.inl rfl))))
    · exact Or.inr (Or.inr (Or.inr (Or.inr (Or.inr (rfl)))))
theorem hy_lit5n {a : Int32} (h : a < 0 ∨ nI 5 ≤ a) : ¬ a = 0 ∧ ¬ a = 1 ∧ ¬ a = 2 ∧ ¬ a = 3 ∧ ¬ a = 4 := by
  refine ⟨?_, ?_, ?_, ?_, ?_⟩ <;> (rintro rfl; revert h; decide)
theorem hy_lit5o {a : Int32} (h : a < 0 ∨ nI 5 ≤ a) : a < 0 ∨ (4 : Int32) < a := by
  rcases h with h | h
  · exact Or.inl h
  · exact Or.inr (by rw [show nI 5 = (5 : Int32) from rfl] at h; grind)
theorem hy_lit10 (a : Int32) : (a < 0 ∨ nI 10 ≤ a) ∨ a = 0 ∨ a = 1 ∨ a = 2 ∨ a = 3 ∨ a = 4 ∨ a = 5 ∨ a = 6 ∨ a = 7 ∨ a = 8 ∨ a = 9 := by
  rcases hy_two a (n := 10) (by omega) with h | ⟨k, hk, rfl⟩
  · exact Or.inl h
  · have : k = 0 ∨ k = 1 ∨ k = 2 ∨ k = 3 ∨ k = 4 ∨ k = 5 ∨ k = 6 ∨ k = 7 ∨ k = 8 ∨ k = 9 := by omega
    rcases this with rfl | rfl | rfl | rfl | rfl | rfl | rfl | rfl | rfl | rfl
    · exact Or.inr (Or.inl rfl)
    · exact Or.inr (Or.inr (Or.inl rfl))
    · exact Or.inr (Or.inr (Or.inr (Or.inl rfl)))
    · exact Or.inr (Or.inr (Or.inr (Or.inr (Or.inl rfl))))
    · exact Or.inr (Or.inr (Or.inr (Or.inr (Or.inr (Or.inl rfl)))))
    · exact Or.inr (Or.inr (Or.inr (Or.inr (Or.inr (Or.inr (Or.inl rfl))))))
    · exact Or.inr (Or.inr (Or.inr (Or.inr (Or.inr (Or.inr (Or.inr (Or.inl rfl)))))))
    · exact Or.inr (Or.inr (Or.inr (Or.inr (Or.inr (Or.inr (Or.inr (Or.inr (Or.inl rfl))))))))
    · exact Or.inr (Or.inr (Or.inr (Or.inr (Or.inr (Or.inr (Or.inr (Or.inr (Or.inr (Or.inl rfl)))))))))
    · exact Or.inr (Or.inr (Or.inr (Or.inr (Or.inr (Or.inr (Or.inr (Or.inr (Or.inr (Or.inr (rfl))))))))))
theorem hy_lit10n {a : Int32} (h : a < 0 ∨ nI 10 ≤ a) : ¬ a = 0 ∧ ¬ a = 1 ∧ ¬ a = 2 ∧ ¬ a = 3 ∧ ¬ a = 4 ∧ ¬ a = 5 ∧ ¬ a = 6 ∧ ¬ a = 7 ∧ ¬ a = 8 ∧ ¬ a = 9 := by
  refine ⟨?_, ?_, ?_, ?_, ?_, ?_, ?_, ?_, ?_, ?_⟩ <;> (rintro rfl; revert h; decide)
theorem hy_lit10o {a : Int32} (h : a < 0 ∨ nI 10 ≤ a) : a < 0 ∨ (9 : Int32) < a := by
  rcases h with h | h
  · exact Or.inl h
  · exact Or.inr (by rw [show nI 10 = (10 : Int32) from rfl] at h; grind)
theorem hy_e0_1 : ((0 : Int32) = 1) = False := eq_false (by decide)
theorem hy_e0_2 : ((0 : Int32) = 2) = False := eq_false (by decide)
theorem hy_e0_3 : ((0 : Int32) = 3) = False := eq_false (by decide)
theorem hy_e0_4 : ((0 : Int32) = 4) = False := eq_false (by decide)
theorem hy_e0_5 : ((0 : Int32) = 5) = False := eq_false (by decide)
theorem hy_e0_6 : ((0 : Int32) = 6) = False := eq_false (by decide)
theorem hy_e0_7 : ((0 : Int32) = 7) = False := eq_false (by decide)
theorem hy_e0_8 : ((0 : Int32) = 8) = False := eq_false (by decide)
theorem hy_e0_9 : ((0 : Int32) = 9) = False := eq_false (by decide)
theorem hy_e0_10 : ((0 : Int32) = 10) = False := eq_false (by decide)
theorem hy_e0_11 : ((0 : Int32) = 11) = False := eq_false (by decide)
theorem hy_e0_12 : ((0 : Int32) = 12) = False := eq_false (by decide)
theorem hy_e0_13 : ((0 : Int32) = 13) = False := eq_false (by decide)
theorem hy_e0_14 : ((0 : Int32) = 14) = False := eq_false (by decide)
theorem hy_e0_15 : ((0 : Int32) = 15) = False := eq_false (by decide)
theorem hy_e0_16 : ((0 : Int32) = 16) = False := eq_false (by decide)
theorem hy_e0_17 : ((0 : Int32) = 17) = False := eq_false (by decide)
theorem hy_e1_0 : ((1 : Int32) = 0) = False := eq_false (by decide)
theorem hy_e1_2 : ((1 : Int32) = 2) = False := eq_false (by decide)
theorem hy_e1_3 : ((1 : Int32) = 3) = False := eq_false (by decide)
theorem hy_e1_4 : ((1 : Int32) = 4) = False := eq_false (by decide)
theorem hy_e1_5 : ((1 : Int32) = 5) = False := eq_false (by decide)
theorem hy_e1_6 : ((1 : Int32) = 6) = False := eq_false (by decide)
theorem hy_e1_7 : ((1 : Int32) = 7) = False := eq_false (by decide)
theorem hy_e1_8 : ((1 : Int32) = 8) = False := eq_false (by decide)
theorem hy_e1_9 : ((1 : Int32) = 9) = False := eq_false (by decide)
theorem hy_e1_10 : ((1 : Int32) = 10) = False := eq_false (by decide)
theorem hy_e1_11 : ((1 : Int32) = 11) = False := eq_false (by decide)
theorem hy_e1_12 : ((1 : Int32) = 12) = False := eq_false (by decide)
theorem hy_e1_13 : ((1 : Int32) = 13) = False := eq_false (by decide)
theorem hy_e1_14 : ((1 : Int32) = 14) = False := eq_false (by decide)
theorem hy_e1_15 : ((1 : Int32) = 15) = False := eq_false (by decide)
theorem hy_e1_16 : ((1 : Int32) = 16) = False := eq_false (by decide)
theorem hy_e1_17 : ((1 : Int32) = 17) = False := eq_false (by decide)
theorem hy_e2_0 : ((2 : Int32) = 0) = False := eq_false (by decide)
theorem hy_e2_1 : ((2 : Int32) = 1) = False := eq_false (by decide)
theorem hy_e2_3 : ((2 : Int32) = 3) = False := eq_false (by decide)
theorem hy_e2_4 : ((2 : Int32) = 4) = False := eq_false (by decide)
theorem hy_e2_5 : ((2 : Int32) = 5) = False := eq_false (by decide)
theorem hy_e2_6 : ((2 : Int32) = 6) = False := eq_false (by decide)
theorem hy_e2_7 : ((2 : Int32) = 7) = False := eq_false (by decide)
theorem hy_e2_8 : ((2 : Int32) = 8) = False := eq_false (by decide)
theorem hy_e2_9 : ((2 : Int32) = 9) = False := eq_false (by decide)
theorem hy_e2_10 : ((2 : Int32) = 10) = False := eq_false (by decide)
theorem hy_e2_11 : ((2 : Int32) = 11) = False := eq_false (by decide)
theorem hy_e2_12 : ((2 : Int32) = 12) = False := eq_false (by decide)
theorem hy_e2_13 : ((2 : Int32) = 13) = False := eq_false (by decide)
theorem hy_e2_14 : ((2 : Int32) = 14) = False := eq_false (by decide)
theorem hy_e2_15 : ((2 : Int32) = 15) = False := eq_false (by decide)
theorem hy_e2_16 : ((2 : Int32) = 16) = False := eq_false (by decide)
theorem hy_e2_17 : ((2 : Int32) = 17) = False := eq_false (by decide)
theorem hy_e3_0 : ((3 : Int32) = 0) = False := eq_false (by decide)
theorem hy_e3_1 : ((3 : Int32) = 1) = False := eq_false (by decide)
theorem hy_e3_2 : ((3 : Int32) = 2) = False := eq_false (by decide)
theorem hy_e3_4 : ((3 : Int32) = 4) = False := eq_false (by decide)
theorem hy_e3_5 : ((3 : Int32) = 5) = False := eq_false (by decide)
theorem hy_e3_6 : ((3 : Int32) = 6) = False := eq_false (by decide)
theorem hy_e3_7 : ((3 : Int32) = 7) = False := eq_false (by decide)
theorem hy_e3_8 : ((3 : Int32) = 8) = False := eq_false (by decide)
theorem hy_e3_9 : ((3 : Int32) = 9) = False := eq_false (by decide)
theorem hy_e3_10 : ((3 : Int32) = 10) = False := eq_false (by decide)
theorem hy_e3_11 : ((3 : Int32) = 11) = False := eq_false (by decide)
theorem hy_e3_12 : ((3 : Int32) = 12) = False := eq_false (by decide)
theorem hy_e3_13 : ((3 : Int32) = 13) = False := eq_false (by decide)
theorem hy_e3_14 : ((3 : Int32) = 14) = False := eq_false (by decide)
theorem hy_e3_15 : ((3 : Int32) = 15) = False := eq_false (by decide)
theorem hy_e3_16 : ((3 : Int32) = 16) = False := eq_false (by decide)
theorem hy_e3_17 : ((3 : Int32) = 17) = False := eq_false (by decide)
theorem hy_e4_0 : ((4 : Int32) = 0) = False := eq_false (by decide)
theorem hy_e4_1 : ((4 : Int32) = 1) = False := eq_false (by decide)
theorem hy_e4_2 : ((4 : Int32) = 2) = False := eq_false (by decide)
theorem hy_e4_3 : ((4 : Int32) = 3) = False := eq_false (by decide)
theorem hy_e4_5 : ((4 : Int32) = 5) = False := eq_false (by decide)
theorem hy_e4_6 : ((4 : Int32) = 6) = False := eq_false (by decide)
theorem hy_e4_7 : ((4 : Int32) = 7) = False := eq_false (by decide)
theorem hy_e4_8 : ((4 : Int32) = 8) = False := eq_false (by decide)
theorem hy_e4_9 : ((4 : Int32) = 9) = False := eq_false (by decide)
theorem hy_e4_10 : ((4 : Int32) = 10) = False := eq_false (by decide)
theorem hy_e4_11 : ((4 : Int32) = 11) = False := eq_false (by decide)
theorem hy_e4_12 : ((4 : Int32) = 12) = False := eq_false (by decide)
theorem hy_e4_13 : ((4 : Int32) = 13) = False := eq_false (by decide)
theorem hy_e4_14 : ((4 : Int32) = 14) = False := eq_false (by decide)
theorem hy_e4_15 : ((4 : Int32) = 15) = False := eq_false (by decide)
theorem hy_e4_16 : ((4 : Int32) = 16) = False := eq_false (by decide)
theorem hy_e4_17 : ((4 : Int32) = 17) = False := eq_false (by decide)
theorem hy_e5_0 : ((5 : Int32) = 0) = False := eq_false (by decide)
theorem hy_e5_1 : ((5 : Int32) = 1) = False := eq_false (by decide)
theorem hy_e5_2 : ((5 : Int32) = 2) = False := eq_false (by decide)
theorem hy_e5_3 : ((5 : Int32) = 3) = False := eq_false (by decide)
theorem hy_e5_4 : ((5 : Int32) = 4) = False := eq_false (by decide)
theorem hy_e5_6 : ((5 : Int32) = 6) = False := eq_false (by decide)
theorem hy_e5_7 : ((5 : Int32) = 7) = False := eq_false (by decide)
theorem hy_e5_8 : ((5 : Int32) = 8) = False := eq_false (by decide)
theorem hy_e5_9 : ((5 : Int32) = 9) = False := eq_false (by decide)
theorem hy_e5_10 : ((5 : Int32) = 10) = False := eq_false (by decide)
theorem hy_e5_11 : ((5 : Int32) = 11) = False := eq_false (by decide)
theorem hy_e5_12 : ((5 : Int32) = 12) = False := eq_false (by decide)
theorem hy_e5_13 : ((5 : Int32) = 13) = False := eq_false (by decide)
theorem hy_e5_14 : ((5 : Int32) = 14) = False := eq_false (by decide)
theorem hy_e5_15 : ((5 : Int32) = 15) = False := eq_false (by decide)
theorem hy_e5_16 : ((5 : Int32) = 16) = False := eq_false (by decide)
theorem hy_e5_17 : ((5 : Int32) = 17) = False := eq_false (by decide)
theorem hy_e6_0 : ((6 : Int32) = 0) = False := eq_false (by decide)
theorem hy_e6_1 : ((6 : Int32) = 1) = False := eq_false (by decide)
theorem hy_e6_2 : ((6 : Int32) = 2) = False := eq_false (by decide)
theorem hy_e6_3 : ((6 : Int32) = 3) = False := eq_false (by decide)
theorem hy_e6_4 : ((6 : Int32) = 4) = False := eq_false (by decide)
theorem hy_e6_5 : ((6 : Int32) = 5) = False := eq_false (by decide)
theorem hy_e6_7 : ((6 : Int32) = 7) = False := eq_false (by decide)
theorem hy_e6_8 : ((6 : Int32) = 8) = False := eq_false (by decide)
theorem hy_e6_9 : ((6 : Int32) = 9) = False := eq_false (by decide)
theorem hy_e6_10 : ((6 : Int32) = 10) = False := eq_false (by decide)
theorem hy_e6_11 : ((6 : Int32) = 11) = False := eq_false (by decide)
theorem hy_e6_12 : ((6 : Int32) = 12) = False := eq_false (by decide)
theorem hy_e6_13 : ((6 : Int32) = 13) = False := eq_false (by decide)
theorem hy_e6_14 : ((6 : Int32) = 14) = False := eq_false (by decide)
theorem hy_e6_15 : ((6 : Int32) = 15) = False := eq_false (by decide)
theorem hy_e6_16 : ((6 : Int32) = 16) = False := eq_false (by decide)
theorem hy_e6_17 : ((6 : Int32) = 17) = False := eq_false (by decide)
theorem hy_e7_0 : ((7 : Int32) = 0) = False := eq_false (by decide)
theorem hy_e7_1 : ((7 : Int32) = 1) = False := eq_false (by decide)
theorem hy_e7_2 : ((7 : Int32) = 2) = False := eq_false (by decide)
theorem hy_e7_3 : ((7 : Int32) = 3) = False := eq_false (by decide)
theorem hy_e7_4 : ((7 : Int32) = 4) = False := eq_false (by decide)
theorem hy_e7_5 : ((7 : Int32) = 5) = False := eq_false (by decide)
theorem hy_e7_6 : ((7 : Int32) = 6) = False := eq_false (by decide)
theorem hy_e7_8 : ((7 : Int32) = 8) = False := eq_false (by decide)
theorem hy_e7_9 : ((7 : Int32) = 9) = False := eq_false (by decide)
theorem hy_e7_10 : ((7 : Int32) = 10) = False := eq_false (by decide)
theorem hy_e7_11 : ((7 : Int32) = 11) = False := eq_false (by decide)
theorem hy_e7_12 : ((7 : Int32) = 12) = False := eq_false (by decide)
theorem hy_e7_13 : ((7 : Int32) = 13) = False := eq_false (by decide)
theorem hy_e7_14 : ((7 : Int32) = 14) = False := eq_false (by decide)
theorem hy_e7_15 : ((7 : Int32) = 15) = False := eq_false (by decide)
theorem hy_e7_16 : ((7 : Int32) = 16) = False := eq_false (by decide)
theorem hy_e7_17 : ((7 : Int32) = 17) = False := eq_false (by decide)
theorem hy_e8_0 : ((8 : Int32) = 0) = False := eq_false (by decide)
theorem hy_e8_1 : ((8 : Int32) = 1) = False := eq_false (by decide)
theorem hy_e8_2 : ((8 : Int32) = 2) = False := eq_false (by decide)
theorem hy_e8_3 : ((8 : Int32) = 3) = False := eq_false (by decide)
theorem hy_e8_4 : ((8 : Int32) = 4) = False := eq_false (by decide)
theorem hy_e8_5 : ((8 : Int32) = 5) = False := eq_false (by decide)
theorem hy_e8_6 : ((8 : Int32) = 6) = False := eq_false (by decide)
theorem hy_e8_7 : ((8 : Int32) = 7) = False := eq_false (by decide)
theorem hy_e8_9 : ((8 : Int32) = 9) = False := eq_false (by decide)
theorem hy_e8_10 : ((8 : Int32) = 10) = False := eq_false (by decide)
theorem hy_e8_11 : ((8 : Int32) = 11) = False := eq_false (by decide)
theorem hy_e8_12 : ((8 : Int32) = 12) = False := eq_false (by decide)
theorem hy_e8_13 : ((8 : Int32) = 13) = False := eq_false (by decide)
theorem hy_e8_14 : ((8 : Int32) = 14) = False := eq_false (by decide)
theorem hy_e8_15 : ((8 : Int32) = 15) = False := eq_false (by decide)
theorem hy_e8_16 : ((8 : Int32) = 16) = False := eq_false (by decide)
theorem hy_e8_17 : ((8 : Int32) = 17) = False := eq_false (by decide)
theorem hy_e9_0 : ((9 : Int32) = 0) = False := eq_false (by decide)
theorem hy_e9_1 : ((9 : Int32) = 1) = False := eq_false (by decide)
theorem hy_e9_2 : ((9 : Int32) = 2) = False := eq_false (by decide)
theorem hy_e9_3 : ((9 : Int32) = 3) = False := eq_false (by decide)
theorem hy_e9_4 : ((9 : Int32) = 4) = False := eq_false (by decide)
theorem hy_e9_5 : ((9 : Int32) = 5) = False := eq_false (by decide)
theorem hy_e9_6 : ((9 : Int32) = 6) = False := eq_false (by decide)
theorem hy_e9_7 : ((9 : Int32) = 7) = False := eq_false (by decide)
theorem hy_e9_8 : ((9 : Int32) = 8) = False := eq_false (by decide)
theorem hy_e9_10 : ((9 : Int32) = 10) = False := eq_false (by decide)
theorem hy_e9_11 : ((9 : Int32) = 11) = False := eq_false (by decide)
theorem hy_e9_12 : ((9 : Int32) = 12) = False := eq_false (by decide)
theorem hy_e9_13 : ((9 : Int32) = 13) = False := eq_false (by decide)
theorem hy_e9_14 : ((9 : Int32) = 14) = False := eq_false (by decide)
theorem hy_e9_15 : ((9 : Int32) = 15) = False := eq_false (by decide)
theorem hy_e9_16 : ((9 : Int32) = 16) = False := eq_false (by decide)
theorem hy_e9_17 : ((9 : Int32) = 17) = False := eq_false (by decide)
theorem hy_e10_0 : ((10 : Int32) = 0) = False := eq_false (by decide)
theorem hy_e10_1 : ((10 : Int32) = 1) = False := eq_false (by decide)
theorem hy_e10_2 : ((10 : Int32) = 2) = False := eq_false (by decide)
theorem hy_e10_3 : ((10 : Int32) = 3) = False := eq_false (by decide)
theorem hy_e10_4 : ((10 : Int32) = 4) = False := eq_false (by decide)
theorem hy_e10_5 : ((10 : Int32) = 5) = False := eq_false (by decide)
theorem hy_e10_6 : ((10 : Int32) = 6) = False := eq_false (by decide)
theorem hy_e10_7 : ((10 : Int32) = 7) = False := eq_false (by decide)
theorem hy_e10_8 : ((10 : Int32) = 8) = False := eq_false (by decide)
theorem hy_e10_9 : ((10 : Int32) = 9) = False := eq_false (by decide)
theorem hy_e10_11 : ((10 : Int32) = 11) = False := eq_false (by decide)
theorem hy_e10_12 : ((10 : Int32) = 12) = False := eq_false (by decide)
theorem hy_e10_13 : ((10 : Int32) = 13) = False := eq_false (by decide)
theorem hy_e10_14 : ((10 : Int32) = 14) = False := eq_false (by decide)
theorem hy_e10_15 : ((10 : Int32) = 15) = False := eq_false (by decide)
theorem hy_e10_16 : ((10 : Int32) = 16) = False := eq_false (by decide)
theorem hy_e10_17 : ((10 : Int32) = 17) = False := eq_false (by decide)
theorem hy_e11_0 : ((11 : Int32) = 0) = False := eq_false (by decide)
theorem hy_e11_1 : ((11 : Int32) = 1) = False := eq_false (by decide)
theorem hy_e11_2 : ((11 : Int32) = 2) = False := eq_false (by decide)
theorem hy_e11_3 : ((11 : Int32) = 3) = False := eq_false (by decide)
theorem hy_e11_4 : ((11 : Int32) = 4) = False := eq_false (by decide)
theorem hy_e11_5 : ((11 : Int32) = 5) = False := eq_false (by decide)
theorem hy_e11_6 : ((11 : Int32) = 6) = False := eq_false (by decide)
theorem hy_e11_7 : ((11 : Int32) = 7) = False := eq_false (by decide)
theorem hy_e11_8 : ((11 : Int32) = 8) = False := eq_false (by decide)
theorem hy_e11_9 : ((11 : Int32) = 9) = False := eq_false (by decide)
theorem hy_e11_10 : ((11 : Int32) = 10) = False := eq_false (by decide)
theorem hy_e11_12 : ((11 : Int32) = 12) = False := eq_false (by decide)
theorem hy_e11_13 : ((11 : Int32) = 13) = False := eq_false (by decide)
theorem hy_e11_14 : ((11 : Int32) = 14) = False := eq_false (by decide)
theorem hy_e11_15 : ((11 : Int32) = 15) = False := eq_false (by decide)
theorem hy_e11_16 : ((11 : Int32) = 16) = False := eq_false (by decide)
theorem hy_e11_17 : ((11 : Int32) = 17) = False := eq_false (by decide)
theorem hy_e12_0 : ((12 : Int32) = 0) = False := eq_false (by decide)
theorem hy_e12_1 : ((12 : Int32) = 1) = False := eq_false (by decide)
theorem hy_e12_2 : ((12 : Int32) = 2) = False := eq_false (by decide)
theorem hy_e12_3 : ((12 : Int32) = 3) = False := eq_false (by decide)
theorem hy_e12_4 : ((12 : Int32) = 4) = False := eq_false (by decide)
theorem hy_e12_5 : ((12 : Int32) = 5) = False := eq_false (by decide)
theorem hy_e12_6 : ((12 : Int32) = 6) = False := eq_false (by decide)
theorem hy_e12_7 : ((12 : Int32) = 7) = False := eq_false (by decide)
theorem hy_e12_8 : ((12 : Int32) = 8) = False := eq_false (by decide)
theorem hy_e12_9 : ((12 : Int32) = 9) = False := eq_false (by decide)
theorem hy_e12_10 : ((12 : Int32) = 10) = False := eq_false (by decide)
theorem hy_e12_11 : ((12 : Int32) = 11) = False := eq_false (by decide)
theorem hy_e12_13 : ((12 : Int32) = 13) = False := eq_false (by decide)
theorem hy_e12_14 : ((12 : Int32) = 14) = False := eq_false (by decide)
theorem hy_e12_15 : ((12 : Int32) = 15) = False := eq_false (by decide)
theorem hy_e12_16 : ((12 : Int32) = 16) = False := eq_false (by decide)
theorem hy_e12_17 : ((12 : Int32) = 17) = False := eq_false (by decide)
theorem hy_e13_0 : ((13 : Int32) = 0) = False := eq_false (by decide)
theorem hy_e13_1 : ((13 : Int32) = 1) = False := eq_false (by decide)
theorem hy_e13_2 : ((13 : Int32) = 2) = False := eq_false (by decide)
theorem hy_e13_3 : ((13 : Int32) = 3) = False := eq_false (by decide)
theorem hy_e13_4 : ((13 : Int32) = 4) = False := eq_false (by decide)
theorem hy_e13_5 : ((13 : Int32) = 5) = False := eq_false (by decide)
theorem hy_e13_6 : ((13 : Int32) = 6) = False := eq_false (by decide)
theorem hy_e13_7 : ((13 : Int32) = 7) = False := eq_false (by decide)
theorem hy_e13_8 : ((13 : Int32) = 8) = False := eq_false (by decide)
theorem hy_e13_9 : ((13 : Int32) = 9) = False := eq_false (by decide)
theorem hy_e13_10 : ((13 : Int32) = 10) = False := eq_false (by decide)
theorem hy_e13_11 : ((13 : Int32) = 11) = False := eq_false (by decide)
theorem hy_e13_12 : ((13 : Int32) = 12) = False := eq_false (by decide)
theorem hy_e13_14 : ((13 : Int32) = 14) = False := eq_false (by decide)
theorem hy_e13_15 : ((13 : Int32) = 15) = False := eq_false (by decide)
theorem hy_e13_16 : ((13 : Int32) = 16) = False := eq_false (by decide)
theorem hy_e13_17 : ((13 : Int32) = 17) = False := eq_false (by decide)
theorem hy_e14_0 : ((14 : Int32) = 0) = False := eq_false (by decide)
theorem hy_e14_1 : ((14 : Int32) = 1) = False := eq_false (by decide)
theorem hy_e14_2 : ((14 : Int32) = 2) = False := eq_false (by decide)
theorem hy_e14_3 : ((14 : Int32) = 3) = False := eq_false (by decide)
theorem hy_e14_4 : ((14 : Int32) = 4) = False := eq_false (by decide)
theorem hy_e14_5 : ((14 : Int32) = 5) = False := eq_false (by decide)
theorem hy_e14_6 : ((14 : Int32) = 6) = False := eq_false (by decide)
theorem hy_e14_7 : ((14 : Int32) = 7) = False := eq_false (by decide)
theorem hy_e14_8 : ((14 : Int32) = 8) = False := eq_false (by decide)
theorem hy_e14_9 : ((14 : Int32) = 9) = False := eq_false (by decide)
theorem hy_e14_10 : ((14 : Int32) = 10) = False := eq_false (by decide)
theorem hy_e14_11 : ((14 : Int32) = 11) = False := eq_false (by decide)
theorem hy_e14_12 : ((14 : Int32) = 12) = False := eq_false (by decide)
theorem hy_e14_13 : ((14 : Int32) = 13) = False := eq_false (by decide)
theorem hy_e14_15 : ((14 : Int32) = 15) = False := eq_false (by decide)
theorem hy_e14_16 : ((14 : Int32) = 16) = False := eq_false (by decide)
theorem hy_e14_17 : ((14 : Int32) = 17) = False := eq_false (by decide)
theorem hy_e15_0 : ((15 : Int32) = 0) = False := eq_false (by decide)
theorem hy_e15_1 : ((15 : Int32) = 1) = False := eq_false (by decide)
theorem hy_e15_2 : ((15 : Int32) = 2) = False := eq_false (by decide)
theorem hy_e15_3 : ((15 : Int32) = 3) = False := eq_false (by decide)
theorem hy_e15_4 : ((15 : Int32) = 4) = False := eq_false (by decide)
theorem hy_e15_5 : ((15 : Int32) = 5) = False := eq_false (by decide)
theorem hy_e15_6 : ((15 : Int32) = 6) = False := eq_false (by decide)
theorem hy_e15_7 : ((15 : Int32) = 7) = False := eq_false (by decide)
theorem hy_e15_8 : ((15 : Int32) = 8) = False := eq_false (by decide)
theorem hy_e15_9 : ((15 : Int32) = 9) = False := eq_false (by decide)
theorem hy_e15_10 : ((15 : Int32) = 10) = False := eq_false (by decide)
theorem hy_e15_11 : ((15 : Int32) = 11) = False := eq_false (by decide)
theorem hy_e15_12 : ((15 : Int32) = 12) = False := eq_false (by decide)
theorem hy_e15_13 : ((15 : Int32) = 13) = False := eq_false (by decide)
theorem hy_e15_14 : ((15 : Int32) = 14) = False := eq_false (by decide)
theorem hy_e15_16 : ((15 : Int32) = 16) = False := eq_false (by decide)
theorem hy_e15_17 : ((15 : Int32) = 17) = False := eq_false (by decide)
theorem hy_e16_0 : ((16 : Int32) = 0) = False := eq_false (by decide)
theorem hy_e16_1 : ((16 : Int32) = 1) = False := eq_false (by decide)
theorem hy_e16_2 : ((16 : Int32) = 2) = False := eq_false (by decide)
theorem hy_e16_3 : ((16 : Int32) = 3) = False := eq_false (by decide)
theorem hy_e16_4 : ((16 : Int32) = 4) = False := eq_false (by decide)
theorem hy_e16_5 : ((16 : Int32) = 5) = False := eq_false (by decide)
theorem hy_e16_6 : ((16 : Int32) = 6) = False := eq_false (by decide)
theorem hy_e16_7 : ((16 : Int32) = 7) = False := eq_false (by decide)
theorem hy_e16_8 : ((16 : Int32) = 8) = False := eq_false (by decide)
theorem hy_e16_9 : ((16 : Int32) = 9) = False := eq_false (by decide)
theorem hy_e16_10 : ((16 : Int32) = 10) = False := eq_false (by decide)
theorem hy_e16_11 : ((16 : Int32) = 11) = False := eq_false (by decide)
theorem hy_e16_12 : ((16 : Int32) = 12) = False := eq_false (by decide)
theorem hy_e16_13 : ((16 : Int32) = 13) = False := eq_false (by decide)
theorem hy_e16_14 : ((16 : Int32) = 14) = False := eq_false (by decide)
theorem hy_e16_15 : ((16 : Int32) = 15) = False := eq_false (by decide)
theorem hy_e16_17 : ((16 : Int32) = 17) = False := eq_false (by decide)
theorem hy_e17_0 : ((17 : Int32) = 0) = False := eq_false (by decide)
theorem hy_e17_1 : ((17 : Int32) = 1) = False := eq_false (by decide)
theorem hy_e17_2 : ((17 : Int32) = 2) = False := eq_false (by decide)
theorem hy_e17_3 : ((17 : Int32) = 3) = False := eq_false (by decide)
theorem hy_e17_4 : ((17 : Int32) = 4) = False := eq_false (by decide)
theorem hy_e17_5 : ((17 : Int32) = 5) = False := eq_false (by decide)
theorem hy_e17_6 : ((17 : Int32) = 6) = False := eq_false (by decide)
theorem hy_e17_7 : ((17 : Int32) = 7) = False := eq_false (by decide)
theorem hy_e17_8 : ((17 : Int32) = 8) = False := eq_false (by decide)
theorem hy_e17_9 : ((17 : Int32) = 9) = False := eq_false (by decide)
theorem hy_e17_10 : ((17 : Int32) = 10) = False := eq_false (by decide)
theorem hy_e17_11 : ((17 : Int32) = 11) = False := eq_false (by decide)
theorem hy_e17_12 : ((17 : Int32) = 12) = False := eq_false (by decide)
theorem hy_e17_13 : ((17 : Int32) = 13) = False := eq_false (by decide)
theorem hy_e17_14 : ((17 : Int32) = 14) = False := eq_false (by decide)
theorem hy_e17_15 : ((17 : Int32) = 15) = False := eq_false (by decide)
theorem hy_e17_16 : ((17 : Int32) = 16) = False := eq_false (by decide)
theorem g_7 {M : hz_M} (I : Inv M) (a : Int32) : ∃ M', fs_7 a M = some (0, M') ∧ Inv M' := by
  have hC := I_C I
  have hQ := I_Q I
  have hq := fun r => q_1 M r 0
  have hq2 := q_2 M 0
  have hC0 := hC
  obtain ⟨hZ, ⟨b3, b4, b5, b6, b7, b8, bag, bnm⟩, hRR⟩ := hC
  have hZ0 := hZ
  obtain ⟨⟨s1, s2, s3, s4, s5, s6⟩, ra, ro, rp, rl, rt, rs, rw', rd, rwt, rpg, rk, rh, rtw⟩ := c_rows hRR
  obtain ⟨⟨z1, z2⟩, ⟨z3, z4, z5⟩, ⟨z6, z7, z8⟩, ⟨z9, z10⟩, ⟨z11, z12, z13⟩, ⟨z14, z15, z16⟩⟩ := hZ
  rw [z1] at b3; rw [z3] at b4; rw [z6] at b5; rw [z9] at b6; rw [z11] at b7; rw [z14] at b8
  show ∃ M', hy_go (f_X10_peg a M) (fx_X10_peg a M) (f_X11_peg a) = some (0, M') ∧ Inv M'
  rcases hy_two a (n := pz (M 179)) (by omega) with h | ⟨p, hp, rfl⟩
  · refine g_no (r := 0) I ?_ ?_ ?_
    · simp only [f_X10_peg, c_isPegO hC0 h, hy_cts, hy_ctn, hy_xts, hy_xtn, c_need0, c_need1, x_need0, x_need1, hy_jn, hy_lm, hy_lt', hy_gt, if_true, if_false, hy_f10]
    · simp only [fx_X10_peg, c_isPegO hC0 h, hy_cts, hy_ctn, hy_xts, hy_xtn, c_need0, c_need1, x_need0, x_need1, hy_jn, hy_lm, hy_lt', hy_gt, if_true, if_false, hy_f10]
    · simp only [f_X11_peg, r_isPegO hq2 hZ0 h, r_right0, hy_cts, hy_ctn, hy_xts, hy_xtn, c_need0, c_need1, x_need0, x_need1, hy_jn, hy_lm, hy_lt', hy_gt, if_true, if_false, hy_f10]
  · refine g_ok I (r := tw (M 179) p) ?_ ?_
    · simp (disch := omega) only [f_X10_peg, c_isPeg hC0 hp, rtw p hp, hy_in, hy_c, hy_cts, hy_ctn, hy_xts, hy_xtn, c_need0, c_need1, x_need0, x_need1, hy_jn, hy_lm, hy_lt', hy_gt, if_true, if_false, hy_f10]
    · simp (disch := omega) only [f_X11_peg, r_isPeg (hq _) hZ0 hp, r_tw (hq _) hZ0, r_right1, hy_in, hy_c, hy_cts, hy_ctn, hy_xts, hy_xtn, c_need0, c_need1, x_need0, x_need1, hy_jn, hy_lm, hy_lt', hy_gt, if_true, if_false, hy_f10]
theorem g_8 {M : hz_M} (I : Inv M) (a : Int32) : ∃ M', fs_8 a M = some (0, M') ∧ Inv M' := by
  have hC := I_C I
  have hQ := I_Q I
  have hq := fun r => q_1 M r 0
  have hq2 := q_2 M 0
  have hC0 := hC
  obtain ⟨hZ, ⟨b3, b4, b5, b6, b7, b8, bag, bnm⟩, hRR⟩ := hC
  have hZ0 := hZ
  obtain ⟨⟨s1, s2, s3, s4, s5, s6⟩, ra, ro, rp, rl, rt, rs, rw', rd, rwt, rpg, rk, rh, rtw⟩ := c_rows hRR
  obtain ⟨⟨z1, z2⟩, ⟨z3, z4, z5⟩, ⟨z6, z7, z8⟩, ⟨z9, z10⟩, ⟨z11, z12, z13⟩, ⟨z14, z15, z16⟩⟩ := hZ
  rw [z1] at b3; rw [z3] at b4; rw [z6] at b5; rw [z9] at b6; rw [z11] at b7; rw [z14] at b8
  show ∃ M', hy_go (f_X10_locker a M) (fx_X10_locker a M) (f_X11_locker a) = some (0, M') ∧ Inv M'
  rcases hy_two a (n := lz (M 179)) (by omega) with h | ⟨p, hp, rfl⟩
  · refine g_no (r := 0) I ?_ ?_ ?_
    · simp only [f_X10_locker, c_isLockerO hC0 h, hy_cts, hy_ctn, hy_xts, hy_xtn, c_need0, c_need1, x_need0, x_need1, hy_jn, hy_lm, hy_lt', hy_gt, if_true, if_false, hy_f10]
    · simp only [fx_X10_locker, c_isLockerO hC0 h, hy_cts, hy_ctn, hy_xts, hy_xtn, c_need0, c_need1, x_need0, x_need1, hy_jn, hy_lm, hy_lt', hy_gt, if_true, if_false, hy_f10]
    · simp only [f_X11_locker, hq2, hy_k0, z3, r_in_no _ (hy_pre (n := lz (M 179)) (by omega) h), r_right0, hy_cts, hy_ctn, hy_xts, hy_xtn, c_need0, c_need1, x_need0, x_need1, hy_jn, hy_lm, hy_lt', hy_gt, if_true, if_false, hy_f10]
  · refine g_ok I (r := kpr (M 179) p) ?_ ?_
    · simp (disch := omega) only [f_X10_locker, c_isLocker hC0 hp, rk p hp, hy_in, hy_c, hy_cts, hy_ctn, hy_xts, hy_xtn, c_need0, c_need1, x_need0, x_need1, hy_jn, hy_lm, hy_lt', hy_gt, if_true, if_false, hy_f10]
    · simp (disch := omega) only [f_X11_locker, hq, hy_k0, z3, r_in_ok _ (hy_nn (a := p) (by omega)) (hy_pre' (n := lz (M 179)) (by omega) hp), r_kpr (hq _) hZ0, r_right1, hy_in, hy_c, hy_cts, hy_ctn, hy_xts, hy_xtn, c_need0, c_need1, x_need0, x_need1, hy_jn, hy_lm, hy_lt', hy_gt, if_true, if_false, hy_f10]
theorem g_9 {M : hz_M} (I : Inv M) (a : Int32) : ∃ M', fs_9 a M = some (0, M') ∧ Inv M' := by
  have hC := I_C I
  have hQ := I_Q I
  have hq := fun r => q_1 M r 0
  have hq2 := q_2 M 0
  have hC0 := hC
  obtain ⟨hZ, ⟨b3, b4, b5, b6, b7, b8, bag, bnm⟩, hRR⟩ := hC
  have hZ0 := hZ
  obtain ⟨⟨s1, s2, s3, s4, s5, s6⟩, ra, ro, rp, rl, rt, rs, rw', rd, rwt, rpg, rk, rh, rtw⟩ := c_rows hRR
  obtain ⟨⟨z1, z2⟩, ⟨z3, z4, z5⟩, ⟨z6, z7, z8⟩, ⟨z9, z10⟩, ⟨z11, z12, z13⟩, ⟨z14, z15, z16⟩⟩ := hZ
  rw [z1] at b3; rw [z3] at b4; rw [z6] at b5; rw [z9] at b6; rw [z11] at b7; rw [z14] at b8
  show ∃ M', hy_go (f_X10_opening a M) (fx_X10_opening a M) (f_X11_opening a) = some (0, M') ∧ Inv M'
  rcases hy_two a (n := vz (M 179)) (by omega) with h | ⟨p, hp, rfl⟩
  · refine g_no (r := 0) I ?_ ?_ ?_
    · simp only [f_X10_opening, c_isValveO hC0 h, hy_cts, hy_ctn, hy_xts, hy_xtn, c_need0, c_need1, x_need0, x_need1, hy_jn, hy_lm, hy_lt', hy_gt, if_true, if_false, hy_f10]
    · simp only [fx_X10_opening, c_isValveO hC0 h, hy_cts, hy_ctn, hy_xts, hy_xtn, c_need0, c_need1, x_need0, x_need1, hy_jn, hy_lm, hy_lt', hy_gt, if_true, if_false, hy_f10]
    · simp only [f_X11_opening, r_isValveO hq2 hZ0 h, r_right0, hy_cts, hy_ctn, hy_xts, hy_xtn, c_need0, c_need1, x_need0, x_need1, hy_jn, hy_lm, hy_lt', hy_gt, if_true, if_false, hy_f10]
  · refine g_ok I (r := M 179 (21 + p)) ?_ ?_
    · simp (disch := omega) only [f_X10_opening, c_isValve hC0 hp, ro p (by omega), hy_in, hy_c, hy_cts, hy_ctn, hy_xts, hy_xtn, c_need0, c_need1, x_need0, x_need1, hy_jn, hy_lm, hy_lt', hy_gt, if_true, if_false, hy_f10]
    · simp (disch := omega) only [f_X11_opening, r_isValve (hq _) hZ0 hp, hq, show (21 : Int32) = nI 21 from rfl, hy_add, r_right1, hy_in, hy_c, hy_cts, hy_ctn, hy_xts, hy_xtn, c_need0, c_need1, x_need0, x_need1, hy_jn, hy_lm, hy_lt', hy_gt, if_true, if_false, hy_f10]
theorem g_5 {M : hz_M} (I : Inv M) (a c : Int32) : ∃ M', fs_5 a c M = some (0, M') ∧ Inv M' := by
  have hC := I_C I
  have hQ := I_Q I
  have hq := fun r => q_1 M r 0
  have hq2 := q_2 M 0
  have hC0 := hC
  obtain ⟨hZ, ⟨b3, b4, b5, b6, b7, b8, bag, bnm⟩, hRR⟩ := hC
  have hZ0 := hZ
  obtain ⟨⟨s1, s2, s3, s4, s5, s6⟩, ra, ro, rp, rl, rt, rs, rw', rd, rwt, rpg, rk, rh, rtw⟩ := c_rows hRR
  obtain ⟨⟨z1, z2⟩, ⟨z3, z4, z5⟩, ⟨z6, z7, z8⟩, ⟨z9, z10⟩, ⟨z11, z12, z13⟩, ⟨z14, z15, z16⟩⟩ := hZ
  rw [z1] at b3; rw [z3] at b4; rw [z6] at b5; rw [z9] at b6; rw [z11] at b7; rw [z14] at b8
  show ∃ M', hy_go (f_X10_guest a c M) (fx_X10_guest a c M) (f_X11_guest a c) = some (0, M') ∧ Inv M'
  rcases hy_two a (n := gz (M 179)) (by omega) with h | ⟨p, hp, rfl⟩
  · refine g_no (r := 0) I ?_ ?_ ?_
    · simp only [f_X10_guest, c_isGuestO hC0 h, hy_cts, hy_ctn, hy_xts, hy_xtn, c_need0, c_need1, x_need0, x_need1, hy_jn, hy_lm, hy_lt', hy_gt, if_true, if_false, hy_f10]
    · simp only [fx_X10_guest, c_isGuestO hC0 h, hy_cts, hy_ctn, hy_xts, hy_xtn, c_need0, c_need1, x_need0, x_need1, hy_jn, hy_lm, hy_lt', hy_gt, if_true, if_false, hy_f10]
    · simp only [f_X11_guest, r_isGuestO hq2 hZ0 h, r_right0, hy_cts, hy_ctn, hy_xts, hy_xtn, c_need0, c_need1, x_need0, x_need1, hy_jn, hy_lm, hy_lt', hy_gt, if_true, if_false, hy_f10]
  rcases hy_lit9 c with h | rfl | rfl | rfl | rfl | rfl | rfl | rfl | rfl | rfl
  · obtain ⟨n0, n1, n2, n3, n4, n5, n6, n7, n8⟩ := hy_lit9n h
    refine g_no (r := 0) I ?_ ?_ ?_
    · simp only [f_X10_guest, c_isGuest hC0 hp, n0, n1, n2, n3, n4, n5, n6, n7, n8, hy_cts, hy_ctn, hy_xts, hy_xtn, c_need0, c_need1, x_need0, x_need1, hy_jn, hy_lm, hy_lt', hy_gt, if_true, if_false, hy_f10]
    · simp only [fx_X10_guest, c_isGuest hC0 hp, n0, n1, n2, n3, n4, n5, n6, n7, n8, hy_cts, hy_ctn, hy_xts, hy_xtn, c_need0, c_need1, x_need0, x_need1, hy_jn, hy_lm, hy_lt', hy_gt, if_true, if_false, hy_f10]
    · simp only [f_X11_guest, r_isGuest hq2 hZ0 hp, r_in_no _ (hy_lit9o h), r_right0, hy_cts, hy_ctn, hy_xts, hy_xtn, c_need0, c_need1, x_need0, x_need1, hy_jn, hy_lm, hy_lt', hy_gt, if_true, if_false, hy_f10]
  · refine g_ok I (r := M 179 (25 + 8 * p + 1)) ?_ ?_
    · simp (disch := omega) only [f_X10_guest, c_isGuest hC0 hp, hy_e0_1, hy_e0_2, hy_e0_3, hy_e0_4, hy_e0_5, hy_e0_6, hy_e0_7, hy_e0_8, bag p hp, rp p hp, rl p hp, rt p hp, rs p hp, rw' p hp, rd p hp, f_X3_bears, f_X3_highestByAge, b8, hy_in, hy_c, hy_cts, hy_ctn, hy_xts, hy_xtn, c_need0, c_need1, x_need0, x_need1, hy_jn, hy_lm, hy_lt', hy_gt, if_true, if_false, hy_f10]
    · simp (disch := omega) only [f_X11_guest, r_isGuest (hq _) hZ0 hp, r_in_ok _ (show (0 : Int32) ≤ 0 by decide) (show (0 : Int32) ≤ 8 by decide), r_right1, hy_e0_1, hy_e0_2, hy_e0_3, hy_e0_4, hy_e0_5, hy_e0_6, hy_e0_7, hy_e0_8, hy_k4, z14, f_X11_bears, show (1 : Int32) + 0 = 1 from rfl, show (1 : Int32) + 1 = 2 from rfl, show (1 : Int32) + 2 = 3 from rfl, show (1 : Int32) + 3 = 4 from rfl, show (1 : Int32) + 4 = 5 from rfl, show (1 : Int32) + 5 = 6 from rfl, r_of0, r_of1, r_of2, r_of3, r_of4, r_of5, r_of6, r_of7, hq, hy_in, hy_c, hy_cts, hy_ctn, hy_xts, hy_xtn, c_need0, c_need1, x_need0, x_need1, hy_jn, hy_lm, hy_lt', hy_gt, if_true, if_false, hy_f10]
  · refine g_ok I (r := M 179 (25 + 8 * p + 2)) ?_ ?_
    · simp (disch := omega) only [f_X10_guest, c_isGuest hC0 hp, hy_e1_0, hy_e1_2, hy_e1_3, hy_e1_4, hy_e1_5, hy_e1_6, hy_e1_7, hy_e1_8, bag p hp, rp p hp, rl p hp, rt p hp, rs p hp, rw' p hp, rd p hp, f_X3_bears, f_X3_highestByAge, b8, hy_in, hy_c, hy_cts, hy_ctn, hy_xts, hy_xtn, c_need0, c_need1, x_need0, x_need1, hy_jn, hy_lm, hy_lt', hy_gt, if_true, if_false, hy_f10]
    · simp (disch := omega) only [f_X11_guest, r_isGuest (hq _) hZ0 hp, r_in_ok _ (show (0 : Int32) ≤ 1 by decide) (show (1 : Int32) ≤ 8 by decide), r_right1, hy_e1_0, hy_e1_2, hy_e1_3, hy_e1_4, hy_e1_5, hy_e1_6, hy_e1_7, hy_e1_8, hy_k4, z14, f_X11_bears, show (1 : Int32) + 0 = 1 from rfl, show (1 : Int32) + 1 = 2 from rfl, show (1 : Int32) + 2 = 3 from rfl, show (1 : Int32) + 3 = 4 from rfl, show (1 : Int32) + 4 = 5 from rfl, show (1 : Int32) + 5 = 6 from rfl, r_of0, r_of1, r_of2, r_of3, r_of4, r_of5, r_of6, r_of7, hq, hy_in, hy_c, hy_cts, hy_ctn, hy_xts, hy_xtn, c_need0, c_need1, x_need0, x_need1, hy_jn, hy_lm, hy_lt', hy_gt, if_true, if_false, hy_f10]
  · refine g_ok I (r := M 179 (25 + 8 * p + 3)) ?_ ?_
    · simp (disch := omega) only [f_X10_guest, c_isGuest hC0 hp, hy_e2_0, hy_e2_1, hy_e2_3, hy_e2_4, hy_e2_5, hy_e2_6, hy_e2_7, hy_e2_8, bag p hp, rp p hp, rl p hp, rt p hp, rs p hp, rw' p hp, rd p hp, f_X3_bears, f_X3_highestByAge, b8, hy_in, hy_c, hy_cts, hy_ctn, hy_xts, hy_xtn, c_need0, c_need1, x_need0, x_need1, hy_jn, hy_lm, hy_lt', hy_gt, if_true, if_false, hy_f10]
    · simp (disch := omega) only [f_X11_guest, r_isGuest (hq _) hZ0 hp, r_in_ok _ (show (0 : Int32) ≤ 2 by decide) (show (2 : Int32) ≤ 8 by decide), r_right1, hy_e2_0, hy_e2_1, hy_e2_3, hy_e2_4, hy_e2_5, hy_e2_6, hy_e2_7, hy_e2_8, hy_k4, z14, f_X11_bears, show (1 : Int32) + 0 = 1 from rfl, show (1 : Int32) + 1 = 2 from rfl, show (1 : Int32) + 2 = 3 from rfl, show (1 : Int32) + 3 = 4 from rfl, show (1 : Int32) + 4 = 5 from rfl, show (1 : Int32) + 5 = 6 from rfl, r_of0, r_of1, r_of2, r_of3, r_of4, r_of5, r_of6, r_of7, hq, hy_in, hy_c, hy_cts, hy_ctn, hy_xts, hy_xtn, c_need0, c_need1, x_need0, x_need1, hy_jn, hy_lm, hy_lt', hy_gt, if_true, if_false, hy_f10]
  · refine g_ok I (r := M 179 (25 + 8 * p + 4)) ?_ ?_
    · simp (disch := omega) only [f_X10_guest, c_isGuest hC0 hp, hy_e3_0, hy_e3_1, hy_e3_2, hy_e3_4, hy_e3_5, hy_e3_6, hy_e3_7, hy_e3_8, bag p hp, rp p hp, rl p hp, rt p hp, rs p hp, rw' p hp, rd p hp, f_X3_bears, f_X3_highestByAge, b8, hy_in, hy_c, hy_cts, hy_ctn, hy_xts, hy_xtn, c_need0, c_need1, x_need0, x_need1, hy_jn, hy_lm, hy_lt', hy_gt, if_true, if_false, hy_f10]
    · simp (disch := omega) only [f_X11_guest, r_isGuest (hq _) hZ0 hp, r_in_ok _ (show (0 : Int32) ≤ 3 by decide) (show (3 : Int32) ≤ 8 by decide), r_right1, hy_e3_0, hy_e3_1, hy_e3_2, hy_e3_4, hy_e3_5, hy_e3_6, hy_e3_7, hy_e3_8, hy_k4, z14, f_X11_bears, show (1 : Int32) + 0 = 1 from rfl, show (1 : Int32) + 1 = 2 from rfl, show (1 : Int32) + 2 = 3 from rfl, show (1 : Int32) + 3 = 4 from rfl, show (1 : Int32) + 4 = 5 from rfl, show (1 : Int32) + 5 = 6 from rfl, r_of0, r_of1, r_of2, r_of3, r_of4, r_of5, r_of6, r_of7, hq, hy_in, hy_c, hy_cts, hy_ctn, hy_xts, hy_xtn, c_need0, c_need1, x_need0, x_need1, hy_jn, hy_lm, hy_lt', hy_gt, if_true, if_false, hy_f10]
  · refine g_ok I (r := M 179 (25 + 8 * p + 5)) ?_ ?_
    · simp (disch := omega) only [f_X10_guest, c_isGuest hC0 hp, hy_e4_0, hy_e4_1, hy_e4_2, hy_e4_3, hy_e4_5, hy_e4_6, hy_e4_7, hy_e4_8, bag p hp, rp p hp, rl p hp, rt p hp, rs p hp, rw' p hp, rd p hp, f_X3_bears, f_X3_highestByAge, b8, hy_in, hy_c, hy_cts, hy_ctn, hy_xts, hy_xtn, c_need0, c_need1, x_need0, x_need1, hy_jn, hy_lm, hy_lt', hy_gt, if_true, if_false, hy_f10]
    · simp (disch := omega) only [f_X11_guest, r_isGuest (hq _) hZ0 hp, r_in_ok _ (show (0 : Int32) ≤ 4 by decide) (show (4 : Int32) ≤ 8 by decide), r_right1, hy_e4_0, hy_e4_1, hy_e4_2, hy_e4_3, hy_e4_5, hy_e4_6, hy_e4_7, hy_e4_8, hy_k4, z14, f_X11_bears, show (1 : Int32) + 0 = 1 from rfl, show (1 : Int32) + 1 = 2 from rfl, show (1 : Int32) + 2 = 3 from rfl, show (1 : Int32) + 3 = 4 from rfl, show (1 : Int32) + 4 = 5 from rfl, show (1 : Int32) + 5 = 6 from rfl, r_of0, r_of1, r_of2, r_of3, r_of4, r_of5, r_of6, r_of7, hq, hy_in, hy_c, hy_cts, hy_ctn, hy_xts, hy_xtn, c_need0, c_need1, x_need0, x_need1, hy_jn, hy_lm, hy_lt', hy_gt, if_true, if_false, hy_f10]
  · refine g_ok I (r := M 179 (25 + 8 * p + 6)) ?_ ?_
    · simp (disch := omega) only [f_X10_guest, c_isGuest hC0 hp, hy_e5_0, hy_e5_1, hy_e5_2, hy_e5_3, hy_e5_4, hy_e5_6, hy_e5_7, hy_e5_8, bag p hp, rp p hp, rl p hp, rt p hp, rs p hp, rw' p hp, rd p hp, f_X3_bears, f_X3_highestByAge, b8, hy_in, hy_c, hy_cts, hy_ctn, hy_xts, hy_xtn, c_need0, c_need1, x_need0, x_need1, hy_jn, hy_lm, hy_lt', hy_gt, if_true, if_false, hy_f10]
    · simp (disch := omega) only [f_X11_guest, r_isGuest (hq _) hZ0 hp, r_in_ok _ (show (0 : Int32) ≤ 5 by decide) (show (5 : Int32) ≤ 8 by decide), r_right1, hy_e5_0, hy_e5_1, hy_e5_2, hy_e5_3, hy_e5_4, hy_e5_6, hy_e5_7, hy_e5_8, hy_k4, z14, f_X11_bears, show (1 : Int32) + 0 = 1 from rfl, show (1 : Int32) + 1 = 2 from rfl, show (1 : Int32) + 2 = 3 from rfl, show (1 : Int32) + 3 = 4 from rfl, show (1 : Int32) + 4 = 5 from rfl, show (1 : Int32) + 5 = 6 from rfl, r_of0, r_of1, r_of2, r_of3, r_of4, r_of5, r_of6, r_of7, hq, hy_in, hy_c, hy_cts, hy_ctn, hy_xts, hy_xtn, c_need0, c_need1, x_need0, x_need1, hy_jn, hy_lm, hy_lt', hy_gt, if_true, if_false, hy_f10]
  · refine g_ok I (r := 60 + M 179 (25 + 8 * p + 1) / 4) ?_ ?_
    · simp (disch := omega) only [f_X10_guest, c_isGuest hC0 hp, hy_e6_0, hy_e6_1, hy_e6_2, hy_e6_3, hy_e6_4, hy_e6_5, hy_e6_7, hy_e6_8, bag p hp, rp p hp, rl p hp, rt p hp, rs p hp, rw' p hp, rd p hp, f_X3_bears, f_X3_highestByAge, b8, hy_in, hy_c, hy_cts, hy_ctn, hy_xts, hy_xtn, c_need0, c_need1, x_need0, x_need1, hy_jn, hy_lm, hy_lt', hy_gt, if_true, if_false, hy_f10]
    · simp (disch := omega) only [f_X11_guest, r_isGuest (hq _) hZ0 hp, r_in_ok _ (show (0 : Int32) ≤ 6 by decide) (show (6 : Int32) ≤ 8 by decide), r_right1, hy_e6_0, hy_e6_1, hy_e6_2, hy_e6_3, hy_e6_4, hy_e6_5, hy_e6_7, hy_e6_8, hy_k4, z14, f_X11_bears, show (1 : Int32) + 0 = 1 from rfl, show (1 : Int32) + 1 = 2 from rfl, show (1 : Int32) + 2 = 3 from rfl, show (1 : Int32) + 3 = 4 from rfl, show (1 : Int32) + 4 = 5 from rfl, show (1 : Int32) + 5 = 6 from rfl, r_of0, r_of1, r_of2, r_of3, r_of4, r_of5, r_of6, r_of7, hq, hy_in, hy_c, hy_cts, hy_ctn, hy_xts, hy_xtn, c_need0, c_need1, x_need0, x_need1, hy_jn, hy_lm, hy_lt', hy_gt, if_true, if_false, hy_f10]
  · refine g_ok I (r := (if nI (sz (M 179)) < M 179 (25 + 8 * p + 1) / 5 + 1 then nI (sz (M 179)) else M 179 (25 + 8 * p + 1) / 5 + 1)) ?_ ?_
    · simp (disch := omega) only [f_X10_guest, c_isGuest hC0 hp, hy_e7_0, hy_e7_1, hy_e7_2, hy_e7_3, hy_e7_4, hy_e7_5, hy_e7_6, hy_e7_8, bag p hp, rp p hp, rl p hp, rt p hp, rs p hp, rw' p hp, rd p hp, f_X3_bears, f_X3_highestByAge, b8, hy_in, hy_c, hy_cts, hy_ctn, hy_xts, hy_xtn, c_need0, c_need1, x_need0, x_need1, hy_jn, hy_lm, hy_lt', hy_gt, if_true, if_false, hy_f10]
    · simp (disch := omega) only [f_X11_guest, r_isGuest (hq _) hZ0 hp, r_in_ok _ (show (0 : Int32) ≤ 7 by decide) (show (7 : Int32) ≤ 8 by decide), r_right1, hy_e7_0, hy_e7_1, hy_e7_2, hy_e7_3, hy_e7_4, hy_e7_5, hy_e7_6, hy_e7_8, hy_k4, z14, f_X11_bears, show (1 : Int32) + 0 = 1 from rfl, show (1 : Int32) + 1 = 2 from rfl, show (1 : Int32) + 2 = 3 from rfl, show (1 : Int32) + 3 = 4 from rfl, show (1 : Int32) + 4 = 5 from rfl, show (1 : Int32) + 5 = 6 from rfl, r_of0, r_of1, r_of2, r_of3, r_of4, r_of5, r_of6, r_of7, hq, hy_in, hy_c, hy_cts, hy_ctn, hy_xts, hy_xtn, c_need0, c_need1, x_need0, x_need1, hy_jn, hy_lm, hy_lt', hy_gt, if_true, if_false, hy_f10]
      congr 2
      split <;> split <;> grind
  · refine g_ok I (r := M 179 (25 + 8 * p + 7)) ?_ ?_
    · simp (disch := omega) only [f_X10_guest, c_isGuest hC0 hp, hy_e8_0, hy_e8_1, hy_e8_2, hy_e8_3, hy_e8_4, hy_e8_5, hy_e8_6, hy_e8_7, bag p hp, rp p hp, rl p hp, rt p hp, rs p hp, rw' p hp, rd p hp, f_X3_bears, f_X3_highestByAge, b8, hy_in, hy_c, hy_cts, hy_ctn, hy_xts, hy_xtn, c_need0, c_need1, x_need0, x_need1, hy_jn, hy_lm, hy_lt', hy_gt, if_true, if_false, hy_f10]
    · simp (disch := omega) only [f_X11_guest, r_isGuest (hq _) hZ0 hp, r_in_ok _ (show (0 : Int32) ≤ 8 by decide) (show (8 : Int32) ≤ 8 by decide), r_right1, hy_e8_0, hy_e8_1, hy_e8_2, hy_e8_3, hy_e8_4, hy_e8_5, hy_e8_6, hy_e8_7, hy_k4, z14, f_X11_bears, show (1 : Int32) + 0 = 1 from rfl, show (1 : Int32) + 1 = 2 from rfl, show (1 : Int32) + 2 = 3 from rfl, show (1 : Int32) + 3 = 4 from rfl, show (1 : Int32) + 4 = 5 from rfl, show (1 : Int32) + 5 = 6 from rfl, r_of0, r_of1, r_of2, r_of3, r_of4, r_of5, r_of6, r_of7, hq, hy_in, hy_c, hy_cts, hy_ctn, hy_xts, hy_xtn, c_need0, c_need1, x_need0, x_need1, hy_jn, hy_lm, hy_lt', hy_gt, if_true, if_false, hy_f10]
theorem g_6 {M : hz_M} (I : Inv M) (a c : Int32) : ∃ M', fs_6 a c M = some (0, M') ∧ Inv M' := by
  have hC := I_C I
  have hQ := I_Q I
  have hq := fun r => q_1 M r 0
  have hq2 := q_2 M 0
  have hC0 := hC
  obtain ⟨hZ, ⟨b3, b4, b5, b6, b7, b8, bag, bnm⟩, hRR⟩ := hC
  have hZ0 := hZ
  obtain ⟨⟨s1, s2, s3, s4, s5, s6⟩, ra, ro, rp, rl, rt, rs, rw', rd, rwt, rpg, rk, rh, rtw⟩ := c_rows hRR
  obtain ⟨⟨z1, z2⟩, ⟨z3, z4, z5⟩, ⟨z6, z7, z8⟩, ⟨z9, z10⟩, ⟨z11, z12, z13⟩, ⟨z14, z15, z16⟩⟩ := hZ
  rw [z1] at b3; rw [z3] at b4; rw [z6] at b5; rw [z9] at b6; rw [z11] at b7; rw [z14] at b8
  show ∃ M', hy_go (f_X10_towel a c M) (fx_X10_towel a c M) (f_X11_towel a c) = some (0, M') ∧ Inv M'
  rcases hy_two a (n := tz (M 179)) (by omega) with h | ⟨p, hp, rfl⟩
  · refine g_no (r := 0) I ?_ ?_ ?_
    · simp only [f_X10_towel, c_isTowelO hC0 h, hy_cts, hy_ctn, hy_xts, hy_xtn, c_need0, c_need1, x_need0, x_need1, hy_jn, hy_lm, hy_lt', hy_gt, if_true, if_false, hy_f10]
    · simp only [fx_X10_towel, c_isTowelO hC0 h, hy_cts, hy_ctn, hy_xts, hy_xtn, c_need0, c_need1, x_need0, x_need1, hy_jn, hy_lm, hy_lt', hy_gt, if_true, if_false, hy_f10]
    · simp only [f_X11_towel, r_isTowelO hq2 hZ0 h, r_right0, hy_cts, hy_ctn, hy_xts, hy_xtn, c_need0, c_need1, x_need0, x_need1, hy_jn, hy_lm, hy_lt', hy_gt, if_true, if_false, hy_f10]
  rcases hy_lit4 c with h | rfl | rfl | rfl | rfl
  · obtain ⟨n0, n1, n2, n3⟩ := hy_lit4n h
    refine g_no (r := 0) I ?_ ?_ ?_
    · simp only [f_X10_towel, c_isTowel hC0 hp, n0, n1, n2, n3, hy_cts, hy_ctn, hy_xts, hy_xtn, c_need0, c_need1, x_need0, x_need1, hy_jn, hy_lm, hy_lt', hy_gt, if_true, if_false, hy_f10]
    · simp only [fx_X10_towel, c_isTowel hC0 hp, n0, n1, n2, n3, hy_cts, hy_ctn, hy_xts, hy_xtn, c_need0, c_need1, x_need0, x_need1, hy_jn, hy_lm, hy_lt', hy_gt, if_true, if_false, hy_f10]
    · simp only [f_X11_towel, r_isTowel hq2 hZ0 hp, r_in_no _ (hy_lit4o h), r_right0, hy_cts, hy_ctn, hy_xts, hy_xtn, c_need0, c_need1, x_need0, x_need1, hy_jn, hy_lm, hy_lt', hy_gt, if_true, if_false, hy_f10]
  · refine g_ok I (r := M 179 (153 + 2 * p)) ?_ ?_
    · simp (disch := omega) only [f_X10_towel, c_isTowel hC0 hp, hy_e0_1, hy_e0_2, hy_e0_3, rwt p hp, rpg p hp, rh p hp, c_isB hC0 hp, hy_in, hy_c, hy_cts, hy_ctn, hy_xts, hy_xtn, c_need0, c_need1, x_need0, x_need1, hy_jn, hy_lm, hy_lt', hy_gt, if_true, if_false, hy_f10]
    · simp (disch := omega) only [f_X11_towel, r_isTowel (hq _) hZ0 hp, r_in_ok _ (show (0 : Int32) ≤ 0 by decide) (show (0 : Int32) ≤ 3 by decide), r_right1, hy_e0_1, hy_e0_2, hy_e0_3, r_ofT0, r_ofT1, r_hld (hq _) hZ0, r_isB (hq _) hZ0 hp, hq, hy_in, hy_c, hy_cts, hy_ctn, hy_xts, hy_xtn, c_need0, c_need1, x_need0, x_need1, hy_jn, hy_lm, hy_lt', hy_gt, if_true, if_false, hy_f10]
  · refine g_ok I (r := M 179 (153 + 2 * p + 1)) ?_ ?_
    · simp (disch := omega) only [f_X10_towel, c_isTowel hC0 hp, hy_e1_0, hy_e1_2, hy_e1_3, rwt p hp, rpg p hp, rh p hp, c_isB hC0 hp, hy_in, hy_c, hy_cts, hy_ctn, hy_xts, hy_xtn, c_need0, c_need1, x_need0, x_need1, hy_jn, hy_lm, hy_lt', hy_gt, if_true, if_false, hy_f10]
    · simp (disch := omega) only [f_X11_towel, r_isTowel (hq _) hZ0 hp, r_in_ok _ (show (0 : Int32) ≤ 1 by decide) (show (1 : Int32) ≤ 3 by decide), r_right1, hy_e1_0, hy_e1_2, hy_e1_3, r_ofT0, r_ofT1, r_hld (hq _) hZ0, r_isB (hq _) hZ0 hp, hq, hy_in, hy_c, hy_cts, hy_ctn, hy_xts, hy_xtn, c_need0, c_need1, x_need0, x_need1, hy_jn, hy_lm, hy_lt', hy_gt, if_true, if_false, hy_f10]
  · refine g_ok I (r := hld (M 179) p) ?_ ?_
    · simp (disch := omega) only [f_X10_towel, c_isTowel hC0 hp, hy_e2_0, hy_e2_1, hy_e2_3, rwt p hp, rpg p hp, rh p hp, c_isB hC0 hp, hy_in, hy_c, hy_cts, hy_ctn, hy_xts, hy_xtn, c_need0, c_need1, x_need0, x_need1, hy_jn, hy_lm, hy_lt', hy_gt, if_true, if_false, hy_f10]
    · simp (disch := omega) only [f_X11_towel, r_isTowel (hq _) hZ0 hp, r_in_ok _ (show (0 : Int32) ≤ 2 by decide) (show (2 : Int32) ≤ 3 by decide), r_right1, hy_e2_0, hy_e2_1, hy_e2_3, r_ofT0, r_ofT1, r_hld (hq _) hZ0, r_isB (hq _) hZ0 hp, hq, hy_in, hy_c, hy_cts, hy_ctn, hy_xts, hy_xtn, c_need0, c_need1, x_need0, x_need1, hy_jn, hy_lm, hy_lt', hy_gt, if_true, if_false, hy_f10]
  · refine g_ok I (r := (if isB (M 179) p = true then 1 else 0)) ?_ ?_
    · simp (disch := omega) only [f_X10_towel, c_isTowel hC0 hp, hy_e3_0, hy_e3_1, hy_e3_2, rwt p hp, rpg p hp, rh p hp, c_isB hC0 hp, hy_in, hy_c, hy_cts, hy_ctn, hy_xts, hy_xtn, c_need0, c_need1, x_need0, x_need1, hy_jn, hy_lm, hy_lt', hy_gt, if_true, if_false, hy_f10]
      by_cases e : isB (M 179) p = true <;> simp [e]
    · simp (disch := omega) only [f_X11_towel, r_isTowel (hq _) hZ0 hp, r_in_ok _ (show (0 : Int32) ≤ 3 by decide) (show (3 : Int32) ≤ 3 by decide), r_right1, hy_e3_0, hy_e3_1, hy_e3_2, r_ofT0, r_ofT1, r_hld (hq _) hZ0, r_isB (hq _) hZ0 hp, hq, hy_in, hy_c, hy_cts, hy_ctn, hy_xts, hy_xtn, c_need0, c_need1, x_need0, x_need1, hy_jn, hy_lm, hy_lt', hy_gt, if_true, if_false, hy_f10]
      by_cases e : isB (M 179) p = true <;> simp [e]
theorem g_10 {M : hz_M} (I : Inv M) (a c : Int32) : ∃ M', fs_10 a c M = some (0, M') ∧ Inv M' := by
  have hC := I_C I
  have hQ := I_Q I
  have hq := fun r => q_1 M r 0
  have hq2 := q_2 M 0
  have hC0 := hC
  obtain ⟨hZ, ⟨b3, b4, b5, b6, b7, b8, bag, bnm⟩, hRR⟩ := hC
  have hZ0 := hZ
  obtain ⟨⟨s1, s2, s3, s4, s5, s6⟩, ra, ro, rp, rl, rt, rs, rw', rd, rwt, rpg, rk, rh, rtw⟩ := c_rows hRR
  obtain ⟨⟨z1, z2⟩, ⟨z3, z4, z5⟩, ⟨z6, z7, z8⟩, ⟨z9, z10⟩, ⟨z11, z12, z13⟩, ⟨z14, z15, z16⟩⟩ := hZ
  rw [z1] at b3; rw [z3] at b4; rw [z6] at b5; rw [z9] at b6; rw [z11] at b7; rw [z14] at b8
  show ∃ M', hy_go (f_X10_step a c M) (fx_X10_step a c M) (f_X11_step a c) = some (0, M') ∧ Inv M'
  rcases hy_two1 a (n := sz (M 179)) (by omega) with h | ⟨p, h1, h2, rfl⟩
  · refine g_no (r := 0) I ?_ ?_ ?_
    · simp only [f_X10_step, c_isStepN hC0 h, hy_cts, hy_ctn, hy_xts, hy_xtn, c_need0, c_need1, x_need0, x_need1, hy_jn, hy_lm, hy_lt', hy_gt, if_true, if_false, hy_f10]
    · simp only [fx_X10_step, c_isStepN hC0 h, hy_cts, hy_ctn, hy_xts, hy_xtn, c_need0, c_need1, x_need0, x_need1, hy_jn, hy_lm, hy_lt', hy_gt, if_true, if_false, hy_f10]
    · simp only [f_X11_step, r_isStepO hq2 hZ0 h, r_right0, hy_cts, hy_ctn, hy_xts, hy_xtn, c_need0, c_need1, x_need0, x_need1, hy_jn, hy_lm, hy_lt', hy_gt, if_true, if_false, hy_f10]
  rcases hy_lit5 c with h | rfl | rfl | rfl | rfl | rfl
  · obtain ⟨n0, n1, n2, n3, n4⟩ := hy_lit5n h
    refine g_no (r := 0) I ?_ ?_ ?_
    · simp only [f_X10_step, c_isStep hC0 h1 h2, n0, n1, n2, n3, n4, hy_cts, hy_ctn, hy_xts, hy_xtn, c_need0, c_need1, x_need0, x_need1, hy_jn, hy_lm, hy_lt', hy_gt, if_true, if_false, hy_f10]
    · simp only [fx_X10_step, c_isStep hC0 h1 h2, n0, n1, n2, n3, n4, hy_cts, hy_ctn, hy_xts, hy_xtn, c_need0, c_need1, x_need0, x_need1, hy_jn, hy_lm, hy_lt', hy_gt, if_true, if_false, hy_f10]
    · simp only [f_X11_step, r_isStep hq2 hZ0 h1 h2, r_in_no _ (hy_lit5o h), r_right0, hy_cts, hy_ctn, hy_xts, hy_xtn, c_need0, c_need1, x_need0, x_need1, hy_jn, hy_lm, hy_lt', hy_gt, if_true, if_false, hy_f10]
  · refine g_ok I (r := hAt (M 179) (nI p)) ?_ ?_
    · simp (disch := omega) only [f_X10_step, c_isStep hC0 h1 h2, hy_e0_1, hy_e0_2, hy_e0_3, hy_e0_4, c_hAt hC0, f_X7_temperature, s2, f_X3_ageFor, c_eld hC0, c_sfr hC0, hy_in, hy_c, hy_cts, hy_ctn, hy_xts, hy_xtn, c_need0, c_need1, x_need0, x_need1, hy_jn, hy_lm, hy_lt', hy_gt, if_true, if_false, hy_f10]
    · simp (disch := omega) only [f_X11_step, r_isStep (hq _) hZ0 h1 h2, r_in_ok _ (show (0 : Int32) ≤ 0 by decide) (show (0 : Int32) ≤ 4 by decide), r_right1, hy_e0_1, hy_e0_2, hy_e0_3, hy_e0_4, r_hAt (hq _) hZ0, f_X11_warmthOf, hy_k9, r_eld (hq _) hZ0, r_sfr (hq _) hZ0, hq, hy_in, hy_c, hy_cts, hy_ctn, hy_xts, hy_xtn, c_need0, c_need1, x_need0, x_need1, hy_jn, hy_lm, hy_lt', hy_gt, if_true, if_false, hy_f10]
  · refine g_ok I (r := M 179 9 + 6 * nI p) ?_ ?_
    · simp (disch := omega) only [f_X10_step, c_isStep hC0 h1 h2, hy_e1_0, hy_e1_2, hy_e1_3, hy_e1_4, c_hAt hC0, f_X7_temperature, s2, f_X3_ageFor, c_eld hC0, c_sfr hC0, hy_in, hy_c, hy_cts, hy_ctn, hy_xts, hy_xtn, c_need0, c_need1, x_need0, x_need1, hy_jn, hy_lm, hy_lt', hy_gt, if_true, if_false, hy_f10]
    · simp (disch := omega) only [f_X11_step, r_isStep (hq _) hZ0 h1 h2, r_in_ok _ (show (0 : Int32) ≤ 1 by decide) (show (1 : Int32) ≤ 4 by decide), r_right1, hy_e1_0, hy_e1_2, hy_e1_3, hy_e1_4, r_hAt (hq _) hZ0, f_X11_warmthOf, hy_k9, r_eld (hq _) hZ0, r_sfr (hq _) hZ0, hq, hy_in, hy_c, hy_cts, hy_ctn, hy_xts, hy_xtn, c_need0, c_need1, x_need0, x_need1, hy_jn, hy_lm, hy_lt', hy_gt, if_true, if_false, hy_f10]
  · refine g_ok I (r := 5 * (nI p - 1)) ?_ ?_
    · simp (disch := omega) only [f_X10_step, c_isStep hC0 h1 h2, hy_e2_0, hy_e2_1, hy_e2_3, hy_e2_4, c_hAt hC0, f_X7_temperature, s2, f_X3_ageFor, c_eld hC0, c_sfr hC0, hy_in, hy_c, hy_cts, hy_ctn, hy_xts, hy_xtn, c_need0, c_need1, x_need0, x_need1, hy_jn, hy_lm, hy_lt', hy_gt, if_true, if_false, hy_f10]
    · simp (disch := omega) only [f_X11_step, r_isStep (hq _) hZ0 h1 h2, r_in_ok _ (show (0 : Int32) ≤ 2 by decide) (show (2 : Int32) ≤ 4 by decide), r_right1, hy_e2_0, hy_e2_1, hy_e2_3, hy_e2_4, r_hAt (hq _) hZ0, f_X11_warmthOf, hy_k9, r_eld (hq _) hZ0, r_sfr (hq _) hZ0, hq, hy_in, hy_c, hy_cts, hy_ctn, hy_xts, hy_xtn, c_need0, c_need1, x_need0, x_need1, hy_jn, hy_lm, hy_lt', hy_gt, if_true, if_false, hy_f10]
  · refine g_ok I (r := eld (M 179) (nI p)) ?_ ?_
    · simp (disch := omega) only [f_X10_step, c_isStep hC0 h1 h2, hy_e3_0, hy_e3_1, hy_e3_2, hy_e3_4, c_hAt hC0, f_X7_temperature, s2, f_X3_ageFor, c_eld hC0, c_sfr hC0, hy_in, hy_c, hy_cts, hy_ctn, hy_xts, hy_xtn, c_need0, c_need1, x_need0, x_need1, hy_jn, hy_lm, hy_lt', hy_gt, if_true, if_false, hy_f10]
    · simp (disch := omega) only [f_X11_step, r_isStep (hq _) hZ0 h1 h2, r_in_ok _ (show (0 : Int32) ≤ 3 by decide) (show (3 : Int32) ≤ 4 by decide), r_right1, hy_e3_0, hy_e3_1, hy_e3_2, hy_e3_4, r_hAt (hq _) hZ0, f_X11_warmthOf, hy_k9, r_eld (hq _) hZ0, r_sfr (hq _) hZ0, hq, hy_in, hy_c, hy_cts, hy_ctn, hy_xts, hy_xtn, c_need0, c_need1, x_need0, x_need1, hy_jn, hy_lm, hy_lt', hy_gt, if_true, if_false, hy_f10]
  · refine g_ok I (r := sfr (M 179) (nI p)) ?_ ?_
    · simp (disch := omega) only [f_X10_step, c_isStep hC0 h1 h2, hy_e4_0, hy_e4_1, hy_e4_2, hy_e4_3, c_hAt hC0, f_X7_temperature, s2, f_X3_ageFor, c_eld hC0, c_sfr hC0, hy_in, hy_c, hy_cts, hy_ctn, hy_xts, hy_xtn, c_need0, c_need1, x_need0, x_need1, hy_jn, hy_lm, hy_lt', hy_gt, if_true, if_false, hy_f10]
    · simp (disch := omega) only [f_X11_step, r_isStep (hq _) hZ0 h1 h2, r_in_ok _ (show (0 : Int32) ≤ 4 by decide) (show (4 : Int32) ≤ 4 by decide), r_right1, hy_e4_0, hy_e4_1, hy_e4_2, hy_e4_3, r_hAt (hq _) hZ0, f_X11_warmthOf, hy_k9, r_eld (hq _) hZ0, r_sfr (hq _) hZ0, hq, hy_in, hy_c, hy_cts, hy_ctn, hy_xts, hy_xtn, c_need0, c_need1, x_need0, x_need1, hy_jn, hy_lm, hy_lt', hy_gt, if_true, if_false, hy_f10]
