/-! CELLS BESIDE THE WORLD: calls of members that don't see them -/
def hz_wB (w : hz_C) (B : Nat → Prop) : hz_C := (w.1, w.2.1, w.2.2.1, w.2.2.2.1, w.2.2.2.2.1, w.2.2.2.2.2.1, B, w.2.2.2.2.2.2.2)
def hz_w6 (w : hz_C) (q v n : Nat) (f : Nat → Int32) : hz_C := (w.1, w.2.1, w.2.2.1, w.2.2.2.1, fun i => if i = 6 then q else hz_sa w i, fun i => if i = 6 then v else hz_sv w i, fun a => hz_A w a ∧ a ≠ q ∧ a ≠ v, 7, n, f, w.2.2.2.2.2.2.2.2.2.2)
def hz_AS (w : hz_C) (S : va_W) : Nat → Prop := fun a => hz_A w a ∧ ∀ (j : Nat) (x : Nat × va_E), S[j]? = some x → a ≠ x.1
theorem hz_X_wB {w : hz_C} {B : Nat → Prop} {U : State} {H : Heap} (h : hz_X w U H) (hB : ∀ a, B a → hz_A w a) : hz_X (hz_wB w B) U H := by
  obtain ⟨h1, h2, h3, h4, h5, ⟨t, h6, h7⟩, ⟨⟨t2, h8, h9⟩, ⟨t3, h20, h21⟩⟩, h10, h11, h17, h18, h19, h22, h23, h24, h25, h26, h27⟩ := h
  exact ⟨va_En.narrow h1 hB, h2, fun i hi => ⟨va_O.narrow (h3 i hi).1 hB, va_OF.narrow (h3 i hi).2.1 hB, va_OF.narrow (h3 i hi).2.2.1 hB, va_T.narrow (h3 i hi).2.2.2 hB⟩, h4, h5, ⟨t, va_Z.narrow h6 hB, va_T.narrow h7 hB⟩, ⟨⟨t2, va_Z.narrow h8 hB, va_T.narrow h9 hB⟩, ⟨t3, va_Z.narrow h20 hB, va_T.narrow h21 hB⟩⟩, va_Z.narrow h10 hB, va_Zq.narrow h11 hB, h17, h18, h19, h22, h23, h24, va_T.narrow h25 hB, h26, h27⟩
theorem hz_ldc6 : ∀ q ∈ hz_ldcs, q.2.2.2 < 6 := by decide
theorem hz_X_w6 {w : hz_C} {q v n : Nat} {f : Nat → Int32} {U : State} {H : Heap} (h : hz_X w U H) (hn : n < 2 ^ 30) (hB : ∀ a, hz_A (hz_w6 w q v n f) a → hz_A w a)
    (k1 : va_O "java/lang/String" q (hz_A (hz_w6 w q v n f)) U H) (k2 : va_OF "java/lang/String" "coder" "B" (.int 0) q (hz_A (hz_w6 w q v n f)) U H) (k3 : va_OF "java/lang/String" "value" "[B" (.ref v) q (hz_A (hz_w6 w q v n f)) U H) (k4 : va_T .byte v n (fun j => .int (f j)) (hz_A (hz_w6 w q v n f)) U H) : hz_X (hz_w6 w q v n f) U H := by
  obtain ⟨h1, h2, h3, h4, h5, ⟨t, h6, h7⟩, ⟨⟨t2, h8, h9⟩, ⟨t3, h20, h21⟩⟩, h10, h11, h17, h18, h19, h22, h23, h24, h25, h26, h27⟩ := h
  refine ⟨va_En.narrow h1 hB, ⟨by show 6 ≤ 7; decide, by show 7 ≤ 7; decide, hn⟩, ?_, ?_, h5, ⟨t, va_Z.narrow h6 hB, va_T.narrow h7 hB⟩, ⟨⟨t2, va_Z.narrow h8 hB, va_T.narrow h9 hB⟩, ⟨t3, va_Z.narrow h20 hB, va_T.narrow h21 hB⟩⟩, va_Z.narrow h10 hB, va_Zq.narrow h11 hB, h17, h18, h19, h22, h23, h24, va_T.narrow h25 hB, h26, h27⟩
  · intro i hi
    by_cases h6i : i < 6
    · have e1 : hz_sa (hz_w6 w q v n f) i = hz_sa w i := if_neg (by omega)
      have e2 : hz_sv (hz_w6 w q v n f) i = hz_sv w i := if_neg (by omega)
      have e3 : hz_ln (hz_w6 w q v n f) i = hz_ln w i := by
        unfold hz_ln
        rw [if_pos h6i, if_pos h6i]
      have e4 : (fun j => Value.int (hz_by (hz_w6 w q v n f) i j)) = (fun j => Value.int (hz_by w i j)) := by
        funext j
        unfold hz_by
        rw [if_pos h6i, if_pos h6i]
      have hi0 := h3 i (Nat.lt_of_lt_of_le h6i h2.1)
      rw [e1, e2, e3, e4]
      exact ⟨va_O.narrow hi0.1 hB, va_OF.narrow hi0.2.1 hB, va_OF.narrow hi0.2.2.1 hB, va_T.narrow hi0.2.2.2 hB⟩
    · have hi7 : i < 7 := hi
      have : i = 6 := by omega
      subst this
      exact ⟨k1, k2, k3, k4⟩
  · intro z hz
    have e1 : hz_sa (hz_w6 w q v n f) z.2.2.2 = hz_sa w z.2.2.2 := if_neg (by have := hz_ldc6 z hz; omega)
    rw [e1]
    exact h4 z hz
theorem hz_at_kept {D : va_G} {cl : List vw_C} {q : Nat × va_E} {H H1 : Heap} (h : va_at D cl q H) (hk : H1[q.1]? = H[q.1]?) : va_at D cl q H1 := by
  obtain ⟨a, x⟩ := q
  cases x with
  | inl x =>
    show H1[a]? = _
    rw [hk]
    exact h
  | inr o =>
    obtain ⟨r, h1, h2⟩ := h
    exact ⟨r, h1, h2.kept hk⟩
theorem hz_D_same {A : Nat → Prop} {X X1 : va_W} (h : va_D A X) (e : ∀ (k : Nat) (q : Nat × va_E), X1[k]? = some q → ∃ x : Nat × va_E, X[k]? = some x ∧ x.1 = q.1) : va_D A X1 := by
  refine ⟨fun i j a b ha hb hab => ?_, fun k q hk => ?_⟩
  · obtain ⟨x, hx, ex⟩ := e i a ha
    obtain ⟨y, hy, ey⟩ := e j b hb
    exact h.1 i j x y hx hy (by rw [ex, ey, hab])
  · obtain ⟨x, hx, ex⟩ := e k q hk
    rw [← ex]
    exact h.2 k x hx
theorem hz_ws_same {w : hz_C} {N k : Nat} {M M1 : hz_M} {q : Nat × va_E} (h : (hz_ws w N M1)[k]? = some q) : ∃ x : Nat × va_E, (hz_ws w N M)[k]? = some x ∧ x.1 = q.1 := by
  simp only [hz_ws, List.getElem?_mapIdx] at h ⊢
  cases hs : (hz_SH.take N)[k]? with
  | none =>
    rw [hs] at h
    cases h
  | some sh =>
    rw [hs] at h
    have h1 := Option.some.inj h
    exact ⟨_, rfl, by rw [← h1]⟩
theorem hz_ws_len {w : hz_C} {N : Nat} {M M1 : hz_M} : (hz_ws w N M).length = (hz_ws w N M1).length := by
  simp only [hz_ws, List.length_mapIdx]
section HZJ
variable {p : Program} {l : Launch} {e : Env} {h : Nat} {z : hz_Z} {s : State} {m : MethodId} {args : Array Value} {below : List Frame} {meth : Method} {c : Code} {w : hz_C} {N nL : Nat} {Q : State → Prop} {M : hz_M} {X0 S : va_W} {pc : Nat} {ls : List (Nat × Value)} {st : List Value} {cc : ByteArray} {own : String} {ret : Option FieldType}
theorem hz_Yd_L {X S : va_W} {U : State} {H : Heap} (h : hz_Yd w (X ++ S) U H) : hz_Yd w X U H :=
  hz_Yd.sub (X := X ++ S) (X1 := X) (fun k => k) (fun k q hk => by
    have hl : k < X.length := (List.getElem?_eq_some_iff.mp hk).1
    rw [List.getElem?_append_left hl]
    exact hk) (fun i j q => q) h
theorem hz_y_toB {U : State} {H : Heap} (hW : hz_Yd w (X0 ++ S) U H) : hz_Yd (hz_wB w (hz_AS w S)) X0 U H := by
  refine ⟨(hz_Yd_L hW).1, hW.2.1, ⟨(hz_Yd_L hW).2.2.1.1, fun k q hk => ⟨(hz_Yd_L hW).2.2.1.2 k q hk, fun j x hx e => ?_⟩⟩, fun q hq => ⟨hW.2.2.2 q hq, fun j x hx e => ?_⟩⟩
  · have hl : k < X0.length := (List.getElem?_eq_some_iff.mp hk).1
    have h1 : (X0 ++ S)[k]? = some q := by
      rw [List.getElem?_append_left hl]
      exact hk
    have h2 := hW.2.2.1.1 k (X0.length + j) q x h1 (hz_yga hx) e
    omega
  · have h1 := vx_lt hW.1 (hz_yga (X0 := X0) hx)
    omega
/-- what stands beside the world stays -/
theorem hz_y_ofB {H H1 : Heap} {U t : State} {M1 : hz_M} (hW : hz_Yd w (hz_ws w N M ++ S) U H) (hW1 : hz_Wd (hz_wB w (hz_AS w S)) N M1 U H1) (hsz : H.size ≤ H1.size) (hk : ∀ q : Nat, q < H.size → ¬ hz_AS w S q → H1[q]? = H[q]?) : hz_Yd w (hz_ws w N M1 ++ S) U H1 := by
  refine ⟨fun k q hq => ?_, hW.2.1, hz_D_same hW.2.2.1 (fun k q hq => ?_), hW.2.2.2.le hsz⟩
  · by_cases hl : k < (hz_ws w N M1).length
    · rw [List.getElem?_append_left hl] at hq
      exact hW1.1 k q hq
    · obtain ⟨j, rfl⟩ : ∃ j, k = (hz_ws w N M1).length + j := ⟨k - (hz_ws w N M1).length, by omega⟩
      have hj : S[j]? = some q := by
        rw [List.getElem?_append_right (by omega)] at hq
        simpa using hq
      have h2 := hz_yga (X0 := hz_ws w N M) hj
      exact hz_at_kept (hW.1 _ q h2) (hk q.1 (vx_lt hW.1 h2) (fun hA => hA.2 j q hj rfl))
  · by_cases hl : k < (hz_ws w N M1).length
    · rw [List.getElem?_append_left hl] at hq
      obtain ⟨x, hx, ex⟩ := hz_ws_same (M := M) hq
      exact ⟨x, by rw [List.getElem?_append_left (by rw [hz_ws_len (M1 := M1)]; exact hl)]; exact hx, ex⟩
    · rw [List.getElem?_append_right (by omega)] at hq
      exact ⟨q, by rw [List.getElem?_append_right (by rw [hz_ws_len (M1 := M1)]; omega), hz_ws_len (M1 := M1)]; exact hq, rfl⟩
theorem hz_preX {as : List Value} {H : Heap} (hW : hz_Wd w N M s H) (hX : hz_X w s H) : ∀ U : State, U.heap = H → s.WarmedH U.vm → hz_Pre w N as M as.toArray U :=
  fun U hU hWm => ⟨rfl, by rw [hU]; exact hW.moved hWm.alike, by rw [hU]; exact hz_X_warm hWm hX⟩
theorem hz_preY {as : List Value} {X : va_W} {H : Heap} (hW : hz_Yd w X s H) (hX : hz_X w s H) : ∀ U : State, U.heap = H → s.WarmedH U.vm → hz_YP w as X as.toArray U :=
  fun U hU hWm => ⟨rfl, by rw [hU]; exact hW.moved hWm.alike, by rw [hU]; exact hz_X_warm hWm hX⟩
/-- a member of the world's, cells standing beside it -/
theorem hz_y_callSiB (hO : hz_Ok p s m args meth c w cc nL own ret) {idx n nLy hc : Nat} {C : String} {y : MethodName} {b : ByteArray} {rt : Option FieldType} {as rest : List Value} {r : Int32} {M1 : hz_M} (hC : hz_Ct l y b nLy rt hc (hz_wB w (hz_AS w S)) N as M (hz_Qi (hz_wB w (hz_AS w S)) N r M1)) (hcal : hz_CalS C y b nLy rt n) (hlink : Cond.methodLink own idx y ∈ hz_TB) (hh : hc + 1 ≤ h) (hn : as.length = n) (hst : st = as.reverse ++ rest) (hcat : (rest.map fun v => v.category).sum ≤ 8) (hdg : decode cc pc = .ok (.invokestatic idx, 3))
    (kk : hz_Y p l e h z s m args below meth c w nL Q (hz_ws w N M1) S (pc + 3) ls (.int r :: rest)) : hz_Y p l e h z s m args below meth c w nL Q (hz_ws w N M) S pc ls st := by
  intro hzk H locs la hW hS hL
  have hX : hz_X (hz_wB w (hz_AS w S)) s H := hz_X_wB (hz_X_kept hO.2.2.2.1 hS.2.1) (fun a q => q.1)
  have hB : hz_Wd (hz_wB w (hz_AS w S)) N M s H := hz_y_toB hW
  refine va_calli (va_runS (As := as) (rest := rest) hO.1 hC (hz_wS hO hcal hlink hh) ⟨hz_blind, hz_preX hB hX⟩ rfl hn hL.1 hst (lv_room hcat) hdg ⟨hzk.1, hzk.2⟩) hS (fun q _ z => z.1) (fun q z => z.1) (fun r1 u t H1 locs1 ht hvm hr hB1 hz1 hk1 hS1 => ?_)
  subst hr
  exact kk hzk H1 locs1 la (hz_y_ofB (t := t) hW (hz_back ht hvm hB1) hz1 hk1) hS1 hL
/-- a string of the walk's own, told as the last text -/
theorem hz_y_to6 (hO : hz_Ok p s m args meth c w cc nL own ret) {q v n : Nat} {f g : Nat → Int32} {H : Heap} {locs : List Loc} (hfg : ∀ j, j < n → f j = g j) (hW : hz_Yd w (X0 ++ (S ++ [(q, .inr (0, [.ref v, .int 0, .int 0, .int 0])), (v, .inl (hz_tc w 5, n, .inl f))])) s H) (hS : va_S (hz_A w) s.heap H locs) (hn : n < 2 ^ 30) : hz_Yd (hz_w6 w q v n g) (X0 ++ S) s H ∧ hz_X (hz_w6 w q v n g) s H := by
  have g1 : (X0 ++ (S ++ [(q, (.inr (0, [.ref v, .int 0, .int 0, .int 0]) : va_E)), (v, .inl (hz_tc w 5, n, .inl f))]))[X0.length + (S.length + 0)]? = some (q, .inr (0, [.ref v, .int 0, .int 0, .int 0])) := hz_yga (hz_yga rfl)
  have g2 : (X0 ++ (S ++ [(q, (.inr (0, [.ref v, .int 0, .int 0, .int 0]) : va_E)), (v, .inl (hz_tc w 5, n, .inl f))]))[X0.length + (S.length + 1)]? = some (v, .inl (hz_tc w 5, n, .inl f)) := hz_yga (hz_yga rfl)
  have hq := vx_lt hW.1 g1
  have hv := vx_lt hW.1 g2
  have hW2 : hz_Yd w ((X0 ++ S) ++ [(q, .inr (0, [.ref v, .int 0, .int 0, .int 0])), (v, .inl (hz_tc w 5, n, .inl f))]) s H := by
    rw [List.append_assoc]
    exact hW
  have hL := hz_Yd_L hW2
  have nA1 : ¬ hz_A (hz_w6 w q v n g) q := fun z => z.2.1 rfl
  have nA2 : ¬ hz_A (hz_w6 w q v n g) v := fun z => z.2.2 rfl
  refine ⟨⟨hL.1, hL.2.1, ⟨hL.2.2.1.1, fun k x hk => ⟨hL.2.2.1.2 k x hk, ?_, ?_⟩⟩, fun a ha => ⟨hW.2.2.2 a ha, by omega, by omega⟩⟩, ?_⟩
  · intro ee
    have hl : k < (X0 ++ S).length := (List.getElem?_eq_some_iff.mp hk).1
    have h1 := hW2.2.2.1.1 k _ x _ (by rw [List.getElem?_append_left hl]; exact hk) (hz_yga (j := 0) rfl) ee
    omega
  · intro ee
    have hl : k < (X0 ++ S).length := (List.getElem?_eq_some_iff.mp hk).1
    have h1 := hW2.2.2.1.1 k _ x _ (by rw [List.getElem?_append_left hl]; exact hk) (hz_yga (j := 1) rfl) ee
    omega
  · obtain ⟨r, h1, cell, q1, q2, q3, q4⟩ := hW.1 _ _ g1
    have hr : r = (RJ0, TJ0, 4) := Option.some.inj (h1.symm.trans hz_K_0.1)
    subst hr
    obtain ⟨hSl, hfc, kC, hkC, hkind⟩ := hW.2.1.1 0 _ hz_K_0.1
    refine hz_X_w6 (hz_X_kept hO.2.2.2.1 hS.2.1) hn (fun a z => z.1) ?_ ?_ ?_ ?_
    · exact ⟨cell, q1, by rw [q3]; rfl, by rw [q2]; exact hfc, nA1⟩
    · obtain ⟨cf, kf, fi, fd, hi, hsl⟩ := hSl 1 (by decide)
      exact ⟨cf, kf, fi, fd, cell, hi, (u_facts hfc hkC (u_lays hO.1.2.2.2.2 hz_K_0.2 (k := 1) (by decide)) hi).1, q1, (by rw [q3]; exact fun z => (by cases z)), by rw [hsl]; exact q4 1 (by decide), nA1⟩
    · obtain ⟨cf, kf, fi, fd, hi, hsl⟩ := hSl 0 (by decide)
      exact ⟨cf, kf, fi, fd, cell, hi, (u_facts hfc hkC (u_lays hO.1.2.2.2.2 hz_K_0.2 (k := 0) (by decide)) hi).1, q1, (by rw [q3]; exact fun z => (by cases z)), by rw [hsl]; exact q4 0 (by decide), nA1⟩
    · have hc := hW.1 _ _ g2
      refine ⟨arrV (hz_tc w 5) n (fun j => .int (f j)), hc, (hW.2.1.2 5 _ rfl).1 n (fun j => .int (f j)), (fun z => by cases z), ?_, ?_, ?_, nA2⟩
      · rw [arrV_size]
        exact Nat.le_refl _
      · rw [arrV_size]
      · intro j hj
        rw [arrV_read _ _ hj, hfg j hj]
theorem hz_y_callVr6 (hO : hz_Ok p s m args meth c w cc nL own ret) {idx n nLy hc mc ms n6 q6 v6 : Nat} {f6 g6 : Nat → Int32} {y : MethodName} {b : ByteArray} {rt : Option FieldType} {as rest : List Value} {R : Nat → va_W → Prop} {C : String} {T : u_T} {a ci nf j : Nat} {fs : List Value} (hfg : ∀ j, j < n6 → f6 j = g6 j) (hn6 : n6 < 2 ^ 30) (hC : hz_CY l y b nLy rt hc mc ms (hz_w6 w q6 v6 n6 g6) (.ref a :: as) (X0 ++ S) (hz_YQr (hz_w6 w q6 v6 n6 g6) R X0)) (hcal : hz_CalXV y b nLy rt n) (hsel : (Cond.selects C y y).before args s = true) (hKl : hz_Kl ci C T nf) (hSj : S[j]? = some (a, .inr (ci, fs))) (hlink : Cond.methodLink own idx y ∈ hz_TB) (hh : hc + 1 ≤ h) (hn : as.length = n) (hst : st = as.reverse ++ .ref a :: rest) (hcat : (rest.map fun v => v.category).sum ≤ 8) (hz1 : z.2.1 + mc ≤ z.1.1 ∧ z.2.2 + ms ≤ z.1.2) (hdg : decode cc pc = .ok (.invokevirtual idx, 3))
    (kk : ∀ a S1, R a S1 → hz_Y p l e h (hz_zn z mc ms) s m args below meth c w nL Q X0 S1 (pc + 3) ls (.ref a :: rest)) : hz_Y p l e h z s m args below meth c w nL Q X0 (S ++ [(q6, .inr (0, [.ref v6, .int 0, .int 0, .int 0])), (v6, .inl (hz_tc w 5, n6, .inl f6))]) pc ls st := by
  intro hzk H locs la hW hS hL
  have h6 := hz_y_to6 hO hfg hW hS hn6
  refine va_callr (va_runV (As := as) (rest := rest) hO.1 hC ⟨hz_y_callB hO hcal.1 hlink hh, hO.1.2.2.2.2 _ hcal.2, hsel⟩ ⟨hz_YP_blind, va_recv h6.1.2.1 h6.1.1 (ci := ci) (q0 := X0.length + j) hKl.1 (hz_yga hSj), hz_preY h6.1 h6.2⟩ rfl hn hL.1 hst (lv_room hcat) hdg hz1) hS (fun q _ z => z.1) (fun q z => z.1) (fun u ra t H1 locs1 ht hvm hr hB hsz hk1 hS1 => ?_)
  have hY := hz_Yd.back ht hvm hB.2
  exact kk ra u hB.1 hz1 H1 locs1 la ⟨hY.1, hY.2.1, ⟨hY.2.2.1.1, fun k x hk => (hY.2.2.1.2 k x hk).1⟩, fun a ha => (hY.2.2.2 a ha).1⟩ hS1 hL
/-- the text is told; the string is forgotten -/
theorem hz_y_callSi6 (hO : hz_Ok p s m args meth c w cc nL own ret) {idx n nLy hc n6 q6 v6 : Nat} {f6 g6 : Nat → Int32} {C : String} {y : MethodName} {b : ByteArray} {rt : Option FieldType} {as rest : List Value} {r : Int32} {M1 : hz_M} (hfg : ∀ j, j < n6 → f6 j = g6 j) (hn6 : n6 < 2 ^ 30) (hC : hz_Ct l y b nLy rt hc (hz_w6 w q6 v6 n6 g6) N as M (hz_Qi (hz_w6 w q6 v6 n6 g6) N r M1)) (hcal : hz_CalS C y b nLy rt n) (hlink : Cond.methodLink own idx y ∈ hz_TB) (hh : hc + 1 ≤ h) (hn : as.length = n) (hst : st = as.reverse ++ rest) (hcat : (rest.map fun v => v.category).sum ≤ 8) (hdg : decode cc pc = .ok (.invokestatic idx, 3))
    (kk : hz_G p l e h z s m args below meth c w N nL Q M1 (pc + 3) ls (.int r :: rest)) : hz_Y p l e h z s m args below meth c w nL Q (hz_ws w N M) [(q6, .inr (0, [.ref v6, .int 0, .int 0, .int 0])), (v6, .inl (hz_tc w 5, n6, .inl f6))] pc ls st := by
  intro hzk H locs la hW hS hL
  have h6 := hz_y_to6 (S := []) hO hfg hW hS hn6
  have hB : hz_Wd (hz_w6 w q6 v6 n6 g6) N M s H := by
    have h1 := h6.1
    rw [List.append_nil] at h1
    exact h1
  refine va_calli (va_runS (As := as) (rest := rest) hO.1 hC (hz_wS hO hcal hlink hh) ⟨hz_blind, hz_preX hB h6.2⟩ rfl hn hL.1 hst (lv_room hcat) hdg ⟨hzk.1, hzk.2⟩) hS (fun q _ z => z.1) (fun q z => z.1) (fun r1 u t H1 locs1 ht hvm hr hB1 hz1 hk1 hS1 => ?_)
  subst hr
  have hY := hz_back ht hvm hB1
  exact kk hzk H1 locs1 la ⟨hY.1, hY.2.1, ⟨hY.2.2.1.1, fun k x hk => (hY.2.2.1.2 k x hk).1⟩, fun a ha => (hY.2.2.2 a ha).1⟩ hS1 hL
/-- the world's own fields and arrays -/
theorem hz_ysa {i : Nat} {sh : hz_S} (hsh : hz_SH[i]? = some sh) (hi : i < N) : (hz_ws w N M ++ S)[i]? = some (hz_ad w i, hz_cell w (M i) sh) := by
  have h1 := hz_ws_at (w := w) (M := M) hsh hi
  rw [List.getElem?_append_left (List.getElem?_eq_some_iff.mp h1).1]
  exact h1
theorem hz_y_getI (hO : hz_Ok p s m args meth c w cc nL own ret) {ci n i k idx : Nat} {C ref : String} {T : u_T} {fs : List (Option Nat)} (hKl : hz_Kl ci C T n) (hsh : hz_SH[i]? = some (.inl (ci, fs))) (hi : i < N) (hf : fs[k]? = some none) (hk : k < n) (hlink : Cond.fieldLink own idx ref (T k).2.1 (T k).2.2.1 ∈ hz_TB) (href : (T k).1 = ref) (hdg : decode cc pc = .ok (.getfield idx, 3))
    (kk : hz_Y p l e h z s m args below meth c w nL Q (hz_ws w N M) S (pc + 3) ls (.int (M i k) :: st)) : hz_Y p l e h z s m args below meth c w nL Q (hz_ws w N M) S pc ls (.ref (hz_ad w i) :: st) := by
  intro hzk H locs la hW hS hL
  refine va_get (D := hz_D w) (ci := ci) (v := .int (M i k)) (C := C) (T := T) (N := n) hO.1.1 hO.1.2.1 hO.1.2.2.2.2 hKl.2 hO.1.2.2.2.1 hW.2.1 hW.1 i (hz_ysa hsh hi) hKl.1 k hk (hO.1.2.2.2.2 _ hlink) (fun x hx => href ▸ hx) ?_ hdg (kk hzk H locs la hW hS hL)
  rw [List.getElem?_mapIdx, hf]
  rfl
theorem hz_y_getIN (hO : hz_Ok p s m args meth c w cc nL own ret) {ci n i k idx : Nat} {C ref host : String} {T : u_T} {fs : List (Option Nat)} (hKl : hz_Kl ci C T n) (hsh : hz_SH[i]? = some (.inl (ci, fs))) (hi : i < N) (hf : fs[k]? = some none) (hk : k < n) (hq : (own, idx, ref, (T k).2.1, (T k).2.2.1, host) ∈ hz_nestF) (href : (T k).1 = ref) (hdg : decode cc pc = .ok (.getfield idx, 3))
    (kk : hz_Y p l e h z s m args below meth c w nL Q (hz_ws w N M) S (pc + 3) ls (.int (M i k) :: st)) : hz_Y p l e h z s m args below meth c w nL Q (hz_ws w N M) S pc ls (.ref (hz_ad w i) :: st) := by
  intro hzk H locs la hW hS hL
  refine va_getN (D := hz_D w) (ci := ci) (v := .int (M i k)) (C := C) (T := T) (N := n) hO.1.1 hO.1.2.1 hO.1.2.2.2.2 hKl.2 hO.1.2.2.2.1 hW.2.1 hW.1 i (hz_ysa hsh hi) hKl.1 k hk (va_Nw.use rfl (hO.2.2.2.1.2.2.2.2.2.2.2.2.2.2.2.2.2.1 _ hq)) (fun x hx => href ▸ hx) ?_ hdg (kk hzk H locs la hW hS hL)
  rw [List.getElem?_mapIdx, hf]
  rfl
theorem hz_y_getRN (hO : hz_Ok p s m args meth c w cc nL own ret) {ci n i k idx : Nat} (j : Nat) {C ref host : String} {T : u_T} {fs : List (Option Nat)} (hKl : hz_Kl ci C T n) (hsh : hz_SH[i]? = some (.inl (ci, fs))) (hi : i < N) (hf : fs[k]? = some (some j)) (hk : k < n) (hq : (own, idx, ref, (T k).2.1, (T k).2.2.1, host) ∈ hz_nestF) (href : (T k).1 = ref) (hdg : decode cc pc = .ok (.getfield idx, 3))
    (kk : hz_Y p l e h z s m args below meth c w nL Q (hz_ws w N M) S (pc + 3) ls (.ref (hz_ad w j) :: st)) : hz_Y p l e h z s m args below meth c w nL Q (hz_ws w N M) S pc ls (.ref (hz_ad w i) :: st) := by
  intro hzk H locs la hW hS hL
  refine va_getN (D := hz_D w) (ci := ci) (v := .ref (hz_ad w j)) (C := C) (T := T) (N := n) hO.1.1 hO.1.2.1 hO.1.2.2.2.2 hKl.2 hO.1.2.2.2.1 hW.2.1 hW.1 i (hz_ysa hsh hi) hKl.1 k hk (va_Nw.use rfl (hO.2.2.2.1.2.2.2.2.2.2.2.2.2.2.2.2.2.1 _ hq)) (fun x hx => href ▸ hx) ?_ hdg (kk hzk H locs la hW hS hL)
  rw [List.getElem?_mapIdx, hf]
  rfl
theorem hz_y_iald (hO : hz_Ok p s m args meth c w cc nL own ret) {i n : Nat} {x : Int32} (hsh : hz_SH[i]? = some (.inr (.inl (0, n)))) (hi : i < N) (hin : hz_in x n = true) (hdg : decode cc pc = .ok (.iaload, 1))
    (kk : hz_Y p l e h z s m args below meth c w nL Q (hz_ws w N M) S (pc + 1) ls (.int (M i x.toNatClampNeg) :: st)) : hz_Y p l e h z s m args below meth c w nL Q (hz_ws w N M) S pc ls (.int x :: .ref (hz_ad w i) :: st) :=
  fun hzk H locs la hW hS hL => va_iald (D := hz_D w) hO.1.1 hO.1.2.1 hW.2.1 hW.1 i 0 (hz_ysa hsh hi) rfl (hz_in_e hin) hdg (kk hzk H locs la hW hS hL)
theorem hz_y_iast (hO : hz_Ok p s m args meth c w cc nL own ret) {i n : Nat} {x v : Int32} (hsh : hz_SH[i]? = some (.inr (.inl (0, n)))) (hi : i < N) (hin : hz_in x n = true) (hdg : decode cc pc = .ok (.iastore, 1))
    (kk : hz_Y p l e h z s m args below meth c w nL Q (hz_ws w N (hz_set M i x.toNatClampNeg v)) S (pc + 1) ls st) : hz_Y p l e h z s m args below meth c w nL Q (hz_ws w N M) S pc ls (.int v :: .int x :: .ref (hz_ad w i) :: st) := by
  intro hzk H locs la hW hS hL
  have hl : i < (hz_ws w N M).length := (List.getElem?_eq_some_iff.mp (hz_ws_at (w := w) (M := M) hsh hi)).1
  have e : hz_ws w N (hz_set M i x.toNatClampNeg v) ++ S = (hz_ws w N M ++ S).set i (hz_ad w i, .inl (hz_tc w 0, n, .inl (upd (M i) x.toNatClampNeg v))) := by
    rw [hz_ws_set (M := M) hsh hz_set_off, hz_set_row, List.set_append_left _ _ hl]
    rfl
  refine va_iast (D := hz_D w) hO.1.1 hO.1.2.1 hW.2.1 hW.1 hW.2.2.1 hS i 0 (hz_ysa hsh hi) rfl (hz_in_e hin) hdg (fun H1 locs1 hP hD hS1 => ?_)
  rw [← e] at hP hD
  exact kk hzk H1 locs1 la ⟨hP, hW.2.1, hD, hO.2.2.2.2.le hS1.1⟩ hS1 hL
theorem hz_y_nameM {M1 : hz_M} (hx : M1 = M) (kk : hz_Y p l e h z s m args below meth c w nL Q (hz_ws w N M1) S pc ls st) : hz_Y p l e h z s m args below meth c w nL Q (hz_ws w N M) S pc ls st := hx ▸ kk
theorem hz_toY (kk : hz_Y p l e h z s m args below meth c w nL Q (hz_ws w N M) [] pc ls st) : hz_G p l e h z s m args below meth c w N nL Q M pc ls st :=
  fun hzk H locs la hW hS hL => kk hzk H locs la (by rw [List.append_nil]; exact hW) hS hL
end HZJ
